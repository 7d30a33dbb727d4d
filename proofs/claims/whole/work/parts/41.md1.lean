/-! The reference's small methods. -/
set_option maxRecDepth 20000
set_option maxHeartbeats 400000
theorem m_Md_in {M : wM} {a lo hi : Int} (ha : -2147483648 ≤ a ∧ a < 2147483648) (h1 : -2147483648 ≤ lo ∧ lo < 2147483648) (h2 : -2147483648 ≤ hi ∧ hi < 2147483648) : EvI k_Md_in [.int (iI a), .int (iI lo), .int (iI hi)] SH M (fun r M' => r = iI (if lo ≤ a ∧ a ≤ hi then 1 else 0) ∧ M' = M) := by
  refine EvI.of 0 (by decide) (Nat.le_of_ble_eq_true rfl) rfl ?_
  refine Rn.iload_n d_Md_in_0 rfl ?_
  refine Rn.iload_n d_Md_in_1 rfl ?_
  refine In.icmp_lt (tgt := 14) d_Md_in_2 (by decide) ⟨by omega, by omega⟩ ⟨by omega, by omega⟩ (fun c2 => ?_) (fun c2 => ?_)
  · rw [if_neg (by omega)]
    refine Rn.iconst (v := iI 0) d_Md_in_14 rfl ?_
    exact Rn.iret d_Md_in_15 rfl (by decide +kernel) ⟨rfl, rfl⟩
  · refine Rn.iload_n d_Md_in_5 rfl ?_
    refine Rn.iload_n d_Md_in_6 rfl ?_
    refine In.icmp_gt (tgt := 14) d_Md_in_7 (by decide) ⟨by omega, by omega⟩ ⟨by omega, by omega⟩ (fun c7 => ?_) (fun c7 => ?_)
    · rw [if_neg (by omega)]
      refine Rn.iconst (v := iI 0) d_Md_in_14 rfl ?_
      exact Rn.iret d_Md_in_15 rfl (by decide +kernel) ⟨rfl, rfl⟩
    · rw [if_pos (by omega)]
      refine Rn.iconst (v := iI 1) d_Md_in_10 rfl ?_
      refine Rn.goto (tgt := 15) d_Md_in_11 (by decide) ?_
      exact Rn.iret d_Md_in_15 rfl (by decide +kernel) ⟨rfl, rfl⟩
theorem m_Md_has {M : wM} {a k : Nat} (ha : a < 2147483648) (hk : k < 31) : EvI k_Md_has [.int (iI a), .int (iI k)] SH M (fun r M' => r = iI (if a.testBit k = true then 1 else 0) ∧ M' = M) := by
  refine EvI.of 0 (by decide) (Nat.le_of_ble_eq_true rfl) rfl ?_
  refine Rn.iload_n d_Md_has_0 rfl ?_
  refine Rn.iload_n d_Md_has_1 rfl ?_
  refine In.shr rfl rfl (by omega) (by omega) d_Md_has_2 ?_
  refine Rn.iconst (v := iI 1) d_Md_has_3 rfl ?_
  refine In.and rfl (rfl : (1 : Int) = ((1 : Nat) : Int)) d_Md_has_4 ?_
  rw [bit_if]
  refine Rn.iconst (v := iI 1) d_Md_has_5 rfl ?_
  refine In.icmp_ne (tgt := 13) d_Md_has_6 (by decide) (by split <;> omega) ⟨by omega, by omega⟩ (fun c6 => ?_) (fun c6 => ?_)
  · have q : ¬ a.testBit k = true := by revert c6; split <;> simp_all
    rw [if_neg q]
    refine Rn.iconst (v := iI 0) d_Md_has_13 rfl ?_
    exact Rn.iret d_Md_has_14 rfl (by decide +kernel) ⟨rfl, rfl⟩
  · have q : a.testBit k = true := by revert c6; split <;> simp_all
    rw [if_pos q]
    refine Rn.iconst (v := iI 1) d_Md_has_9 rfl ?_
    refine Rn.goto (tgt := 14) d_Md_has_10 (by decide) ?_
    exact Rn.iret d_Md_has_14 rfl (by decide +kernel) ⟨rfl, rfl⟩
theorem m_Md_bits {M : wM} {a : Nat} (ha : a < 2147483648) : EvI k_Md_bits [.int (iI a)] SH M (fun r M' => r = iI (pc a) ∧ M' = M) := by
  refine EvI.of 2 (by decide) (Nat.le_of_ble_eq_true rfl) rfl ?_
  refine Rn.iconst (v := iI 0) d_Md_bits_0 rfl ?_
  refine Rn.istore_n (lv1 := [_, _, _]) d_Md_bits_1 (by decide) (w_pv rfl) rfl ?_
  refine Rn.iconst (v := iI 0) d_Md_bits_2 rfl ?_
  refine Rn.istore_n (lv1 := [_, _, _]) d_Md_bits_3 (by decide) (w_pv rfl) rfl ?_
  have loop : ∀ (d k : Nat), k + d = 12 → Rn k_Md_bits none (0, 0) 4 [some (.int (iI a)), some (.int (iI (cnt (fun j => a.testBit j) k))), some (.int (iI k))] [] SH M (w_FI (0, 0) SH (fun r M' => r = iI (pc a) ∧ M' = M)) := by
    intro d
    induction d with
    | zero =>
      intro k h1
      have : k = 12 := by omega
      subst this
      refine Rn.iload_n d_Md_bits_4 rfl ?_
      refine Rn.bipush (v := iI 12) d_Md_bits_5 (by decide +kernel) ?_
      refine In.icmp_ge (tgt := 24) d_Md_bits_7 (by decide) ⟨by omega, by omega⟩ ⟨by omega, by omega⟩ (fun c7 => ?_) (fun c7 => ?_)
      · refine Rn.iload_n d_Md_bits_24 rfl ?_
        exact Rn.iret d_Md_bits_25 rfl rfl ⟨rfl, rfl⟩
      · omega
    | succ d ih =>
      intro k h1
      have ih := ih (k + 1) (by omega)
      have e : ((cnt (fun j => a.testBit j) (k + 1) : Nat) : Int) = (cnt (fun j => a.testBit j) k : Nat) + if a.testBit k = true then 1 else 0 := by
        simp only [cnt]; split <;> simp
      rw [e] at ih
      refine Rn.iload_n d_Md_bits_4 rfl ?_
      refine Rn.bipush (v := iI 12) d_Md_bits_5 (by decide +kernel) ?_
      refine In.icmp_ge (tgt := 24) d_Md_bits_7 (by decide) ⟨by omega, by omega⟩ ⟨by omega, by omega⟩ (fun c7 => ?_) (fun c7 => ?_)
      · omega
      · refine Rn.iload_n d_Md_bits_10 rfl ?_
        refine Rn.iload_n d_Md_bits_11 rfl ?_
        refine Rn.iload_n d_Md_bits_12 rfl ?_
        refine In.shr rfl rfl (by omega) (by omega) d_Md_bits_13 ?_
        refine Rn.iconst (v := iI 1) d_Md_bits_14 rfl ?_
        refine In.and rfl (rfl : (1 : Int) = ((1 : Nat) : Int)) d_Md_bits_15 ?_
        rw [bit_if]
        refine In.add d_Md_bits_16 ?_
        refine Rn.istore_n (lv1 := [_, _, _]) d_Md_bits_17 (by decide) (w_pv rfl) rfl ?_
        refine In.inc (lv1 := [_, _, _]) d_Md_bits_18 rfl (by decide) (w_pv rfl) rfl ?_
        refine Rn.goto (tgt := 4) d_Md_bits_21 (by decide) ?_
        exact ih
  exact loop 12 0 rfl
theorem m_Md_areLoops {M : wM} {a b : Int} (ha : -2147483648 ≤ a ∧ a < 2147483648) (hb : -2147483648 ≤ b ∧ b < 2147483648) : EvI k_Md_areLoops [.int (iI a), .int (iI b)] SH M (fun r M' => r = iI (if lpq a ∧ lpq b then 1 else 0) ∧ M' = M) := by
  refine EvI.of 0 (by decide) (Nat.le_of_ble_eq_true rfl) rfl ?_
  refine Rn.iload_n d_Md_areLoops_0 rfl ?_
  refine Rn.iconst (v := iI 0) d_Md_areLoops_1 rfl ?_
  refine Rn.bipush (v := iI 11) d_Md_areLoops_2 (by decide +kernel) ?_
  refine Rn.cSI d_Md_areLoops_4 s_Md_areLoops_Md_in g_708 g_709 ⟨rfl, rfl⟩ ⟨Nat.zero_le _, Nat.zero_le _⟩ (m_Md_in ha (by decide) (by decide)) rfl rfl (Nat.le_of_ble_eq_true rfl) (fun rr MM qq => ?_)
  obtain ⟨rfl, rfl⟩ := And.imp id Eq.symm qq; clear qq
  refine In.if_eq (tgt := 24) d_Md_areLoops_7 (by decide) fl_rg (fun c7 => ?_) (fun c7 => ?_)
  · have q := fl_eq c7
    rw [if_neg (by omega)]
    refine Rn.iconst (v := iI 0) d_Md_areLoops_24 rfl ?_
    exact Rn.iret d_Md_areLoops_25 rfl (by decide +kernel) ⟨rfl, rfl⟩
  · have q := fl_ne c7
    refine Rn.iload_n d_Md_areLoops_10 rfl ?_
    refine Rn.iconst (v := iI 0) d_Md_areLoops_11 rfl ?_
    refine Rn.bipush (v := iI 11) d_Md_areLoops_12 (by decide +kernel) ?_
    refine Rn.cSI d_Md_areLoops_14 s_Md_areLoops_Md_in g_708 g_709 ⟨rfl, rfl⟩ ⟨Nat.zero_le _, Nat.zero_le _⟩ (m_Md_in hb (by decide) (by decide)) rfl rfl (Nat.le_of_ble_eq_true rfl) (fun rr MM qq => ?_)
    obtain ⟨rfl, rfl⟩ := And.imp id Eq.symm qq; clear qq
    refine In.if_eq (tgt := 24) d_Md_areLoops_17 (by decide) fl_rg (fun c17 => ?_) (fun c17 => ?_)
    · have q := fl_eq c17
      rw [if_neg (by omega)]
      refine Rn.iconst (v := iI 0) d_Md_areLoops_24 rfl ?_
      exact Rn.iret d_Md_areLoops_25 rfl (by decide +kernel) ⟨rfl, rfl⟩
    · have q := fl_ne c17
      rw [if_pos (by omega)]
      refine Rn.iconst (v := iI 1) d_Md_areLoops_20 rfl ?_
      refine Rn.goto (tgt := 25) d_Md_areLoops_21 (by decide) ?_
      exact Rn.iret d_Md_areLoops_25 rfl (by decide +kernel) ⟨rfl, rfl⟩
theorem m_Md_step {M : wM} {s c : Int} (hs : 0 ≤ s ∧ s ≤ 4) (hc : -1000 ≤ c ∧ c ≤ 1000) : EvI k_Md_step [.int (iI s), .int (iI c)] SH M (fun r M' => r = iI (stpF s c) ∧ M' = M) := by
  refine EvI.of 1 (by decide) (Nat.le_of_ble_eq_true rfl) rfl ?_
  refine Rn.iload_n d_Md_step_0 rfl ?_
  refine Rn.bipush (v := iI 97) d_Md_step_1 (by decide +kernel) ?_
  refine Rn.bipush (v := iI 108) d_Md_step_3 (by decide +kernel) ?_
  refine Rn.cSI d_Md_step_5 s_Md_step_Md_in g_708 g_709 ⟨rfl, rfl⟩ ⟨Nat.zero_le _, Nat.zero_le _⟩ (m_Md_in (a := c) (by omega) (by decide) (by decide)) rfl rfl (Nat.le_of_ble_eq_true rfl) (fun rr MM qq => ?_)
  obtain ⟨rfl, rfl⟩ := And.imp id Eq.symm qq; clear qq
  refine Rn.istore_n (lv1 := [_, _, _]) d_Md_step_8 (by decide) (w_pv rfl) rfl ?_
  refine Rn.iload_n d_Md_step_9 rfl ?_
  rcases (show s = 0 ∨ s = 1 ∨ s = 2 ∨ (3 ≤ s ∧ s ≤ 4) by omega) with e | e | e | e
  · subst e
    refine In.tabIn (off := 26) (tgt := 36) 0 d_Md_step_10 rfl (by decide) (by decide) rfl (by decide) ?_
    refine Rn.iload_n d_Md_step_36 rfl ?_
    refine Rn.bipush (v := iI 65) d_Md_step_37 (by decide +kernel) ?_
    refine Rn.bipush (v := iI 70) d_Md_step_39 (by decide +kernel) ?_
    refine Rn.cSI d_Md_step_41 s_Md_step_Md_in g_708 g_709 ⟨rfl, rfl⟩ ⟨Nat.zero_le _, Nat.zero_le _⟩ (m_Md_in (a := c) (by omega) (by decide) (by decide)) rfl rfl (Nat.le_of_ble_eq_true rfl) (fun rr MM qq => ?_)
    obtain ⟨rfl, rfl⟩ := And.imp id Eq.symm qq; clear qq
    refine In.if_eq (tgt := 51) d_Md_step_44 (by decide) fl_rg (fun c44 => ?_) (fun c44 => ?_)
    · have q := fl_eq c44
      refine Rn.iload_n d_Md_step_51 rfl ?_
      refine Rn.bipush (v := iI 100) d_Md_step_52 (by decide +kernel) ?_
      refine In.icmp_ne (tgt := 61) d_Md_step_54 (by decide) ⟨by omega, by omega⟩ ⟨by omega, by omega⟩ (fun c54 => ?_) (fun c54 => ?_)
      · refine Rn.iload_n d_Md_step_61 rfl ?_
        refine Rn.bipush (v := iI 98) d_Md_step_62 (by decide +kernel) ?_
        refine In.icmp_ne (tgt := 71) d_Md_step_64 (by decide) ⟨by omega, by omega⟩ ⟨by omega, by omega⟩ (fun c64 => ?_) (fun c64 => ?_)
        · refine Rn.iload_n d_Md_step_71 rfl ?_
          refine Rn.bipush (v := iI 46) d_Md_step_72 (by decide +kernel) ?_
          refine In.icmp_ne (tgt := 81) d_Md_step_74 (by decide) ⟨by omega, by omega⟩ ⟨by omega, by omega⟩ (fun c74 => ?_) (fun c74 => ?_)
          · refine Rn.bipush (v := iI (-6)) d_Md_step_81 (by decide +kernel) ?_
            exact Rn.iret d_Md_step_83 rfl rfl ⟨by unfold stpF; rw [if_pos rfl, if_neg q, if_neg (by omega), if_neg (by omega), if_neg (by omega)], rfl⟩
          · refine Rn.iconst (v := iI 0) d_Md_step_77 rfl ?_
            refine Rn.goto (tgt := 83) d_Md_step_78 (by decide) ?_
            exact Rn.iret d_Md_step_83 rfl rfl ⟨by unfold stpF; rw [if_pos rfl, if_neg q, if_neg (by omega), if_neg (by omega), if_pos (by omega)], rfl⟩
        · refine Rn.iconst (v := iI 3) d_Md_step_67 rfl ?_
          refine Rn.goto (tgt := 83) d_Md_step_68 (by decide) ?_
          exact Rn.iret d_Md_step_83 rfl rfl ⟨by unfold stpF; rw [if_pos rfl, if_neg q, if_neg (by omega), if_pos (by omega)], rfl⟩
      · refine Rn.iconst (v := iI 2) d_Md_step_57 rfl ?_
        refine Rn.goto (tgt := 83) d_Md_step_58 (by decide) ?_
        exact Rn.iret d_Md_step_83 rfl rfl ⟨by unfold stpF; rw [if_pos rfl, if_neg q, if_pos (by omega)], rfl⟩
    · have q := fl_ne c44
      refine Rn.iconst (v := iI 1) d_Md_step_47 rfl ?_
      refine Rn.goto (tgt := 83) d_Md_step_48 (by decide) ?_
      exact Rn.iret d_Md_step_83 rfl rfl ⟨by unfold stpF; rw [if_pos rfl, if_pos q], rfl⟩
  · subst e
    refine In.tabIn (off := 74) (tgt := 84) 1 d_Md_step_10 rfl (by decide) (by decide) rfl (by decide) ?_
    refine Rn.iload_n d_Md_step_84 rfl ?_
    refine In.if_ne (tgt := 94) d_Md_step_85 (by decide) fl_rg (fun c85 => ?_) (fun c85 => ?_)
    · have q := fl_ne c85
      refine Rn.iconst (v := iI 0) d_Md_step_94 rfl ?_
      refine Rn.goto (tgt := 100) d_Md_step_95 (by decide) ?_
      exact Rn.iret d_Md_step_100 rfl rfl ⟨by unfold stpF; rw [if_neg (by decide), if_pos rfl, if_pos (Or.inl q)], rfl⟩
    · have q := fl_eq c85
      refine Rn.iload_n d_Md_step_88 rfl ?_
      refine Rn.bipush (v := iI 95) d_Md_step_89 (by decide +kernel) ?_
      refine In.icmp_ne (tgt := 98) d_Md_step_91 (by decide) ⟨by omega, by omega⟩ ⟨by omega, by omega⟩ (fun c91 => ?_) (fun c91 => ?_)
      · refine Rn.bipush (v := iI (-6)) d_Md_step_98 (by decide +kernel) ?_
        exact Rn.iret d_Md_step_100 rfl rfl ⟨by unfold stpF; rw [if_neg (by decide), if_pos rfl, if_neg (by omega)], rfl⟩
      · refine Rn.iconst (v := iI 0) d_Md_step_94 rfl ?_
        refine Rn.goto (tgt := 100) d_Md_step_95 (by decide) ?_
        exact Rn.iret d_Md_step_100 rfl rfl ⟨by unfold stpF; rw [if_neg (by decide), if_pos rfl, if_pos (by omega)], rfl⟩
  · subst e
    refine In.tabIn (off := 91) (tgt := 101) 2 d_Md_step_10 rfl (by decide) (by decide) rfl (by decide) ?_
    refine Rn.iload_n d_Md_step_101 rfl ?_
    refine Rn.bipush (v := iI 49) d_Md_step_102 (by decide +kernel) ?_
    refine Rn.bipush (v := iI 57) d_Md_step_104 (by decide +kernel) ?_
    refine Rn.cSI d_Md_step_106 s_Md_step_Md_in g_708 g_709 ⟨rfl, rfl⟩ ⟨Nat.zero_le _, Nat.zero_le _⟩ (m_Md_in (a := c) (by omega) (by decide) (by decide)) rfl rfl (Nat.le_of_ble_eq_true rfl) (fun rr MM qq => ?_)
    obtain ⟨rfl, rfl⟩ := And.imp id Eq.symm qq; clear qq
    refine In.if_eq (tgt := 116) d_Md_step_109 (by decide) fl_rg (fun c109 => ?_) (fun c109 => ?_)
    · have q := fl_eq c109
      refine Rn.bipush (v := iI (-6)) d_Md_step_116 (by decide +kernel) ?_
      exact Rn.iret d_Md_step_118 rfl rfl ⟨by unfold stpF; rw [if_neg (by decide), if_neg (by decide), if_pos rfl, if_neg q], rfl⟩
    · have q := fl_ne c109
      refine Rn.iconst (v := iI 0) d_Md_step_112 rfl ?_
      refine Rn.goto (tgt := 118) d_Md_step_113 (by decide) ?_
      exact Rn.iret d_Md_step_118 rfl rfl ⟨by unfold stpF; rw [if_neg (by decide), if_neg (by decide), if_pos rfl, if_pos q], rfl⟩
  · refine In.tabOut (tgt := 119) d_Md_step_10 ⟨by omega, by omega⟩ (by omega) (by decide) ?_
    refine Rn.iload_n d_Md_step_119 rfl ?_
    refine In.if_ne (tgt := 128) d_Md_step_120 (by decide) fl_rg (fun c120 => ?_) (fun c120 => ?_)
    · have q := fl_ne c120
      refine Rn.iload_n d_Md_step_128 rfl ?_
      refine Rn.iconst (v := iI 3) d_Md_step_129 rfl ?_
      refine In.icmp_ne (tgt := 137) d_Md_step_130 (by decide) ⟨by omega, by omega⟩ ⟨by omega, by omega⟩ (fun c130 => ?_) (fun c130 => ?_)
      · refine Rn.iconst (v := iI 0) d_Md_step_137 rfl ?_
        exact Rn.iret d_Md_step_138 rfl rfl ⟨by unfold stpF; rw [if_neg (by omega), if_neg (by omega), if_neg (by omega), if_pos q, if_neg (by omega)], rfl⟩
      · refine Rn.iconst (v := iI 4) d_Md_step_133 rfl ?_
        refine Rn.goto (tgt := 138) d_Md_step_134 (by decide) ?_
        exact Rn.iret d_Md_step_138 rfl rfl ⟨by unfold stpF; rw [if_neg (by omega), if_neg (by omega), if_neg (by omega), if_pos q, if_pos (by omega)], rfl⟩
    · have q := fl_eq c120
      refine Rn.bipush (v := iI (-6)) d_Md_step_123 (by decide +kernel) ?_
      refine Rn.goto (tgt := 138) d_Md_step_125 (by decide) ?_
      exact Rn.iret d_Md_step_138 rfl rfl ⟨by unfold stpF; rw [if_neg (by omega), if_neg (by omega), if_neg (by omega), if_neg q], rfl⟩
theorem m_Md_asNow {M : wM} {β : Nat → Int} (hG : M.2.2 = RG) (hB : bkA M β) : EvV k_Md_asNow [.ref 47] SH M (fun M' => Kp M M' ∧ nwA M' β ∧ M'.1 47 6 = iI 0 ∧ M'.1 47 7 = iI (-6) ∧ M'.1 47 8 = iI (-6)) := by
  refine EvV.of 1 (by decide) (Nat.le_of_ble_eq_true rfl) rfl ?_
  refine Rn.iconst (v := iI 0) d_Md_asNow_0 rfl ?_
  refine Rn.istore_n (lv1 := [_, _]) d_Md_asNow_1 (by decide) (w_pv rfl) rfl ?_
  have loop : ∀ (d k : Nat) (Mc : wM), k + d = 26 → Kp M Mc → (∀ j, j < k → Mc.1 49 j = iI (β j)) → Rn k_Md_asNow none (0, 0) 2 [some (.ref 47), some (.int (iI k))] [] SH Mc (w_FV (0, 0) SH (fun M' => Kp M M' ∧ nwA M' β ∧ M'.1 47 6 = iI 0 ∧ M'.1 47 7 = iI (-6) ∧ M'.1 47 8 = iI (-6))) := by
    intro d
    induction d with
    | zero =>
      intro k Mc h1 h2 h3
      have hGc := h2.G hG
      refine Rn.iload_n d_Md_asNow_2 rfl ?_
      refine Rn.bipush (v := iI 26) d_Md_asNow_3 (by decide +kernel) ?_
      refine In.icmp_ge (tgt := 26) d_Md_asNow_5 (by decide) ⟨by omega, by omega⟩ ⟨by omega, by omega⟩ (fun c5 => ?_) (fun c5 => ?_)
      · refine Rn.aload_n d_Md_asNow_26 rfl ?_
        refine Rn.iconst (v := iI 0) d_Md_asNow_27 rfl ?_
        refine In.putI d_Md_asNow_28 f_Md_came g_656 z_Md ?_
        refine Rn.aload_n d_Md_asNow_31 rfl ?_
        refine Rn.bipush (v := iI (-6)) d_Md_asNow_32 (by decide +kernel) ?_
        refine In.putI d_Md_asNow_34 f_Md_brokenAt g_657 z_Md ?_
        refine Rn.aload_n d_Md_asNow_37 rfl ?_
        refine Rn.bipush (v := iI (-6)) d_Md_asNow_38 (by decide +kernel) ?_
        refine In.putI d_Md_asNow_40 f_Md_brokenWhich g_658 z_Md ?_
        exact Rn.vret d_Md_asNow_43 rfl ⟨((h2.tr (Kp.fl (by omega))).tr (Kp.fl (by omega))).tr (Kp.fl (by omega)), ((show nwA Mc β from fun j hj => h3 j (by omega)).ui (by decide)).ui (by decide) |>.ui (by decide), by simp [w_ui_if], by simp [w_ui_if], by simp [w_ui_if]⟩
      · omega
    | succ d ih =>
      intro k Mc h1 h2 h3
      have hGc := h2.G hG
      have hBc := hB.kp h2
      refine Rn.iload_n d_Md_asNow_2 rfl ?_
      refine Rn.bipush (v := iI 26) d_Md_asNow_3 (by decide +kernel) ?_
      refine In.icmp_ge (tgt := 26) d_Md_asNow_5 (by decide) ⟨by omega, by omega⟩ ⟨by omega, by omega⟩ (fun c5 => ?_) (fun c5 => ?_)
      · omega
      · refine Rn.aload_n d_Md_asNow_8 rfl ?_
        refine Rn.getR d_Md_asNow_9 f_Md_now g_651 z_Md (r_Md_now (by assumption)) ?_
        refine Rn.iload_n d_Md_asNow_12 rfl ?_
        refine Rn.aload_n d_Md_asNow_13 rfl ?_
        refine Rn.getR d_Md_asNow_14 f_Md_book g_650 z_Md (r_Md_book (by assumption)) ?_
        refine Rn.iload_n d_Md_asNow_17 rfl ?_
        refine In.ald d_Md_asNow_18 z_Md_book rfl (by omega) (by decide) (hBc k (by omega)) ?_
        refine In.ast d_Md_asNow_19 z_Md_now rfl (by omega) (by decide) ?_
        refine In.inc (lv1 := [_, _]) d_Md_asNow_20 rfl (by decide) (w_pv rfl) rfl ?_
        refine Rn.goto (tgt := 2) d_Md_asNow_23 (by decide) ?_
        refine ih (k + 1) _ (by omega) (h2.tr (Kp.ui (by omega))) (fun j hj => ?_)
        rw [w_ui_if]
        by_cases e : j = k
        · rw [if_pos ⟨rfl, e⟩, e]
        · rw [if_neg (by omega)]; exact h3 j (by omega)
  exact loop 26 0 M rfl Kp.rf (fun j hj => by omega)
theorem m_Md_ballOn {M : wM} {g : Nat → Int} {l : Int} (hG : M.2.2 = RG) (hN : nwA M g) (hV : hok g) (hl : -1000 ≤ l ∧ l ≤ 1000) : EvI k_Md_ballOn [.ref 47, .int (iI l)] SH M (fun r M' => r = iI (onB g l 6 0) ∧ M' = M) := by
  refine EvI.of 1 (by decide) (Nat.le_of_ble_eq_true rfl) rfl ?_
  refine Rn.iconst (v := iI 0) d_Md_ballOn_0 rfl ?_
  refine Rn.istore_n (lv1 := [_, _, _]) d_Md_ballOn_1 (by decide) (w_pv rfl) rfl ?_
  have loop : ∀ (d b : Nat), b + d = 6 → onB g l d b = onB g l 6 0 → Rn k_Md_ballOn none (0, 0) 2 [some (.ref 47), some (.int (iI l)), some (.int (iI b))] [] SH M (w_FI (0, 0) SH (fun r M' => r = iI (onB g l 6 0) ∧ M' = M)) := by
    obtain ⟨V, hVV⟩ : ∃ V, V = onB g l 6 0 := ⟨_, rfl⟩
    rw [← hVV]
    intro d
    induction d with
    | zero =>
      intro b h1 h2
      refine Rn.iload_n d_Md_ballOn_2 rfl ?_
      refine Rn.bipush (v := iI 6) d_Md_ballOn_3 (by decide +kernel) ?_
      refine In.icmp_ge (tgt := 29) d_Md_ballOn_5 (by decide) ⟨by omega, by omega⟩ ⟨by omega, by omega⟩ (fun c5 => ?_) (fun c5 => ?_)
      · refine Rn.bipush (v := iI (-6)) d_Md_ballOn_29 (by decide +kernel) ?_
        exact Rn.iret d_Md_ballOn_31 rfl rfl ⟨by rw [← h2]; rfl, rfl⟩
      · omega
    | succ d ih =>
      intro b h1 h2
      have hb := h1
      have hlb := hV.l b (by omega)
      have e1 : g (12 + b) = l → onB g l (d + 1) b = b := fun q => by simp only [onB]; rw [if_pos q]
      have e2 : ¬ g (12 + b) = l → onB g l (d + 1) b = onB g l d (b + 1) := fun q => by simp only [onB]; rw [if_neg q]
      refine Rn.iload_n d_Md_ballOn_2 rfl ?_
      refine Rn.bipush (v := iI 6) d_Md_ballOn_3 (by decide +kernel) ?_
      refine In.icmp_ge (tgt := 29) d_Md_ballOn_5 (by decide) ⟨by omega, by omega⟩ ⟨by omega, by omega⟩ (fun c5 => ?_) (fun c5 => ?_)
      · omega
      · refine Rn.aload_n d_Md_ballOn_8 rfl ?_
        refine Rn.getR d_Md_ballOn_9 f_Md_now g_651 z_Md (r_Md_now (by assumption)) ?_
        refine Rn.bipush (v := iI 12) d_Md_ballOn_12 (by decide +kernel) ?_
        refine Rn.iload_n d_Md_ballOn_14 rfl ?_
        refine In.add d_Md_ballOn_15 ?_
        refine In.ald d_Md_ballOn_16 z_Md_now (by omega) (by omega) (by decide) (hN (12 + b) (by omega)) ?_
        refine Rn.iload_n d_Md_ballOn_17 rfl ?_
        refine In.icmp_ne (tgt := 23) d_Md_ballOn_18 (by decide) ⟨by omega, by omega⟩ ⟨by omega, by omega⟩ (fun c18 => ?_) (fun c18 => ?_)
        · rw [e2 (by omega)] at h2
          refine In.inc (lv1 := [_, _, _]) d_Md_ballOn_23 rfl (by decide) (w_pv rfl) rfl ?_
          refine Rn.goto (tgt := 2) d_Md_ballOn_26 (by decide) ?_
          exact ih (b + 1) (by omega) h2
        · rw [e1 (by omega)] at h2
          refine Rn.iload_n d_Md_ballOn_21 rfl ?_
          exact Rn.iret d_Md_ballOn_22 rfl rfl ⟨by rw [← h2], rfl⟩
  exact loop 6 0 rfl rfl
theorem m_Md_hanging {M : wM} {g : Nat → Int} (hG : M.2.2 = RG) (hN : nwA M g) (hl : ∀ b, b < 6 → g (12 + b) = -6 ∨ (0 ≤ g (12 + b) ∧ g (12 + b) < 12)) : EvI k_Md_hanging [.ref 47] SH M (fun r M' => r = iI (hungS g 6) ∧ M' = M) := by
  refine EvI.of 2 (by decide) (Nat.le_of_ble_eq_true rfl) rfl ?_
  refine Rn.iconst (v := iI 0) d_Md_hanging_0 rfl ?_
  refine Rn.istore_n (lv1 := [_, _, _]) d_Md_hanging_1 (by decide) (w_pv rfl) rfl ?_
  refine Rn.iconst (v := iI 0) d_Md_hanging_2 rfl ?_
  refine Rn.istore_n (lv1 := [_, _, _]) d_Md_hanging_3 (by decide) (w_pv rfl) rfl ?_
  have loop : ∀ (d b : Nat), b + d = 6 → Rn k_Md_hanging none (0, 0) 4 [some (.ref 47), some (.int (iI (hungS g b))), some (.int (iI b))] [] SH M (w_FI (0, 0) SH (fun r M' => r = iI (hungS g 6) ∧ M' = M)) := by
    intro d
    induction d with
    | zero =>
      intro b h1
      have : b = 6 := by omega
      subst this
      refine Rn.iload_n d_Md_hanging_4 rfl ?_
      refine Rn.bipush (v := iI 6) d_Md_hanging_5 (by decide +kernel) ?_
      refine In.icmp_ge (tgt := 46) d_Md_hanging_7 (by decide) ⟨by omega, by omega⟩ ⟨by omega, by omega⟩ (fun c7 => ?_) (fun c7 => ?_)
      · refine Rn.iload_n d_Md_hanging_46 rfl ?_
        exact Rn.iret d_Md_hanging_47 rfl rfl ⟨rfl, rfl⟩
      · omega
    | succ d ih =>
      intro b h1
      have hlb := hl b (by omega)
      have ih := ih (b + 1) (by omega)
      have e1 : g (12 + b) = -6 → hungS g (b + 1) = hungS g b ||| 0 := fun q => by simp only [hungS]; rw [if_pos q, Nat.or_zero]
      have e2 : ¬ g (12 + b) = -6 → hungS g (b + 1) = hungS g b ||| 2 ^ (g (12 + b)).toNat := fun q => by simp only [hungS]; rw [if_neg q]
      refine Rn.iload_n d_Md_hanging_4 rfl ?_
      refine Rn.bipush (v := iI 6) d_Md_hanging_5 (by decide +kernel) ?_
      refine In.icmp_ge (tgt := 46) d_Md_hanging_7 (by decide) ⟨by omega, by omega⟩ ⟨by omega, by omega⟩ (fun c7 => ?_) (fun c7 => ?_)
      · omega
      · refine Rn.iload_n d_Md_hanging_10 rfl ?_
        refine Rn.aload_n d_Md_hanging_11 rfl ?_
        refine Rn.getR d_Md_hanging_12 f_Md_now g_651 z_Md (r_Md_now (by assumption)) ?_
        refine Rn.bipush (v := iI 12) d_Md_hanging_15 (by decide +kernel) ?_
        refine Rn.iload_n d_Md_hanging_17 rfl ?_
        refine In.add d_Md_hanging_18 ?_
        refine In.ald d_Md_hanging_19 z_Md_now (by omega) (by omega) (by decide) (hN (12 + b) (by omega)) ?_
        refine In.if_lt (tgt := 37) d_Md_hanging_20 (by decide) ⟨by omega, by omega⟩ (fun c20 => ?_) (fun c20 => ?_)
        · rw [e1 (by omega)] at ih
          refine Rn.iconst (v := iI 0) d_Md_hanging_37 rfl ?_
          refine In.or rfl (rfl : (0 : Int) = ((0 : Nat) : Int)) d_Md_hanging_38 ?_
          refine Rn.istore_n (lv1 := [_, _, _]) d_Md_hanging_39 (by decide) (w_pv rfl) rfl ?_
          refine In.inc (lv1 := [_, _, _]) d_Md_hanging_40 rfl (by decide) (w_pv rfl) rfl ?_
          refine Rn.goto (tgt := 4) d_Md_hanging_43 (by decide) ?_
          exact ih
        · rw [e2 (by omega)] at ih
          obtain ⟨u, hu⟩ : ∃ u : Nat, g (12 + b) = u := ⟨(g (12 + b)).toNat, by omega⟩
          rw [hu] at hlb ih
          simp only [Int.toNat_natCast] at ih
          refine Rn.iconst (v := iI 1) d_Md_hanging_23 rfl ?_
          refine Rn.aload_n d_Md_hanging_24 rfl ?_
          refine Rn.getR d_Md_hanging_25 f_Md_now g_651 z_Md (r_Md_now (by assumption)) ?_
          refine Rn.bipush (v := iI 12) d_Md_hanging_28 (by decide +kernel) ?_
          refine Rn.iload_n d_Md_hanging_30 rfl ?_
          refine In.add d_Md_hanging_31 ?_
          refine In.ald d_Md_hanging_32 z_Md_now (by omega) (by omega) (by decide) ((hN (12 + b) (by omega)).trans (by rw [hu])) ?_
          refine In.shl rfl (by omega) d_Md_hanging_33 ?_
          refine Rn.goto (tgt := 38) d_Md_hanging_34 (by decide) ?_
          refine In.or rfl rfl d_Md_hanging_38 ?_
          refine Rn.istore_n (lv1 := [_, _, _]) d_Md_hanging_39 (by decide) (w_pv rfl) rfl ?_
          refine In.inc (lv1 := [_, _, _]) d_Md_hanging_40 rfl (by decide) (w_pv rfl) rfl ?_
          refine Rn.goto (tgt := 4) d_Md_hanging_43 (by decide) ?_
          exact ih
  exact loop 6 0 rfl
theorem m_Md_apartOf {M : wM} {g : Nat → Int} {a b : Nat} (hG : M.2.2 = RG) (hN : nwA M g) (hf : tok g) (ha : a < 12) (hb : b < 12) : EvI k_Md_apartOf [.ref 47, .int (iI a), .int (iI b)] SH M (fun r M' => r = iI (dist g a b) ∧ M' = M) := by
  refine EvI.of 3 (by decide) (Nat.le_of_ble_eq_true rfl) rfl ?_
  refine Rn.iload_n d_Md_apartOf_0 rfl ?_
  refine Rn.istore_n (lv1 := [_, _, _, _, _, _]) d_Md_apartOf_1 (by decide) (w_pv rfl) rfl ?_
  refine Rn.iload_n d_Md_apartOf_2 rfl ?_
  refine Rn.istore (lv1 := [_, _, _, _, _, _]) d_Md_apartOf_3 (by decide) (w_pv rfl) rfl ?_
  refine Rn.iconst (v := iI 0) d_Md_apartOf_5 rfl ?_
  refine Rn.istore (lv1 := [_, _, _, _, _, _]) d_Md_apartOf_6 (by decide) (w_pv rfl) rfl ?_
  have loop : ∀ (d x y n : Nat), x < 12 → y < 12 → x + y ≤ d → n + dist g x y = dist g a b → Rn k_Md_apartOf none (0, 0) 8 [some (.ref 47), some (.int (iI a)), some (.int (iI b)), some (.int (iI x)), some (.int (iI y)), some (.int (iI n))] [] SH M (w_FI (0, 0) SH (fun r M' => r = iI (dist g a b) ∧ M' = M)) := by
    intro d
    induction d with
    | zero =>
      intro x y n h1 h2 h3 h4
      refine Rn.iload_n d_Md_apartOf_8 rfl ?_
      refine Rn.iload d_Md_apartOf_9 rfl ?_
      refine In.icmp_eq (tgt := 45) d_Md_apartOf_11 (by decide) ⟨by omega, by omega⟩ ⟨by omega, by omega⟩ (fun c11 => ?_) (fun c11 => ?_)
      · have : x = y := by omega
        subst this
        rw [dist_self] at h4
        refine Rn.iload d_Md_apartOf_45 rfl ?_
        exact Rn.iret d_Md_apartOf_47 rfl rfl ⟨by rw [← h4]; simp, rfl⟩
      · omega
    | succ d ih =>
      intro x y n h1 h2 h3 h4
      refine Rn.iload_n d_Md_apartOf_8 rfl ?_
      refine Rn.iload d_Md_apartOf_9 rfl ?_
      refine In.icmp_eq (tgt := 45) d_Md_apartOf_11 (by decide) ⟨by omega, by omega⟩ ⟨by omega, by omega⟩ (fun c11 => ?_) (fun c11 => ?_)
      · have : x = y := by omega
        subst this
        rw [dist_self] at h4
        refine Rn.iload d_Md_apartOf_45 rfl ?_
        exact Rn.iret d_Md_apartOf_47 rfl rfl ⟨by rw [← h4]; simp, rfl⟩
      · refine Rn.iload_n d_Md_apartOf_14 rfl ?_
        refine Rn.iload d_Md_apartOf_15 rfl ?_
        refine In.icmp_le (tgt := 30) d_Md_apartOf_17 (by decide) ⟨by omega, by omega⟩ ⟨by omega, by omega⟩ (fun c17 => ?_) (fun c17 => ?_)
        · have hp := hf y (by omega) h2
          have hd := dist_lt hf h2 (show x < y by omega)
          obtain ⟨u, hu⟩ : ∃ u : Nat, g y = u := ⟨(g y).toNat, by omega⟩
          rw [hu] at hd hp
          simp only [Int.toNat_natCast] at hd
          refine Rn.aload_n d_Md_apartOf_30 rfl ?_
          refine Rn.getR d_Md_apartOf_31 f_Md_now g_651 z_Md (r_Md_now (by assumption)) ?_
          refine Rn.iload d_Md_apartOf_34 rfl ?_
          refine In.ald d_Md_apartOf_36 z_Md_now rfl (by omega) (by decide) ((hN y (by omega)).trans (by rw [hu])) ?_
          refine Rn.istore (lv1 := [_, _, _, _, _, _]) d_Md_apartOf_37 (by decide) (w_pv rfl) rfl ?_
          refine In.inc (lv1 := [_, _, _, _, _, _]) d_Md_apartOf_39 rfl (by decide) (w_pv rfl) rfl ?_
          refine Rn.goto (tgt := 8) d_Md_apartOf_42 (by decide) ?_
          exact ih x u (n + 1) h1 (by omega) (by omega) (by omega)
        · have hp := hf x (by omega) h1
          have hd := dist_gt hf h1 (show y < x by omega)
          obtain ⟨u, hu⟩ : ∃ u : Nat, g x = u := ⟨(g x).toNat, by omega⟩
          rw [hu] at hd hp
          simp only [Int.toNat_natCast] at hd
          refine Rn.aload_n d_Md_apartOf_20 rfl ?_
          refine Rn.getR d_Md_apartOf_21 f_Md_now g_651 z_Md (r_Md_now (by assumption)) ?_
          refine Rn.iload_n d_Md_apartOf_24 rfl ?_
          refine In.ald d_Md_apartOf_25 z_Md_now rfl (by omega) (by decide) ((hN x (by omega)).trans (by rw [hu])) ?_
          refine Rn.istore_n (lv1 := [_, _, _, _, _, _]) d_Md_apartOf_26 (by decide) (w_pv rfl) rfl ?_
          refine Rn.goto (tgt := 39) d_Md_apartOf_27 (by decide) ?_
          refine In.inc (lv1 := [_, _, _, _, _, _]) d_Md_apartOf_39 rfl (by decide) (w_pv rfl) rfl ?_
          refine Rn.goto (tgt := 8) d_Md_apartOf_42 (by decide) ?_
          exact ih u y (n + 1) (by omega) h2 (by omega) (by omega)
  exact loop (a + b) a b 0 ha hb (Nat.le_refl _) (by omega)
theorem m_Md_meetOf {M : wM} {g : Nat → Int} {a b : Nat} (hG : M.2.2 = RG) (hN : nwA M g) (hf : tok g) (ha : a < 12) (hb : b < 12) : EvI k_Md_meetOf [.ref 47, .int (iI a), .int (iI b)] SH M (fun r M' => r = iI (meeF g 24 a b) ∧ M' = M) := by
  refine EvI.of 2 (by decide) (Nat.le_of_ble_eq_true rfl) rfl ?_
  refine Rn.iload_n d_Md_meetOf_0 rfl ?_
  refine Rn.istore_n (lv1 := [_, _, _, _, _]) d_Md_meetOf_1 (by decide) (w_pv rfl) rfl ?_
  refine Rn.iload_n d_Md_meetOf_2 rfl ?_
  refine Rn.istore (lv1 := [_, _, _, _, _]) d_Md_meetOf_3 (by decide) (w_pv rfl) rfl ?_
  obtain ⟨V, hVV⟩ : ∃ V, V = meeF g 24 a b := ⟨_, rfl⟩
  rw [← hVV]
  have loop : ∀ (d x y : Nat), x < 12 → y < 12 → x + y < d → meeF g d x y = V → Rn k_Md_meetOf none (0, 0) 5 [some (.ref 47), some (.int (iI a)), some (.int (iI b)), some (.int (iI x)), some (.int (iI y))] [] SH M (w_FI (0, 0) SH (fun r M' => r = iI V ∧ M' = M)) := by
    intro d
    induction d with
    | zero => intro x y h1 h2 h3; omega
    | succ d ih =>
      intro x y h1 h2 h3 h4
      have e1 : x = y → meeF g (d + 1) x y = x := fun q => by simp only [meeF]; rw [if_pos q]
      have e2 : ¬ x = y → y < x → meeF g (d + 1) x y = meeF g d (g x).toNat y := fun q q2 => by simp only [meeF]; rw [if_neg q, if_pos q2]
      have e3 : ¬ x = y → ¬ y < x → meeF g (d + 1) x y = meeF g d x (g y).toNat := fun q q2 => by simp only [meeF]; rw [if_neg q, if_neg q2]
      refine Rn.iload_n d_Md_meetOf_5 rfl ?_
      refine Rn.iload d_Md_meetOf_6 rfl ?_
      refine In.icmp_eq (tgt := 39) d_Md_meetOf_8 (by decide) ⟨by omega, by omega⟩ ⟨by omega, by omega⟩ (fun c8 => ?_) (fun c8 => ?_)
      · rw [e1 (by omega)] at h4
        refine Rn.iload_n d_Md_meetOf_39 rfl ?_
        exact Rn.iret d_Md_meetOf_40 rfl rfl ⟨by rw [← h4], rfl⟩
      · refine Rn.iload_n d_Md_meetOf_11 rfl ?_
        refine Rn.iload d_Md_meetOf_12 rfl ?_
        refine In.icmp_le (tgt := 27) d_Md_meetOf_14 (by decide) ⟨by omega, by omega⟩ ⟨by omega, by omega⟩ (fun c14 => ?_) (fun c14 => ?_)
        · have hp := hf y (by omega) h2
          rw [e3 (by omega) (by omega)] at h4
          obtain ⟨u, hu⟩ : ∃ u : Nat, g y = u := ⟨(g y).toNat, by omega⟩
          rw [hu] at h4 hp
          simp only [Int.toNat_natCast] at h4
          refine Rn.aload_n d_Md_meetOf_27 rfl ?_
          refine Rn.getR d_Md_meetOf_28 f_Md_now g_651 z_Md (r_Md_now (by assumption)) ?_
          refine Rn.iload d_Md_meetOf_31 rfl ?_
          refine In.ald d_Md_meetOf_33 z_Md_now rfl (by omega) (by decide) ((hN y (by omega)).trans (by rw [hu])) ?_
          refine Rn.istore (lv1 := [_, _, _, _, _]) d_Md_meetOf_34 (by decide) (w_pv rfl) rfl ?_
          refine Rn.goto (tgt := 5) d_Md_meetOf_36 (by decide) ?_
          exact ih x u h1 (by omega) (by omega) h4
        · have hp := hf x (by omega) h1
          rw [e2 (by omega) (by omega)] at h4
          obtain ⟨u, hu⟩ : ∃ u : Nat, g x = u := ⟨(g x).toNat, by omega⟩
          rw [hu] at h4 hp
          simp only [Int.toNat_natCast] at h4
          refine Rn.aload_n d_Md_meetOf_17 rfl ?_
          refine Rn.getR d_Md_meetOf_18 f_Md_now g_651 z_Md (r_Md_now (by assumption)) ?_
          refine Rn.iload_n d_Md_meetOf_21 rfl ?_
          refine In.ald d_Md_meetOf_22 z_Md_now rfl (by omega) (by decide) ((hN x (by omega)).trans (by rw [hu])) ?_
          refine Rn.istore_n (lv1 := [_, _, _, _, _]) d_Md_meetOf_23 (by decide) (w_pv rfl) rfl ?_
          refine Rn.goto (tgt := 5) d_Md_meetOf_24 (by decide) ?_
          exact ih u y (by omega) h2 (by omega) h4
  exact loop 24 a b ha hb (by omega) hVV.symm
