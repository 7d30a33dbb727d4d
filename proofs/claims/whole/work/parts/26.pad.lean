/-! Pad. -/
set_option maxRecDepth 20000
set_option maxHeartbeats 400000
theorem m_Pad_size {M : wM} {n : Nat} {σ : Nat → Int} (hA : padAt M n σ) : EvI k_Pad_size [.ref 9] SH M (fun r M' => r = iI n ∧ M' = M) := by
  refine EvI.of 0 (by decide) (Nat.le_of_ble_eq_true rfl) rfl ?_
  refine Rn.aload_n d_Pad_size_0 rfl ?_
  refine In.getI d_Pad_size_1 f_Pad_count g_80 z_Pad hA.2 ?_
  exact Rn.iret d_Pad_size_4 rfl rfl ⟨rfl, rfl⟩
theorem m_Pad_add {M : wM} {n : Nat} {c : Int} {σ : Nat → Int} (hG : M.2.2 = RG) (hA : padAt M n σ) (hn : n < 60) : EvV k_Pad_add [.ref 9, .int (iI c)] SH M (fun M' => padAt M' (n + 1) (up σ n c) ∧ Off M M' 9 11) := by
  refine EvV.of 0 (by decide) (Nat.le_of_ble_eq_true rfl) rfl ?_
  refine Rn.aload_n d_Pad_add_0 rfl ?_
  refine In.getI d_Pad_add_1 f_Pad_count g_80 z_Pad hA.2 ?_
  refine In.if_lt (tgt := 19) d_Pad_add_4 (by decide) ⟨by omega, by omega⟩ (fun c4 => ?_) (fun c4 => ?_)
  · omega
  · refine Rn.aload_n d_Pad_add_7 rfl ?_
    refine In.getI d_Pad_add_8 f_Pad_count g_80 z_Pad hA.2 ?_
    refine Rn.aload_n d_Pad_add_11 rfl ?_
    refine Rn.getR d_Pad_add_12 f_Pad_signs g_79 z_Pad (r_Pad_signs (by assumption)) ?_
    refine In.alen d_Pad_add_15 z_Pad_signs (by decide) ?_
    refine In.icmp_lt (tgt := 20) d_Pad_add_16 (by decide) ⟨by omega, by omega⟩ ⟨by omega, by omega⟩ (fun c16 => ?_) (fun c16 => ?_)
    · refine Rn.aload_n d_Pad_add_20 rfl ?_
      refine Rn.getR d_Pad_add_21 f_Pad_signs g_79 z_Pad (r_Pad_signs (by assumption)) ?_
      refine Rn.aload_n d_Pad_add_24 rfl ?_
      refine In.getI d_Pad_add_25 f_Pad_count g_80 z_Pad hA.2 ?_
      refine Rn.iload_n d_Pad_add_28 rfl ?_
      refine In.ast d_Pad_add_29 z_Pad_signs rfl hn (by decide) ?_
      refine Rn.aload_n d_Pad_add_30 rfl ?_
      refine Rn.dup d_Pad_add_31 rfl ?_
      refine In.getI d_Pad_add_32 f_Pad_count g_80 z_Pad (by rw [w_ui_off _ _ _ _ _ (by omega)]; exact hA.2) ?_
      refine Rn.iconst (v := iI 1) d_Pad_add_35 rfl ?_
      refine In.add d_Pad_add_36 ?_
      refine In.putI d_Pad_add_37 f_Pad_count g_80 z_Pad ?_
      refine Rn.vret d_Pad_add_40 rfl ⟨⟨fun i hi => ?_, ?_⟩, ((Off.ui _ _ _ _).wide (by omega) (by omega)).tr ((Off.ui _ _ _ _).wide (by omega) (by omega))⟩
      · rw [w_ui_if, if_neg (by omega), w_ui_if]
        by_cases e : i = n
        · subst e; rw [if_pos ⟨rfl, rfl⟩, up_at]
        · rw [if_neg (fun q => e q.2), up_ne _ _ _ _ e]; exact hA.1 i hi
      · rw [w_ui_at]; rfl
    · omega
theorem m_Pad_clear {M : wM} {n : Nat} {σ : Nat → Int} (hA : padAt M n σ) : EvV k_Pad_clear [.ref 9] SH M (fun M' => padAt M' 0 σ ∧ Off M M' 9 11) := by
  refine EvV.of 0 (by decide) (Nat.le_of_ble_eq_true rfl) rfl ?_
  refine Rn.aload_n d_Pad_clear_0 rfl ?_
  refine Rn.iconst (v := iI 0) d_Pad_clear_1 rfl ?_
  refine In.putI d_Pad_clear_2 f_Pad_count g_80 z_Pad ?_
  refine Rn.vret d_Pad_clear_5 rfl ⟨⟨fun i hi => ?_, ?_⟩, (Off.ui _ _ _ _).wide (by omega) (by omega)⟩
  · rw [w_ui_if, if_neg (by omega)]; exact hA.1 i hi
  · rw [w_ui_at]; rfl
theorem m_Pad_isBallLetter {M : wM} {a : Int} (ha : -1000 ≤ a ∧ a ≤ 1000) : EvI k_Pad_isBallLetter [.int (iI a)] SH M (fun r M' => r = iI (if 65 ≤ a ∧ a ≤ 70 then 1 else 0) ∧ M' = M) := by
  refine EvI.of 0 (by decide) (Nat.le_of_ble_eq_true rfl) rfl ?_
  refine Rn.iload_n d_Pad_isBallLetter_0 rfl ?_
  refine Rn.bipush (v := iI 65) d_Pad_isBallLetter_1 (by decide +kernel) ?_
  refine In.sub d_Pad_isBallLetter_3 ?_
  refine Rn.cSNI d_Pad_isBallLetter_4 s_Pad_isBallLetter_BH_isBall (j := 12) (host := "BaubleHill") rfl g_238 ⟨rfl, rfl⟩ ⟨Nat.zero_le _, Nat.zero_le _⟩ (m_BH_isBall (show -2147483648 ≤ a - 65 ∧ a - 65 < 2147483648 by omega)) rfl rfl (Nat.le_of_ble_eq_true rfl) (fun rr MM qq => ?_)
  obtain ⟨rfl, rfl⟩ := And.imp id Eq.symm qq; clear qq
  have e : (if 0 ≤ a - 65 ∧ a - 65 < 6 then (1 : Int) else 0) = (if 65 ≤ a ∧ a ≤ 70 then 1 else 0) := by
    by_cases h : 65 ≤ a ∧ a ≤ 70
    · rw [if_pos h, if_pos (by omega)]
    · rw [if_neg h, if_neg (by omega)]
  rw [e]
  refine Rn.iret d_Pad_isBallLetter_7 rfl ?_ ⟨rfl, rfl⟩
  split <;> decide +kernel
theorem m_Pad_isHead {M : wM} {a : Int} (ha : -1000 ≤ a ∧ a ≤ 1000) : EvI k_Pad_isHead [.int (iI a)] SH M (fun r M' => r = iI (if (65 ≤ a ∧ a ≤ 70) ∨ a = 100 ∨ a = 98 ∨ a = 46 then 1 else 0) ∧ M' = M) := by
  refine EvI.of 0 (by decide) (Nat.le_of_ble_eq_true rfl) rfl ?_
  refine Rn.iload_n d_Pad_isHead_0 rfl ?_
  refine Rn.cSI d_Pad_isHead_1 s_Pad_isHead_Pad_isBallLetter g_292 g_293 ⟨rfl, rfl⟩ ⟨Nat.zero_le _, Nat.zero_le _⟩ (m_Pad_isBallLetter ha) rfl rfl (Nat.le_of_ble_eq_true rfl) (fun rr MM qq => ?_)
  obtain ⟨rfl, rfl⟩ := And.imp id Eq.symm qq; clear qq
  refine In.if_ne (tgt := 25) d_Pad_isHead_4 (by decide) fl_rg (fun c4 => ?_) (fun c4 => ?_)
  · refine Rn.iconst (v := iI 1) d_Pad_isHead_25 rfl ?_
    refine Rn.goto (tgt := 30) d_Pad_isHead_26 (by decide) ?_
    exact Rn.iret d_Pad_isHead_30 rfl (by decide +kernel) ⟨by rw [if_pos (Or.inl (fl_ne c4))], rfl⟩
  · have n4 := fl_eq c4
    refine Rn.iload_n d_Pad_isHead_7 rfl ?_
    refine Rn.bipush (v := iI 100) d_Pad_isHead_8 (by decide +kernel) ?_
    refine In.icmp_eq (tgt := 25) d_Pad_isHead_10 (by decide) ⟨by omega, by omega⟩ ⟨by omega, by omega⟩ (fun c10 => ?_) (fun c10 => ?_)
    · refine Rn.iconst (v := iI 1) d_Pad_isHead_25 rfl ?_
      refine Rn.goto (tgt := 30) d_Pad_isHead_26 (by decide) ?_
      exact Rn.iret d_Pad_isHead_30 rfl (by decide +kernel) ⟨by rw [if_pos (by omega)], rfl⟩
    · refine Rn.iload_n d_Pad_isHead_13 rfl ?_
      refine Rn.bipush (v := iI 98) d_Pad_isHead_14 (by decide +kernel) ?_
      refine In.icmp_eq (tgt := 25) d_Pad_isHead_16 (by decide) ⟨by omega, by omega⟩ ⟨by omega, by omega⟩ (fun c16 => ?_) (fun c16 => ?_)
      · refine Rn.iconst (v := iI 1) d_Pad_isHead_25 rfl ?_
        refine Rn.goto (tgt := 30) d_Pad_isHead_26 (by decide) ?_
        exact Rn.iret d_Pad_isHead_30 rfl (by decide +kernel) ⟨by rw [if_pos (by omega)], rfl⟩
      · refine Rn.iload_n d_Pad_isHead_19 rfl ?_
        refine Rn.bipush (v := iI 46) d_Pad_isHead_20 (by decide +kernel) ?_
        refine In.icmp_ne (tgt := 29) d_Pad_isHead_22 (by decide) ⟨by omega, by omega⟩ ⟨by omega, by omega⟩ (fun c22 => ?_) (fun c22 => ?_)
        · refine Rn.iconst (v := iI 0) d_Pad_isHead_29 rfl ?_
          exact Rn.iret d_Pad_isHead_30 rfl (by decide +kernel) ⟨by rw [if_neg (by omega)], rfl⟩
        · refine Rn.iconst (v := iI 1) d_Pad_isHead_25 rfl ?_
          refine Rn.goto (tgt := 30) d_Pad_isHead_26 (by decide) ?_
          exact Rn.iret d_Pad_isHead_30 rfl (by decide +kernel) ⟨by rw [if_pos (by omega)], rfl⟩
theorem m_Pad_signsAfter {M : wM} {a : Int} (ha : -1000 ≤ a ∧ a ≤ 1000) : EvI k_Pad_signsAfter [.int (iI a)] SH M (fun r M' => r = iI (if a = 98 then 2 else if a = 46 then 0 else 1) ∧ M' = M) := by
  refine EvI.of 0 (by decide) (Nat.le_of_ble_eq_true rfl) rfl ?_
  refine Rn.iload_n d_Pad_signsAfter_0 rfl ?_
  refine Rn.bipush (v := iI 98) d_Pad_signsAfter_1 (by decide +kernel) ?_
  refine In.icmp_ne (tgt := 8) d_Pad_signsAfter_3 (by decide) ⟨by omega, by omega⟩ ⟨by omega, by omega⟩ (fun c3 => ?_) (fun c3 => ?_)
  · refine Rn.iload_n d_Pad_signsAfter_8 rfl ?_
    refine Rn.bipush (v := iI 46) d_Pad_signsAfter_9 (by decide +kernel) ?_
    refine In.icmp_ne (tgt := 18) d_Pad_signsAfter_11 (by decide) ⟨by omega, by omega⟩ ⟨by omega, by omega⟩ (fun c11 => ?_) (fun c11 => ?_)
    · refine Rn.iconst (v := iI 1) d_Pad_signsAfter_18 rfl ?_
      exact Rn.iret d_Pad_signsAfter_19 rfl rfl ⟨by rw [if_neg c3, if_neg c11], rfl⟩
    · refine Rn.iconst (v := iI 0) d_Pad_signsAfter_14 rfl ?_
      refine Rn.goto (tgt := 19) d_Pad_signsAfter_15 (by decide) ?_
      exact Rn.iret d_Pad_signsAfter_19 rfl rfl ⟨by rw [if_neg c3, if_pos c11], rfl⟩
  · refine Rn.iconst (v := iI 2) d_Pad_signsAfter_6 rfl ?_
    exact Rn.iret d_Pad_signsAfter_7 rfl rfl ⟨by rw [if_pos c3], rfl⟩
theorem m_Pad_mayFollow {M : wM} {a c : Int} (ha : -1000 ≤ a ∧ a ≤ 1000) (hc : -1000 ≤ c ∧ c ≤ 1000) : EvI k_Pad_mayFollow [.int (iI a), .int (iI c)] SH M (fun r M' => r = iI (if (if a = 100 then 49 ≤ c ∧ c ≤ 57 else (97 ≤ c ∧ c ≤ 108) ∨ ((65 ≤ a ∧ a ≤ 70) ∧ c = 95)) then 1 else 0) ∧ M' = M) := by
  refine EvI.of 0 (by decide) (Nat.le_of_ble_eq_true rfl) rfl ?_
  refine Rn.iload_n d_Pad_mayFollow_0 rfl ?_
  refine Rn.bipush (v := iI 100) d_Pad_mayFollow_1 (by decide +kernel) ?_
  refine In.icmp_ne (tgt := 24) d_Pad_mayFollow_3 (by decide) ⟨by omega, by omega⟩ ⟨by omega, by omega⟩ (fun c3 => ?_) (fun c3 => ?_)
  · refine Rn.iload_n d_Pad_mayFollow_24 rfl ?_
    refine Rn.bipush (v := iI 97) d_Pad_mayFollow_25 (by decide +kernel) ?_
    refine In.sub d_Pad_mayFollow_27 ?_
    refine Rn.cSNI d_Pad_mayFollow_28 s_Pad_mayFollow_BH_isLoop (j := 11) (host := "BaubleHill") rfl g_219 ⟨rfl, rfl⟩ ⟨Nat.zero_le _, Nat.zero_le _⟩ (m_BH_isLoop (show -2147483648 ≤ c - 97 ∧ c - 97 < 2147483648 by omega)) rfl rfl (Nat.le_of_ble_eq_true rfl) (fun rr MM qq => ?_)
    obtain ⟨rfl, rfl⟩ := And.imp id Eq.symm qq; clear qq
    refine In.if_ne (tgt := 47) d_Pad_mayFollow_31 (by decide) fl_rg (fun c31 => ?_) (fun c31 => ?_)
    · refine Rn.iconst (v := iI 1) d_Pad_mayFollow_47 rfl ?_
      refine Rn.goto (tgt := 52) d_Pad_mayFollow_48 (by decide) ?_
      have := fl_ne c31
      exact Rn.iret d_Pad_mayFollow_52 rfl (by decide +kernel) ⟨by rw [if_pos (by rw [if_neg c3]; omega)], rfl⟩
    · have n31 := fl_eq c31
      refine Rn.iload_n d_Pad_mayFollow_34 rfl ?_
      refine Rn.cSI d_Pad_mayFollow_35 s_Pad_mayFollow_Pad_isBallLetter g_292 g_293 ⟨rfl, rfl⟩ ⟨Nat.zero_le _, Nat.zero_le _⟩ (m_Pad_isBallLetter ha) rfl rfl (Nat.le_of_ble_eq_true rfl) (fun rr MM qq => ?_)
      obtain ⟨rfl, rfl⟩ := And.imp id Eq.symm qq; clear qq
      refine In.if_eq (tgt := 51) d_Pad_mayFollow_38 (by decide) fl_rg (fun c38 => ?_) (fun c38 => ?_)
      · refine Rn.iconst (v := iI 0) d_Pad_mayFollow_51 rfl ?_
        have := fl_eq c38
        exact Rn.iret d_Pad_mayFollow_52 rfl (by decide +kernel) ⟨by rw [if_neg (by rw [if_neg c3]; omega)], rfl⟩
      · have n38 := fl_ne c38
        refine Rn.iload_n d_Pad_mayFollow_41 rfl ?_
        refine Rn.bipush (v := iI 95) d_Pad_mayFollow_42 (by decide +kernel) ?_
        refine In.icmp_ne (tgt := 51) d_Pad_mayFollow_44 (by decide) ⟨by omega, by omega⟩ ⟨by omega, by omega⟩ (fun c44 => ?_) (fun c44 => ?_)
        · refine Rn.iconst (v := iI 0) d_Pad_mayFollow_51 rfl ?_
          exact Rn.iret d_Pad_mayFollow_52 rfl (by decide +kernel) ⟨by rw [if_neg (by rw [if_neg c3]; omega)], rfl⟩
        · refine Rn.iconst (v := iI 1) d_Pad_mayFollow_47 rfl ?_
          refine Rn.goto (tgt := 52) d_Pad_mayFollow_48 (by decide) ?_
          exact Rn.iret d_Pad_mayFollow_52 rfl (by decide +kernel) ⟨by rw [if_pos (by rw [if_neg c3]; omega)], rfl⟩
  · refine Rn.iload_n d_Pad_mayFollow_6 rfl ?_
    refine Rn.bipush (v := iI 49) d_Pad_mayFollow_7 (by decide +kernel) ?_
    refine In.icmp_lt (tgt := 22) d_Pad_mayFollow_9 (by decide) ⟨by omega, by omega⟩ ⟨by omega, by omega⟩ (fun c9 => ?_) (fun c9 => ?_)
    · refine Rn.iconst (v := iI 0) d_Pad_mayFollow_22 rfl ?_
      exact Rn.iret d_Pad_mayFollow_23 rfl (by decide +kernel) ⟨by rw [if_neg (by rw [if_pos c3]; omega)], rfl⟩
    · refine Rn.iload_n d_Pad_mayFollow_12 rfl ?_
      refine Rn.bipush (v := iI 57) d_Pad_mayFollow_13 (by decide +kernel) ?_
      refine In.icmp_gt (tgt := 22) d_Pad_mayFollow_15 (by decide) ⟨by omega, by omega⟩ ⟨by omega, by omega⟩ (fun c15 => ?_) (fun c15 => ?_)
      · refine Rn.iconst (v := iI 0) d_Pad_mayFollow_22 rfl ?_
        exact Rn.iret d_Pad_mayFollow_23 rfl (by decide +kernel) ⟨by rw [if_neg (by rw [if_pos c3]; omega)], rfl⟩
      · refine Rn.iconst (v := iI 1) d_Pad_mayFollow_18 rfl ?_
        refine Rn.goto (tgt := 23) d_Pad_mayFollow_19 (by decide) ?_
        exact Rn.iret d_Pad_mayFollow_23 rfl (by decide +kernel) ⟨by rw [if_pos (by rw [if_pos c3]; omega)], rfl⟩
theorem m_Pad_signAt {M : wM} {n k : Nat} {σ : Nat → Int} (hG : M.2.2 = RG) (hA : padAt M n σ) (hn : n ≤ 60) (hk : k < 1000) : EvI k_Pad_signAt [.ref 9, .int (iI k)] SH M (fun r M' => r = iI (if k < n then σ k else 0) ∧ M' = M) := by
  refine EvI.of 0 (by decide) (Nat.le_of_ble_eq_true rfl) rfl ?_
  refine Rn.iload_n d_Pad_signAt_0 rfl ?_
  refine In.if_lt (tgt := 30) d_Pad_signAt_1 (by decide) ⟨by omega, by omega⟩ (fun c1 => ?_) (fun c1 => ?_)
  · omega
  · refine Rn.iload_n d_Pad_signAt_4 rfl ?_
    refine Rn.aload_n d_Pad_signAt_5 rfl ?_
    refine In.getI d_Pad_signAt_6 f_Pad_count g_80 z_Pad hA.2 ?_
    refine In.icmp_ge (tgt := 30) d_Pad_signAt_9 (by decide) ⟨by omega, by omega⟩ ⟨by omega, by omega⟩ (fun c9 => ?_) (fun c9 => ?_)
    · refine Rn.iconst (v := iI 0) d_Pad_signAt_30 rfl ?_
      exact Rn.iret d_Pad_signAt_31 rfl rfl ⟨by rw [if_neg (by omega)], rfl⟩
    · refine Rn.iload_n d_Pad_signAt_12 rfl ?_
      refine Rn.aload_n d_Pad_signAt_13 rfl ?_
      refine Rn.getR d_Pad_signAt_14 f_Pad_signs g_79 z_Pad (r_Pad_signs (by assumption)) ?_
      refine In.alen d_Pad_signAt_17 z_Pad_signs (by decide) ?_
      refine In.icmp_ge (tgt := 30) d_Pad_signAt_18 (by decide) ⟨by omega, by omega⟩ ⟨by omega, by omega⟩ (fun c18 => ?_) (fun c18 => ?_)
      · omega
      · refine Rn.aload_n d_Pad_signAt_21 rfl ?_
        refine Rn.getR d_Pad_signAt_22 f_Pad_signs g_79 z_Pad (r_Pad_signs (by assumption)) ?_
        refine Rn.iload_n d_Pad_signAt_25 rfl ?_
        refine In.ald d_Pad_signAt_26 z_Pad_signs rfl (by omega) (by decide) (hA.1 k (by omega)) ?_
        refine Rn.goto (tgt := 31) d_Pad_signAt_27 (by decide) ?_
        exact Rn.iret d_Pad_signAt_31 rfl rfl ⟨by rw [if_pos (by omega)], rfl⟩
/-- the class's two numbers beside the automaton's state -/
def hdS (s hd due : Int) : Prop := (s = 0 ∧ due = 0) ∨ (s = 1 ∧ 65 ≤ hd ∧ hd ≤ 70 ∧ due = 1) ∨ (s = 2 ∧ hd = 100 ∧ due = 1) ∨ (s = 3 ∧ hd = 98 ∧ due = 2) ∨ (s = 4 ∧ hd = 98 ∧ due = 1)
theorem hd_may {s hd due c : Int} (h : hdS s hd due) (hd0 : 0 < due) : ((if hd = 100 then 49 ≤ c ∧ c ≤ 57 else (97 ≤ c ∧ c ≤ 108) ∨ ((65 ≤ hd ∧ hd ≤ 70) ∧ c = 95)) → hdS (stpF s c) hd (due - 1) ∧ 0 ≤ stpF s c) ∧ (¬ (if hd = 100 then 49 ≤ c ∧ c ≤ 57 else (97 ≤ c ∧ c ≤ 108) ∨ ((65 ≤ hd ∧ hd ≤ 70) ∧ c = 95)) → stpF s c = -6) := by
  unfold hdS at h ⊢
  unfold stpF
  rcases h with h | h | h | h | h
  · omega
  · obtain ⟨rfl, h1, h2, rfl⟩ := h
    rw [if_neg (show ¬ hd = 100 by omega), if_neg (by decide), if_pos rfl]
    constructor <;> intro q
    · rw [if_pos (by omega)]; omega
    · rw [if_neg (by omega)]
  · obtain ⟨rfl, rfl, rfl⟩ := h
    rw [if_pos rfl, if_neg (by decide), if_neg (by decide), if_pos rfl]
    constructor <;> intro q
    · rw [if_pos q]; omega
    · rw [if_neg q]
  · obtain ⟨rfl, rfl, rfl⟩ := h
    rw [if_neg (by decide), if_neg (by decide), if_neg (by decide), if_neg (by decide)]
    constructor <;> intro q
    · rw [if_pos (by omega), if_pos rfl]; omega
    · rw [if_neg (by omega)]
  · obtain ⟨rfl, rfl, rfl⟩ := h
    rw [if_neg (by decide), if_neg (by decide), if_neg (by decide), if_neg (by decide)]
    constructor <;> intro q
    · rw [if_pos (by omega), if_neg (by decide)]; omega
    · rw [if_neg (by omega)]
theorem hd_new {c : Int} : ((65 ≤ c ∧ c ≤ 70) ∨ c = 100 ∨ c = 98 ∨ c = 46 → hdS (stpF 0 c) c (if c = 98 then 2 else if c = 46 then 0 else 1) ∧ 0 ≤ stpF 0 c) ∧ (¬ ((65 ≤ c ∧ c ≤ 70) ∨ c = 100 ∨ c = 98 ∨ c = 46) → stpF 0 c = -6) := by
  unfold hdS stpF
  rw [if_pos rfl]
  constructor
  · rintro (h | h | h | h)
    · rw [if_pos h, if_neg (by omega), if_neg (by omega)]; omega
    · subst h; simp
    · subst h; simp
    · subst h; simp
  · intro h
    rw [if_neg (by omega), if_neg (by omega), if_neg (by omega), if_neg (by omega)]
theorem m_Pad_firstWrong {M : wM} {n : Nat} {σ : Nat → Int} (hG : M.2.2 = RG) (hA : padAt M n σ) (hV : pok n σ) : EvI k_Pad_firstWrong [.ref 9] SH M (fun r M' => r = iI (fltS σ n) ∧ M' = M) := by
  refine EvI.of 4 (by decide) (Nat.le_of_ble_eq_true rfl) rfl ?_
  refine Rn.iconst (v := iI 0) d_Pad_firstWrong_0 rfl ?_
  refine Rn.istore_n (lv1 := [_, _, _, _, _]) d_Pad_firstWrong_1 (by decide) (w_pv rfl) rfl ?_
  refine Rn.iconst (v := iI 0) d_Pad_firstWrong_2 rfl ?_
  refine Rn.istore_n (lv1 := [_, _, _, _, _]) d_Pad_firstWrong_3 (by decide) (w_pv rfl) rfl ?_
  refine Rn.iconst (v := iI 0) d_Pad_firstWrong_4 rfl ?_
  refine Rn.istore_n (lv1 := [_, _, _, _, _]) d_Pad_firstWrong_5 (by decide) (w_pv rfl) rfl ?_
  obtain ⟨V, hVe⟩ : ∃ V, V = fltS σ n := ⟨_, rfl⟩
  rw [← hVe]
  have hn := hV.1
  have loop : ∀ (m k : Nat) (s hd due : Int) (x4 : Option Value), k + m = n → hdS s hd due → -1000 ≤ hd ∧ hd ≤ 1000 → fltF σ n m k s = V → Rn k_Pad_firstWrong none (0, 0) 6 [some (.ref 9), some (.int (iI hd)), some (.int (iI due)), some (.int (iI k)), x4] [] SH M (w_FI (0, 0) SH (fun r M' => r = iI V ∧ M' = M)) := by
    intro m
    induction m with
    | zero =>
      intro k s hd due x4 h1 h2 h3 h4
      have hdr : 0 ≤ due ∧ due ≤ 2 := by unfold hdS at h2; omega
      have hds : due ≤ 0 ↔ s = 0 := by unfold hdS at h2; omega
      simp only [fltF] at h4
      refine Rn.iload_n d_Pad_firstWrong_6 rfl ?_
      refine Rn.aload_n d_Pad_firstWrong_7 rfl ?_
      refine In.getI d_Pad_firstWrong_8 f_Pad_count g_80 z_Pad hA.2 ?_
      refine In.icmp_ge (tgt := 77) d_Pad_firstWrong_11 (by decide) ⟨by omega, by omega⟩ ⟨by omega, by omega⟩ (fun c11 => ?_) (fun c11 => ?_)
      · refine Rn.iload_n d_Pad_firstWrong_77 rfl ?_
        refine In.if_le (tgt := 88) d_Pad_firstWrong_78 (by decide) ⟨by omega, by omega⟩ (fun c78 => ?_) (fun c78 => ?_)
        · refine Rn.bipush (v := iI (-6)) d_Pad_firstWrong_88 (by decide +kernel) ?_
          rw [if_pos (hds.mp c78)] at h4
          exact Rn.iret d_Pad_firstWrong_90 rfl rfl ⟨by rw [← h4], rfl⟩
        · refine Rn.aload_n d_Pad_firstWrong_81 rfl ?_
          refine In.getI d_Pad_firstWrong_82 f_Pad_count g_80 z_Pad hA.2 ?_
          refine Rn.goto (tgt := 90) d_Pad_firstWrong_85 (by decide) ?_
          rw [if_neg (fun q => c78 (hds.mpr q))] at h4
          exact Rn.iret d_Pad_firstWrong_90 rfl rfl ⟨by rw [← h4], rfl⟩
      · omega
    | succ m ih =>
      intro k s hd due x4 h1 h2 h3 h4
      have hdr : 0 ≤ due ∧ due ≤ 2 := by unfold hdS at h2; omega
      have hc := hV.2 k (by omega)
      simp only [fltF] at h4
      refine Rn.iload_n d_Pad_firstWrong_6 rfl ?_
      refine Rn.aload_n d_Pad_firstWrong_7 rfl ?_
      refine In.getI d_Pad_firstWrong_8 f_Pad_count g_80 z_Pad hA.2 ?_
      refine In.icmp_ge (tgt := 77) d_Pad_firstWrong_11 (by decide) ⟨by omega, by omega⟩ ⟨by omega, by omega⟩ (fun c11 => ?_) (fun c11 => ?_)
      · omega
      · refine Rn.iload_n d_Pad_firstWrong_14 rfl ?_
        refine Rn.aload_n d_Pad_firstWrong_15 rfl ?_
        refine Rn.getR d_Pad_firstWrong_16 f_Pad_signs g_79 z_Pad (r_Pad_signs (by assumption)) ?_
        refine In.alen d_Pad_firstWrong_19 z_Pad_signs (by decide) ?_
        refine In.icmp_ge (tgt := 77) d_Pad_firstWrong_20 (by decide) ⟨by omega, by omega⟩ ⟨by omega, by omega⟩ (fun c20 => ?_) (fun c20 => ?_)
        · omega
        · refine Rn.aload_n d_Pad_firstWrong_23 rfl ?_
          refine Rn.getR d_Pad_firstWrong_24 f_Pad_signs g_79 z_Pad (r_Pad_signs (by assumption)) ?_
          refine Rn.iload_n d_Pad_firstWrong_27 rfl ?_
          refine In.ald d_Pad_firstWrong_28 z_Pad_signs rfl (by omega) (by decide) (hA.1 k (by omega)) ?_
          refine Rn.istore (lv1 := [_, _, _, _, _]) d_Pad_firstWrong_29 (by decide) (w_pv rfl) rfl ?_
          refine Rn.iload_n d_Pad_firstWrong_31 rfl ?_
          refine In.if_le (tgt := 52) d_Pad_firstWrong_32 (by decide) ⟨by omega, by omega⟩ (fun c32 => ?_) (fun c32 => ?_)
          · have hs0 : s = 0 := by unfold hdS at h2; omega
            subst hs0
            have hnew := hd_new (c := σ k)
            refine Rn.iload d_Pad_firstWrong_52 rfl ?_
            refine Rn.cSI d_Pad_firstWrong_54 s_Pad_firstWrong_Pad_isHead g_296 g_297 ⟨rfl, rfl⟩ ⟨Nat.zero_le _, Nat.zero_le _⟩ (m_Pad_isHead (show -1000 ≤ σ k ∧ σ k ≤ 1000 by omega)) rfl rfl (Nat.le_of_ble_eq_true rfl) (fun rr MM qq => ?_)
            obtain ⟨rfl, rfl⟩ := And.imp id Eq.symm qq; clear qq
            refine In.if_ne (tgt := 62) d_Pad_firstWrong_57 (by decide) fl_rg (fun c57 => ?_) (fun c57 => ?_)
            · have q := hnew.1 (fl_ne c57)
              rw [if_neg (by omega)] at h4
              refine Rn.iload d_Pad_firstWrong_62 rfl ?_
              refine Rn.istore_n (lv1 := [_, _, _, _, _]) d_Pad_firstWrong_64 (by decide) (w_pv rfl) rfl ?_
              refine Rn.iload d_Pad_firstWrong_65 rfl ?_
              refine Rn.cSI d_Pad_firstWrong_67 s_Pad_firstWrong_Pad_signsAfter g_299 g_300 ⟨rfl, rfl⟩ ⟨Nat.zero_le _, Nat.zero_le _⟩ (m_Pad_signsAfter (show -1000 ≤ σ k ∧ σ k ≤ 1000 by omega)) rfl rfl (Nat.le_of_ble_eq_true rfl) (fun rr MM qq => ?_)
              obtain ⟨rfl, rfl⟩ := And.imp id Eq.symm qq; clear qq
              refine Rn.istore_n (lv1 := [_, _, _, _, _]) d_Pad_firstWrong_70 (by decide) (w_pv rfl) rfl ?_
              refine In.inc (lv1 := [_, _, _, _, _]) d_Pad_firstWrong_71 rfl (by decide) (w_pv rfl) rfl ?_
              refine Rn.goto (tgt := 6) d_Pad_firstWrong_74 (by decide) ?_
              exact ih (k + 1) _ _ _ _ (by omega) q.1 (by omega) h4
            · have q := hnew.2 (fl_eq c57)
              rw [if_pos (by omega)] at h4
              refine Rn.iload_n d_Pad_firstWrong_60 rfl ?_
              exact Rn.iret d_Pad_firstWrong_61 rfl rfl ⟨by rw [← h4], rfl⟩
          · have hmay := hd_may (c := σ k) h2 (by omega)
            refine Rn.iload_n d_Pad_firstWrong_35 rfl ?_
            refine Rn.iload d_Pad_firstWrong_36 rfl ?_
            refine Rn.cSI d_Pad_firstWrong_38 s_Pad_firstWrong_Pad_mayFollow g_288 g_289 ⟨rfl, rfl⟩ ⟨Nat.zero_le _, Nat.zero_le _⟩ (m_Pad_mayFollow h3 (show -1000 ≤ σ k ∧ σ k ≤ 1000 by omega)) rfl rfl (Nat.le_of_ble_eq_true rfl) (fun rr MM qq => ?_)
            obtain ⟨rfl, rfl⟩ := And.imp id Eq.symm qq; clear qq
            refine In.if_ne (tgt := 46) d_Pad_firstWrong_41 (by decide) fl_rg (fun c41 => ?_) (fun c41 => ?_)
            · have q := hmay.1 (fl_ne c41)
              rw [if_neg (by omega)] at h4
              refine In.inc (lv1 := [_, _, _, _, _]) d_Pad_firstWrong_46 rfl (by decide) (w_pv rfl) rfl ?_
              refine Rn.goto (tgt := 71) d_Pad_firstWrong_49 (by decide) ?_
              refine In.inc (lv1 := [_, _, _, _, _]) d_Pad_firstWrong_71 rfl (by decide) (w_pv rfl) rfl ?_
              refine Rn.goto (tgt := 6) d_Pad_firstWrong_74 (by decide) ?_
              exact ih (k + 1) _ _ _ _ (by omega) q.1 h3 h4
            · have q := hmay.2 (fl_eq c41)
              rw [if_pos (by omega)] at h4
              refine Rn.iload_n d_Pad_firstWrong_44 rfl ?_
              exact Rn.iret d_Pad_firstWrong_45 rfl rfl ⟨by rw [← h4], rfl⟩
  exact loop n 0 0 0 0 _ (by omega) (Or.inl ⟨rfl, rfl⟩) (by omega) hVe.symm
theorem m_Pad_read {M : wM} {n pl c : Nat} {σ : Nat → Int} (hc : isAct c) (hG : M.2.2 = RG) (hA : padAt M n σ) (hV : pok n σ) (hok : okAt σ n pl) (hp : pl < n) : EvI k_Pad_read [.ref 9, .int (iI pl), .ref c] SH M (fun r M' => r = iI (pl + rdL σ pl : Nat) ∧ actAt M' c (rdK σ pl) (rdO σ pl) (rdP σ pl) ∧ Off M M' c (c + 1)) := by
  refine EvI.of 2 (by decide) (Nat.le_of_ble_eq_true rfl) rfl ?_
  have hn := hV.1
  have hr0 := hV.2 pl (by omega)
  refine Rn.aload_n d_Pad_read_0 rfl ?_
  refine Rn.iload_n d_Pad_read_1 rfl ?_
  refine Rn.cVI d_Pad_read_2 s_Pad_read_Pad_signAt g_328 g_330 gs_0 ⟨rfl, rfl⟩ ⟨Nat.zero_le _, Nat.zero_le _⟩ (m_Pad_signAt hG hA hn (show pl < 1000 by omega)) rfl rfl z_Pad c_Pad (Nat.le_of_ble_eq_true rfl) (fun rr MM qq => ?_)
  obtain ⟨rfl, rfl⟩ := And.imp id Eq.symm qq; clear qq
  rw [if_pos hp]
  refine Rn.istore_n (lv1 := [_, _, _, _, _]) d_Pad_read_5 (by decide) (w_pv rfl) rfl ?_
  refine Rn.aload_n d_Pad_read_6 rfl ?_
  refine Rn.iload_n d_Pad_read_7 rfl ?_
  refine Rn.iconst (v := iI 1) d_Pad_read_8 rfl ?_
  refine In.add d_Pad_read_9 ?_
  refine Rn.cVI d_Pad_read_10 s_Pad_read_Pad_signAt g_328 g_330 gs_0 ⟨rfl, rfl⟩ ⟨Nat.zero_le _, Nat.zero_le _⟩ (m_Pad_signAt (k := pl + 1) hG hA hn (show pl + 1 < 1000 by omega)) rfl rfl z_Pad c_Pad (Nat.le_of_ble_eq_true rfl) (fun rr MM qq => ?_)
  obtain ⟨rfl, rfl⟩ := And.imp id Eq.symm qq; clear qq
  refine Rn.istore (lv1 := [_, _, _, _, _]) d_Pad_read_13 (by decide) (w_pv rfl) rfl ?_
  refine Rn.iload_n d_Pad_read_15 rfl ?_
  refine Rn.cSI d_Pad_read_16 s_Pad_read_Pad_isBallLetter g_292 g_293 ⟨rfl, rfl⟩ ⟨Nat.zero_le _, Nat.zero_le _⟩ (m_Pad_isBallLetter (show -1000 ≤ σ pl ∧ σ pl ≤ 1000 by omega)) rfl rfl (Nat.le_of_ble_eq_true rfl) (fun rr MM qq => ?_)
  obtain ⟨rfl, rfl⟩ := And.imp id Eq.symm qq; clear qq
  unfold rdK rdO rdP rdL
  rcases ok_cases hok hp with ⟨h1, h2, h3, h4, h5⟩ | ⟨h1, h3, h4, h6, h5⟩ | ⟨h1, h3, h4, h6, h5⟩ | ⟨h1, h5⟩
  · have e : 65 ≤ σ pl ∧ σ pl ≤ 70 := ⟨h1, h2⟩
    simp only [if_pos e, if_pos h3]
    refine In.if_eq (tgt := 59) d_Pad_read_19 (by decide) ⟨by omega, by omega⟩ (fun c19 => ?_) (fun c19 => ?_)
    · omega
    · refine Rn.iload d_Pad_read_22 rfl ?_
      refine Rn.bipush (v := iI 95) d_Pad_read_24 (by decide +kernel) ?_
      refine In.icmp_ne (tgt := 42) d_Pad_read_26 (by decide) ⟨by omega, by omega⟩ ⟨by omega, by omega⟩ (fun c26 => ?_) (fun c26 => ?_)
      · obtain ⟨o, ho⟩ : ∃ o : Nat, σ pl - 65 = o := ⟨(σ pl - 65).toNat, by omega⟩
        obtain ⟨q, hq⟩ : ∃ q : Nat, σ (pl + 1) - 97 = q := ⟨(σ (pl + 1) - 97).toNat, by omega⟩
        simp only [if_neg c26, ho, hq, Int.toNat_natCast]
        refine Rn.aload_n d_Pad_read_42 rfl ?_
        refine Rn.iconst (v := iI 0) d_Pad_read_43 rfl ?_
        refine Rn.iload_n d_Pad_read_44 rfl ?_
        refine Rn.bipush (v := iI 65) d_Pad_read_45 (by decide +kernel) ?_
        refine In.sub d_Pad_read_47 ?_
        refine Rn.iload d_Pad_read_48 rfl ?_
        refine Rn.bipush (v := iI 97) d_Pad_read_50 (by decide +kernel) ?_
        refine In.sub d_Pad_read_52 ?_
        rw [ho, hq]
        refine Rn.cVV d_Pad_read_53 s_Pad_read_Act_set g_332 g_333 g_334 ⟨rfl, rfl⟩ ⟨Nat.zero_le _, Nat.zero_le _⟩ (m_Act_set hc) rfl rfl (z_Act (by first | assumption | exact i_Telling_act | exact i_Year_act)) c_Act (Nat.le_of_ble_eq_true rfl) (fun MM qq => ?_)
        obtain ⟨hB, hO⟩ := qq
        refine Rn.goto (tgt := 115) d_Pad_read_56 (by decide) ?_
        refine Rn.iload_n d_Pad_read_115 rfl ?_
        refine Rn.iconst (v := iI 1) d_Pad_read_116 rfl ?_
        refine In.add d_Pad_read_117 ?_
        refine Rn.iload_n d_Pad_read_118 rfl ?_
        refine Rn.cSI d_Pad_read_119 s_Pad_read_Pad_signsAfter g_299 g_300 ⟨rfl, rfl⟩ ⟨Nat.zero_le _, Nat.zero_le _⟩ (m_Pad_signsAfter (show -1000 ≤ σ pl ∧ σ pl ≤ 1000 by omega)) rfl rfl (Nat.le_of_ble_eq_true rfl) (fun rr MM qq => ?_)
        obtain ⟨rfl, rfl⟩ := And.imp id Eq.symm qq; clear qq
        refine In.add d_Pad_read_122 ?_
        rw [if_neg (show ¬ σ pl = 98 by omega), if_neg (show ¬ σ pl = 46 by omega)]
        exact Rn.iret d_Pad_read_123 rfl rfl ⟨by congr 1, hB, hO⟩
      · obtain ⟨o, ho⟩ : ∃ o : Nat, σ pl - 65 = o := ⟨(σ pl - 65).toNat, by omega⟩
        simp only [if_pos c26, ho, Int.toNat_natCast]
        refine Rn.aload_n d_Pad_read_29 rfl ?_
        refine Rn.iconst (v := iI 1) d_Pad_read_30 rfl ?_
        refine Rn.iload_n d_Pad_read_31 rfl ?_
        refine Rn.bipush (v := iI 65) d_Pad_read_32 (by decide +kernel) ?_
        refine In.sub d_Pad_read_34 ?_
        refine Rn.iconst (v := iI 0) d_Pad_read_35 rfl ?_
        rw [ho]
        refine Rn.cVV d_Pad_read_36 s_Pad_read_Act_set g_332 g_333 g_334 ⟨rfl, rfl⟩ ⟨Nat.zero_le _, Nat.zero_le _⟩ (m_Act_set hc) rfl rfl (z_Act (by first | assumption | exact i_Telling_act | exact i_Year_act)) c_Act (Nat.le_of_ble_eq_true rfl) (fun MM qq => ?_)
        obtain ⟨hB, hO⟩ := qq
        refine Rn.goto (tgt := 115) d_Pad_read_39 (by decide) ?_
        refine Rn.iload_n d_Pad_read_115 rfl ?_
        refine Rn.iconst (v := iI 1) d_Pad_read_116 rfl ?_
        refine In.add d_Pad_read_117 ?_
        refine Rn.iload_n d_Pad_read_118 rfl ?_
        refine Rn.cSI d_Pad_read_119 s_Pad_read_Pad_signsAfter g_299 g_300 ⟨rfl, rfl⟩ ⟨Nat.zero_le _, Nat.zero_le _⟩ (m_Pad_signsAfter (show -1000 ≤ σ pl ∧ σ pl ≤ 1000 by omega)) rfl rfl (Nat.le_of_ble_eq_true rfl) (fun rr MM qq => ?_)
        obtain ⟨rfl, rfl⟩ := And.imp id Eq.symm qq; clear qq
        refine In.add d_Pad_read_122 ?_
        rw [if_neg (show ¬ σ pl = 98 by omega), if_neg (show ¬ σ pl = 46 by omega)]
        exact Rn.iret d_Pad_read_123 rfl rfl ⟨by congr 1, hB, hO⟩
  · have e : ¬ (65 ≤ σ pl ∧ σ pl ≤ 70) := by omega
    simp only [if_neg e, if_pos h1, if_pos h3]
    refine In.if_eq (tgt := 59) d_Pad_read_19 (by decide) ⟨by omega, by omega⟩ (fun c19 => ?_) (fun c19 => ?_)
    · refine Rn.iload_n d_Pad_read_59 rfl ?_
      refine Rn.bipush (v := iI 100) d_Pad_read_60 (by decide +kernel) ?_
      refine In.icmp_ne (tgt := 79) d_Pad_read_62 (by decide) ⟨by omega, by omega⟩ ⟨by omega, by omega⟩ (fun c62 => ?_) (fun c62 => ?_)
      · omega
      · obtain ⟨q, hq⟩ : ∃ q : Nat, σ (pl + 1) - 48 = q := ⟨(σ (pl + 1) - 48).toNat, by omega⟩
        simp only [if_neg (show ¬ σ pl = 98 by omega), hq, Int.toNat_natCast]
        refine Rn.aload_n d_Pad_read_65 rfl ?_
        refine Rn.iconst (v := iI 2) d_Pad_read_66 rfl ?_
        refine Rn.iload d_Pad_read_67 rfl ?_
        refine Rn.bipush (v := iI 48) d_Pad_read_69 (by decide +kernel) ?_
        refine In.sub d_Pad_read_71 ?_
        refine Rn.iconst (v := iI 0) d_Pad_read_72 rfl ?_
        rw [hq]
        refine Rn.cVV d_Pad_read_73 s_Pad_read_Act_set g_332 g_333 g_334 ⟨rfl, rfl⟩ ⟨Nat.zero_le _, Nat.zero_le _⟩ (m_Act_set hc) rfl rfl (z_Act (by first | assumption | exact i_Telling_act | exact i_Year_act)) c_Act (Nat.le_of_ble_eq_true rfl) (fun MM qq => ?_)
        obtain ⟨hB, hO⟩ := qq
        refine Rn.goto (tgt := 115) d_Pad_read_76 (by decide) ?_
        refine Rn.iload_n d_Pad_read_115 rfl ?_
        refine Rn.iconst (v := iI 1) d_Pad_read_116 rfl ?_
        refine In.add d_Pad_read_117 ?_
        refine Rn.iload_n d_Pad_read_118 rfl ?_
        refine Rn.cSI d_Pad_read_119 s_Pad_read_Pad_signsAfter g_299 g_300 ⟨rfl, rfl⟩ ⟨Nat.zero_le _, Nat.zero_le _⟩ (m_Pad_signsAfter (show -1000 ≤ σ pl ∧ σ pl ≤ 1000 by omega)) rfl rfl (Nat.le_of_ble_eq_true rfl) (fun rr MM qq => ?_)
        obtain ⟨rfl, rfl⟩ := And.imp id Eq.symm qq; clear qq
        refine In.add d_Pad_read_122 ?_
        rw [if_neg (show ¬ σ pl = 98 by omega), if_neg (show ¬ σ pl = 46 by omega)]
        exact Rn.iret d_Pad_read_123 rfl rfl ⟨by congr 1, hB, hO⟩
    · omega
  · have e : ¬ (65 ≤ σ pl ∧ σ pl ≤ 70) := by omega
    have e2 : ¬ σ pl = 100 := by omega
    simp only [if_neg e, if_neg e2, if_pos h1, if_pos (show pl + 1 < n by omega)]
    refine In.if_eq (tgt := 59) d_Pad_read_19 (by decide) ⟨by omega, by omega⟩ (fun c19 => ?_) (fun c19 => ?_)
    · refine Rn.iload_n d_Pad_read_59 rfl ?_
      refine Rn.bipush (v := iI 100) d_Pad_read_60 (by decide +kernel) ?_
      refine In.icmp_ne (tgt := 79) d_Pad_read_62 (by decide) ⟨by omega, by omega⟩ ⟨by omega, by omega⟩ (fun c62 => ?_) (fun c62 => ?_)
      · refine Rn.iload_n d_Pad_read_79 rfl ?_
        refine Rn.bipush (v := iI 98) d_Pad_read_80 (by decide +kernel) ?_
        refine In.icmp_ne (tgt := 108) d_Pad_read_82 (by decide) ⟨by omega, by omega⟩ ⟨by omega, by omega⟩ (fun c82 => ?_) (fun c82 => ?_)
        · omega
        · obtain ⟨o, ho⟩ : ∃ o : Nat, σ (pl + 1) - 97 = o := ⟨(σ (pl + 1) - 97).toNat, by omega⟩
          obtain ⟨q, hq⟩ : ∃ q : Nat, σ (pl + 2) - 97 = q := ⟨(σ (pl + 2) - 97).toNat, by omega⟩
          simp only [ho, hq, Int.toNat_natCast]
          refine Rn.aload_n d_Pad_read_85 rfl ?_
          refine Rn.iconst (v := iI 3) d_Pad_read_86 rfl ?_
          refine Rn.iload d_Pad_read_87 rfl ?_
          refine Rn.bipush (v := iI 97) d_Pad_read_89 (by decide +kernel) ?_
          refine In.sub d_Pad_read_91 ?_
          refine Rn.aload_n d_Pad_read_92 rfl ?_
          refine Rn.iload_n d_Pad_read_93 rfl ?_
          refine Rn.iconst (v := iI 2) d_Pad_read_94 rfl ?_
          refine In.add d_Pad_read_95 ?_
          rw [ho]
          refine Rn.cVI d_Pad_read_96 s_Pad_read_Pad_signAt g_328 g_330 gs_0 ⟨rfl, rfl⟩ ⟨Nat.zero_le _, Nat.zero_le _⟩ (m_Pad_signAt (k := pl + 2) hG hA hn (show pl + 2 < 1000 by omega)) rfl rfl z_Pad c_Pad (Nat.le_of_ble_eq_true rfl) (fun rr MM qq => ?_)
          obtain ⟨rfl, rfl⟩ := And.imp id Eq.symm qq; clear qq
          rw [if_pos h3]
          refine Rn.bipush (v := iI 97) d_Pad_read_99 (by decide +kernel) ?_
          refine In.sub d_Pad_read_101 ?_
          rw [hq]
          refine Rn.cVV d_Pad_read_102 s_Pad_read_Act_set g_332 g_333 g_334 ⟨rfl, rfl⟩ ⟨Nat.zero_le _, Nat.zero_le _⟩ (m_Act_set hc) rfl rfl (z_Act (by first | assumption | exact i_Telling_act | exact i_Year_act)) c_Act (Nat.le_of_ble_eq_true rfl) (fun MM qq => ?_)
          obtain ⟨hB, hO⟩ := qq
          refine Rn.goto (tgt := 115) d_Pad_read_105 (by decide) ?_
          refine Rn.iload_n d_Pad_read_115 rfl ?_
          refine Rn.iconst (v := iI 1) d_Pad_read_116 rfl ?_
          refine In.add d_Pad_read_117 ?_
          refine Rn.iload_n d_Pad_read_118 rfl ?_
          refine Rn.cSI d_Pad_read_119 s_Pad_read_Pad_signsAfter g_299 g_300 ⟨rfl, rfl⟩ ⟨Nat.zero_le _, Nat.zero_le _⟩ (m_Pad_signsAfter (show -1000 ≤ σ pl ∧ σ pl ≤ 1000 by omega)) rfl rfl (Nat.le_of_ble_eq_true rfl) (fun rr MM qq => ?_)
          obtain ⟨rfl, rfl⟩ := And.imp id Eq.symm qq; clear qq
          refine In.add d_Pad_read_122 ?_
          rw [if_pos h1]
          exact Rn.iret d_Pad_read_123 rfl rfl ⟨by congr 1, hB, hO⟩
      · omega
    · omega
  · have e : ¬ (65 ≤ σ pl ∧ σ pl ≤ 70) := by omega
    have e2 : ¬ σ pl = 100 := by omega
    have e3 : ¬ σ pl = 98 := by omega
    simp only [if_neg e, if_neg e2, if_neg e3]
    refine In.if_eq (tgt := 59) d_Pad_read_19 (by decide) ⟨by omega, by omega⟩ (fun c19 => ?_) (fun c19 => ?_)
    · refine Rn.iload_n d_Pad_read_59 rfl ?_
      refine Rn.bipush (v := iI 100) d_Pad_read_60 (by decide +kernel) ?_
      refine In.icmp_ne (tgt := 79) d_Pad_read_62 (by decide) ⟨by omega, by omega⟩ ⟨by omega, by omega⟩ (fun c62 => ?_) (fun c62 => ?_)
      · refine Rn.iload_n d_Pad_read_79 rfl ?_
        refine Rn.bipush (v := iI 98) d_Pad_read_80 (by decide +kernel) ?_
        refine In.icmp_ne (tgt := 108) d_Pad_read_82 (by decide) ⟨by omega, by omega⟩ ⟨by omega, by omega⟩ (fun c82 => ?_) (fun c82 => ?_)
        · refine Rn.aload_n d_Pad_read_108 rfl ?_
          refine Rn.iconst (v := iI 4) d_Pad_read_109 rfl ?_
          refine Rn.iconst (v := iI 0) d_Pad_read_110 rfl ?_
          refine Rn.iconst (v := iI 0) d_Pad_read_111 rfl ?_
          refine Rn.cVV d_Pad_read_112 s_Pad_read_Act_set g_332 g_333 g_334 ⟨rfl, rfl⟩ ⟨Nat.zero_le _, Nat.zero_le _⟩ (m_Act_set hc) rfl rfl (z_Act (by first | assumption | exact i_Telling_act | exact i_Year_act)) c_Act (Nat.le_of_ble_eq_true rfl) (fun MM qq => ?_)
          obtain ⟨hB, hO⟩ := qq
          refine Rn.iload_n d_Pad_read_115 rfl ?_
          refine Rn.iconst (v := iI 1) d_Pad_read_116 rfl ?_
          refine In.add d_Pad_read_117 ?_
          refine Rn.iload_n d_Pad_read_118 rfl ?_
          refine Rn.cSI d_Pad_read_119 s_Pad_read_Pad_signsAfter g_299 g_300 ⟨rfl, rfl⟩ ⟨Nat.zero_le _, Nat.zero_le _⟩ (m_Pad_signsAfter (show -1000 ≤ σ pl ∧ σ pl ≤ 1000 by omega)) rfl rfl (Nat.le_of_ble_eq_true rfl) (fun rr MM qq => ?_)
          obtain ⟨rfl, rfl⟩ := And.imp id Eq.symm qq; clear qq
          refine In.add d_Pad_read_122 ?_
          rw [if_neg e3, if_pos h1]
          exact Rn.iret d_Pad_read_123 rfl rfl ⟨by congr 1, hB, hO⟩
        · omega
      · omega
    · omega
