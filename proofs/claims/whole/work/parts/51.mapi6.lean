/-! The reference's calls: room, candles. -/
set_option maxRecDepth 20000
set_option maxHeartbeats 400000
def rmI (β : Nat → Int) (x : Int) (s a : Nat) : Nat → Bool
  | 0 => true
  | b + 1 => rmI β x s a b && (!s.testBit b || decide (x < dist β a b))
def rmB (β : Nat → Int) (x : Int) (s : Nat) : Nat → Bool
  | 0 => true
  | a + 1 => rmB β x s a && (!s.testBit a || rmI β x s a a)
theorem rmI_all {β : Nat → Int} {x : Int} {s a : Nat} : ∀ n, rmI β x s a n = true ↔ ∀ b, b < n → s.testBit b = true → x < dist β a b
  | 0 => by simp [rmI]
  | n + 1 => by
    have ih := rmI_all (β := β) (x := x) (s := s) (a := a) n
    simp only [rmI, Bool.and_eq_true, Bool.or_eq_true, Bool.not_eq_true', decide_eq_true_eq]
    rw [ih]
    constructor
    · rintro ⟨h1, h2⟩ b hb hs
      by_cases e : b = n
      · subst e
        rcases h2 with h | h
        · rw [h] at hs; exact absurd hs (by decide)
        · exact h
      · exact h1 b (by omega) hs
    · intro h
      refine ⟨fun b hb => h b (by omega), ?_⟩
      cases q : s.testBit n with
      | false => exact Or.inl rfl
      | true => exact Or.inr (h n (by omega) q)
theorem rmB_all {β : Nat → Int} {x : Int} {s : Nat} : ∀ n, rmB β x s n = true ↔ ∀ a, a < n → s.testBit a = true → ∀ b, b < a → s.testBit b = true → x < dist β a b
  | 0 => by simp [rmB]
  | n + 1 => by
    have ih := rmB_all (β := β) (x := x) (s := s) n
    simp only [rmB, Bool.and_eq_true, Bool.or_eq_true, Bool.not_eq_true']
    rw [ih, rmI_all]
    constructor
    · rintro ⟨h1, h2⟩ a ha hs b hb hs2
      by_cases e : a = n
      · subst e
        rcases h2 with h | h
        · rw [h] at hs; exact absurd hs (by decide)
        · exact h b hb hs2
      · exact h1 a (by omega) hs b hb hs2
    · intro h
      refine ⟨fun a ha => h a (by omega), ?_⟩
      cases q : s.testBit n with
      | false => exact Or.inl rfl
      | true => exact Or.inr (h n (by omega) q)
theorem rmB_no {β : Nat → Int} {x : Int} {s n : Nat} (h : rmB β x s n = false) : ∀ k, rmB β x s (n + k) = false
  | 0 => h
  | k + 1 => by
    show rmB β x s (n + k + 1) = false
    simp only [rmB]; rw [rmB_no h k]; rfl
theorem ring_bit {f : Nat → Int} {l o : Nat} {r : Int} (ho : o < 12) : (ringS f l 0 r).testBit o = true ↔ (dist f l o : Int) ≤ r := by
  unfold ringS
  rw [setOf_bit]
  simp only [ho, decide_true, Bool.true_and, Bool.and_eq_true, decide_eq_true_eq]
  omega
theorem rm_stand {β : Nat → Int} (hf : tok β) {x : Int} (hx : 0 ≤ x) {s : Nat} : rmB β x s 12 = true ↔ standS β x s := by
  rw [rmB_all]
  unfold standS
  constructor
  · intro h l hl hs
    refine Nat.eq_of_testBit_eq fun o => ?_
    rw [Nat.testBit_and, Nat.testBit_two_pow, Bool.eq_iff_iff, Bool.and_eq_true, decide_eq_true_eq]
    by_cases ho : o < 12
    · rw [ring_bit ho]
      constructor
      · rintro ⟨h1, h2⟩
        rcases Nat.lt_trichotomy l o with e | e | e
        · have := h o ho h2 l e hs
          rw [dist_sym hf ho hl] at this; omega
        · exact e
        · have := h l hl hs o e h2; omega
      · intro e
        subst e
        rw [dist_self]
        exact ⟨by omega, hs⟩
    · have : (ringS β l 0 x).testBit o = false := Nat.testBit_lt_two_pow (Nat.lt_of_lt_of_le (ringS_lt β l 0 x) (Nat.pow_le_pow_right (n := 2) (i := 12) (by decide) (by omega)))
      rw [this]
      constructor
      · rintro ⟨h1, _⟩; exact absurd h1 (by decide)
      · intro e; omega
  · intro h a ha hs b hb hs2
    have h1 := congrArg (fun z => z.testBit b) (h a ha hs)
    simp only [Nat.testBit_and, Nat.testBit_two_pow] at h1
    rw [hs2, Bool.and_true, decide_eq_false (show ¬ a = b by omega)] at h1
    refine Decidable.byContradiction fun hc => ?_
    rw [(ring_bit (show b < 12 by omega)).mpr (by omega)] at h1
    exact absurd h1 (by decide)
theorem moN_s {P : Nat → Bool} {k : Nat} : (pc (moN P k) < pc (k + 1) ∧ P (k + 1) = true → moN P (k + 1) = k + 1) ∧ (¬ (pc (moN P k) < pc (k + 1) ∧ P (k + 1) = true) → moN P (k + 1) = moN P k) := by
  constructor
  · intro h; simp only [moN]; rw [if_pos h]
  · intro h; simp only [moN]; rw [if_neg h]
theorem m_Md_room {M : wM} {β : Nat → Int} {n : Nat} {σ : Nat → Int} {m : Nat} {τ : Nat → Int} {I J : wIm} {x w V : Int} {P : Nat → Bool} (hG : M.2.2 = RG) (hA : mdA M β n σ m τ I J) (hV : aLok β n σ m τ I J) (hx : -2147483648 ≤ x ∧ x < 2147483648) (hw : -2147483648 ≤ w ∧ w < 2147483648) (hP : ∀ s, P s = true ↔ standS β x s)
    (v1 : ¬ ((0 ≤ x ∧ x ≤ 11) ∧ (0 ≤ w ∧ w ≤ 1)) → V = -2) (v2 : (0 ≤ x ∧ x ≤ 11) → w = 0 → V = pc (moN P 4095)) (v3 : (0 ≤ x ∧ x ≤ 11) → w = 1 → V = moN P 4095) : EvI k_Md_room [.ref 47, .int (iI x), .int (iI w)] SH M (fun r M' => r = iI V ∧ mdA M' β n σ m τ I J ∧ Ofm M M') := by
  refine EvI.of 5 (by decide) (Nat.le_of_ble_eq_true rfl) rfl ?_
  have bad : ¬ ((0 ≤ x ∧ x ≤ 11) ∧ (0 ≤ w ∧ w ≤ 1)) → Rn k_Md_room none (0, 0) 19 [some (.ref 47), some (.int (iI x)), some (.int (iI w)), none, none, none, none, none] [] SH M (w_FI (0, 0) SH (fun r M' => r = iI V ∧ mdA M' β n σ m τ I J ∧ Ofm M M')) := by
    intro q
    rw [v1 q]
    refine Rn.bipush (v := iI (-2)) d_Md_room_19 (by decide +kernel) ?_
    exact Rn.iret d_Md_room_21 rfl rfl ⟨rfl, hA, Ofm.rf⟩
  refine Rn.iload_n d_Md_room_0 rfl ?_
  refine Rn.iconst (v := iI 0) d_Md_room_1 rfl ?_
  refine Rn.bipush (v := iI 11) d_Md_room_2 (by decide +kernel) ?_
  refine Rn.cSI d_Md_room_4 s_Md_room_Md_in g_708 g_709 ⟨rfl, rfl⟩ ⟨Nat.zero_le _, Nat.zero_le _⟩ (m_Md_in hx (by decide) (by decide)) rfl rfl (Nat.le_of_ble_eq_true rfl) (fun rr MM qq => ?_)
  obtain ⟨rfl, rfl⟩ := And.imp id Eq.symm qq; clear qq
  refine In.if_eq (tgt := 19) d_Md_room_7 (by decide) fl_rg (fun c7 => ?_) (fun c7 => ?_)
  · have q := fl_eq c7
    exact bad (by omega)
  · have q := fl_ne c7
    refine Rn.iload_n d_Md_room_10 rfl ?_
    refine Rn.iconst (v := iI 0) d_Md_room_11 rfl ?_
    refine Rn.iconst (v := iI 1) d_Md_room_12 rfl ?_
    refine Rn.cSI d_Md_room_13 s_Md_room_Md_in g_708 g_709 ⟨rfl, rfl⟩ ⟨Nat.zero_le _, Nat.zero_le _⟩ (m_Md_in hw (by decide) (by decide)) rfl rfl (Nat.le_of_ble_eq_true rfl) (fun rr MM qq => ?_)
    obtain ⟨rfl, rfl⟩ := And.imp id Eq.symm qq; clear qq
    refine In.if_ne (tgt := 22) d_Md_room_16 (by decide) fl_rg (fun c16 => ?_) (fun c16 => ?_)
    · have q2 := fl_ne c16
      have v2 := v2 q
      have v3 := v3 q
      have ht := hV.1.t
      have hPr : ∀ s, rmB β x s 12 = P s := fun s => by rw [Bool.eq_iff_iff, hP, rm_stand ht q.1]
      refine Rn.aload_n d_Md_room_22 rfl ?_
      refine Rn.cVV d_Md_room_23 s_Md_room_Md_asNow g_715 g_717 gs_10 ⟨rfl, rfl⟩ ⟨Nat.zero_le _, Nat.zero_le _⟩ (m_Md_asNow hG hA.1) rfl rfl z_Md c_Md (Nat.le_of_ble_eq_true rfl) (fun M1 qq => ?_)
      obtain ⟨k1, n1, _, _, _⟩ := qq
      have hG1 := k1.G hG
      have hA1 := hA.kp k1
      have hmo := fun k => moN_le P k
      have loop : ∀ (d k : Nat) (x5 x6 x7 : Option Value), k + d = 4095 → Rn k_Md_room none (0, 0) 31 [some (.ref 47), some (.int (iI x)), some (.int (iI w)), some (.int (iI (moN P k))), some (.int (iI (k + 1 : Nat))), x5, x6, x7] [] SH M1 (w_FI (0, 0) SH (fun r M' => r = iI V ∧ mdA M' β n σ m τ I J ∧ Ofm M M')) := by
        intro d
        induction d with
        | zero =>
          intro k x5 x6 x7 h1
          have : k = 4095 := by omega
          subst this
          have hm := hmo 4095
          refine Rn.iload d_Md_room_31 rfl ?_
          refine Rn.sipush (v := iI 4096) d_Md_room_33 (by decide +kernel) ?_
          refine In.icmp_ge (tgt := 157) d_Md_room_36 (by decide) ⟨by omega, by omega⟩ ⟨by omega, by omega⟩ (fun c36 => ?_) (fun c36 => ?_)
          · refine Rn.iload_n d_Md_room_157 rfl ?_
            refine In.if_ne (tgt := 168) d_Md_room_158 (by decide) ⟨by omega, by omega⟩ (fun c158 => ?_) (fun c158 => ?_)
            · rw [v3 (by omega)]
              refine Rn.iload_n d_Md_room_168 rfl ?_
              exact Rn.iret d_Md_room_169 rfl rfl ⟨rfl, hA1, k1.o⟩
            · rw [v2 (by omega)]
              refine Rn.iload_n d_Md_room_161 rfl ?_
              refine Rn.cSI d_Md_room_162 s_Md_room_Md_bits g_766 g_767 ⟨rfl, rfl⟩ ⟨Nat.zero_le _, Nat.zero_le _⟩ (m_Md_bits (show moN P 4095 < 2147483648 by omega)) rfl rfl (Nat.le_of_ble_eq_true rfl) (fun rr MM qq => ?_)
              obtain ⟨rfl, rfl⟩ := And.imp id Eq.symm qq; clear qq
              refine Rn.goto (tgt := 169) d_Md_room_165 (by decide) ?_
              exact Rn.iret d_Md_room_169 rfl rfl ⟨rfl, hA1, k1.o⟩
          · omega
        | succ d ih =>
          intro k x5 x6 x7 h1
          have ih := ih (k + 1)
          have hm := hmo k
          have hst := moN_s (P := P) (k := k)
          rw [← hPr] at hst
          have hp1 := pc_le (k + 1)
          have hp2 := pc_le (moN P k)
          generalize hmk : moN P k = F at *
          generalize moN P (k + 1) = F1 at *
          obtain ⟨s, hs⟩ : ∃ s, s = k + 1 := ⟨_, rfl⟩
          rw [← hs] at ih hst hp1 ⊢
          have fin : ∀ (B : Bool) (y6 y7 : Option Value), B = (decide (pc F < pc s) && rmB β x s 12) → Rn k_Md_room none (0, 0) 139 [some (.ref 47), some (.int (iI x)), some (.int (iI w)), some (.int (iI F)), some (.int (iI s)), some (.int (iI (if B = true then 1 else 0))), y6, y7] [] SH M1 (w_FI (0, 0) SH (fun r M' => r = iI V ∧ mdA M' β n σ m τ I J ∧ Ofm M M')) := by
            intro B y6 y7 hB
            refine Rn.iload d_Md_room_139 rfl ?_
            refine In.if_eq (tgt := 149) d_Md_room_141 (by decide) fl_rg (fun c141 => ?_) (fun c141 => ?_)
            · have z := fl_eq c141
              have hF1 : F1 = F := hst.2 (fun q => z (by rw [hB, decide_eq_true q.1, q.2]; rfl))
              rw [hF1] at ih
              refine Rn.iload_n d_Md_room_149 rfl ?_
              refine Rn.istore_n (lv1 := [_, _, _, _, _, _, _, _]) d_Md_room_150 (by decide) (w_pv rfl) rfl ?_
              refine In.inc (lv1 := [_, _, _, _, _, _, _, _]) d_Md_room_151 rfl (by decide) (w_pv rfl) rfl ?_
              refine Rn.goto (tgt := 31) d_Md_room_154 (by decide) ?_
              exact ih _ _ _ (by omega)
            · have z := fl_ne c141
              rw [hB, Bool.and_eq_true, decide_eq_true_eq] at z
              have hF1 : F1 = s := hst.1 z
              rw [hF1] at ih
              refine Rn.iload d_Md_room_144 rfl ?_
              refine Rn.goto (tgt := 150) d_Md_room_146 (by decide) ?_
              refine Rn.istore_n (lv1 := [_, _, _, _, _, _, _, _]) d_Md_room_150 (by decide) (w_pv rfl) rfl ?_
              refine In.inc (lv1 := [_, _, _, _, _, _, _, _]) d_Md_room_151 rfl (by decide) (w_pv rfl) rfl ?_
              refine Rn.goto (tgt := 31) d_Md_room_154 (by decide) ?_
              exact ih _ _ _ (by omega)
          have outer : ∀ (e a : Nat) (B : Bool) (y7 : Option Value), a + e = 12 → B = (decide (pc F < pc s) && rmB β x s a) → Rn k_Md_room none (0, 0) 61 [some (.ref 47), some (.int (iI x)), some (.int (iI w)), some (.int (iI F)), some (.int (iI s)), some (.int (iI (if B = true then 1 else 0))), some (.int (iI a)), y7] [] SH M1 (w_FI (0, 0) SH (fun r M' => r = iI V ∧ mdA M' β n σ m τ I J ∧ Ofm M M')) := by
            intro e
            induction e with
            | zero =>
              intro a B y7 g1 g2
              have : a = 12 := by omega
              subst this
              refine Rn.iload d_Md_room_61 rfl ?_
              refine Rn.bipush (v := iI 12) d_Md_room_63 (by decide +kernel) ?_
              refine In.icmp_ge (tgt := 139) d_Md_room_65 (by decide) ⟨by omega, by omega⟩ ⟨by omega, by omega⟩ (fun c65 => ?_) (fun c65 => ?_)
              · exact fin B _ _ g2
              · omega
            | succ e ihe =>
              intro a B y7 g1 g2
              have ihe := ihe (a + 1)
              refine Rn.iload d_Md_room_61 rfl ?_
              refine Rn.bipush (v := iI 12) d_Md_room_63 (by decide +kernel) ?_
              refine In.icmp_ge (tgt := 139) d_Md_room_65 (by decide) ⟨by omega, by omega⟩ ⟨by omega, by omega⟩ (fun c65 => ?_) (fun c65 => ?_)
              · omega
              · refine Rn.iload d_Md_room_68 rfl ?_
                refine In.if_eq (tgt := 139) d_Md_room_70 (by decide) fl_rg (fun c70 => ?_) (fun c70 => ?_)
                · have z := Bool.eq_false_iff.mpr (fl_eq c70)
                  refine fin B _ _ ?_
                  rw [z]
                  cases hD : decide (pc F < pc s) with
                  | false => rfl
                  | true =>
                    rw [z, hD, Bool.true_and] at g2
                    have := rmB_no g2.symm (12 - a)
                    rw [show a + (12 - a) = 12 by omega] at this
                    rw [this]; rfl
                · have z := fl_ne c70
                  have g2' := g2
                  rw [z] at g2'
                  have hz := (Bool.and_eq_true _ _).mp g2'.symm
                  have hrs : (decide (pc F < pc s) && rmB β x s (a + 1)) = (!s.testBit a || rmI β x s a a) := by
                    simp only [rmB]; rw [hz.1, hz.2, Bool.true_and, Bool.true_and]
                  rw [z]
                  have inner : ∀ (i b : Nat) (B2 : Bool), b + i = a → B2 = rmI β x s a b → (s.testBit a = true ∨ b = 0) → Rn k_Md_room none (0, 0) 76 [some (.ref 47), some (.int (iI x)), some (.int (iI w)), some (.int (iI F)), some (.int (iI s)), some (.int (iI (if B2 = true then 1 else 0))), some (.int (iI a)), some (.int (iI b))] [] SH M1 (w_FI (0, 0) SH (fun r M' => r = iI V ∧ mdA M' β n σ m τ I J ∧ Ofm M M')) := by
                    intro i
                    induction i with
                    | zero =>
                      intro b B2 j1 j2 j3
                      have : b = a := by omega
                      subst this
                      refine Rn.iload d_Md_room_76 rfl ?_
                      refine Rn.iload d_Md_room_78 rfl ?_
                      refine In.icmp_ge (tgt := 133) d_Md_room_80 (by decide) ⟨by omega, by omega⟩ ⟨by omega, by omega⟩ (fun c80 => ?_) (fun c80 => ?_)
                      · refine In.inc (lv1 := [_, _, _, _, _, _, _, _]) d_Md_room_133 rfl (by decide) (w_pv rfl) rfl ?_
                        refine Rn.goto (tgt := 61) d_Md_room_136 (by decide) ?_
                        refine ihe B2 _ (by omega) ?_
                        rw [hrs, j2]
                        rcases j3 with j | j
                        · rw [j]; rfl
                        · subst j; rw [show rmI β x s 0 0 = true from rfl, Bool.or_true]
                      · omega
                    | succ i ihi =>
                      intro b B2 j1 j2 j3
                      have ihi := ihi (b + 1)
                      refine Rn.iload d_Md_room_76 rfl ?_
                      refine Rn.iload d_Md_room_78 rfl ?_
                      refine In.icmp_ge (tgt := 133) d_Md_room_80 (by decide) ⟨by omega, by omega⟩ ⟨by omega, by omega⟩ (fun c80 => ?_) (fun c80 => ?_)
                      · omega
                      · refine Rn.iload d_Md_room_83 rfl ?_
                        refine Rn.iload d_Md_room_85 rfl ?_
                        refine Rn.cSI d_Md_room_87 s_Md_room_Md_has g_777 g_778 ⟨rfl, rfl⟩ ⟨Nat.zero_le _, Nat.zero_le _⟩ (m_Md_has (show s < 2147483648 by omega) (show a < 31 by omega)) rfl rfl (Nat.le_of_ble_eq_true rfl) (fun rr MM qq => ?_)
                        obtain ⟨rfl, rfl⟩ := And.imp id Eq.symm qq; clear qq
                        refine In.if_eq (tgt := 133) d_Md_room_90 (by decide) fl_rg (fun c90 => ?_) (fun c90 => ?_)
                        · have za := fl_eq c90
                          have hb0 : b = 0 := by
                            rcases j3 with j | j
                            · exact absurd j za
                            · exact j
                          subst hb0
                          refine In.inc (lv1 := [_, _, _, _, _, _, _, _]) d_Md_room_133 rfl (by decide) (w_pv rfl) rfl ?_
                          refine Rn.goto (tgt := 61) d_Md_room_136 (by decide) ?_
                          refine ihe B2 _ (by omega) ?_
                          rw [hrs, Bool.eq_false_iff.mpr za, j2]; rfl
                        · have za := fl_ne c90
                          have stp : rmI β x s a (b + 1) = (rmI β x s a b && (!s.testBit b || decide (x < dist β a b))) := rfl
                          have hd := dist_22 ht (show a < 12 by omega) (show b < 12 by omega)
                          refine Rn.iload d_Md_room_93 rfl ?_
                          refine In.if_eq (tgt := 124) d_Md_room_95 (by decide) fl_rg (fun c95 => ?_) (fun c95 => ?_)
                          · have zb := Bool.eq_false_iff.mpr (fl_eq c95)
                            have ihi := ihi false (by omega) (by rw [stp, ← j2, zb]; rfl) (Or.inl za)
                            refine Rn.iconst (v := iI 0) d_Md_room_124 rfl ?_
                            refine Rn.istore (lv1 := [_, _, _, _, _, _, _, _]) d_Md_room_125 (by decide) (w_pv rfl) rfl ?_
                            refine In.inc (lv1 := [_, _, _, _, _, _, _, _]) d_Md_room_127 rfl (by decide) (w_pv rfl) rfl ?_
                            refine Rn.goto (tgt := 76) d_Md_room_130 (by decide) ?_
                            exact ihi
                          · have zb := fl_ne c95
                            rw [← j2, zb, Bool.true_and] at stp
                            refine Rn.iload d_Md_room_98 rfl ?_
                            refine Rn.iload d_Md_room_100 rfl ?_
                            refine Rn.cSI d_Md_room_102 s_Md_room_Md_has g_777 g_778 ⟨rfl, rfl⟩ ⟨Nat.zero_le _, Nat.zero_le _⟩ (m_Md_has (show s < 2147483648 by omega) (show b < 31 by omega)) rfl rfl (Nat.le_of_ble_eq_true rfl) (fun rr MM qq => ?_)
                            obtain ⟨rfl, rfl⟩ := And.imp id Eq.symm qq; clear qq
                            refine In.if_eq (tgt := 120) d_Md_room_105 (by decide) fl_rg (fun c105 => ?_) (fun c105 => ?_)
                            · have zc := Bool.eq_false_iff.mpr (fl_eq c105)
                              have ihi := ihi true (by omega) (by rw [stp, zc]; rfl) (Or.inl za)
                              refine Rn.iconst (v := iI 1) d_Md_room_120 rfl ?_
                              refine Rn.goto (tgt := 125) d_Md_room_121 (by decide) ?_
                              refine Rn.istore (lv1 := [_, _, _, _, _, _, _, _]) d_Md_room_125 (by decide) (w_pv rfl) rfl ?_
                              refine In.inc (lv1 := [_, _, _, _, _, _, _, _]) d_Md_room_127 rfl (by decide) (w_pv rfl) rfl ?_
                              refine Rn.goto (tgt := 76) d_Md_room_130 (by decide) ?_
                              exact ihi
                            · have zc := fl_ne c105
                              refine Rn.aload_n d_Md_room_108 rfl ?_
                              refine Rn.iload d_Md_room_109 rfl ?_
                              refine Rn.iload d_Md_room_111 rfl ?_
                              refine Rn.cVI d_Md_room_113 s_Md_room_Md_apartOf g_769 g_771 gs_18 ⟨rfl, rfl⟩ ⟨Nat.zero_le _, Nat.zero_le _⟩ (m_Md_apartOf hG1 n1 ht (show a < 12 by omega) (show b < 12 by omega)) rfl rfl z_Md c_Md (Nat.le_of_ble_eq_true rfl) (fun rr MM qq => ?_)
                              obtain ⟨rfl, rfl⟩ := And.imp id Eq.symm qq; clear qq
                              refine Rn.iload_n d_Md_room_116 rfl ?_
                              refine In.icmp_le (tgt := 124) d_Md_room_117 (by decide) ⟨by omega, by omega⟩ ⟨by omega, by omega⟩ (fun c117 => ?_) (fun c117 => ?_)
                              · have ihi := ihi false (by omega) (by rw [stp, zc, decide_eq_false (show ¬ x < dist β a b by omega)]; rfl) (Or.inl za)
                                refine Rn.iconst (v := iI 0) d_Md_room_124 rfl ?_
                                refine Rn.istore (lv1 := [_, _, _, _, _, _, _, _]) d_Md_room_125 (by decide) (w_pv rfl) rfl ?_
                                refine In.inc (lv1 := [_, _, _, _, _, _, _, _]) d_Md_room_127 rfl (by decide) (w_pv rfl) rfl ?_
                                refine Rn.goto (tgt := 76) d_Md_room_130 (by decide) ?_
                                exact ihi
                              · have ihi := ihi true (by omega) (by rw [stp, decide_eq_true (show x < dist β a b by omega), Bool.or_true]) (Or.inl za)
                                refine Rn.iconst (v := iI 1) d_Md_room_120 rfl ?_
                                refine Rn.goto (tgt := 125) d_Md_room_121 (by decide) ?_
                                refine Rn.istore (lv1 := [_, _, _, _, _, _, _, _]) d_Md_room_125 (by decide) (w_pv rfl) rfl ?_
                                refine In.inc (lv1 := [_, _, _, _, _, _, _, _]) d_Md_room_127 rfl (by decide) (w_pv rfl) rfl ?_
                                refine Rn.goto (tgt := 76) d_Md_room_130 (by decide) ?_
                                exact ihi
                  refine Rn.iconst (v := iI 0) d_Md_room_73 rfl ?_
                  refine Rn.istore (lv1 := [_, _, _, _, _, _, _, _]) d_Md_room_74 (by decide) (w_pv rfl) rfl ?_
                  exact inner a 0 true (by omega) rfl (Or.inr rfl)
          refine Rn.iload d_Md_room_31 rfl ?_
          refine Rn.sipush (v := iI 4096) d_Md_room_33 (by decide +kernel) ?_
          refine In.icmp_ge (tgt := 157) d_Md_room_36 (by decide) ⟨by omega, by omega⟩ ⟨by omega, by omega⟩ (fun c36 => ?_) (fun c36 => ?_)
          · omega
          · refine Rn.iload d_Md_room_39 rfl ?_
            refine Rn.cSI d_Md_room_41 s_Md_room_Md_bits g_766 g_767 ⟨rfl, rfl⟩ ⟨Nat.zero_le _, Nat.zero_le _⟩ (m_Md_bits (show s < 2147483648 by omega)) rfl rfl (Nat.le_of_ble_eq_true rfl) (fun rr MM qq => ?_)
            obtain ⟨rfl, rfl⟩ := And.imp id Eq.symm qq; clear qq
            refine Rn.iload_n d_Md_room_44 rfl ?_
            refine Rn.cSI d_Md_room_45 s_Md_room_Md_bits g_766 g_767 ⟨rfl, rfl⟩ ⟨Nat.zero_le _, Nat.zero_le _⟩ (m_Md_bits (show F < 2147483648 by omega)) rfl rfl (Nat.le_of_ble_eq_true rfl) (fun rr MM qq => ?_)
            obtain ⟨rfl, rfl⟩ := And.imp id Eq.symm qq; clear qq
            refine In.icmp_le (tgt := 55) d_Md_room_48 (by decide) ⟨by omega, by omega⟩ ⟨by omega, by omega⟩ (fun c48 => ?_) (fun c48 => ?_)
            · refine Rn.iconst (v := iI 0) d_Md_room_55 rfl ?_
              refine Rn.istore (lv1 := [_, _, _, _, _, _, _, _]) d_Md_room_56 (by decide) (w_pv rfl) rfl ?_
              refine Rn.iconst (v := iI 0) d_Md_room_58 rfl ?_
              refine Rn.istore (lv1 := [_, _, _, _, _, _, _, _]) d_Md_room_59 (by decide) (w_pv rfl) rfl ?_
              exact outer 12 0 false _ rfl (by rw [decide_eq_false (show ¬ pc F < pc s by omega)]; rfl)
            · refine Rn.iconst (v := iI 1) d_Md_room_51 rfl ?_
              refine Rn.goto (tgt := 56) d_Md_room_52 (by decide) ?_
              refine Rn.istore (lv1 := [_, _, _, _, _, _, _, _]) d_Md_room_56 (by decide) (w_pv rfl) rfl ?_
              refine Rn.iconst (v := iI 0) d_Md_room_58 rfl ?_
              refine Rn.istore (lv1 := [_, _, _, _, _, _, _, _]) d_Md_room_59 (by decide) (w_pv rfl) rfl ?_
              exact outer 12 0 true _ rfl (by rw [decide_eq_true (show pc F < pc s by omega)]; rfl)
      refine Rn.iconst (v := iI 0) d_Md_room_26 rfl ?_
      refine Rn.istore_n (lv1 := [_, _, _, _, _, _, _, _]) d_Md_room_27 (by decide) (w_pv rfl) rfl ?_
      refine Rn.iconst (v := iI 1) d_Md_room_28 rfl ?_
      refine Rn.istore (lv1 := [_, _, _, _, _, _, _, _]) d_Md_room_29 (by decide) (w_pv rfl) rfl ?_
      exact loop 4095 0 _ _ _ rfl
    · have q2 := fl_eq c16
      exact bad (by omega)
/-! candles -/
def liB (β : Nat → Int) (r : Int) (s l : Nat) : Nat → Bool
  | 0 => false
  | c + 1 => liB β r s l c || (s.testBit c && decide ((dist β l c : Int) ≤ r))
def caB (β : Nat → Int) (r : Int) (s : Nat) : Nat → Bool
  | 0 => true
  | l + 1 => caB β r s l && liB β r s l 12
theorem liB_ex {β : Nat → Int} {r : Int} {s l : Nat} : ∀ n, liB β r s l n = true ↔ ∃ c, c < n ∧ s.testBit c = true ∧ (dist β l c : Int) ≤ r
  | 0 => by simp [liB]
  | n + 1 => by
    have ih := liB_ex (β := β) (r := r) (s := s) (l := l) n
    simp only [liB, Bool.and_eq_true, Bool.or_eq_true, decide_eq_true_eq]
    rw [ih]
    constructor
    · rintro (⟨c, h1, h2⟩ | h)
      · exact ⟨c, by omega, h2⟩
      · exact ⟨n, by omega, h⟩
    · rintro ⟨c, h1, h2⟩
      by_cases e : c = n
      · subst e; exact Or.inr h2
      · exact Or.inl ⟨c, by omega, h2⟩
theorem caB_all {β : Nat → Int} {r : Int} {s : Nat} : ∀ n, caB β r s n = true ↔ ∀ l, l < n → liB β r s l 12 = true
  | 0 => by simp [caB]
  | n + 1 => by
    have ih := caB_all (β := β) (r := r) (s := s) n
    simp only [caB, Bool.and_eq_true]
    rw [ih]
    constructor
    · rintro ⟨h1, h2⟩ l hl
      by_cases e : l = n
      · subst e; exact h2
      · exact h1 l (by omega)
    · intro h
      exact ⟨fun l hl => h l (by omega), h n (by omega)⟩
theorem caB_no {β : Nat → Int} {r : Int} {s n : Nat} (h : caB β r s n = false) : ∀ k, caB β r s (n + k) = false
  | 0 => h
  | k + 1 => by
    show caB β r s (n + k + 1) = false
    simp only [caB]; rw [caB_no h k]; rfl
theorem litN_bit {f : Nat → Int} {r : Int} {s l : Nat} (hl : l < 12) : ∀ n, (litN f r s n).testBit l = true ↔ ∃ c, c < n ∧ s.testBit c = true ∧ (dist f c l : Int) ≤ r
  | 0 => by simp [litN]
  | n + 1 => by
    have ih := litN_bit (f := f) (r := r) (s := s) hl n
    simp only [litN]
    by_cases h : s.testBit n = true
    · rw [if_pos h, Nat.testBit_or, Bool.or_eq_true, ih, ring_bit hl]
      constructor
      · rintro (⟨c, h1, h2⟩ | h2)
        · exact ⟨c, by omega, h2⟩
        · exact ⟨n, by omega, h, h2⟩
      · rintro ⟨c, h1, h2, h3⟩
        by_cases e : c = n
        · subst e; exact Or.inr h3
        · exact Or.inl ⟨c, by omega, h2, h3⟩
    · rw [if_neg h, ih]
      constructor
      · rintro ⟨c, h1, h2⟩; exact ⟨c, by omega, h2⟩
      · rintro ⟨c, h1, h2, h3⟩
        by_cases e : c = n
        · subst e; exact absurd h2 h
        · exact ⟨c, by omega, h2, h3⟩
theorem ca_lit {β : Nat → Int} (hf : tok β) {r : Int} {s : Nat} : caB β r s 12 = true ↔ litN β r s 12 = 4095 := by
  rw [caB_all]
  constructor
  · intro h
    refine Nat.eq_of_testBit_eq fun l => ?_
    by_cases hl : l < 12
    · rw [bit_4095 l hl, litN_bit hl]
      obtain ⟨c, h1, h2, h3⟩ := (liB_ex 12).mp (h l hl)
      exact ⟨c, h1, h2, by rw [dist_sym hf h1 hl]; exact h3⟩
    · have e1 : (litN β r s 12).testBit l = false := Nat.testBit_lt_two_pow (Nat.lt_of_lt_of_le (litN_lt β r s 12) (Nat.pow_le_pow_right (n := 2) (i := 12) (by decide) (by omega)))
      have e2 : (4095 : Nat).testBit l = false := Nat.testBit_lt_two_pow (Nat.lt_of_lt_of_le (by decide : 4095 < 2 ^ 12) (Nat.pow_le_pow_right (n := 2) (i := 12) (by decide) (by omega)))
      rw [e1, e2]
  · intro h l hl
    have h2 := bit_4095 l hl
    rw [← h, litN_bit hl] at h2
    obtain ⟨c, h3, h4, h5⟩ := h2
    exact (liB_ex 12).mpr ⟨c, h3, h4, by rw [dist_sym hf hl h3]; exact h5⟩
theorem feN_s {P : Nat → Bool} {k : Nat} : (pc (k + 1) < pc (feN P k) ∧ P (k + 1) = true → feN P (k + 1) = k + 1) ∧ (¬ (pc (k + 1) < pc (feN P k) ∧ P (k + 1) = true) → feN P (k + 1) = feN P k) := by
  constructor
  · intro h; simp only [feN]; rw [if_pos h]
  · intro h; simp only [feN]; rw [if_neg h]
theorem m_Md_candles {M : wM} {β : Nat → Int} {n : Nat} {σ : Nat → Int} {m : Nat} {τ : Nat → Int} {I J : wIm} {x w V : Int} {P : Nat → Bool} (hG : M.2.2 = RG) (hA : mdA M β n σ m τ I J) (hV : aLok β n σ m τ I J) (hx : -2147483648 ≤ x ∧ x < 2147483648) (hw : -2147483648 ≤ w ∧ w < 2147483648) (hP : ∀ s, P s = true ↔ litN β x s 12 = 4095)
    (v1 : ¬ ((0 ≤ x ∧ x ≤ 11) ∧ (0 ≤ w ∧ w ≤ 1)) → V = -2) (v2 : (0 ≤ x ∧ x ≤ 11) → w = 0 → V = pc (feN P 4094)) (v3 : (0 ≤ x ∧ x ≤ 11) → w = 1 → V = feN P 4094) : EvI k_Md_candles [.ref 47, .int (iI x), .int (iI w)] SH M (fun r M' => r = iI V ∧ mdA M' β n σ m τ I J ∧ Ofm M M') := by
  refine EvI.of 6 (by decide) (Nat.le_of_ble_eq_true rfl) rfl ?_
  have bad : ¬ ((0 ≤ x ∧ x ≤ 11) ∧ (0 ≤ w ∧ w ≤ 1)) → Rn k_Md_candles none (0, 0) 19 [some (.ref 47), some (.int (iI x)), some (.int (iI w)), none, none, none, none, none, none] [] SH M (w_FI (0, 0) SH (fun r M' => r = iI V ∧ mdA M' β n σ m τ I J ∧ Ofm M M')) := by
    intro q
    rw [v1 q]
    refine Rn.bipush (v := iI (-2)) d_Md_candles_19 (by decide +kernel) ?_
    exact Rn.iret d_Md_candles_21 rfl rfl ⟨rfl, hA, Ofm.rf⟩
  refine Rn.iload_n d_Md_candles_0 rfl ?_
  refine Rn.iconst (v := iI 0) d_Md_candles_1 rfl ?_
  refine Rn.bipush (v := iI 11) d_Md_candles_2 (by decide +kernel) ?_
  refine Rn.cSI d_Md_candles_4 s_Md_candles_Md_in g_708 g_709 ⟨rfl, rfl⟩ ⟨Nat.zero_le _, Nat.zero_le _⟩ (m_Md_in hx (by decide) (by decide)) rfl rfl (Nat.le_of_ble_eq_true rfl) (fun rr MM qq => ?_)
  obtain ⟨rfl, rfl⟩ := And.imp id Eq.symm qq; clear qq
  refine In.if_eq (tgt := 19) d_Md_candles_7 (by decide) fl_rg (fun c7 => ?_) (fun c7 => ?_)
  · have q := fl_eq c7
    exact bad (by omega)
  · have q := fl_ne c7
    refine Rn.iload_n d_Md_candles_10 rfl ?_
    refine Rn.iconst (v := iI 0) d_Md_candles_11 rfl ?_
    refine Rn.iconst (v := iI 1) d_Md_candles_12 rfl ?_
    refine Rn.cSI d_Md_candles_13 s_Md_candles_Md_in g_708 g_709 ⟨rfl, rfl⟩ ⟨Nat.zero_le _, Nat.zero_le _⟩ (m_Md_in hw (by decide) (by decide)) rfl rfl (Nat.le_of_ble_eq_true rfl) (fun rr MM qq => ?_)
    obtain ⟨rfl, rfl⟩ := And.imp id Eq.symm qq; clear qq
    refine In.if_ne (tgt := 22) d_Md_candles_16 (by decide) fl_rg (fun c16 => ?_) (fun c16 => ?_)
    · have q2 := fl_ne c16
      have v2 := v2 q
      have v3 := v3 q
      have ht := hV.1.t
      have hPr : ∀ s, caB β x s 12 = P s := fun s => by rw [Bool.eq_iff_iff, hP, ca_lit ht]
      refine Rn.aload_n d_Md_candles_22 rfl ?_
      refine Rn.cVV d_Md_candles_23 s_Md_candles_Md_asNow g_715 g_717 gs_10 ⟨rfl, rfl⟩ ⟨Nat.zero_le _, Nat.zero_le _⟩ (m_Md_asNow hG hA.1) rfl rfl z_Md c_Md (Nat.le_of_ble_eq_true rfl) (fun M1 qq => ?_)
      obtain ⟨k1, n1, _, _, _⟩ := qq
      have hG1 := k1.G hG
      have hA1 := hA.kp k1
      have hmo := fun k hk => feN_le P k hk
      have loop : ∀ (d k : Nat) (x5 x6 x7 x8 : Option Value), k + d = 4094 → Rn k_Md_candles none (0, 0) 33 [some (.ref 47), some (.int (iI x)), some (.int (iI w)), some (.int (iI (feN P k))), some (.int (iI (k + 1 : Nat))), x5, x6, x7, x8] [] SH M1 (w_FI (0, 0) SH (fun r M' => r = iI V ∧ mdA M' β n σ m τ I J ∧ Ofm M M')) := by
        intro d
        induction d with
        | zero =>
          intro k x5 x6 x7 x8 h1
          have : k = 4094 := by omega
          subst this
          have hm := hmo 4094 (by decide)
          refine Rn.iload d_Md_candles_33 rfl ?_
          refine Rn.sipush (v := iI 4095) d_Md_candles_35 (by decide +kernel) ?_
          refine In.icmp_ge (tgt := 156) d_Md_candles_38 (by decide) ⟨by omega, by omega⟩ ⟨by omega, by omega⟩ (fun c38 => ?_) (fun c38 => ?_)
          · refine Rn.iload_n d_Md_candles_156 rfl ?_
            refine In.if_ne (tgt := 167) d_Md_candles_157 (by decide) ⟨by omega, by omega⟩ (fun c157 => ?_) (fun c157 => ?_)
            · rw [v3 (by omega)]
              refine Rn.iload_n d_Md_candles_167 rfl ?_
              exact Rn.iret d_Md_candles_168 rfl rfl ⟨rfl, hA1, k1.o⟩
            · rw [v2 (by omega)]
              refine Rn.iload_n d_Md_candles_160 rfl ?_
              refine Rn.cSI d_Md_candles_161 s_Md_candles_Md_bits g_766 g_767 ⟨rfl, rfl⟩ ⟨Nat.zero_le _, Nat.zero_le _⟩ (m_Md_bits (show feN P 4094 < 2147483648 by omega)) rfl rfl (Nat.le_of_ble_eq_true rfl) (fun rr MM qq => ?_)
              obtain ⟨rfl, rfl⟩ := And.imp id Eq.symm qq; clear qq
              refine Rn.goto (tgt := 168) d_Md_candles_164 (by decide) ?_
              exact Rn.iret d_Md_candles_168 rfl rfl ⟨rfl, hA1, k1.o⟩
          · omega
        | succ d ih =>
          intro k x5 x6 x7 x8 h1
          have ih := ih (k + 1)
          have hm := hmo k (by omega)
          have hst := feN_s (P := P) (k := k)
          rw [← hPr] at hst
          have hp1 := pc_le (k + 1)
          have hp2 := pc_le (feN P k)
          generalize hmk : feN P k = F at *
          generalize feN P (k + 1) = F1 at *
          obtain ⟨s, hs⟩ : ∃ s, s = k + 1 := ⟨_, rfl⟩
          rw [← hs] at ih hst hp1 ⊢
          have fin : ∀ (B : Bool) (y6 y7 y8 : Option Value), B = (decide (pc s < pc F) && caB β x s 12) → Rn k_Md_candles none (0, 0) 138 [some (.ref 47), some (.int (iI x)), some (.int (iI w)), some (.int (iI F)), some (.int (iI s)), some (.int (iI (if B = true then 1 else 0))), y6, y7, y8] [] SH M1 (w_FI (0, 0) SH (fun r M' => r = iI V ∧ mdA M' β n σ m τ I J ∧ Ofm M M')) := by
            intro B y6 y7 y8 hB
            refine Rn.iload d_Md_candles_138 rfl ?_
            refine In.if_eq (tgt := 148) d_Md_candles_140 (by decide) fl_rg (fun c140 => ?_) (fun c140 => ?_)
            · have z := fl_eq c140
              have hF1 : F1 = F := hst.2 (fun q => z (by rw [hB, decide_eq_true q.1, q.2]; rfl))
              rw [hF1] at ih
              refine Rn.iload_n d_Md_candles_148 rfl ?_
              refine Rn.istore_n (lv1 := [_, _, _, _, _, _, _, _, _]) d_Md_candles_149 (by decide) (w_pv rfl) rfl ?_
              refine In.inc (lv1 := [_, _, _, _, _, _, _, _, _]) d_Md_candles_150 rfl (by decide) (w_pv rfl) rfl ?_
              refine Rn.goto (tgt := 33) d_Md_candles_153 (by decide) ?_
              exact ih _ _ _ _ (by omega)
            · have z := fl_ne c140
              rw [hB, Bool.and_eq_true, decide_eq_true_eq] at z
              have hF1 : F1 = s := hst.1 z
              rw [hF1] at ih
              refine Rn.iload d_Md_candles_143 rfl ?_
              refine Rn.goto (tgt := 149) d_Md_candles_145 (by decide) ?_
              refine Rn.istore_n (lv1 := [_, _, _, _, _, _, _, _, _]) d_Md_candles_149 (by decide) (w_pv rfl) rfl ?_
              refine In.inc (lv1 := [_, _, _, _, _, _, _, _, _]) d_Md_candles_150 rfl (by decide) (w_pv rfl) rfl ?_
              refine Rn.goto (tgt := 33) d_Md_candles_153 (by decide) ?_
              exact ih _ _ _ _ (by omega)
          have outer : ∀ (e l : Nat) (B : Bool) (y7 y8 : Option Value), l + e = 12 → B = (decide (pc s < pc F) && caB β x s l) → Rn k_Md_candles none (0, 0) 63 [some (.ref 47), some (.int (iI x)), some (.int (iI w)), some (.int (iI F)), some (.int (iI s)), some (.int (iI (if B = true then 1 else 0))), some (.int (iI l)), y7, y8] [] SH M1 (w_FI (0, 0) SH (fun r M' => r = iI V ∧ mdA M' β n σ m τ I J ∧ Ofm M M')) := by
            intro e
            induction e with
            | zero =>
              intro l B y7 y8 g1 g2
              have : l = 12 := by omega
              subst this
              refine Rn.iload d_Md_candles_63 rfl ?_
              refine Rn.bipush (v := iI 12) d_Md_candles_65 (by decide +kernel) ?_
              refine In.icmp_ge (tgt := 138) d_Md_candles_67 (by decide) ⟨by omega, by omega⟩ ⟨by omega, by omega⟩ (fun c67 => ?_) (fun c67 => ?_)
              · exact fin B _ _ _ g2
              · omega
            | succ e ihe =>
              intro l B y7 y8 g1 g2
              have ihe := ihe (l + 1)
              refine Rn.iload d_Md_candles_63 rfl ?_
              refine Rn.bipush (v := iI 12) d_Md_candles_65 (by decide +kernel) ?_
              refine In.icmp_ge (tgt := 138) d_Md_candles_67 (by decide) ⟨by omega, by omega⟩ ⟨by omega, by omega⟩ (fun c67 => ?_) (fun c67 => ?_)
              · omega
              · refine Rn.iload d_Md_candles_70 rfl ?_
                refine In.if_eq (tgt := 138) d_Md_candles_72 (by decide) fl_rg (fun c72 => ?_) (fun c72 => ?_)
                · have z := Bool.eq_false_iff.mpr (fl_eq c72)
                  refine fin B _ _ _ ?_
                  rw [z]
                  cases hD : decide (pc s < pc F) with
                  | false => rfl
                  | true =>
                    rw [z, hD, Bool.true_and] at g2
                    have := caB_no g2.symm (12 - l)
                    rw [show l + (12 - l) = 12 by omega] at this
                    rw [this]; rfl
                · have z := fl_ne c72
                  have g2' := g2
                  rw [z] at g2'
                  have hz := (Bool.and_eq_true _ _).mp g2'.symm
                  have hrs : (decide (pc s < pc F) && caB β x s (l + 1)) = liB β x s l 12 := by
                    simp only [caB]; rw [hz.1, hz.2, Bool.true_and, Bool.true_and]
                  have inner : ∀ (i c : Nat) (B2 : Bool), c + i = 12 → B2 = liB β x s l c → Rn k_Md_candles none (0, 0) 81 [some (.ref 47), some (.int (iI x)), some (.int (iI w)), some (.int (iI F)), some (.int (iI s)), some (.int (iI (if B = true then 1 else 0))), some (.int (iI l)), some (.int (iI (if B2 = true then 1 else 0))), some (.int (iI c))] [] SH M1 (w_FI (0, 0) SH (fun r M' => r = iI V ∧ mdA M' β n σ m τ I J ∧ Ofm M M')) := by
                    intro i
                    induction i with
                    | zero =>
                      intro c B2 j1 j2
                      have : c = 12 := by omega
                      subst this
                      have ihe := ihe B2 (some (.int (iI (if B2 = true then 1 else 0)))) (some (.int (iI (12 : Nat)))) (by omega) (by rw [hrs, j2])
                      refine Rn.iload d_Md_candles_81 rfl ?_
                      refine Rn.bipush (v := iI 12) d_Md_candles_83 (by decide +kernel) ?_
                      refine In.icmp_ge (tgt := 128) d_Md_candles_85 (by decide) ⟨by omega, by omega⟩ ⟨by omega, by omega⟩ (fun c85 => ?_) (fun c85 => ?_)
                      · refine Rn.iload d_Md_candles_128 rfl ?_
                        refine Rn.istore (lv1 := [_, _, _, _, _, _, _, _, _]) d_Md_candles_130 (by decide) (w_pv rfl) rfl ?_
                        refine In.inc (lv1 := [_, _, _, _, _, _, _, _, _]) d_Md_candles_132 rfl (by decide) (w_pv rfl) rfl ?_
                        refine Rn.goto (tgt := 63) d_Md_candles_135 (by decide) ?_
                        exact ihe
                      · omega
                    | succ i ihi =>
                      intro c B2 j1 j2
                      have ihi := ihi (c + 1)
                      have stp : liB β x s l (c + 1) = (liB β x s l c || (s.testBit c && decide ((dist β l c : Int) ≤ x))) := rfl
                      have hd := dist_22 ht (show l < 12 by omega) (show c < 12 by omega)
                      refine Rn.iload d_Md_candles_81 rfl ?_
                      refine Rn.bipush (v := iI 12) d_Md_candles_83 (by decide +kernel) ?_
                      refine In.icmp_ge (tgt := 128) d_Md_candles_85 (by decide) ⟨by omega, by omega⟩ ⟨by omega, by omega⟩ (fun c85 => ?_) (fun c85 => ?_)
                      · omega
                      · refine Rn.iload d_Md_candles_88 rfl ?_
                        refine In.if_ne (tgt := 115) d_Md_candles_90 (by decide) fl_rg (fun c90 => ?_) (fun c90 => ?_)
                        · have zb := fl_ne c90
                          have ihi := ihi true (by omega) (by rw [stp, ← j2, zb]; rfl)
                          refine Rn.iconst (v := iI 1) d_Md_candles_115 rfl ?_
                          refine Rn.goto (tgt := 120) d_Md_candles_116 (by decide) ?_
                          refine Rn.istore (lv1 := [_, _, _, _, _, _, _, _, _]) d_Md_candles_120 (by decide) (w_pv rfl) rfl ?_
                          refine In.inc (lv1 := [_, _, _, _, _, _, _, _, _]) d_Md_candles_122 rfl (by decide) (w_pv rfl) rfl ?_
                          refine Rn.goto (tgt := 81) d_Md_candles_125 (by decide) ?_
                          exact ihi
                        · have zb := Bool.eq_false_iff.mpr (fl_eq c90)
                          rw [← j2, zb, Bool.false_or] at stp
                          refine Rn.iload d_Md_candles_93 rfl ?_
                          refine Rn.iload d_Md_candles_95 rfl ?_
                          refine Rn.cSI d_Md_candles_97 s_Md_candles_Md_has g_777 g_778 ⟨rfl, rfl⟩ ⟨Nat.zero_le _, Nat.zero_le _⟩ (m_Md_has (show s < 2147483648 by omega) (show c < 31 by omega)) rfl rfl (Nat.le_of_ble_eq_true rfl) (fun rr MM qq => ?_)
                          obtain ⟨rfl, rfl⟩ := And.imp id Eq.symm qq; clear qq
                          refine In.if_eq (tgt := 119) d_Md_candles_100 (by decide) fl_rg (fun c100 => ?_) (fun c100 => ?_)
                          · have zc := Bool.eq_false_iff.mpr (fl_eq c100)
                            have ihi := ihi false (by omega) (by rw [stp, zc]; rfl)
                            refine Rn.iconst (v := iI 0) d_Md_candles_119 rfl ?_
                            refine Rn.istore (lv1 := [_, _, _, _, _, _, _, _, _]) d_Md_candles_120 (by decide) (w_pv rfl) rfl ?_
                            refine In.inc (lv1 := [_, _, _, _, _, _, _, _, _]) d_Md_candles_122 rfl (by decide) (w_pv rfl) rfl ?_
                            refine Rn.goto (tgt := 81) d_Md_candles_125 (by decide) ?_
                            exact ihi
                          · have zc := fl_ne c100
                            refine Rn.aload_n d_Md_candles_103 rfl ?_
                            refine Rn.iload d_Md_candles_104 rfl ?_
                            refine Rn.iload d_Md_candles_106 rfl ?_
                            refine Rn.cVI d_Md_candles_108 s_Md_candles_Md_apartOf g_769 g_771 gs_18 ⟨rfl, rfl⟩ ⟨Nat.zero_le _, Nat.zero_le _⟩ (m_Md_apartOf hG1 n1 ht (show l < 12 by omega) (show c < 12 by omega)) rfl rfl z_Md c_Md (Nat.le_of_ble_eq_true rfl) (fun rr MM qq => ?_)
                            obtain ⟨rfl, rfl⟩ := And.imp id Eq.symm qq; clear qq
                            refine Rn.iload_n d_Md_candles_111 rfl ?_
                            refine In.icmp_gt (tgt := 119) d_Md_candles_112 (by decide) ⟨by omega, by omega⟩ ⟨by omega, by omega⟩ (fun c112 => ?_) (fun c112 => ?_)
                            · have ihi := ihi false (by omega) (by rw [stp, zc, decide_eq_false (show ¬ (dist β l c : Int) ≤ x by omega)]; rfl)
                              refine Rn.iconst (v := iI 0) d_Md_candles_119 rfl ?_
                              refine Rn.istore (lv1 := [_, _, _, _, _, _, _, _, _]) d_Md_candles_120 (by decide) (w_pv rfl) rfl ?_
                              refine In.inc (lv1 := [_, _, _, _, _, _, _, _, _]) d_Md_candles_122 rfl (by decide) (w_pv rfl) rfl ?_
                              refine Rn.goto (tgt := 81) d_Md_candles_125 (by decide) ?_
                              exact ihi
                            · have ihi := ihi true (by omega) (by rw [stp, zc, decide_eq_true (show (dist β l c : Int) ≤ x by omega)]; rfl)
                              refine Rn.iconst (v := iI 1) d_Md_candles_115 rfl ?_
                              refine Rn.goto (tgt := 120) d_Md_candles_116 (by decide) ?_
                              refine Rn.istore (lv1 := [_, _, _, _, _, _, _, _, _]) d_Md_candles_120 (by decide) (w_pv rfl) rfl ?_
                              refine In.inc (lv1 := [_, _, _, _, _, _, _, _, _]) d_Md_candles_122 rfl (by decide) (w_pv rfl) rfl ?_
                              refine Rn.goto (tgt := 81) d_Md_candles_125 (by decide) ?_
                              exact ihi
                  refine Rn.iconst (v := iI 0) d_Md_candles_75 rfl ?_
                  refine Rn.istore (lv1 := [_, _, _, _, _, _, _, _, _]) d_Md_candles_76 (by decide) (w_pv rfl) rfl ?_
                  refine Rn.iconst (v := iI 0) d_Md_candles_78 rfl ?_
                  refine Rn.istore (lv1 := [_, _, _, _, _, _, _, _, _]) d_Md_candles_79 (by decide) (w_pv rfl) rfl ?_
                  exact inner 12 0 false rfl rfl
          refine Rn.iload d_Md_candles_33 rfl ?_
          refine Rn.sipush (v := iI 4095) d_Md_candles_35 (by decide +kernel) ?_
          refine In.icmp_ge (tgt := 156) d_Md_candles_38 (by decide) ⟨by omega, by omega⟩ ⟨by omega, by omega⟩ (fun c38 => ?_) (fun c38 => ?_)
          · omega
          · refine Rn.iload d_Md_candles_41 rfl ?_
            refine Rn.cSI d_Md_candles_43 s_Md_candles_Md_bits g_766 g_767 ⟨rfl, rfl⟩ ⟨Nat.zero_le _, Nat.zero_le _⟩ (m_Md_bits (show s < 2147483648 by omega)) rfl rfl (Nat.le_of_ble_eq_true rfl) (fun rr MM qq => ?_)
            obtain ⟨rfl, rfl⟩ := And.imp id Eq.symm qq; clear qq
            refine Rn.iload_n d_Md_candles_46 rfl ?_
            refine Rn.cSI d_Md_candles_47 s_Md_candles_Md_bits g_766 g_767 ⟨rfl, rfl⟩ ⟨Nat.zero_le _, Nat.zero_le _⟩ (m_Md_bits (show F < 2147483648 by omega)) rfl rfl (Nat.le_of_ble_eq_true rfl) (fun rr MM qq => ?_)
            obtain ⟨rfl, rfl⟩ := And.imp id Eq.symm qq; clear qq
            refine In.icmp_ge (tgt := 57) d_Md_candles_50 (by decide) ⟨by omega, by omega⟩ ⟨by omega, by omega⟩ (fun c50 => ?_) (fun c50 => ?_)
            · refine Rn.iconst (v := iI 0) d_Md_candles_57 rfl ?_
              refine Rn.istore (lv1 := [_, _, _, _, _, _, _, _, _]) d_Md_candles_58 (by decide) (w_pv rfl) rfl ?_
              refine Rn.iconst (v := iI 0) d_Md_candles_60 rfl ?_
              refine Rn.istore (lv1 := [_, _, _, _, _, _, _, _, _]) d_Md_candles_61 (by decide) (w_pv rfl) rfl ?_
              exact outer 12 0 false _ _ rfl (by rw [decide_eq_false (show ¬ pc s < pc F by omega)]; rfl)
            · refine Rn.iconst (v := iI 1) d_Md_candles_53 rfl ?_
              refine Rn.goto (tgt := 58) d_Md_candles_54 (by decide) ?_
              refine Rn.istore (lv1 := [_, _, _, _, _, _, _, _, _]) d_Md_candles_58 (by decide) (w_pv rfl) rfl ?_
              refine Rn.iconst (v := iI 0) d_Md_candles_60 rfl ?_
              refine Rn.istore (lv1 := [_, _, _, _, _, _, _, _, _]) d_Md_candles_61 (by decide) (w_pv rfl) rfl ?_
              exact outer 12 0 true _ _ rfl (by rw [decide_eq_true (show pc s < pc F by omega)]; rfl)
      refine Rn.sipush (v := iI 4095) d_Md_candles_26 (by decide +kernel) ?_
      refine Rn.istore_n (lv1 := [_, _, _, _, _, _, _, _, _]) d_Md_candles_29 (by decide) (w_pv rfl) rfl ?_
      refine Rn.iconst (v := iI 1) d_Md_candles_30 rfl ?_
      refine Rn.istore (lv1 := [_, _, _, _, _, _, _, _, _]) d_Md_candles_31 (by decide) (w_pv rfl) rfl ?_
      exact loop 4094 0 _ _ _ _ rfl
    · have q2 := fl_eq c16
      exact bad (by omega)
