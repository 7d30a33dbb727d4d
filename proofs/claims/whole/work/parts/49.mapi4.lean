/-! The reference's calls: sees, where. -/
set_option maxRecDepth 20000
set_option maxHeartbeats 400000
/-- no way is longer than by another loop -/
theorem dist_tri {f : Nat → Int} (hf : tok f) : ∀ n a b k, a + b + k ≤ n → a < 12 → b < 12 → k < 12 → dist f a b ≤ dist f a k + dist f k b
  | n, a, b, k, hn, ha, hb, hk => by
    by_cases e : a = b
    · subst e; rw [dist_self]; omega
    · by_cases e1 : a < k ∧ b < k
      · have hp := hf k (by omega) hk
        have d1 := dist_lt hf hk e1.1
        have d2 := dist_gt hf hk e1.2
        cases n with
        | zero => omega
        | succ n => have := dist_tri hf n a b (f k).toNat (by omega) ha hb (by omega); omega
      · by_cases e2 : b < a
        · by_cases e3 : k = a
          · subst e3; rw [dist_self]; omega
          · have hp := hf a (by omega) ha
            have d1 := dist_gt hf ha e2
            have d2 := dist_gt hf ha (show k < a by omega)
            cases n with
            | zero => omega
            | succ n => have := dist_tri hf n (f a).toNat b k (by omega) (by omega) hb hk; omega
        · by_cases e3 : k = b
          · subst e3; rw [dist_self]; omega
          · have hp := hf b (by omega) hb
            have d1 := dist_lt hf hb (show a < b by omega)
            have d2 := dist_lt hf hb (show k < b by omega)
            cases n with
            | zero => omega
            | succ n => have := dist_tri hf n a (f b).toNat k (by omega) ha (by omega) hk; omega
/-- a ball seen, as far as the first balls say -/
def frB (β : Nat → Int) (b x : Nat) : Nat → Bool
  | 0 => decide (x ≠ b) && decide (0 ≤ β (12 + x))
  | y + 1 => frB β b x y && (decide (y = b) || (decide (y = x) || (decide (β (12 + y) < 0) || decide (dist β (β (12 + b)).toNat (β (12 + x)).toNat < dist β (β (12 + b)).toNat (β (12 + y)).toNat + dist β (β (12 + y)).toNat (β (12 + x)).toNat))))
theorem frB_all {β : Nat → Int} {b x : Nat} : ∀ n, frB β b x n = true ↔ (x ≠ b ∧ 0 ≤ β (12 + x)) ∧ ∀ y, y < n → y = b ∨ y = x ∨ β (12 + y) < 0 ∨ dist β (β (12 + b)).toNat (β (12 + x)).toNat < dist β (β (12 + b)).toNat (β (12 + y)).toNat + dist β (β (12 + y)).toNat (β (12 + x)).toNat
  | 0 => by simp [frB]
  | n + 1 => by
    have ih := frB_all (β := β) (b := b) (x := x) n
    simp only [frB, Bool.and_eq_true, Bool.or_eq_true, decide_eq_true_eq]
    rw [ih]
    constructor
    · rintro ⟨⟨h1, h2⟩, h3⟩
      refine ⟨h1, fun y hy => ?_⟩
      by_cases e : y = n
      · subst e; exact h3
      · exact h2 y (by omega)
    · rintro ⟨h1, h2⟩
      exact ⟨⟨h1, fun y hy => h2 y (by omega)⟩, h2 n (by omega)⟩
theorem frB_no {β : Nat → Int} {b x n : Nat} (h : frB β b x n = false) : ∀ k, frB β b x (n + k) = false
  | 0 => h
  | k + 1 => by
    show frB β b x (n + k + 1) = false
    simp only [frB]; rw [frB_no h k]; rfl
theorem sees_fr {β : Nat → Int} (h : hok β) {b x : Nat} (hb : b < 6) (hx : x < 6) (hg : β (12 + b) ≠ -6) : seesP β b x = frB β b x 6 := by
  have hlb := h.l b hb
  have hlx := h.l x hx
  rw [Bool.eq_iff_iff, frB_all]
  unfold seesP
  simp only [Bool.and_eq_true, decide_eq_true_eq]
  constructor
  · rintro ⟨h1, h2, h3⟩
    refine ⟨⟨h1, by omega⟩, fun y hy => ?_⟩
    by_cases q1 : y = b
    · exact Or.inl q1
    · by_cases q2 : y = x
      · exact Or.inr (Or.inl q2)
      · have hly := h.l y hy
        by_cases q3 : β (12 + y) = -6
        · exact Or.inr (Or.inr (Or.inl (by omega)))
        · refine Or.inr (Or.inr (Or.inr ?_))
          have ht := dist_tri h.t _ (β (12 + b)).toNat (β (12 + x)).toNat (β (12 + y)).toNat (Nat.le_refl _) (by omega) (by omega) (by omega)
          refine Decidable.byContradiction fun hc => ?_
          have hw : (wayS β (β (12 + b)).toNat (β (12 + x)).toNat &&& hungS β 6).testBit (β (12 + y)).toNat = true := by
            rw [Nat.testBit_and, way_bit (by omega), (hungS_bit _ 6).mpr ⟨y, hy, q3, rfl⟩, Bool.and_true]
            exact decide_eq_true (by omega)
          rw [h3, Nat.testBit_or, Nat.testBit_two_pow, Nat.testBit_two_pow, Bool.or_eq_true, decide_eq_true_eq, decide_eq_true_eq] at hw
          rcases hw with e | e
          · exact q3 (h.d y b hy hb q1 (by omega))
          · exact q3 (h.d y x hy hx q2 (by omega))
  · rintro ⟨⟨h1, h2⟩, h3⟩
    refine ⟨h1, by omega, Nat.eq_of_testBit_eq fun l => ?_⟩
    rw [Nat.testBit_and, Nat.testBit_or, Nat.testBit_two_pow, Nat.testBit_two_pow, Bool.eq_iff_iff, Bool.and_eq_true, Bool.or_eq_true, decide_eq_true_eq, decide_eq_true_eq, hungS_bit]
    constructor
    · rintro ⟨k1, y, k2, k3, k4⟩
      have hly := h.l y k2
      rw [way_bit (by omega), decide_eq_true_eq] at k1
      rcases h3 y k2 with e | e | e | e
      · left; rw [← e]; exact k4
      · right; rw [← e]; exact k4
      · omega
      · rw [k4] at e; omega
    · rintro (e | e)
      · subst e
        rw [way_bit (by omega), dist_self]
        exact ⟨decide_eq_true (by omega), b, hb, hg, rfl⟩
      · subst e
        rw [way_bit (by omega), dist_self]
        exact ⟨decide_eq_true (by omega), x, hx, by omega, rfl⟩
theorem setOf_s (P : Nat → Bool) (n : Nat) : setOf P (n + 1) = setOf P n ||| (if P n = true then 2 ^ n else 0) := by
  simp only [setOf]
  split
  · rfl
  · rw [Nat.or_zero]
theorem m_Md_sees {M : wM} {β : Nat → Int} {n : Nat} {σ : Nat → Int} {m : Nat} {τ : Nat → Int} {I J : wIm} {b V : Int} (hG : M.2.2 = RG) (hA : mdA M β n σ m τ I J) (hV : aLok β n σ m τ I J) (hb : -2147483648 ≤ b ∧ b < 2147483648)
    (v1 : ¬ blq b → V = -1) (v2 : blq b → β (12 + b.toNat) = -6 → V = -3) (v3 : blq b → β (12 + b.toNat) ≠ -6 → V = setOf (seesP β b.toNat) 6) : EvI k_Md_sees [.ref 47, .int (iI b)] SH M (fun r M' => r = iI V ∧ mdA M' β n σ m τ I J ∧ Ofm M M') := by
  refine EvI.of 7 (by decide) (Nat.le_of_ble_eq_true rfl) rfl ?_
  refine Rn.iload_n d_Md_sees_0 rfl ?_
  refine Rn.iconst (v := iI 0) d_Md_sees_1 rfl ?_
  refine Rn.iconst (v := iI 5) d_Md_sees_2 rfl ?_
  refine Rn.cSI d_Md_sees_3 s_Md_sees_Md_in g_708 g_709 ⟨rfl, rfl⟩ ⟨Nat.zero_le _, Nat.zero_le _⟩ (m_Md_in hb (by decide) (by decide)) rfl rfl (Nat.le_of_ble_eq_true rfl) (fun rr MM qq => ?_)
  obtain ⟨rfl, rfl⟩ := And.imp id Eq.symm qq; clear qq
  refine In.if_ne (tgt := 11) d_Md_sees_6 (by decide) fl_rg (fun c6 => ?_) (fun c6 => ?_)
  · have q := fl_ne c6
    have qb : blq b := by omega
    obtain ⟨b, rfl⟩ : ∃ k : Nat, b = k := ⟨b.toNat, by omega⟩
    have v2 := v2 qb
    have v3 := v3 qb
    simp only [Int.toNat_natCast] at v2 v3
    have hb6 : b < 6 := by omega
    have hlb := hV.1.l b hb6
    refine Rn.aload_n d_Md_sees_11 rfl ?_
    refine Rn.getR d_Md_sees_12 f_Md_book g_650 z_Md (r_Md_book (by assumption)) ?_
    refine Rn.bipush (v := iI 12) d_Md_sees_15 (by decide +kernel) ?_
    refine Rn.iload_n d_Md_sees_17 rfl ?_
    refine In.add d_Md_sees_18 ?_
    refine In.ald d_Md_sees_19 z_Md_book (by omega) (by omega) (by decide) (hA.1 (12 + b) (by omega)) ?_
    refine In.if_ge (tgt := 26) d_Md_sees_20 (by decide) ⟨by omega, by omega⟩ (fun c20 => ?_) (fun c20 => ?_)
    · have hg : β (12 + b) ≠ -6 := by omega
      have hse : setOf (seesP β b) 6 = setOf (fun x => frB β b x 6) 6 := setOf_congr 6 (fun x hx => sees_fr hV.1 hb6 hx hg)
      rw [v3 hg, hse]
      obtain ⟨from_, hfr⟩ : ∃ u : Nat, β (12 + b) = u := ⟨(β (12 + b)).toNat, by omega⟩
      refine Rn.aload_n d_Md_sees_26 rfl ?_
      refine Rn.cVV d_Md_sees_27 s_Md_sees_Md_asNow g_715 g_717 gs_10 ⟨rfl, rfl⟩ ⟨Nat.zero_le _, Nat.zero_le _⟩ (m_Md_asNow hG hA.1) rfl rfl z_Md c_Md (Nat.le_of_ble_eq_true rfl) (fun M1 qq => ?_)
      obtain ⟨k1, n1, _, _, _⟩ := qq
      have hG1 := k1.G hG
      have hA1 := hA.kp k1
      refine Rn.iconst (v := iI 0) d_Md_sees_30 rfl ?_
      refine Rn.istore_n (lv1 := [_, _, _, _, _, _, _, _, _]) d_Md_sees_31 (by decide) (w_pv rfl) rfl ?_
      refine Rn.aload_n d_Md_sees_32 rfl ?_
      refine Rn.getR d_Md_sees_33 f_Md_now g_651 z_Md (r_Md_now (by assumption)) ?_
      refine Rn.bipush (v := iI 12) d_Md_sees_36 (by decide +kernel) ?_
      refine Rn.iload_n d_Md_sees_38 rfl ?_
      refine In.add d_Md_sees_39 ?_
      refine In.ald d_Md_sees_40 z_Md_now (by omega) (by omega) (by decide) ((n1 (12 + b) (by omega)).trans (by rw [hfr])) ?_
      refine Rn.istore_n (lv1 := [_, _, _, _, _, _, _, _, _]) d_Md_sees_41 (by decide) (w_pv rfl) rfl ?_
      refine Rn.iconst (v := iI 0) d_Md_sees_42 rfl ?_
      refine Rn.istore (lv1 := [_, _, _, _, _, _, _, _, _]) d_Md_sees_43 (by decide) (w_pv rfl) rfl ?_
      have loop : ∀ (d x : Nat) (x5 x6 x7 x8 : Option Value), x + d = 6 → Rn k_Md_sees none (0, 0) 45 [some (.ref 47), some (.int (iI b)), some (.int (iI (setOf (fun x => frB β b x 6) x))), some (.int (iI from_)), some (.int (iI x)), x5, x6, x7, x8] [] SH M1 (w_FI (0, 0) SH (fun r M' => r = iI (setOf (fun x => frB β b x 6) 6) ∧ mdA M' β n σ m τ I J ∧ Ofm M M')) := by
        intro d
        induction d with
        | zero =>
          intro x x5 x6 x7 x8 h1
          have : x = 6 := by omega
          subst this
          refine Rn.iload d_Md_sees_45 rfl ?_
          refine Rn.bipush (v := iI 6) d_Md_sees_47 (by decide +kernel) ?_
          refine In.icmp_ge (tgt := 188) d_Md_sees_49 (by decide) ⟨by omega, by omega⟩ ⟨by omega, by omega⟩ (fun c49 => ?_) (fun c49 => ?_)
          · refine Rn.iload_n d_Md_sees_188 rfl ?_
            exact Rn.iret d_Md_sees_189 rfl rfl ⟨rfl, hA1, k1.o⟩
          · omega
        | succ d ih =>
          intro x x5 x6 x7 x8 h1
          have hlx := hV.1.l x (by omega)
          have ih := ih (x + 1)
          rw [setOf_s] at ih
          have fin : ∀ (y8 : Option Value) (y : Nat), Rn k_Md_sees none (0, 0) 166 [some (.ref 47), some (.int (iI b)), some (.int (iI (setOf (fun x => frB β b x 6) x))), some (.int (iI from_)), some (.int (iI x)), some (.int (iI (β (12 + x)))), some (.int (iI (if frB β b x 6 = true then 1 else 0))), some (.int (iI y)), y8] [] SH M1 (w_FI (0, 0) SH (fun r M' => r = iI (setOf (fun x => frB β b x 6) 6) ∧ mdA M' β n σ m τ I J ∧ Ofm M M')) := by
            intro y8 y
            refine Rn.iload_n d_Md_sees_166 rfl ?_
            refine Rn.iload d_Md_sees_167 rfl ?_
            refine In.if_eq (tgt := 179) d_Md_sees_169 (by decide) fl_rg (fun c169 => ?_) (fun c169 => ?_)
            · rw [if_neg (fl_eq c169)] at ih ⊢
              refine Rn.iconst (v := iI 0) d_Md_sees_179 rfl ?_
              refine In.or rfl (rfl : (0 : Int) = ((0 : Nat) : Int)) d_Md_sees_180 ?_
              refine Rn.istore_n (lv1 := [_, _, _, _, _, _, _, _, _]) d_Md_sees_181 (by decide) (w_pv rfl) rfl ?_
              refine In.inc (lv1 := [_, _, _, _, _, _, _, _, _]) d_Md_sees_182 rfl (by decide) (w_pv rfl) rfl ?_
              refine Rn.goto (tgt := 45) d_Md_sees_185 (by decide) ?_
              exact ih _ _ _ _ (by omega)
            · rw [if_pos (fl_ne c169)] at ih ⊢
              refine Rn.iconst (v := iI 1) d_Md_sees_172 rfl ?_
              refine Rn.iload d_Md_sees_173 rfl ?_
              refine In.shl rfl (by omega) d_Md_sees_175 ?_
              refine Rn.goto (tgt := 180) d_Md_sees_176 (by decide) ?_
              refine In.or rfl rfl d_Md_sees_180 ?_
              refine Rn.istore_n (lv1 := [_, _, _, _, _, _, _, _, _]) d_Md_sees_181 (by decide) (w_pv rfl) rfl ?_
              refine In.inc (lv1 := [_, _, _, _, _, _, _, _, _]) d_Md_sees_182 rfl (by decide) (w_pv rfl) rfl ?_
              refine Rn.goto (tgt := 45) d_Md_sees_185 (by decide) ?_
              exact ih _ _ _ _ (by omega)
          have inner : ∀ (e y : Nat) (y8 : Option Value), y + e = 6 → Rn k_Md_sees none (0, 0) 85 [some (.ref 47), some (.int (iI b)), some (.int (iI (setOf (fun x => frB β b x 6) x))), some (.int (iI from_)), some (.int (iI x)), some (.int (iI (β (12 + x)))), some (.int (iI (if frB β b x y = true then 1 else 0))), some (.int (iI y)), y8] [] SH M1 (w_FI (0, 0) SH (fun r M' => r = iI (setOf (fun x => frB β b x 6) 6) ∧ mdA M' β n σ m τ I J ∧ Ofm M M')) := by
            intro e
            induction e with
            | zero =>
              intro y y8 k1
              have : y = 6 := by omega
              subst this
              refine Rn.iload d_Md_sees_85 rfl ?_
              refine Rn.bipush (v := iI 6) d_Md_sees_87 (by decide +kernel) ?_
              refine In.icmp_ge (tgt := 166) d_Md_sees_89 (by decide) ⟨by omega, by omega⟩ ⟨by omega, by omega⟩ (fun c89 => ?_) (fun c89 => ?_)
              · exact fin _ _
              · omega
            | succ e ihe =>
              intro y y8 k1
              have hly := hV.1.l y (by omega)
              have ihe := ihe (y + 1)
              refine Rn.iload d_Md_sees_85 rfl ?_
              refine Rn.bipush (v := iI 6) d_Md_sees_87 (by decide +kernel) ?_
              refine In.icmp_ge (tgt := 166) d_Md_sees_89 (by decide) ⟨by omega, by omega⟩ ⟨by omega, by omega⟩ (fun c89 => ?_) (fun c89 => ?_)
              · omega
              · refine Rn.iload d_Md_sees_92 rfl ?_
                refine In.if_eq (tgt := 166) d_Md_sees_94 (by decide) fl_rg (fun c94 => ?_) (fun c94 => ?_)
                · have z := Bool.eq_false_iff.mpr (fl_eq c94)
                  have z6 := frB_no z (6 - y)
                  rw [show y + (6 - y) = 6 by omega] at z6
                  have := fin y8 y
                  rw [z6] at this
                  rw [z]
                  exact this
                · have z := fl_ne c94
                  have hx0 := ((frB_all y).mp z).1
                  have step : frB β b x (y + 1) = (decide (y = b) || (decide (y = x) || (decide (β (12 + y) < 0) || decide (dist β (β (12 + b)).toNat (β (12 + x)).toNat < dist β (β (12 + b)).toNat (β (12 + y)).toNat + dist β (β (12 + y)).toNat (β (12 + x)).toNat)))) := by
                    simp only [frB]; rw [z, Bool.true_and]
                  have yes : frB β b x (y + 1) = true → Rn k_Md_sees none (0, 0) 153 [some (.ref 47), some (.int (iI b)), some (.int (iI (setOf (fun x => frB β b x 6) x))), some (.int (iI from_)), some (.int (iI x)), some (.int (iI (β (12 + x)))), some (.int (iI (if frB β b x y = true then 1 else 0))), some (.int (iI y)), some (.int (iI (β (12 + y))))] [] SH M1 (w_FI (0, 0) SH (fun r M' => r = iI (setOf (fun x => frB β b x 6) 6) ∧ mdA M' β n σ m τ I J ∧ Ofm M M')) := by
                    intro q
                    have ihe := ihe (some (.int (iI (β (12 + y))))) (by omega)
                    rw [if_pos q] at ihe
                    refine Rn.iconst (v := iI 1) d_Md_sees_153 rfl ?_
                    refine Rn.goto (tgt := 158) d_Md_sees_154 (by decide) ?_
                    refine Rn.istore (lv1 := [_, _, _, _, _, _, _, _, _]) d_Md_sees_158 (by decide) (w_pv rfl) rfl ?_
                    refine In.inc (lv1 := [_, _, _, _, _, _, _, _, _]) d_Md_sees_160 rfl (by decide) (w_pv rfl) rfl ?_
                    refine Rn.goto (tgt := 85) d_Md_sees_163 (by decide) ?_
                    exact ihe
                  have no : frB β b x (y + 1) = false → Rn k_Md_sees none (0, 0) 157 [some (.ref 47), some (.int (iI b)), some (.int (iI (setOf (fun x => frB β b x 6) x))), some (.int (iI from_)), some (.int (iI x)), some (.int (iI (β (12 + x)))), some (.int (iI (if frB β b x y = true then 1 else 0))), some (.int (iI y)), some (.int (iI (β (12 + y))))] [] SH M1 (w_FI (0, 0) SH (fun r M' => r = iI (setOf (fun x => frB β b x 6) 6) ∧ mdA M' β n σ m τ I J ∧ Ofm M M')) := by
                    intro q
                    have ihe := ihe (some (.int (iI (β (12 + y))))) (by omega)
                    rw [q] at ihe
                    refine Rn.iconst (v := iI 0) d_Md_sees_157 rfl ?_
                    refine Rn.istore (lv1 := [_, _, _, _, _, _, _, _, _]) d_Md_sees_158 (by decide) (w_pv rfl) rfl ?_
                    refine In.inc (lv1 := [_, _, _, _, _, _, _, _, _]) d_Md_sees_160 rfl (by decide) (w_pv rfl) rfl ?_
                    refine Rn.goto (tgt := 85) d_Md_sees_163 (by decide) ?_
                    exact ihe
                  refine Rn.aload_n d_Md_sees_97 rfl ?_
                  refine Rn.getR d_Md_sees_98 f_Md_now g_651 z_Md (r_Md_now (by assumption)) ?_
                  refine Rn.bipush (v := iI 12) d_Md_sees_101 (by decide +kernel) ?_
                  refine Rn.iload d_Md_sees_103 rfl ?_
                  refine In.add d_Md_sees_105 ?_
                  refine In.ald d_Md_sees_106 z_Md_now (by omega) (by omega) (by decide) (n1 (12 + y) (by omega)) ?_
                  refine Rn.istore (lv1 := [_, _, _, _, _, _, _, _, _]) d_Md_sees_107 (by decide) (w_pv rfl) rfl ?_
                  refine Rn.iload d_Md_sees_109 rfl ?_
                  refine Rn.iload_n d_Md_sees_111 rfl ?_
                  refine In.icmp_eq (tgt := 153) d_Md_sees_112 (by decide) ⟨by omega, by omega⟩ ⟨by omega, by omega⟩ (fun c112 => ?_) (fun c112 => ?_)
                  · exact yes (by rw [step, decide_eq_true (show y = b by omega)]; rfl)
                  · refine Rn.iload d_Md_sees_115 rfl ?_
                    refine Rn.iload d_Md_sees_117 rfl ?_
                    refine In.icmp_eq (tgt := 153) d_Md_sees_119 (by decide) ⟨by omega, by omega⟩ ⟨by omega, by omega⟩ (fun c119 => ?_) (fun c119 => ?_)
                    · exact yes (by rw [step, decide_eq_true (show y = x by omega), Bool.true_or, Bool.or_true])
                    · refine Rn.iload d_Md_sees_122 rfl ?_
                      refine In.if_lt (tgt := 153) d_Md_sees_124 (by decide) ⟨by omega, by omega⟩ (fun c124 => ?_) (fun c124 => ?_)
                      · exact yes (by rw [step, decide_eq_true (show β (12 + y) < 0 by omega), Bool.true_or, Bool.or_true, Bool.or_true])
                      · obtain ⟨to, hto⟩ : ∃ u : Nat, β (12 + x) = u := ⟨(β (12 + x)).toNat, by omega⟩
                        obtain ⟨on, hon⟩ : ∃ u : Nat, β (12 + y) = u := ⟨(β (12 + y)).toNat, by omega⟩
                        rw [decide_eq_false (show ¬ y = b by omega), decide_eq_false (show ¬ y = x by omega), decide_eq_false (show ¬ β (12 + y) < 0 by omega), Bool.false_or, Bool.false_or, Bool.false_or, hfr, hto, hon] at step
                        simp only [Int.toNat_natCast] at step
                        have d1 := dist_22 hV.1.t (show from_ < 12 by omega) (show on < 12 by omega)
                        have d2 := dist_22 hV.1.t (show on < 12 by omega) (show to < 12 by omega)
                        have d3 := dist_22 hV.1.t (show from_ < 12 by omega) (show to < 12 by omega)
                        rw [hto, hon] at yes no ⊢
                        refine Rn.aload_n d_Md_sees_127 rfl ?_
                        refine Rn.iload_n d_Md_sees_128 rfl ?_
                        refine Rn.iload d_Md_sees_129 rfl ?_
                        refine Rn.cVI d_Md_sees_131 s_Md_sees_Md_apartOf g_769 g_771 gs_18 ⟨rfl, rfl⟩ ⟨Nat.zero_le _, Nat.zero_le _⟩ (m_Md_apartOf hG1 n1 hV.1.t (show from_ < 12 by omega) (show on < 12 by omega)) rfl rfl z_Md c_Md (Nat.le_of_ble_eq_true rfl) (fun rr MM qq => ?_)
                        obtain ⟨rfl, rfl⟩ := And.imp id Eq.symm qq; clear qq
                        refine Rn.aload_n d_Md_sees_134 rfl ?_
                        refine Rn.iload d_Md_sees_135 rfl ?_
                        refine Rn.iload d_Md_sees_137 rfl ?_
                        refine Rn.cVI d_Md_sees_139 s_Md_sees_Md_apartOf g_769 g_771 gs_18 ⟨rfl, rfl⟩ ⟨Nat.zero_le _, Nat.zero_le _⟩ (m_Md_apartOf hG1 n1 hV.1.t (show on < 12 by omega) (show to < 12 by omega)) rfl rfl z_Md c_Md (Nat.le_of_ble_eq_true rfl) (fun rr MM qq => ?_)
                        obtain ⟨rfl, rfl⟩ := And.imp id Eq.symm qq; clear qq
                        refine In.add d_Md_sees_142 ?_
                        refine Rn.aload_n d_Md_sees_143 rfl ?_
                        refine Rn.iload_n d_Md_sees_144 rfl ?_
                        refine Rn.iload d_Md_sees_145 rfl ?_
                        refine Rn.cVI d_Md_sees_147 s_Md_sees_Md_apartOf g_769 g_771 gs_18 ⟨rfl, rfl⟩ ⟨Nat.zero_le _, Nat.zero_le _⟩ (m_Md_apartOf hG1 n1 hV.1.t (show from_ < 12 by omega) (show to < 12 by omega)) rfl rfl z_Md c_Md (Nat.le_of_ble_eq_true rfl) (fun rr MM qq => ?_)
                        obtain ⟨rfl, rfl⟩ := And.imp id Eq.symm qq; clear qq
                        refine In.icmp_le (tgt := 157) d_Md_sees_150 (by decide) ⟨by omega, by omega⟩ ⟨by omega, by omega⟩ (fun c150 => ?_) (fun c150 => ?_)
                        · exact no (by rw [step]; exact decide_eq_false (by omega))
                        · exact yes (by rw [step]; exact decide_eq_true (by omega))
          have start : ∀ v : Int, v = (if frB β b x 0 = true then 1 else 0) → Rn k_Md_sees none (0, 0) 80 [some (.ref 47), some (.int (iI b)), some (.int (iI (setOf (fun x => frB β b x 6) x))), some (.int (iI from_)), some (.int (iI x)), some (.int (iI (β (12 + x)))), x6, x7, x8] [.int (iI v)] SH M1 (w_FI (0, 0) SH (fun r M' => r = iI (setOf (fun x => frB β b x 6) 6) ∧ mdA M' β n σ m τ I J ∧ Ofm M M')) := by
            intro v hv
            subst hv
            refine Rn.istore (lv1 := [_, _, _, _, _, _, _, _, _]) d_Md_sees_80 (by decide) (w_pv rfl) rfl ?_
            refine Rn.iconst (v := iI 0) d_Md_sees_82 rfl ?_
            refine Rn.istore (lv1 := [_, _, _, _, _, _, _, _, _]) d_Md_sees_83 (by decide) (w_pv rfl) rfl ?_
            exact inner 6 0 _ rfl
          have f0 : frB β b x 0 = (decide (x ≠ b) && decide (0 ≤ β (12 + x))) := rfl
          refine Rn.iload d_Md_sees_45 rfl ?_
          refine Rn.bipush (v := iI 6) d_Md_sees_47 (by decide +kernel) ?_
          refine In.icmp_ge (tgt := 188) d_Md_sees_49 (by decide) ⟨by omega, by omega⟩ ⟨by omega, by omega⟩ (fun c49 => ?_) (fun c49 => ?_)
          · omega
          · refine Rn.aload_n d_Md_sees_52 rfl ?_
            refine Rn.getR d_Md_sees_53 f_Md_now g_651 z_Md (r_Md_now (by assumption)) ?_
            refine Rn.bipush (v := iI 12) d_Md_sees_56 (by decide +kernel) ?_
            refine Rn.iload d_Md_sees_58 rfl ?_
            refine In.add d_Md_sees_60 ?_
            refine In.ald d_Md_sees_61 z_Md_now (by omega) (by omega) (by decide) (n1 (12 + x) (by omega)) ?_
            refine Rn.istore (lv1 := [_, _, _, _, _, _, _, _, _]) d_Md_sees_62 (by decide) (w_pv rfl) rfl ?_
            refine Rn.iload d_Md_sees_64 rfl ?_
            refine Rn.iload_n d_Md_sees_66 rfl ?_
            refine In.icmp_eq (tgt := 79) d_Md_sees_67 (by decide) ⟨by omega, by omega⟩ ⟨by omega, by omega⟩ (fun c67 => ?_) (fun c67 => ?_)
            · refine Rn.iconst (v := iI 0) d_Md_sees_79 rfl ?_
              exact start 0 (by rw [f0, decide_eq_false (show ¬ (x ≠ b) by omega)]; rfl)
            · refine Rn.iload d_Md_sees_70 rfl ?_
              refine In.if_lt (tgt := 79) d_Md_sees_72 (by decide) ⟨by omega, by omega⟩ (fun c72 => ?_) (fun c72 => ?_)
              · refine Rn.iconst (v := iI 0) d_Md_sees_79 rfl ?_
                exact start 0 (by rw [f0, decide_eq_false (show ¬ (0 ≤ β (12 + x)) by omega), Bool.and_false]; rfl)
              · refine Rn.iconst (v := iI 1) d_Md_sees_75 rfl ?_
                refine Rn.goto (tgt := 80) d_Md_sees_76 (by decide) ?_
                exact start 1 (by rw [f0, decide_eq_true (show x ≠ b by omega), decide_eq_true (show 0 ≤ β (12 + x) by omega)]; rfl)
      exact loop 6 0 _ _ _ _ rfl
    · rw [v2 (by omega)]
      refine Rn.bipush (v := iI (-3)) d_Md_sees_23 (by decide +kernel) ?_
      exact Rn.iret d_Md_sees_25 rfl rfl ⟨rfl, hA, Ofm.rf⟩
  · have q := fl_eq c6
    rw [v1 (by omega)]
    refine Rn.iconst (v := iI (-1)) d_Md_sees_9 rfl ?_
    exact Rn.iret d_Md_sees_10 rfl rfl ⟨rfl, hA, Ofm.rf⟩
theorem m_Md_isFit {M : wM} {g : Nat → Int} {m l : Nat} {τ : Nat → Int} (hG : M.2.2 = RG) (hN : nwA M g) (hf : tok g) (hS : ∀ i, i < 16 → M.1 50 i = iI (τ i)) (hm : M.1 47 2 = iI m) (hok : sok m τ) (hl : l < 12) : EvI k_Md_isFit [.ref 47, .int (iI l)] SH M (fun r M' => r = iI (if (fitN g τ m).testBit l = true then 1 else 0) ∧ M' = M) := by
  refine EvI.of 2 (by decide) (Nat.le_of_ble_eq_true rfl) rfl ?_
  have hm8 := hok.1
  have e0 : (fitN g τ 0).testBit l = true := bit_4095 l hl
  have fin : ∀ (k : Nat), k ≤ m → Rn k_Md_isFit none (0, 0) 54 [some (.ref 47), some (.int (iI l)), some (.int (iI (if (fitN g τ m).testBit l = true then 1 else 0))), some (.int (iI k))] [] SH M (w_FI (0, 0) SH (fun r M' => r = iI (if (fitN g τ m).testBit l = true then 1 else 0) ∧ M' = M)) := by
    intro k hk
    by_cases z : (fitN g τ m).testBit l = true
    · rw [if_pos z]
      refine Rn.iload_n d_Md_isFit_54 rfl ?_
      exact Rn.iret d_Md_isFit_55 rfl (by decide +kernel) ⟨rfl, rfl⟩
    · rw [if_neg z]
      refine Rn.iload_n d_Md_isFit_54 rfl ?_
      exact Rn.iret d_Md_isFit_55 rfl (by decide +kernel) ⟨rfl, rfl⟩
  have loop : ∀ (d k : Nat), k + d = m → Rn k_Md_isFit none (0, 0) 4 [some (.ref 47), some (.int (iI l)), some (.int (iI (if (fitN g τ k).testBit l = true then 1 else 0))), some (.int (iI k))] [] SH M (w_FI (0, 0) SH (fun r M' => r = iI (if (fitN g τ m).testBit l = true then 1 else 0) ∧ M' = M)) := by
    intro d
    induction d with
    | zero =>
      intro k h1
      have : k = m := by omega
      subst this
      refine Rn.iload_n d_Md_isFit_4 rfl ?_
      refine Rn.aload_n d_Md_isFit_5 rfl ?_
      refine In.getI d_Md_isFit_6 f_Md_sights g_652 z_Md hm ?_
      refine In.icmp_ge (tgt := 54) d_Md_isFit_9 (by decide) ⟨by omega, by omega⟩ ⟨by omega, by omega⟩ (fun c9 => ?_) (fun c9 => ?_)
      · exact fin _ (Nat.le_refl _)
      · omega
    | succ d ih =>
      intro k h1
      have ih := ih (k + 1) (by omega)
      obtain ⟨⟨t1, t2⟩, t3, t4⟩ := hok.2 k (by omega)
      have hstep := fitN_bit (f := g) (τ := τ) hl
      refine Rn.iload_n d_Md_isFit_4 rfl ?_
      refine Rn.aload_n d_Md_isFit_5 rfl ?_
      refine In.getI d_Md_isFit_6 f_Md_sights g_652 z_Md hm ?_
      refine In.icmp_ge (tgt := 54) d_Md_isFit_9 (by decide) ⟨by omega, by omega⟩ ⟨by omega, by omega⟩ (fun c9 => ?_) (fun c9 => ?_)
      · omega
      · refine Rn.iload_n d_Md_isFit_12 rfl ?_
        refine In.if_eq (tgt := 54) d_Md_isFit_13 (by decide) fl_rg (fun c13 => ?_) (fun c13 => ?_)
        · have z := fl_eq c13
          have zm : ¬ (fitN g τ m).testBit l = true := fun q => z ((hstep k).mpr (fun i hi => (hstep m).mp q i (by omega)))
          have := fin k (by omega)
          rw [if_neg zm] at this
          rw [if_neg z, if_neg zm]
          exact this
        · have z := fl_ne c13
          obtain ⟨u, hu⟩ : ∃ u : Nat, τ (2 * k) = u := ⟨(τ (2 * k)).toNat, by omega⟩
          have hd := dist_22 hf hl (show u < 12 by omega)
          have hst : (fitN g τ (k + 1)).testBit l = true ↔ (dist g l u : Int) = τ (2 * k + 1) := by
            rw [hstep (k + 1), dist_sym hf hl (show u < 12 by omega)]
            constructor
            · intro q
              have := q k (by omega)
              rw [hu] at this
              exact this
            · intro q i hi
              by_cases e : i = k
              · subst e; rw [hu]; exact q
              · exact (hstep k).mp z i (by omega)
          rw [if_pos z]
          refine Rn.aload_n d_Md_isFit_16 rfl ?_
          refine Rn.iload_n d_Md_isFit_17 rfl ?_
          refine Rn.aload_n d_Md_isFit_18 rfl ?_
          refine Rn.getR d_Md_isFit_19 f_Md_sight g_653 z_Md (r_Md_sight (by assumption)) ?_
          refine Rn.iconst (v := iI 2) d_Md_isFit_22 rfl ?_
          refine Rn.iload_n d_Md_isFit_23 rfl ?_
          refine In.mul d_Md_isFit_24 ?_
          refine In.ald d_Md_isFit_25 z_Md_sight (show ((2 : Int) * k) = ((2 * k : Nat) : Int) by omega) (by omega) (by decide) ((hS (2 * k) (by omega)).trans (by rw [hu])) ?_
          refine Rn.cVI d_Md_isFit_26 s_Md_isFit_Md_apartOf g_769 g_771 gs_18 ⟨rfl, rfl⟩ ⟨Nat.zero_le _, Nat.zero_le _⟩ (m_Md_apartOf hG hN hf hl (show u < 12 by omega)) rfl rfl z_Md c_Md (Nat.le_of_ble_eq_true rfl) (fun rr MM qq => ?_)
          obtain ⟨rfl, rfl⟩ := And.imp id Eq.symm qq; clear qq
          refine Rn.aload_n d_Md_isFit_29 rfl ?_
          refine Rn.getR d_Md_isFit_30 f_Md_sight g_653 z_Md (r_Md_sight (by assumption)) ?_
          refine Rn.iconst (v := iI 2) d_Md_isFit_33 rfl ?_
          refine Rn.iload_n d_Md_isFit_34 rfl ?_
          refine In.mul d_Md_isFit_35 ?_
          refine Rn.iconst (v := iI 1) d_Md_isFit_36 rfl ?_
          refine In.add d_Md_isFit_37 ?_
          refine In.ald d_Md_isFit_38 z_Md_sight (show ((2 : Int) * k + 1) = ((2 * k + 1 : Nat) : Int) by omega) (by omega) (by decide) (hS (2 * k + 1) (by omega)) ?_
          refine In.icmp_ne (tgt := 46) d_Md_isFit_39 (by decide) ⟨by omega, by omega⟩ ⟨by omega, by omega⟩ (fun c39 => ?_) (fun c39 => ?_)
          · rw [if_neg (fun q => c39 (hst.mp q))] at ih
            refine Rn.iconst (v := iI 0) d_Md_isFit_46 rfl ?_
            refine Rn.istore_n (lv1 := [_, _, _, _]) d_Md_isFit_47 (by decide) (w_pv rfl) rfl ?_
            refine In.inc (lv1 := [_, _, _, _]) d_Md_isFit_48 rfl (by decide) (w_pv rfl) rfl ?_
            refine Rn.goto (tgt := 4) d_Md_isFit_51 (by decide) ?_
            exact ih
          · rw [if_pos (hst.mpr (by omega))] at ih
            refine Rn.iconst (v := iI 1) d_Md_isFit_42 rfl ?_
            refine Rn.goto (tgt := 47) d_Md_isFit_43 (by decide) ?_
            refine Rn.istore_n (lv1 := [_, _, _, _]) d_Md_isFit_47 (by decide) (w_pv rfl) rfl ?_
            refine In.inc (lv1 := [_, _, _, _]) d_Md_isFit_48 rfl (by decide) (w_pv rfl) rfl ?_
            refine Rn.goto (tgt := 4) d_Md_isFit_51 (by decide) ?_
            exact ih
  have := loop m 0 (by omega)
  rw [if_pos e0] at this
  refine Rn.iconst (v := iI 1) d_Md_isFit_0 rfl ?_
  refine Rn.istore_n (lv1 := [_, _, _, _]) d_Md_isFit_1 (by decide) (w_pv rfl) rfl ?_
  refine Rn.iconst (v := iI 0) d_Md_isFit_2 rfl ?_
  refine Rn.istore_n (lv1 := [_, _, _, _]) d_Md_isFit_3 (by decide) (w_pv rfl) rfl ?_
  exact this
theorem m_Md_where {M : wM} {β : Nat → Int} {n : Nat} {σ : Nat → Int} {m : Nat} {τ : Nat → Int} {I J : wIm} {i V : Int} (hG : M.2.2 = RG) (hA : mdA M β n σ m τ I J) (hV : aLok β n σ m τ I J) (hi : -2147483648 ≤ i ∧ i < 2147483648) (v1 : i = -1 → V = pc (fitN β τ m)) (v2 : i ≠ -1 → V = nth (fun k => (fitN β τ m).testBit k) 12 0 0 i) : EvI k_Md_where [.ref 47, .int (iI i)] SH M (fun r M' => r = iI V ∧ mdA M' β n σ m τ I J ∧ Ofm M M') := by
  refine EvI.of 2 (by decide) (Nat.le_of_ble_eq_true rfl) rfl ?_
  refine Rn.aload_n d_Md_where_0 rfl ?_
  refine Rn.cVV d_Md_where_1 s_Md_where_Md_asNow g_715 g_717 gs_10 ⟨rfl, rfl⟩ ⟨Nat.zero_le _, Nat.zero_le _⟩ (m_Md_asNow hG hA.1) rfl rfl z_Md c_Md (Nat.le_of_ble_eq_true rfl) (fun M1 qq => ?_)
  obtain ⟨k1, n1, _, _, _⟩ := qq
  have hG1 := k1.G hG
  have hA1 := hA.kp k1
  have loop : ∀ (d l c : Nat), l + d = 12 → c = cnt (fun k => (fitN β τ m).testBit k) l → (i ≠ -1 → V = nth (fun k => (fitN β τ m).testBit k) d l c i) → Rn k_Md_where none (0, 0) 8 [some (.ref 47), some (.int (iI i)), some (.int (iI c)), some (.int (iI l))] [] SH M1 (w_FI (0, 0) SH (fun r M' => r = iI V ∧ mdA M' β n σ m τ I J ∧ Ofm M M')) := by
    intro d
    induction d with
    | zero =>
      intro l c h1 h2 h3
      have : l = 12 := by omega
      subst this
      refine Rn.iload_n d_Md_where_8 rfl ?_
      refine Rn.bipush (v := iI 12) d_Md_where_9 (by decide +kernel) ?_
      refine In.icmp_ge (tgt := 38) d_Md_where_11 (by decide) ⟨by omega, by omega⟩ ⟨by omega, by omega⟩ (fun c11 => ?_) (fun c11 => ?_)
      · refine Rn.iload_n d_Md_where_38 rfl ?_
        refine Rn.iconst (v := iI (-1)) d_Md_where_39 rfl ?_
        refine In.icmp_ne (tgt := 47) d_Md_where_40 (by decide) ⟨by omega, by omega⟩ ⟨by omega, by omega⟩ (fun c40 => ?_) (fun c40 => ?_)
        · rw [h3 c40]
          refine Rn.bipush (v := iI (-6)) d_Md_where_47 (by decide +kernel) ?_
          exact Rn.iret d_Md_where_49 rfl rfl ⟨rfl, hA1, k1.o⟩
        · rw [v1 (by omega)]
          refine Rn.iload_n d_Md_where_43 rfl ?_
          refine Rn.goto (tgt := 49) d_Md_where_44 (by decide) ?_
          exact Rn.iret d_Md_where_49 rfl rfl ⟨by rw [h2]; rfl, hA1, k1.o⟩
      · omega
    | succ d ih =>
      intro l c h1 h2 h3
      have hc := cnt_le (fun k => (fitN β τ m).testBit k) l
      have ih := ih (l + 1)
      have ec : cnt (fun k => (fitN β τ m).testBit k) (l + 1) = cnt (fun k => (fitN β τ m).testBit k) l + (if (fitN β τ m).testBit l = true then 1 else 0) := rfl
      have n1' : (fitN β τ m).testBit l = true → (c : Int) = i → nth (fun k => (fitN β τ m).testBit k) (d + 1) l c i = l := fun q q2 => by simp only [nth]; rw [if_pos q, if_pos q2]
      have n2' : (fitN β τ m).testBit l = true → ¬ (c : Int) = i → nth (fun k => (fitN β τ m).testBit k) (d + 1) l c i = nth (fun k => (fitN β τ m).testBit k) d (l + 1) (c + 1) i := fun q q2 => by simp only [nth]; rw [if_pos q, if_neg q2]
      have n3' : ¬ (fitN β τ m).testBit l = true → nth (fun k => (fitN β τ m).testBit k) (d + 1) l c i = nth (fun k => (fitN β τ m).testBit k) d (l + 1) c i := fun q => by simp only [nth]; rw [if_neg q]
      refine Rn.iload_n d_Md_where_8 rfl ?_
      refine Rn.bipush (v := iI 12) d_Md_where_9 (by decide +kernel) ?_
      refine In.icmp_ge (tgt := 38) d_Md_where_11 (by decide) ⟨by omega, by omega⟩ ⟨by omega, by omega⟩ (fun c11 => ?_) (fun c11 => ?_)
      · omega
      · refine Rn.aload_n d_Md_where_14 rfl ?_
        refine Rn.iload_n d_Md_where_15 rfl ?_
        refine Rn.cVI d_Md_where_16 s_Md_where_Md_isFit g_844 g_846 gs_23 ⟨rfl, rfl⟩ ⟨Nat.zero_le _, Nat.zero_le _⟩ (m_Md_isFit hG1 n1 hV.1.t hA1.2.2.2.1 hA1.2.2.2.2.1 hV.2.2.1 (show l < 12 by omega)) rfl rfl z_Md c_Md (Nat.le_of_ble_eq_true rfl) (fun rr MM qq => ?_)
        obtain ⟨rfl, rfl⟩ := And.imp id Eq.symm qq; clear qq
        refine In.if_eq (tgt := 32) d_Md_where_19 (by decide) fl_rg (fun c19 => ?_) (fun c19 => ?_)
        · have z := fl_eq c19
          rw [if_neg z] at ec
          refine In.inc (lv1 := [_, _, _, _]) d_Md_where_32 rfl (by decide) (w_pv rfl) rfl ?_
          refine Rn.goto (tgt := 8) d_Md_where_35 (by decide) ?_
          exact ih c (by omega) (by omega) (fun q => by rw [h3 q, n3' z])
        · have z := fl_ne c19
          rw [if_pos z] at ec
          refine Rn.iload_n d_Md_where_22 rfl ?_
          refine Rn.iload_n d_Md_where_23 rfl ?_
          refine In.icmp_ne (tgt := 29) d_Md_where_24 (by decide) ⟨by omega, by omega⟩ ⟨by omega, by omega⟩ (fun c24 => ?_) (fun c24 => ?_)
          · refine In.inc (lv1 := [_, _, _, _]) d_Md_where_29 rfl (by decide) (w_pv rfl) rfl ?_
            refine In.inc (lv1 := [_, _, _, _]) d_Md_where_32 rfl (by decide) (w_pv rfl) rfl ?_
            refine Rn.goto (tgt := 8) d_Md_where_35 (by decide) ?_
            exact ih (c + 1) (by omega) (by omega) (fun q => by rw [h3 q, n2' z c24]; norm_cast)
          · have hi1 : i ≠ -1 := by omega
            rw [h3 hi1, n1' z (by omega)]
            refine Rn.iload_n d_Md_where_27 rfl ?_
            exact Rn.iret d_Md_where_28 rfl rfl ⟨rfl, hA1, k1.o⟩
  refine Rn.iconst (v := iI 0) d_Md_where_4 rfl ?_
  refine Rn.istore_n (lv1 := [_, _, _, _]) d_Md_where_5 (by decide) (w_pv rfl) rfl ?_
  refine Rn.iconst (v := iI 0) d_Md_where_6 rfl ?_
  refine Rn.istore_n (lv1 := [_, _, _, _]) d_Md_where_7 (by decide) (w_pv rfl) rfl ?_
  exact loop 12 0 0 rfl rfl (fun q => by rw [v2 q]; rfl)
