/-! The reference's calls: near, ask. -/
set_option maxRecDepth 20000
set_option maxHeartbeats 400000
theorem dist_max {f : Nat → Int} (hf : tok f) : ∀ n a b, a + b ≤ n → a < 12 → b < 12 → dist f a b ≤ max a b
  | n, a, b, hn, ha, hb => by
    rcases Nat.lt_trichotomy a b with h | h | h
    · have hp := hf b (by omega) hb
      rw [dist_lt hf hb h]
      cases n with
      | zero => omega
      | succ n => have := dist_max hf n a (f b).toNat (by omega) ha (by omega); omega
    · rw [h, dist_self]; omega
    · have hp := hf a (by omega) ha
      rw [dist_gt hf ha h]
      cases n with
      | zero => omega
      | succ n => have := dist_max hf n (f a).toNat b (by omega) (by omega) hb; omega
theorem dist_12 {f : Nat → Int} (hf : tok f) {a b : Nat} (ha : a < 12) (hb : b < 12) : dist f a b < 12 := by
  have := dist_max hf _ a b (Nat.le_refl _) ha hb; omega
theorem mx_ge {f : Nat → Nat} : ∀ n v, v < n → f v ≤ mx f n
  | 0, v, h => by omega
  | n + 1, v, h => by
    rw [mx_s]
    by_cases e : v = n
    · subst e; omega
    · have := mx_ge (f := f) n v (by omega); omega
theorem mx_up {f f' : Nat → Nat} {v : Nat} (h2 : ∀ l, l ≠ v → f' l = f l) (h : f v ≤ f' v) : ∀ n, mx f' n = max (mx f n) (if v < n then f' v else 0)
  | 0 => by simp [mx]
  | n + 1 => by
    have ih := mx_up h2 h n
    rw [mx_s, mx_s, ih]
    by_cases e : n = v
    · subst e
      rw [if_neg (Nat.lt_irrefl n), if_pos (Nat.lt_succ_self n)]; omega
    · rw [h2 n e]
      by_cases e2 : v < n
      · rw [if_pos e2, if_pos (show v < n + 1 by omega)]; omega
      · rw [if_neg e2, if_neg (show ¬ v < n + 1 by omega)]; omega
theorem how_sm (f : Nat → Int) (l s : Nat) : ∀ n, howF f l s false n = sm (fun k => if s.testBit k = true then dist f l k else 0) n
  | 0 => rfl
  | n + 1 => by
    rw [sm_s, ← how_sm f l s n]
    simp only [howF]
    split <;> simp
theorem how_mx (f : Nat → Int) (l s : Nat) : ∀ n, howF f l s true n = mx (fun k => if s.testBit k = true then dist f l k else 0) n
  | 0 => rfl
  | n + 1 => by
    rw [mx_s, ← how_mx f l s n]
    simp only [howF]
    by_cases h : s.testBit n = true
    · rw [if_pos h, if_pos h, if_pos trivial]; split <;> omega
    · rw [if_neg h, if_neg h]; omega
/-- how far a ball is, 0 if it does not hang -/
def offF (g : Nat → Int) (l b : Nat) : Nat := if g (12 + b) = -6 then 0 else dist g l (g (12 + b)).toNat
theorem how_balls {g : Nat → Int} (h : hok g) (l : Nat) : howF g l (hungS g 6) false 12 = sm (offF g l) 6 ∧ howF g l (hungS g 6) true 12 = mx (offF g l) 6 := by
  rw [how_sm, how_mx]
  exact ⟨sm_hung h (dist g l) 6 (Nat.le_refl _), mx_hung h (dist g l) 6 (Nat.le_refl _)⟩
/-- the first least of a list of numbers -/
def nkF (w : Nat → Nat) : Nat → Int × Int
  | 0 => (-6, 1000000)
  | l + 1 => if (w l : Int) < (nkF w l).2 then ((l : Int), (w l : Int)) else nkF w l
theorem nk_1 {w : Nat → Nat} {l : Nat} (h : (w l : Int) < (nkF w l).2) : nkF w (l + 1) = ((l : Int), (w l : Int)) := by simp only [nkF]; rw [if_pos h]
theorem nk_2 {w : Nat → Nat} {l : Nat} (h : ¬ (w l : Int) < (nkF w l).2) : nkF w (l + 1) = nkF w l := by simp only [nkF]; rw [if_neg h]
theorem nk_near {f : Nat → Int} (hf : tok f) (h : Nat) (far : Bool) : ∀ k, k < 12 → nkF (fun l => howF f l h far 12) (k + 1) = (((fNear f h far k).1 : Int), ((fNear f h far k).2 : Int))
  | 0, hk => by
    have := howF_le (s := h) hf (show 0 < 12 by omega) far 12 (Nat.le_refl _)
    rw [nk_1 (w := fun l => howF f l h far 12) (l := 0) (show ((howF f 0 h far 12 : Nat) : Int) < 1000000 by omega)]; rfl
  | k + 1, hk => by
    have ih := nk_near hf h far k (by omega)
    by_cases e : howF f (k + 1) h far 12 < (fNear f h far k).2
    · rw [nk_1 (by rw [ih]; show ((howF f (k + 1) h far 12 : Nat) : Int) < ((fNear f h far k).2 : Int); omega)]
      simp only [fNear]; rw [if_pos e]
    · rw [nk_2 (by rw [ih]; show ¬ ((howF f (k + 1) h far 12 : Nat) : Int) < ((fNear f h far k).2 : Int); omega), ih]
      simp only [fNear]; rw [if_neg e]
theorem nk_rg {w : Nat → Nat} (hw : ∀ l, l < 12 → w l ≤ 1000) : ∀ k, k ≤ 12 → (-6 ≤ (nkF w k).1 ∧ (nkF w k).1 ≤ 100) ∧ (0 ≤ (nkF w k).2 ∧ (nkF w k).2 ≤ 1000000)
  | 0, _ => by simp [nkF]
  | k + 1, hk => by
    have ih := nk_rg hw k (by omega)
    have := hw k (by omega)
    simp only [nkF]
    split
    · simp only; omega
    · exact ih
theorem m_Md_near {M : wM} {β : Nat → Int} {n : Nat} {σ : Nat → Int} {m : Nat} {τ : Nat → Int} {I J : wIm} {w V : Int} (hG : M.2.2 = RG) (hA : mdA M β n σ m τ I J) (hV : aLok β n σ m τ I J) (hw : -2147483648 ≤ w ∧ w < 2147483648)
    (v1 : ¬ (0 ≤ w ∧ w ≤ 3) → V = -2) (v2 : (0 ≤ w ∧ w ≤ 3) → hungS β 6 = 0 → V = -6) (v3 : (0 ≤ w ∧ w ≤ 3) → hungS β 6 ≠ 0 → w = 0 ∨ w = 2 → V = (fNear β (hungS β 6) (decide (2 ≤ w)) 11).1) (v4 : (0 ≤ w ∧ w ≤ 3) → hungS β 6 ≠ 0 → ¬ (w = 0 ∨ w = 2) → V = (fNear β (hungS β 6) (decide (2 ≤ w)) 11).2) : EvI k_Md_near [.ref 47, .int (iI w)] SH M (fun r M' => r = iI V ∧ mdA M' β n σ m τ I J ∧ Ofm M M') := by
  refine EvI.of 7 (by decide) (Nat.le_of_ble_eq_true rfl) rfl ?_
  refine Rn.iload_n d_Md_near_0 rfl ?_
  refine Rn.iconst (v := iI 0) d_Md_near_1 rfl ?_
  refine Rn.iconst (v := iI 3) d_Md_near_2 rfl ?_
  refine Rn.cSI d_Md_near_3 s_Md_near_Md_in g_708 g_709 ⟨rfl, rfl⟩ ⟨Nat.zero_le _, Nat.zero_le _⟩ (m_Md_in hw (by decide) (by decide)) rfl rfl (Nat.le_of_ble_eq_true rfl) (fun rr MM qq => ?_)
  obtain ⟨rfl, rfl⟩ := And.imp id Eq.symm qq; clear qq
  refine In.if_ne (tgt := 12) d_Md_near_6 (by decide) fl_rg (fun c6 => ?_) (fun c6 => ?_)
  · have q := fl_ne c6
    have v2 := v2 q
    have v3 := v3 q
    have v4 := v4 q
    have hlt := hungS_lt hV.1.l 6 (Nat.le_refl _)
    refine Rn.aload_n d_Md_near_12 rfl ?_
    refine Rn.cVV d_Md_near_13 s_Md_near_Md_asNow g_715 g_717 gs_10 ⟨rfl, rfl⟩ ⟨Nat.zero_le _, Nat.zero_le _⟩ (m_Md_asNow hG hA.1) rfl rfl z_Md c_Md (Nat.le_of_ble_eq_true rfl) (fun M1 qq => ?_)
    obtain ⟨k1, n1, _, _, _⟩ := qq
    have hG1 := k1.G hG
    have hA1 := hA.kp k1
    obtain ⟨W, hW⟩ : ∃ W : Nat → Nat, W = fun l => howF β l (hungS β 6) (decide (2 ≤ w)) 12 := ⟨_, rfl⟩
    have hWl : ∀ l, l < 12 → W l ≤ 1000 := fun l hl => by
      rw [hW]; have := howF_le (s := hungS β 6) hV.1.t hl (decide (2 ≤ w)) 12 (Nat.le_refl _); simp only; omega
    have hrg := nk_rg hWl
    have hWn : nkF W 12 = (((fNear β (hungS β 6) (decide (2 ≤ w)) 11).1 : Int), ((fNear β (hungS β 6) (decide (2 ≤ w)) 11).2 : Int)) := by rw [hW]; exact nk_near hV.1.t _ _ 11 (by decide)
    have hW1 : ∀ l, w < 2 → W l = sm (offF β l) 6 := fun l q => by rw [hW, decide_eq_false (show ¬ (2 ≤ w) by omega)]; exact (how_balls hV.1 l).1
    have hW2 : ∀ l, ¬ w < 2 → W l = mx (offF β l) 6 := fun l q => by rw [hW, decide_eq_true (show 2 ≤ w by omega)]; exact (how_balls hV.1 l).2
    clear hW
    have fin : ∀ (l : Nat) (x5 x6 x7 x8 : Option Value) (fo le : Int), (hungS β 6 = 0 → fo = -6 ∧ 0 ≤ le ∧ le ≤ 1000000) → (hungS β 6 ≠ 0 → fo = (fNear β (hungS β 6) (decide (2 ≤ w)) 11).1 ∧ le = (fNear β (hungS β 6) (decide (2 ≤ w)) 11).2) → (-6 ≤ fo ∧ fo ≤ 100) → Rn k_Md_near none (0, 0) 165 [some (.ref 47), some (.int (iI w)), some (.int (iI le)), some (.int (iI fo)), some (.int (iI l)), x5, x6, x7, x8] [] SH M1 (w_FI (0, 0) SH (fun r M' => r = iI V ∧ mdA M' β n σ m τ I J ∧ Ofm M M')) := by
      intro l x5 x6 x7 x8 fo le h1 h2 h3
      by_cases z : hungS β 6 = 0
      · have h1 := h1 z
        rw [v2 z, h1.1]
        refine Rn.iload_n d_Md_near_165 rfl ?_
        refine In.if_lt (tgt := 175) d_Md_near_166 (by decide) ⟨by omega, by omega⟩ (fun c166 => ?_) (fun c166 => ?_)
        · refine Rn.iload_n d_Md_near_175 rfl ?_
          refine Rn.goto (tgt := 180) d_Md_near_176 (by decide) ?_
          exact Rn.iret d_Md_near_180 rfl rfl ⟨rfl, hA1, k1.o⟩
        · omega
      · have h2 := h2 z
        have v3 := v3 z
        have v4 := v4 z
        rw [h2.1, h2.2]
        rw [h2.1] at h3
        refine Rn.iload_n d_Md_near_165 rfl ?_
        refine In.if_lt (tgt := 175) d_Md_near_166 (by decide) ⟨by omega, by omega⟩ (fun c166 => ?_) (fun c166 => ?_)
        · omega
        · refine Rn.iload_n d_Md_near_169 rfl ?_
          refine Rn.iconst (v := iI 2) d_Md_near_170 rfl ?_
          refine In.rem d_Md_near_171 ⟨by omega, by omega⟩ ⟨by decide, by decide⟩ ?_
          refine In.if_ne (tgt := 179) d_Md_near_172 (by decide) ⟨by omega, by omega⟩ (fun c172 => ?_) (fun c172 => ?_)
          · rw [v4 (by omega)]
            refine Rn.iload_n d_Md_near_179 rfl ?_
            exact Rn.iret d_Md_near_180 rfl rfl ⟨rfl, hA1, k1.o⟩
          · rw [v3 (by omega)]
            refine Rn.iload_n d_Md_near_175 rfl ?_
            refine Rn.goto (tgt := 180) d_Md_near_176 (by decide) ?_
            exact Rn.iret d_Md_near_180 rfl rfl ⟨rfl, hA1, k1.o⟩
    have loop : ∀ (d l : Nat) (x5 x6 x7 x8 : Option Value), l + d = 12 → (hungS β 6 = 0 → l = 0) → Rn k_Md_near none (0, 0) 25 [some (.ref 47), some (.int (iI w)), some (.int (iI (nkF W l).2)), some (.int (iI (nkF W l).1)), some (.int (iI l)), x5, x6, x7, x8] [] SH M1 (w_FI (0, 0) SH (fun r M' => r = iI V ∧ mdA M' β n σ m τ I J ∧ Ofm M M')) := by
      intro d
      induction d with
      | zero =>
        intro l x5 x6 x7 x8 h1 h2
        have : l = 12 := by omega
        subst this
        refine Rn.iload d_Md_near_25 rfl ?_
        refine Rn.bipush (v := iI 12) d_Md_near_27 (by decide +kernel) ?_
        refine In.icmp_ge (tgt := 165) d_Md_near_29 (by decide) ⟨by omega, by omega⟩ ⟨by omega, by omega⟩ (fun c29 => ?_) (fun c29 => ?_)
        · exact fin _ _ _ _ _ _ _ (fun z => by have := h2 z; omega) (fun _ => by rw [hWn]; exact ⟨rfl, rfl⟩) (hrg 12 (by omega)).1
        · omega
      | succ d ih =>
        intro l x5 x6 x7 x8 h1 h2
        have ih := ih (l + 1)
        have hl := hrg l (by omega)
        have hWL := hWl l (by omega)
        have hW1 := hW1 l
        have hW2 := hW2 l
        have e1 : (W l : Int) < (nkF W l).2 → nkF W (l + 1) = ((l : Int), (W l : Int)) := fun q => by simp only [nkF]; rw [if_pos q]
        have e2 : ¬ (W l : Int) < (nkF W l).2 → nkF W (l + 1) = nkF W l := fun q => by simp only [nkF]; rw [if_neg q]
        refine Rn.iload d_Md_near_25 rfl ?_
        refine Rn.bipush (v := iI 12) d_Md_near_27 (by decide +kernel) ?_
        refine In.icmp_ge (tgt := 165) d_Md_near_29 (by decide) ⟨by omega, by omega⟩ ⟨by omega, by omega⟩ (fun c29 => ?_) (fun c29 => ?_)
        · omega
        · refine Rn.aload_n d_Md_near_32 rfl ?_
          refine Rn.cVI d_Md_near_33 s_Md_near_Md_hanging g_762 g_764 gs_17 ⟨rfl, rfl⟩ ⟨Nat.zero_le _, Nat.zero_le _⟩ (m_Md_hanging hG1 n1 hV.1.l) rfl rfl z_Md c_Md (Nat.le_of_ble_eq_true rfl) (fun rr MM qq => ?_)
          obtain ⟨rfl, rfl⟩ := And.imp id Eq.symm qq; clear qq
          refine In.if_eq (tgt := 165) d_Md_near_36 (by decide) ⟨by omega, by omega⟩ (fun c36 => ?_) (fun c36 => ?_)
          · have z : hungS β 6 = 0 := by omega
            have hl0 := h2 z
            subst hl0
            exact fin _ _ _ _ _ _ _ (fun _ => ⟨rfl, (show (0 : Int) ≤ 1000000 by decide), (show (1000000 : Int) ≤ 1000000 by decide)⟩) (fun q => absurd z q) (show (-6 : Int) ≤ -6 ∧ (-6 : Int) ≤ 100 by decide)
          · have z : hungS β 6 ≠ 0 := by omega
            generalize hN1 : nkF W l = N at *
            have own : ∀ (y5 y6 : Int) (y8 : Option Value) (y7 : Int), (y5 = sm (offF β l) 6) → (y6 = mx (offF β l) 6) → Rn k_Md_near none (0, 0) 119 [some (.ref 47), some (.int (iI w)), some (.int (iI N.2)), some (.int (iI N.1)), some (.int (iI l)), some (.int (iI y5)), some (.int (iI y6)), some (.int (iI y7)), y8] [] SH M1 (w_FI (0, 0) SH (fun r M' => r = iI V ∧ mdA M' β n σ m τ I J ∧ Ofm M M')) := by
              intro y5 y6 y8 y7 g5 g6
              have own2 : Rn k_Md_near none (0, 0) 131 [some (.ref 47), some (.int (iI w)), some (.int (iI N.2)), some (.int (iI N.1)), some (.int (iI l)), some (.int (iI y5)), some (.int (iI y6)), some (.int (iI y7)), y8] [.int (iI (W l))] SH M1 (w_FI (0, 0) SH (fun r M' => r = iI V ∧ mdA M' β n σ m τ I J ∧ Ofm M M')) := by
                refine Rn.istore (lv1 := [_, _, _, _, _, _, _, _, _]) d_Md_near_131 (by decide) (w_pv rfl) rfl ?_
                refine Rn.iload d_Md_near_133 rfl ?_
                refine Rn.iload_n d_Md_near_135 rfl ?_
                refine In.icmp_ge (tgt := 144) d_Md_near_136 (by decide) ⟨by omega, by omega⟩ ⟨by omega, by omega⟩ (fun c136 => ?_) (fun c136 => ?_)
                · rw [e2 (by omega)] at ih
                  refine Rn.iload_n d_Md_near_144 rfl ?_
                  refine Rn.istore_n (lv1 := [_, _, _, _, _, _, _, _, _]) d_Md_near_145 (by decide) (w_pv rfl) rfl ?_
                  refine Rn.iload d_Md_near_146 rfl ?_
                  refine Rn.iload_n d_Md_near_148 rfl ?_
                  refine In.icmp_ge (tgt := 157) d_Md_near_149 (by decide) ⟨by omega, by omega⟩ ⟨by omega, by omega⟩ (fun c149 => ?_) (fun c149 => ?_)
                  · refine Rn.iload_n d_Md_near_157 rfl ?_
                    refine Rn.istore_n (lv1 := [_, _, _, _, _, _, _, _, _]) d_Md_near_158 (by decide) (w_pv rfl) rfl ?_
                    refine In.inc (lv1 := [_, _, _, _, _, _, _, _, _]) d_Md_near_159 rfl (by decide) (w_pv rfl) rfl ?_
                    refine Rn.goto (tgt := 25) d_Md_near_162 (by decide) ?_
                    exact ih _ _ _ _ (by omega) (fun q => absurd q z)
                  · omega
                · rw [e1 (by omega)] at ih
                  refine Rn.iload d_Md_near_139 rfl ?_
                  refine Rn.goto (tgt := 145) d_Md_near_141 (by decide) ?_
                  refine Rn.istore_n (lv1 := [_, _, _, _, _, _, _, _, _]) d_Md_near_145 (by decide) (w_pv rfl) rfl ?_
                  refine Rn.iload d_Md_near_146 rfl ?_
                  refine Rn.iload_n d_Md_near_148 rfl ?_
                  refine In.icmp_ge (tgt := 157) d_Md_near_149 (by decide) ⟨by omega, by omega⟩ ⟨by omega, by omega⟩ (fun c149 => ?_) (fun c149 => ?_)
                  · omega
                  · refine Rn.iload d_Md_near_152 rfl ?_
                    refine Rn.goto (tgt := 158) d_Md_near_154 (by decide) ?_
                    refine Rn.istore_n (lv1 := [_, _, _, _, _, _, _, _, _]) d_Md_near_158 (by decide) (w_pv rfl) rfl ?_
                    refine In.inc (lv1 := [_, _, _, _, _, _, _, _, _]) d_Md_near_159 rfl (by decide) (w_pv rfl) rfl ?_
                    refine Rn.goto (tgt := 25) d_Md_near_162 (by decide) ?_
                    exact ih _ _ _ _ (by omega) (fun q => absurd q z)
              refine Rn.iload_n d_Md_near_119 rfl ?_
              refine Rn.iconst (v := iI 2) d_Md_near_120 rfl ?_
              refine In.icmp_ge (tgt := 129) d_Md_near_121 (by decide) ⟨by omega, by omega⟩ ⟨by omega, by omega⟩ (fun c121 => ?_) (fun c121 => ?_)
              · rw [g6, ← hW2 (by omega)] at own2 ⊢
                refine Rn.iload d_Md_near_129 rfl ?_
                exact own2
              · rw [g5, ← hW1 (by omega)] at own2 ⊢
                refine Rn.iload d_Md_near_124 rfl ?_
                refine Rn.goto (tgt := 131) d_Md_near_126 (by decide) ?_
                exact own2
            have inner : ∀ (e b : Nat) (y8 : Option Value), b + e = 6 → Rn k_Md_near none (0, 0) 48 [some (.ref 47), some (.int (iI w)), some (.int (iI N.2)), some (.int (iI N.1)), some (.int (iI l)), some (.int (iI (sm (offF β l) b))), some (.int (iI (mx (offF β l) b))), some (.int (iI b)), y8] [] SH M1 (w_FI (0, 0) SH (fun r M' => r = iI V ∧ mdA M' β n σ m τ I J ∧ Ofm M M')) := by
              intro e
              induction e with
              | zero =>
                intro b y8 g1
                have : b = 6 := by omega
                subst this
                refine Rn.iload d_Md_near_48 rfl ?_
                refine Rn.bipush (v := iI 6) d_Md_near_50 (by decide +kernel) ?_
                refine In.icmp_ge (tgt := 119) d_Md_near_52 (by decide) ⟨by omega, by omega⟩ ⟨by omega, by omega⟩ (fun c52 => ?_) (fun c52 => ?_)
                · exact own _ _ _ _ rfl rfl
                · omega
              | succ e ihe =>
                intro b y8 g1
                have hlb := hV.1.l b (by omega)
                have ihe := ihe (b + 1)
                have hol : ∀ b, b < 6 → offF β l b ≤ 22 := fun b hb => by
                  have hlb := hV.1.l b hb
                  unfold offF
                  by_cases q : β (12 + b) = -6
                  · rw [if_pos q]; omega
                  · rw [if_neg q]; exact dist_22 hV.1.t (by omega) (by omega)
                have hmx := mx_le (f := offF β l) (c := 22) b (fun k hk => hol k (by omega))
                have hob := hol b (by omega)
                rw [sm_s, mx_s] at ihe
                have fin2 : ∀ v : Nat, v = offF β l b → Rn k_Md_near none (0, 0) 88 [some (.ref 47), some (.int (iI w)), some (.int (iI N.2)), some (.int (iI N.1)), some (.int (iI l)), some (.int (iI (sm (offF β l) b))), some (.int (iI (mx (offF β l) b))), some (.int (iI b)), y8] [.int (iI v)] SH M1 (w_FI (0, 0) SH (fun r M' => r = iI V ∧ mdA M' β n σ m τ I J ∧ Ofm M M')) := by
                  intro v hv
                  rw [← hv] at ihe hob
                  have ihe := ihe (some (.int (iI v))) (by omega)
                  refine Rn.istore (lv1 := [_, _, _, _, _, _, _, _, _]) d_Md_near_88 (by decide) (w_pv rfl) rfl ?_
                  refine Rn.iload d_Md_near_90 rfl ?_
                  refine Rn.iload d_Md_near_92 rfl ?_
                  refine In.add d_Md_near_94 ?_
                  refine Rn.istore (lv1 := [_, _, _, _, _, _, _, _, _]) d_Md_near_95 (by decide) (w_pv rfl) rfl ?_
                  refine Rn.iload d_Md_near_97 rfl ?_
                  refine Rn.iload d_Md_near_99 rfl ?_
                  refine In.icmp_le (tgt := 109) d_Md_near_101 (by decide) ⟨by omega, by omega⟩ ⟨by omega, by omega⟩ (fun c101 => ?_) (fun c101 => ?_)
                  · rw [show max (mx (offF β l) b) v = mx (offF β l) b by omega] at ihe
                    refine Rn.iload d_Md_near_109 rfl ?_
                    refine Rn.istore (lv1 := [_, _, _, _, _, _, _, _, _]) d_Md_near_111 (by decide) (w_pv rfl) rfl ?_
                    refine In.inc (lv1 := [_, _, _, _, _, _, _, _, _]) d_Md_near_113 rfl (by decide) (w_pv rfl) rfl ?_
                    refine Rn.goto (tgt := 48) d_Md_near_116 (by decide) ?_
                    exact ihe
                  · rw [show max (mx (offF β l) b) v = v by omega] at ihe
                    refine Rn.iload d_Md_near_104 rfl ?_
                    refine Rn.goto (tgt := 111) d_Md_near_106 (by decide) ?_
                    refine Rn.istore (lv1 := [_, _, _, _, _, _, _, _, _]) d_Md_near_111 (by decide) (w_pv rfl) rfl ?_
                    refine In.inc (lv1 := [_, _, _, _, _, _, _, _, _]) d_Md_near_113 rfl (by decide) (w_pv rfl) rfl ?_
                    refine Rn.goto (tgt := 48) d_Md_near_116 (by decide) ?_
                    exact ihe
                refine Rn.iload d_Md_near_48 rfl ?_
                refine Rn.bipush (v := iI 6) d_Md_near_50 (by decide +kernel) ?_
                refine In.icmp_ge (tgt := 119) d_Md_near_52 (by decide) ⟨by omega, by omega⟩ ⟨by omega, by omega⟩ (fun c52 => ?_) (fun c52 => ?_)
                · omega
                · refine Rn.aload_n d_Md_near_55 rfl ?_
                  refine Rn.getR d_Md_near_56 f_Md_now g_651 z_Md (r_Md_now hG1) ?_
                  refine Rn.bipush (v := iI 12) d_Md_near_59 (by decide +kernel) ?_
                  refine Rn.iload d_Md_near_61 rfl ?_
                  refine In.add d_Md_near_63 ?_
                  refine In.ald d_Md_near_64 z_Md_now (by omega) (by omega) (by decide) (n1 (12 + b) (by omega)) ?_
                  refine In.if_ge (tgt := 72) d_Md_near_65 (by decide) ⟨by omega, by omega⟩ (fun c65 => ?_) (fun c65 => ?_)
                  · have ho : offF β l b = dist β l (β (12 + b)).toNat := by unfold offF; rw [if_neg (by omega)]
                    obtain ⟨u, hu⟩ : ∃ u : Nat, β (12 + b) = u := ⟨(β (12 + b)).toNat, by omega⟩
                    rw [hu, Int.toNat_natCast] at ho
                    refine Rn.aload_n d_Md_near_72 rfl ?_
                    refine Rn.iload d_Md_near_73 rfl ?_
                    refine Rn.aload_n d_Md_near_75 rfl ?_
                    refine Rn.getR d_Md_near_76 f_Md_now g_651 z_Md (r_Md_now hG1) ?_
                    refine Rn.bipush (v := iI 12) d_Md_near_79 (by decide +kernel) ?_
                    refine Rn.iload d_Md_near_81 rfl ?_
                    refine In.add d_Md_near_83 ?_
                    refine In.ald d_Md_near_84 z_Md_now (by omega) (by omega) (by decide) ((n1 (12 + b) (by omega)).trans (by rw [hu])) ?_
                    refine Rn.cVI d_Md_near_85 s_Md_near_Md_apartOf g_769 g_771 gs_18 ⟨rfl, rfl⟩ ⟨Nat.zero_le _, Nat.zero_le _⟩ (m_Md_apartOf hG1 n1 hV.1.t (show l < 12 by omega) (show u < 12 by omega)) rfl rfl z_Md c_Md (Nat.le_of_ble_eq_true rfl) (fun rr MM qq => ?_)
                    obtain ⟨rfl, rfl⟩ := And.imp id Eq.symm qq; clear qq
                    exact fin2 _ ho.symm
                  · have ho : offF β l b = 0 := by unfold offF; rw [if_pos (by omega)]
                    refine Rn.iconst (v := iI 0) d_Md_near_68 rfl ?_
                    refine Rn.goto (tgt := 88) d_Md_near_69 (by decide) ?_
                    exact fin2 0 ho.symm
            refine Rn.iconst (v := iI 0) d_Md_near_39 rfl ?_
            refine Rn.istore (lv1 := [_, _, _, _, _, _, _, _, _]) d_Md_near_40 (by decide) (w_pv rfl) rfl ?_
            refine Rn.iconst (v := iI 0) d_Md_near_42 rfl ?_
            refine Rn.istore (lv1 := [_, _, _, _, _, _, _, _, _]) d_Md_near_43 (by decide) (w_pv rfl) rfl ?_
            refine Rn.iconst (v := iI 0) d_Md_near_45 rfl ?_
            refine Rn.istore (lv1 := [_, _, _, _, _, _, _, _, _]) d_Md_near_46 (by decide) (w_pv rfl) rfl ?_
            exact inner 6 0 _ rfl
    refine In.ldc (z := (1000000)) d_Md_near_16 g_823 (by decide +kernel) ?_
    refine Rn.istore_n (lv1 := [_, _, _, _, _, _, _, _, _]) d_Md_near_18 (by decide) (w_pv rfl) rfl ?_
    refine Rn.bipush (v := iI (-6)) d_Md_near_19 (by decide +kernel) ?_
    refine Rn.istore_n (lv1 := [_, _, _, _, _, _, _, _, _]) d_Md_near_21 (by decide) (w_pv rfl) rfl ?_
    refine Rn.iconst (v := iI 0) d_Md_near_22 rfl ?_
    refine Rn.istore (lv1 := [_, _, _, _, _, _, _, _, _]) d_Md_near_23 (by decide) (w_pv rfl) rfl ?_
    exact loop 12 0 _ _ _ _ rfl (fun _ => rfl)
  · have q := fl_eq c6
    rw [v1 q]
    refine Rn.bipush (v := iI (-2)) d_Md_near_9 (by decide +kernel) ?_
    exact Rn.iret d_Md_near_11 rfl rfl ⟨rfl, hA, Ofm.rf⟩
/-- of the first loops of a set, how many are so far off -/
def ctF (f : Nat → Int) (l s v : Nat) : Nat → Nat
  | 0 => 0
  | x + 1 => ctF f l s v x + if s.testBit x = true ∧ dist f l x = v then 1 else 0
theorem ctF_le (f : Nat → Int) (l s v : Nat) : ∀ n, ctF f l s v n ≤ n
  | 0 => Nat.le_refl _
  | n + 1 => by have := ctF_le f l s v n; simp only [ctF]; split <;> omega
theorem ctF_pos {f : Nat → Int} {l s v x : Nat} (h1 : s.testBit x = true) (h2 : dist f l x = v) : ∀ n, x < n → 1 ≤ ctF f l s v n
  | 0, h => by omega
  | n + 1, h => by
    simp only [ctF]
    by_cases e : x = n
    · subst e; rw [if_pos ⟨h1, h2⟩]; omega
    · have := ctF_pos h1 h2 n (by omega); omega
theorem ctF_pc (f : Nat → Int) (l s v : Nat) : ∀ n, n ≤ 12 → cnt (fun k => (ringS f l v v &&& s).testBit k) n = ctF f l s v n
  | 0, _ => rfl
  | n + 1, hn => by
    simp only [cnt, ctF]
    rw [ctF_pc f l s v n (by omega)]
    congr 1
    have hr : (ringS f l v v).testBit n = true ↔ dist f l n = v := by
      unfold ringS
      rw [setOf_bit]
      simp only [show n < 12 by omega, decide_true, Bool.true_and, Bool.and_eq_true, decide_eq_true_eq]
      omega
    have hb : (ringS f l v v &&& s).testBit n = true ↔ (s.testBit n = true ∧ dist f l n = v) := by
      rw [Nat.testBit_and, Bool.and_eq_true, hr]; exact And.comm
    by_cases q : s.testBit n = true ∧ dist f l n = v
    · rw [if_pos q, if_pos (hb.mpr q)]
    · rw [if_neg q, if_neg (fun k => q (hb.mp k))]
theorem mlF_ct (f : Nat → Int) (l s : Nat) : ∀ n, mlF f l s n = mx (fun v => ctF f l s v 12) n
  | 0 => rfl
  | n + 1 => by
    rw [mx_s, ← mlF_ct f l s n]
    have e : pc (ringS f l n n &&& s) = ctF f l s n 12 := ctF_pc f l s n 12 (Nat.le_refl _)
    simp only [mlF]
    rw [e]
    split <;> omega
theorem some_bit12 {s : Nat} (h : s < 4096) (h0 : s ≠ 0) : ∃ x, x < 12 ∧ s.testBit x = true := by
  refine Decidable.byContradiction fun hc => h0 ?_
  refine Nat.eq_of_testBit_eq fun j => ?_
  rw [Nat.zero_testBit]
  by_cases e : j < 12
  · exact Bool.eq_false_iff.mpr fun q => hc ⟨j, e, q⟩
  · exact Nat.testBit_lt_two_pow (Nat.lt_of_lt_of_le h (Nat.pow_le_pow_right (n := 2) (i := 12) (by decide) (by omega)))
theorem mlF_pos {f : Nat → Int} (hf : tok f) {l s : Nat} (hl : l < 12) (hs : s < 4096) (h0 : s ≠ 0) : 0 < mlF f l s 12 := by
  obtain ⟨x, h1, h2⟩ := some_bit12 hs h0
  rw [mlF_ct]
  have q := ctF_pos (f := f) (l := l) h2 rfl 12 h1
  have := mx_ge (f := fun v => ctF f l s v 12) 12 (dist f l x) (dist_12 hf hl h1)
  omega
theorem mlF_0 (f : Nat → Int) (l : Nat) : mlF f l 0 12 = 0 := by
  rw [mlF_ct]
  have e : mx (fun v => ctF f l 0 v 12) 12 ≤ 0 := mx_le 12 (fun v _ => by
    have h0 : ∀ n, ctF f l 0 v n = 0 := by
      intro n
      induction n with
      | zero => rfl
      | succ n ih => simp only [ctF]; rw [ih, if_neg (by simp)]
    rw [h0]; exact Nat.le_refl _)
  omega
/-- the first least that is not 0 -/
def akF (w : Nat → Nat) : Nat → Int × Int
  | 0 => (-6, 1000000)
  | l + 1 => if 0 < w l ∧ (w l : Int) < (akF w l).2 then ((l : Int), (w l : Int)) else akF w l
theorem ak_1 {w : Nat → Nat} {l : Nat} (h : 0 < w l ∧ (w l : Int) < (akF w l).2) : akF w (l + 1) = ((l : Int), (w l : Int)) := by simp only [akF]; rw [if_pos h]
theorem ak_2 {w : Nat → Nat} {l : Nat} (h : ¬ (0 < w l ∧ (w l : Int) < (akF w l).2)) : akF w (l + 1) = akF w l := by simp only [akF]; rw [if_neg h]
theorem ak_ask {f : Nat → Int} (hf : tok f) {s : Nat} (hs : s < 4096) (h0 : s ≠ 0) : ∀ k, k < 12 → akF (fun l => mlF f l s 12) (k + 1) = (((fAskN f s k).1 : Int), ((fAskN f s k).2 : Int))
  | 0, hk => by
    have := mlF_le f 0 s 12
    have hp := mlF_pos hf (show 0 < 12 by omega) hs h0
    rw [ak_1 (w := fun l => mlF f l s 12) (l := 0) (show 0 < mlF f 0 s 12 ∧ ((mlF f 0 s 12 : Nat) : Int) < 1000000 by omega)]; rfl
  | k + 1, hk => by
    have ih := ak_ask hf hs h0 k (by omega)
    have hp := mlF_pos hf hk hs h0
    by_cases e : mlF f (k + 1) s 12 < (fAskN f s k).2
    · rw [ak_1 (by rw [ih]; show 0 < mlF f (k + 1) s 12 ∧ ((mlF f (k + 1) s 12 : Nat) : Int) < ((fAskN f s k).2 : Int); omega)]
      simp only [fAskN]; rw [if_pos e]
    · rw [ak_2 (by rw [ih]; show ¬ (0 < mlF f (k + 1) s 12 ∧ ((mlF f (k + 1) s 12 : Nat) : Int) < ((fAskN f s k).2 : Int)); omega), ih]
      simp only [fAskN]; rw [if_neg e]
theorem ak_0 {w : Nat → Nat} (h : ∀ l, w l = 0) : ∀ k, akF w k = (-6, 1000000)
  | 0 => rfl
  | k + 1 => by simp only [akF]; rw [if_neg (by rw [h]; omega), ak_0 h k]
theorem ak_rg {w : Nat → Nat} (hw : ∀ l, w l ≤ 1000) : ∀ k, k ≤ 12 → (-6 ≤ (akF w k).1 ∧ (akF w k).1 ≤ 100) ∧ (0 ≤ (akF w k).2 ∧ (akF w k).2 ≤ 1000000)
  | 0, _ => by simp [akF]
  | k + 1, hk => by
    have ih := ak_rg hw k (by omega)
    have := hw k
    simp only [akF]
    split
    · simp only; omega
    · exact ih
theorem m_Md_ask {M : wM} {β : Nat → Int} {n : Nat} {σ : Nat → Int} {m : Nat} {τ : Nat → Int} {I J : wIm} {w V : Int} (hG : M.2.2 = RG) (hA : mdA M β n σ m τ I J) (hV : aLok β n σ m τ I J) (hw : -2147483648 ≤ w ∧ w < 2147483648) (v1 : ¬ (0 ≤ w ∧ w ≤ 1) → V = -2) (v2 : (0 ≤ w ∧ w ≤ 1) → fitN β τ m = 0 → V = -6) (v3 : fitN β τ m ≠ 0 → w = 0 → V = (fAskN β (fitN β τ m) 11).1) (v4 : fitN β τ m ≠ 0 → w = 1 → V = (fAskN β (fitN β τ m) 11).2) : EvI k_Md_ask [.ref 47, .int (iI w)] SH M (fun r M' => r = iI V ∧ mdA M' β n σ m τ I J ∧ Ofm M M') := by
  refine EvI.of 6 (by decide) (Nat.le_of_ble_eq_true rfl) rfl ?_
  refine Rn.iload_n d_Md_ask_0 rfl ?_
  refine Rn.iconst (v := iI 0) d_Md_ask_1 rfl ?_
  refine Rn.iconst (v := iI 1) d_Md_ask_2 rfl ?_
  refine Rn.cSI d_Md_ask_3 s_Md_ask_Md_in g_708 g_709 ⟨rfl, rfl⟩ ⟨Nat.zero_le _, Nat.zero_le _⟩ (m_Md_in hw (by decide) (by decide)) rfl rfl (Nat.le_of_ble_eq_true rfl) (fun rr MM qq => ?_)
  obtain ⟨rfl, rfl⟩ := And.imp id Eq.symm qq; clear qq
  refine In.if_ne (tgt := 12) d_Md_ask_6 (by decide) fl_rg (fun c6 => ?_) (fun c6 => ?_)
  · have q := fl_ne c6
    have v2 := v2 q
    have ht := hV.1.t
    have hfl := fitN_lt β τ m
    refine Rn.aload_n d_Md_ask_12 rfl ?_
    refine Rn.cVV d_Md_ask_13 s_Md_ask_Md_asNow g_715 g_717 gs_10 ⟨rfl, rfl⟩ ⟨Nat.zero_le _, Nat.zero_le _⟩ (m_Md_asNow hG hA.1) rfl rfl z_Md c_Md (Nat.le_of_ble_eq_true rfl) (fun M1 qq => ?_)
    obtain ⟨k1, n1, _, _, _⟩ := qq
    obtain ⟨W, hW⟩ : ∃ W : Nat → Nat, W = fun l => mlF β l (fitN β τ m) 12 := ⟨_, rfl⟩
    have hWl : ∀ l, W l ≤ 1000 := fun l => by rw [hW]; have := mlF_le β l (fitN β τ m) 12; simp only; omega
    have hrg := ak_rg hWl
    have hWn : fitN β τ m ≠ 0 → akF W 12 = (((fAskN β (fitN β τ m) 11).1 : Int), ((fAskN β (fitN β τ m) 11).2 : Int)) := fun z => by rw [hW]; exact ak_ask ht hfl z 11 (by decide)
    have hW0 : fitN β τ m = 0 → akF W 12 = (-6, 1000000) := fun z => ak_0 (fun l => by rw [hW]; simp only; rw [z]; exact mlF_0 β l) 12
    have hWm : ∀ l, W l = mx (fun v => ctF β l (fitN β τ m) v 12) 12 := fun l => by rw [hW]; exact mlF_ct β l _ 12
    clear hW
    have loop : ∀ (d l : Nat) (Mc : wM) (x5 x6 x7 : Option Value), l + d = 12 → Kp M Mc → nwA Mc β → Rn k_Md_ask none (0, 0) 25 [some (.ref 47), some (.int (iI w)), some (.int (iI (akF W l).1)), some (.int (iI (akF W l).2)), some (.int (iI l)), x5, x6, x7] [] SH Mc (w_FI (0, 0) SH (fun r M' => r = iI V ∧ mdA M' β n σ m τ I J ∧ Ofm M M')) := by
      intro d
      induction d with
      | zero =>
        intro l Mc x5 x6 x7 h1 h2 h3
        have : l = 12 := by omega
        subst this
        refine Rn.iload d_Md_ask_25 rfl ?_
        refine Rn.bipush (v := iI 12) d_Md_ask_27 (by decide +kernel) ?_
        refine In.icmp_ge (tgt := 179) d_Md_ask_29 (by decide) ⟨by omega, by omega⟩ ⟨by omega, by omega⟩ (fun c29 => ?_) (fun c29 => ?_)
        · by_cases z : fitN β τ m = 0
          · rw [v2 z, hW0 z]
            refine Rn.iload_n d_Md_ask_179 rfl ?_
            refine In.if_lt (tgt := 187) d_Md_ask_180 (by decide) ⟨by omega, by omega⟩ (fun c180 => ?_) (fun c180 => ?_)
            · refine Rn.iload_n d_Md_ask_187 rfl ?_
              refine Rn.goto (tgt := 192) d_Md_ask_188 (by decide) ?_
              exact Rn.iret d_Md_ask_192 rfl rfl ⟨rfl, hA.kp h2, h2.o⟩
            · omega
          · have v3 := v3 z
            have v4 := v4 z
            have hr := (hrg 12 (by omega)).1
            rw [hWn z] at hr ⊢
            refine Rn.iload_n d_Md_ask_179 rfl ?_
            refine In.if_lt (tgt := 187) d_Md_ask_180 (by decide) ⟨by omega, by omega⟩ (fun c180 => ?_) (fun c180 => ?_)
            · simp only at c180; omega
            · refine Rn.iload_n d_Md_ask_183 rfl ?_
              refine In.if_ne (tgt := 191) d_Md_ask_184 (by decide) ⟨by omega, by omega⟩ (fun c184 => ?_) (fun c184 => ?_)
              · rw [v4 (by omega)]
                refine Rn.iload_n d_Md_ask_191 rfl ?_
                exact Rn.iret d_Md_ask_192 rfl rfl ⟨rfl, hA.kp h2, h2.o⟩
              · rw [v3 (by omega)]
                refine Rn.iload_n d_Md_ask_187 rfl ?_
                refine Rn.goto (tgt := 192) d_Md_ask_188 (by decide) ?_
                exact Rn.iret d_Md_ask_192 rfl rfl ⟨rfl, hA.kp h2, h2.o⟩
        · omega
      | succ d ih =>
        intro l Mc x5 x6 x7 h1 h2 h3
        have ih := ih (l + 1)
        have hl := hrg l (by omega)
        have hWL := hWl l
        have hWm := hWm l
        have e1 : 0 < W l ∧ (W l : Int) < (akF W l).2 → akF W (l + 1) = ((l : Int), (W l : Int)) := fun q => by simp only [akF]; rw [if_pos q]
        have e2 : ¬ (0 < W l ∧ (W l : Int) < (akF W l).2) → akF W (l + 1) = akF W l := fun q => by simp only [akF]; rw [if_neg q]
        generalize hN1 : akF W l = N at *
        have fin : ∀ (Me : wM) (y6 : Int) (y7 : Option Value), Kp M Me → nwA Me β → Rn k_Md_ask none (0, 0) 131 [some (.ref 47), some (.int (iI w)), some (.int (iI N.1)), some (.int (iI N.2)), some (.int (iI l)), some (.int (iI (W l))), some (.int (iI y6)), y7] [] SH Me (w_FI (0, 0) SH (fun r M' => r = iI V ∧ mdA M' β n σ m τ I J ∧ Ofm M M')) := by
          intro Me y6 y7 g1 g2
          have nob : ¬ (0 < W l ∧ (W l : Int) < N.2) → Rn k_Md_ask none (0, 0) 146 [some (.ref 47), some (.int (iI w)), some (.int (iI N.1)), some (.int (iI N.2)), some (.int (iI l)), some (.int (iI (W l))), some (.int (iI y6)), y7] [] SH Me (w_FI (0, 0) SH (fun r M' => r = iI V ∧ mdA M' β n σ m τ I J ∧ Ofm M M')) := by
            intro z
            rw [e2 z] at ih
            refine Rn.iconst (v := iI 0) d_Md_ask_146 rfl ?_
            refine Rn.istore (lv1 := [_, _, _, _, _, _, _, _]) d_Md_ask_147 (by decide) (w_pv rfl) rfl ?_
            refine Rn.iload d_Md_ask_149 rfl ?_
            refine In.if_eq (tgt := 159) d_Md_ask_151 (by decide) ⟨by omega, by omega⟩ (fun c151 => ?_) (fun c151 => ?_)
            · refine Rn.iload_n d_Md_ask_159 rfl ?_
              refine Rn.istore_n (lv1 := [_, _, _, _, _, _, _, _]) d_Md_ask_160 (by decide) (w_pv rfl) rfl ?_
              refine Rn.iload d_Md_ask_161 rfl ?_
              refine In.if_eq (tgt := 171) d_Md_ask_163 (by decide) ⟨by omega, by omega⟩ (fun c163 => ?_) (fun c163 => ?_)
              · refine Rn.iload_n d_Md_ask_171 rfl ?_
                refine Rn.istore_n (lv1 := [_, _, _, _, _, _, _, _]) d_Md_ask_172 (by decide) (w_pv rfl) rfl ?_
                refine In.inc (lv1 := [_, _, _, _, _, _, _, _]) d_Md_ask_173 rfl (by decide) (w_pv rfl) rfl ?_
                refine Rn.goto (tgt := 25) d_Md_ask_176 (by decide) ?_
                exact ih _ _ _ _ (by omega) g1 g2
              · omega
            · omega
          refine Rn.iload d_Md_ask_131 rfl ?_
          refine In.if_le (tgt := 146) d_Md_ask_133 (by decide) ⟨by omega, by omega⟩ (fun c133 => ?_) (fun c133 => ?_)
          · exact nob (by omega)
          · refine Rn.iload d_Md_ask_136 rfl ?_
            refine Rn.iload_n d_Md_ask_138 rfl ?_
            refine In.icmp_ge (tgt := 146) d_Md_ask_139 (by decide) ⟨by omega, by omega⟩ ⟨by omega, by omega⟩ (fun c139 => ?_) (fun c139 => ?_)
            · exact nob (by omega)
            · rw [e1 ⟨by omega, by omega⟩] at ih
              refine Rn.iconst (v := iI 1) d_Md_ask_142 rfl ?_
              refine Rn.goto (tgt := 147) d_Md_ask_143 (by decide) ?_
              refine Rn.istore (lv1 := [_, _, _, _, _, _, _, _]) d_Md_ask_147 (by decide) (w_pv rfl) rfl ?_
              refine Rn.iload d_Md_ask_149 rfl ?_
              refine In.if_eq (tgt := 159) d_Md_ask_151 (by decide) ⟨by omega, by omega⟩ (fun c151 => ?_) (fun c151 => ?_)
              · omega
              · refine Rn.iload d_Md_ask_154 rfl ?_
                refine Rn.goto (tgt := 160) d_Md_ask_156 (by decide) ?_
                refine Rn.istore_n (lv1 := [_, _, _, _, _, _, _, _]) d_Md_ask_160 (by decide) (w_pv rfl) rfl ?_
                refine Rn.iload d_Md_ask_161 rfl ?_
                refine In.if_eq (tgt := 171) d_Md_ask_163 (by decide) ⟨by omega, by omega⟩ (fun c163 => ?_) (fun c163 => ?_)
                · omega
                · refine Rn.iload d_Md_ask_166 rfl ?_
                  refine Rn.goto (tgt := 172) d_Md_ask_168 (by decide) ?_
                  refine Rn.istore_n (lv1 := [_, _, _, _, _, _, _, _]) d_Md_ask_172 (by decide) (w_pv rfl) rfl ?_
                  refine In.inc (lv1 := [_, _, _, _, _, _, _, _]) d_Md_ask_173 rfl (by decide) (w_pv rfl) rfl ?_
                  refine Rn.goto (tgt := 25) d_Md_ask_176 (by decide) ?_
                  exact ih _ _ _ _ (by omega) g1 g2
        have inner : ∀ (e x : Nat) (Me : wM) (y7 : Option Value), x + e = 12 → Kp M Me → nwA Me β → (∀ v, v < 12 → Me.1 53 v = iI (ctF β l (fitN β τ m) v x)) → Rn k_Md_ask none (0, 0) 62 [some (.ref 47), some (.int (iI w)), some (.int (iI N.1)), some (.int (iI N.2)), some (.int (iI l)), some (.int (iI (mx (fun v => ctF β l (fitN β τ m) v x) 12))), some (.int (iI x)), y7] [] SH Me (w_FI (0, 0) SH (fun r M' => r = iI V ∧ mdA M' β n σ m τ I J ∧ Ofm M M')) := by
          intro e
          induction e with
          | zero =>
            intro x Me y7 g1 g2 g3 g4
            have : x = 12 := by omega
            subst this
            rw [← hWm]
            refine Rn.iload d_Md_ask_62 rfl ?_
            refine Rn.bipush (v := iI 12) d_Md_ask_64 (by decide +kernel) ?_
            refine In.icmp_ge (tgt := 131) d_Md_ask_66 (by decide) ⟨by omega, by omega⟩ ⟨by omega, by omega⟩ (fun c66 => ?_) (fun c66 => ?_)
            · exact fin _ _ _ g2 g3
            · omega
          | succ e ihe =>
            intro x Me y7 g1 g2 g3 g4
            have hGe := g2.G hG
            have hAe := hA.kp g2
            have ihe := ihe (x + 1)
            have hd := dist_12 ht (show l < 12 by omega) (show x < 12 by omega)
            refine Rn.iload d_Md_ask_62 rfl ?_
            refine Rn.bipush (v := iI 12) d_Md_ask_64 (by decide +kernel) ?_
            refine In.icmp_ge (tgt := 131) d_Md_ask_66 (by decide) ⟨by omega, by omega⟩ ⟨by omega, by omega⟩ (fun c66 => ?_) (fun c66 => ?_)
            · omega
            · refine Rn.aload_n d_Md_ask_69 rfl ?_
              refine Rn.iload d_Md_ask_70 rfl ?_
              refine Rn.cVI d_Md_ask_72 s_Md_ask_Md_isFit g_844 g_846 gs_23 ⟨rfl, rfl⟩ ⟨Nat.zero_le _, Nat.zero_le _⟩ (m_Md_isFit hGe g3 ht hAe.2.2.2.1 hAe.2.2.2.2.1 hV.2.2.1 (show x < 12 by omega)) rfl rfl z_Md c_Md (Nat.le_of_ble_eq_true rfl) (fun rr MM qq => ?_)
              obtain ⟨rfl, rfl⟩ := And.imp id Eq.symm qq; clear qq
              refine In.if_eq (tgt := 125) d_Md_ask_75 (by decide) fl_rg (fun c75 => ?_) (fun c75 => ?_)
              · have z := fl_eq c75
                have hsame : ∀ v, ctF β l (fitN β τ m) v (x + 1) = ctF β l (fitN β τ m) v x := fun v => by
                  simp only [ctF]; rw [if_neg (fun q => z q.1)]; rfl
                have hfun : (fun v => ctF β l (fitN β τ m) v (x + 1)) = (fun v => ctF β l (fitN β τ m) v x) := funext hsame
                rw [hfun] at ihe
                refine In.inc (lv1 := [_, _, _, _, _, _, _, _]) d_Md_ask_125 rfl (by decide) (w_pv rfl) rfl ?_
                refine Rn.goto (tgt := 62) d_Md_ask_128 (by decide) ?_
                exact ihe _ _ (by omega) g2 g3 (fun v hv => by rw [hsame]; exact g4 v hv)
              · have z := fl_ne c75
                have hsame : ∀ v, v ≠ dist β l x → ctF β l (fitN β τ m) v (x + 1) = ctF β l (fitN β τ m) v x := fun v hv => by
                  simp only [ctF]; rw [if_neg (fun q => hv q.2.symm)]; rfl
                have hone : ctF β l (fitN β τ m) (dist β l x) (x + 1) = ctF β l (fitN β τ m) (dist β l x) x + 1 := by
                  simp only [ctF]; rw [if_pos ⟨z, trivial⟩]
                have hmx := mx_up (f := fun v => ctF β l (fitN β τ m) v x) (f' := fun v => ctF β l (fitN β τ m) v (x + 1)) (v := dist β l x) hsame (by omega) 12
                rw [if_pos hd] at hmx
                rw [hone] at hmx
                have hc := ctF_le β l (fitN β τ m) (dist β l x) x
                have hcm := mx_le (f := fun v => ctF β l (fitN β τ m) v x) (c := 12) 12 (fun v _ => by have := ctF_le β l (fitN β τ m) v x; omega)
                rw [hmx] at ihe
                refine Rn.aload_n d_Md_ask_78 rfl ?_
                refine Rn.iload d_Md_ask_79 rfl ?_
                refine Rn.iload d_Md_ask_81 rfl ?_
                refine Rn.cVI d_Md_ask_83 s_Md_ask_Md_apartOf g_769 g_771 gs_18 ⟨rfl, rfl⟩ ⟨Nat.zero_le _, Nat.zero_le _⟩ (m_Md_apartOf hGe g3 ht (show l < 12 by omega) (show x < 12 by omega)) rfl rfl z_Md c_Md (Nat.le_of_ble_eq_true rfl) (fun rr MM qq => ?_)
                obtain ⟨rfl, rfl⟩ := And.imp id Eq.symm qq; clear qq
                generalize hdv : dist β l x = dv at *
                refine Rn.istore (lv1 := [_, _, _, _, _, _, _, _]) d_Md_ask_86 (by decide) (w_pv rfl) rfl ?_
                refine Rn.aload_n d_Md_ask_88 rfl ?_
                refine Rn.getR d_Md_ask_89 f_Md_counts g_662 z_Md (r_Md_counts hGe) ?_
                refine Rn.iload d_Md_ask_92 rfl ?_
                refine Rn.dup2 d_Md_ask_94 rfl rfl ?_
                refine In.ald d_Md_ask_95 z_Md_counts rfl (by omega) (by decide) (g4 dv hd) ?_
                refine Rn.iconst (v := iI 1) d_Md_ask_96 rfl ?_
                refine In.add d_Md_ask_97 ?_
                refine In.ast d_Md_ask_98 z_Md_counts rfl (by omega) (by decide) ?_
                refine Rn.aload_n d_Md_ask_99 rfl ?_
                refine Rn.getR d_Md_ask_100 f_Md_counts g_662 z_Md (r_Md_counts hGe) ?_
                refine Rn.iload d_Md_ask_103 rfl ?_
                refine In.ald d_Md_ask_105 z_Md_counts rfl (by omega) (by decide) (w_ui_at _ _ _ _) ?_
                refine Rn.iload d_Md_ask_106 rfl ?_
                have hcnt : ∀ v, v < 12 → (w_ui Me 53 dv (iI ((ctF β l (fitN β τ m) dv x : Nat) + 1 : Int))).1 53 v = iI (ctF β l (fitN β τ m) v (x + 1) : Nat) := fun v hv => by
                  rw [w_ui_if]
                  by_cases ev : v = dv
                  · rw [if_pos ⟨rfl, ev⟩, ev, hone]; rfl
                  · rw [if_neg (by omega), hsame v ev]; exact g4 v hv
                refine In.icmp_le (tgt := 121) d_Md_ask_108 (by decide) ⟨by omega, by omega⟩ ⟨by omega, by omega⟩ (fun c108 => ?_) (fun c108 => ?_)
                · rw [show max (mx (fun v => ctF β l (fitN β τ m) v x) 12) (ctF β l (fitN β τ m) dv x + 1) = mx (fun v => ctF β l (fitN β τ m) v x) 12 by omega] at ihe
                  refine Rn.iload d_Md_ask_121 rfl ?_
                  refine Rn.istore (lv1 := [_, _, _, _, _, _, _, _]) d_Md_ask_123 (by decide) (w_pv rfl) rfl ?_
                  refine In.inc (lv1 := [_, _, _, _, _, _, _, _]) d_Md_ask_125 rfl (by decide) (w_pv rfl) rfl ?_
                  refine Rn.goto (tgt := 62) d_Md_ask_128 (by decide) ?_
                  exact ihe _ _ (by omega) (g2.tr (Kp.ui (by omega))) (g3.ui (by decide)) hcnt
                · rw [show max (mx (fun v => ctF β l (fitN β τ m) v x) 12) (ctF β l (fitN β τ m) dv x + 1) = ctF β l (fitN β τ m) dv x + 1 by omega] at ihe
                  refine Rn.aload_n d_Md_ask_111 rfl ?_
                  refine Rn.getR d_Md_ask_112 f_Md_counts g_662 z_Md (r_Md_counts hGe) ?_
                  refine Rn.iload d_Md_ask_115 rfl ?_
                  refine In.ald d_Md_ask_117 z_Md_counts rfl (by omega) (by decide) (w_ui_at _ _ _ _) ?_
                  refine Rn.goto (tgt := 123) d_Md_ask_118 (by decide) ?_
                  refine Rn.istore (lv1 := [_, _, _, _, _, _, _, _]) d_Md_ask_123 (by decide) (w_pv rfl) rfl ?_
                  refine In.inc (lv1 := [_, _, _, _, _, _, _, _]) d_Md_ask_125 rfl (by decide) (w_pv rfl) rfl ?_
                  refine Rn.goto (tgt := 62) d_Md_ask_128 (by decide) ?_
                  exact ihe _ _ (by omega) (g2.tr (Kp.ui (by omega))) (g3.ui (by decide)) hcnt
        have clear_ : ∀ (e x : Nat) (Me : wM) (y7 : Option Value), x + e = 12 → Kp M Me → nwA Me β → (∀ v, v < x → Me.1 53 v = iI 0) → Rn k_Md_ask none (0, 0) 38 [some (.ref 47), some (.int (iI w)), some (.int (iI N.1)), some (.int (iI N.2)), some (.int (iI l)), some (.int (iI 0)), some (.int (iI x)), y7] [] SH Me (w_FI (0, 0) SH (fun r M' => r = iI V ∧ mdA M' β n σ m τ I J ∧ Ofm M M')) := by
          intro e
          induction e with
          | zero =>
            intro x Me y7 g1 g2 g3 g4
            have : x = 12 := by omega
            subst this
            refine Rn.iload d_Md_ask_38 rfl ?_
            refine Rn.bipush (v := iI 12) d_Md_ask_40 (by decide +kernel) ?_
            refine In.icmp_ge (tgt := 59) d_Md_ask_42 (by decide) ⟨by omega, by omega⟩ ⟨by omega, by omega⟩ (fun c42 => ?_) (fun c42 => ?_)
            · refine Rn.iconst (v := iI 0) d_Md_ask_59 rfl ?_
              refine Rn.istore (lv1 := [_, _, _, _, _, _, _, _]) d_Md_ask_60 (by decide) (w_pv rfl) rfl ?_
              have e0 : mx (fun v => ctF β l (fitN β τ m) v 0) 12 = 0 := by
                have := mx_le (f := fun v => ctF β l (fitN β τ m) v 0) (c := 0) 12 (fun v _ => Nat.le_refl _)
                omega
              have := inner 12 0 Me y7 rfl g2 g3 (fun v hv => g4 v hv)
              rw [e0] at this
              exact this
            · omega
          | succ e ihe =>
            intro x Me y7 g1 g2 g3 g4
            have hGe := g2.G hG
            refine Rn.iload d_Md_ask_38 rfl ?_
            refine Rn.bipush (v := iI 12) d_Md_ask_40 (by decide +kernel) ?_
            refine In.icmp_ge (tgt := 59) d_Md_ask_42 (by decide) ⟨by omega, by omega⟩ ⟨by omega, by omega⟩ (fun c42 => ?_) (fun c42 => ?_)
            · omega
            · refine Rn.aload_n d_Md_ask_45 rfl ?_
              refine Rn.getR d_Md_ask_46 f_Md_counts g_662 z_Md (r_Md_counts hGe) ?_
              refine Rn.iload d_Md_ask_49 rfl ?_
              refine Rn.iconst (v := iI 0) d_Md_ask_51 rfl ?_
              refine In.ast d_Md_ask_52 z_Md_counts rfl (by omega) (by decide) ?_
              refine In.inc (lv1 := [_, _, _, _, _, _, _, _]) d_Md_ask_53 rfl (by decide) (w_pv rfl) rfl ?_
              refine Rn.goto (tgt := 38) d_Md_ask_56 (by decide) ?_
              refine ihe (x + 1) _ _ (by omega) (g2.tr (Kp.ui (by omega))) (g3.ui (by decide)) (fun v hv => ?_)
              rw [w_ui_if]
              by_cases ev : v = x
              · rw [if_pos ⟨rfl, ev⟩]
              · rw [if_neg (by omega)]; exact g4 v (by omega)
        refine Rn.iload d_Md_ask_25 rfl ?_
        refine Rn.bipush (v := iI 12) d_Md_ask_27 (by decide +kernel) ?_
        refine In.icmp_ge (tgt := 179) d_Md_ask_29 (by decide) ⟨by omega, by omega⟩ ⟨by omega, by omega⟩ (fun c29 => ?_) (fun c29 => ?_)
        · omega
        · refine Rn.iconst (v := iI 0) d_Md_ask_32 rfl ?_
          refine Rn.istore (lv1 := [_, _, _, _, _, _, _, _]) d_Md_ask_33 (by decide) (w_pv rfl) rfl ?_
          refine Rn.iconst (v := iI 0) d_Md_ask_35 rfl ?_
          refine Rn.istore (lv1 := [_, _, _, _, _, _, _, _]) d_Md_ask_36 (by decide) (w_pv rfl) rfl ?_
          exact clear_ 12 0 Mc _ rfl h2 h3 (fun v hv => by omega)
    refine Rn.bipush (v := iI (-6)) d_Md_ask_16 (by decide +kernel) ?_
    refine Rn.istore_n (lv1 := [_, _, _, _, _, _, _, _]) d_Md_ask_18 (by decide) (w_pv rfl) rfl ?_
    refine In.ldc (z := (1000000)) d_Md_ask_19 g_823 (by decide +kernel) ?_
    refine Rn.istore_n (lv1 := [_, _, _, _, _, _, _, _]) d_Md_ask_21 (by decide) (w_pv rfl) rfl ?_
    refine Rn.iconst (v := iI 0) d_Md_ask_22 rfl ?_
    refine Rn.istore (lv1 := [_, _, _, _, _, _, _, _]) d_Md_ask_23 (by decide) (w_pv rfl) rfl ?_
    exact loop 12 0 M1 _ _ _ rfl k1 n1
  · have q := fl_eq c6
    rw [v1 q]
    refine Rn.bipush (v := iI (-2)) d_Md_ask_9 (by decide +kernel) ?_
    exact Rn.iret d_Md_ask_11 rfl rfl ⟨rfl, hA, Ofm.rf⟩
