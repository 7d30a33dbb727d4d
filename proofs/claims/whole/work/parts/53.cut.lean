/-! The game of cutting: who can win. The reference's call cut. -/
set_option maxRecDepth 20000
set_option maxHeartbeats 400000
theorem woF_s {f : Nat → Int} {c k : Nat} (h : 11 - k ≠ c) (j : Nat) : woF f c (k + 1) j = if j = (f (11 - k)).toNat then woF f c k j ^^^ (woF f c k (11 - k) + 1) else woF f c k j := by
  simp only [woF]
  rw [if_neg h]
  simp only [wov]
  by_cases e : j = (f (11 - k)).toNat
  · rw [if_pos e, if_pos e, ← e]
  · rw [if_neg e, if_neg e]
theorem woF_c {f : Nat → Int} {c k : Nat} (h : 11 - k = c) : woF f c (k + 1) = woF f c k := by
  simp only [woF]; rw [if_pos h]
theorem woF_pre {f : Nat → Int} {c : Nat} (hc : 1 ≤ c) : ∀ k, k ≤ 11 - c → ∀ j, woF f c k j = woF f 0 k j
  | 0, _, _ => rfl
  | k + 1, h, j => by
    rw [woF_s (by omega), woF_s (by omega), woF_pre hc k (by omega) j, woF_pre hc k (by omega) (11 - k)]
/-- at a stage the worths with a cut differ but at one place from those without -/
def Fr (f : Nat → Int) (c k d e : Nat) : Prop := (∀ j, j < 12 - k → j ≠ d → woF f c k j = woF f 0 k j) ∧ woF f c k d = woF f 0 k d ^^^ e
theorem xor_back (a b : Nat) : (a ^^^ b) ^^^ b = a := by rw [Nat.xor_assoc, Nat.xor_self, Nat.xor_zero]
theorem fr_start {f : Nat → Int} {c k : Nat} (hk : k < 11) (h : 11 - k = c) : Fr f c (k + 1) (f c).toNat (woF f 0 k c + 1) := by
  have hp := woF_pre (f := f) (c := c) (by omega) k (by omega)
  refine ⟨fun j h1 h2 => ?_, ?_⟩
  · rw [woF_c h, hp, woF_s (by omega), h, if_neg h2]
  · rw [woF_c h, hp, woF_s (by omega), h, if_pos rfl, xor_back]
theorem fr_keep {f : Nat → Int} {c k d e : Nat} (hk : k < 11) (h : Fr f c k d e) (h1 : 11 - k ≠ d) (h2 : 11 - k ≠ c) : Fr f c (k + 1) d e := by
  have hx := h.1 (11 - k) (by omega) h1
  refine ⟨fun j g1 g2 => ?_, ?_⟩
  · rw [woF_s h2, woF_s (by omega), h.1 j (by omega) g2, hx]
  · rw [woF_s h2, woF_s (by omega), h.2, hx]
    by_cases q : d = (f (11 - k)).toNat
    · rw [if_pos q, if_pos q, Nat.xor_assoc, Nat.xor_comm e, ← Nat.xor_assoc]
    · rw [if_neg q, if_neg q]
theorem fr_up {f : Nat → Int} (hf : tok f) {c k d e : Nat} (hk : k < 11) (h : Fr f c k d e) (h1 : 11 - k = d) (h2 : 11 - k ≠ c) : Fr f c (k + 1) (f d).toNat ((woF f 0 k d + 1) ^^^ ((woF f 0 k d ^^^ e) + 1)) := by
  have hp := hf d (by omega) (by omega)
  refine ⟨fun j g1 g2 => ?_, ?_⟩
  · rw [woF_s h2, woF_s (by omega), h1, if_neg g2, if_neg g2]
    exact h.1 j (by omega) (by omega)
  · rw [woF_s h2, woF_s (by omega), h1, if_pos rfl, if_pos rfl, h.2, h.1 _ (by omega) (by omega), ← Nat.xor_assoc, xor_back]
theorem xor_ne {a b : Nat} (h : a ≠ b) : a ^^^ b ≠ 0 := fun e => h (by
  have := congrArg (fun z => z ^^^ b) e
  simp only [xor_back, Nat.zero_xor] at this
  exact this)
theorem nim_a {f : Nat → Int} (hf : tok f) {c : Nat} (hc : 1 ≤ c ∧ c ≤ 11) : ∀ k, 11 - c < k → k ≤ 11 → ∃ d e, d < 12 - k ∧ e ≠ 0 ∧ Fr f c k d e
  | 0, h, _ => by omega
  | k + 1, h1, h2 => by
    by_cases q : 11 - k = c
    · have hp := hf c (by omega) (by omega)
      exact ⟨_, _, by omega, by omega, fr_start (by omega) q⟩
    · obtain ⟨d, e, g1, g2, g3⟩ := nim_a hf hc k (by omega) (by omega)
      by_cases q2 : 11 - k = d
      · have hp := hf d (by omega) (by omega)
        refine ⟨_, _, by omega, xor_ne ?_, fr_up hf (by omega) g3 q2 q⟩
        intro e2
        have e3 : woF f 0 k d = woF f 0 k d ^^^ e := by omega
        have e4 := congrArg (fun z => woF f 0 k d ^^^ z) e3
        simp only [← Nat.xor_assoc, Nat.xor_self, Nat.zero_xor] at e4
        exact g2 e4.symm
      · exact ⟨d, e, by omega, g2, fr_keep (by omega) g3 q2 q⟩
theorem no_win {f : Nat → Int} (hf : tok f) {c : Nat} (hc : 1 ≤ c ∧ c ≤ 11) (h0 : woF f 0 11 0 = 0) : woF f c 11 0 ≠ 0 := by
  obtain ⟨d, e, g1, g2, g3⟩ := nim_a hf hc 11 (by omega) (Nat.le_refl _)
  have : d = 0 := by omega
  subst this
  rw [g3.2, h0, Nat.zero_xor]; exact g2
theorem last_of {P : Nat → Bool} : ∀ n, (∃ t, t < n ∧ P t = true) → ∃ t, t < n ∧ P t = true ∧ ∀ j, t < j → j < n → P j = false
  | 0, h => by obtain ⟨t, h1, _⟩ := h; omega
  | n + 1, h => by
    by_cases q : P n = true
    · exact ⟨n, by omega, q, fun j h1 h2 => by omega⟩
    · obtain ⟨t, h1, h2⟩ := h
      have ht : t ≠ n := fun e => q (by rw [← e]; exact h2)
      obtain ⟨t2, g1, g2, g3⟩ := last_of n ⟨t, by omega, h2⟩
      refine ⟨t2, by omega, g2, fun j j1 j2 => ?_⟩
      by_cases e : j = n
      · subst e; exact Bool.eq_false_iff.mpr q
      · exact g3 j j1 (by omega)
theorem lt_of_top {x y : Nat} (t : Nat) (hx : x.testBit t = false) (hy : y.testBit t = true) (h : ∀ j, t < j → x.testBit j = y.testBit j) : x < y := by
  have hq : x / 2 ^ (t + 1) = y / 2 ^ (t + 1) := Nat.eq_of_testBit_eq fun j => by
    rw [Nat.testBit_div_two_pow, Nat.testBit_div_two_pow]; exact h _ (by omega)
  rw [Nat.pow_succ, ← Nat.div_div_eq_div_mul, ← Nat.div_div_eq_div_mul] at hq
  rw [Nat.testBit_eq_decide_div_mod_eq] at hx hy
  have h1 : ¬ x / 2 ^ t % 2 = 1 := of_decide_eq_false hx
  have h2 : y / 2 ^ t % 2 = 1 := of_decide_eq_true hy
  refine Decidable.byContradiction fun hc => ?_
  have := Nat.div_le_div_right (c := 2 ^ t) (show y ≤ x by omega)
  omega
theorem top_bit {v w : Nat} (h : w < v) : ∃ t, v.testBit t = true ∧ w.testBit t = false ∧ ∀ j, t < j → v.testBit j = w.testBit j := by
  have hv : v < 2 ^ v := Nat.lt_two_pow_self
  have hb : ∀ j, v ≤ j → v.testBit j = false ∧ w.testBit j = false := fun j hj =>
    ⟨Nat.testBit_lt_two_pow (Nat.lt_of_lt_of_le hv (Nat.pow_le_pow_right (by decide) hj)), Nat.testBit_lt_two_pow (Nat.lt_trans h (Nat.lt_of_lt_of_le hv (Nat.pow_le_pow_right (by decide) hj)))⟩
  have hex : ∃ t, t < v ∧ (v.testBit t != w.testBit t) = true := by
    refine Decidable.byContradiction fun hc => ?_
    have : v = w := Nat.eq_of_testBit_eq fun j => by
      by_cases e : j < v
      · refine Decidable.byContradiction fun hne => hc ⟨j, e, ?_⟩
        rw [bne_iff_ne]; exact hne
      · rw [(hb j (by omega)).1, (hb j (by omega)).2]
    omega
  obtain ⟨t, h1, h2, h3⟩ := last_of (P := fun t => v.testBit t != w.testBit t) v hex
  have heq : ∀ j, t < j → v.testBit j = w.testBit j := fun j hj => by
    by_cases e : j < v
    · have := h3 j hj e
      simpa using this
    · rw [(hb j (by omega)).1, (hb j (by omega)).2]
  rw [bne_iff_ne] at h2
  cases q : v.testBit t with
  | true =>
    refine ⟨t, q, ?_, heq⟩
    rw [q] at h2
    cases q2 : w.testBit t with
    | true => rw [q2] at h2; exact absurd rfl h2
    | false => rfl
  | false =>
    rw [q] at h2
    have q2 : w.testBit t = true := by
      cases q3 : w.testBit t with
      | true => rfl
      | false => rw [q3] at h2; exact absurd rfl h2
    have := lt_of_top t q q2 heq
    omega
theorem woF_child {f : Nat → Int} {x t : Nat} : ∀ k, k ≤ 11 → (woF f 0 k x).testBit t = true → ∃ y, 12 - k ≤ y ∧ y ≤ 11 ∧ (f y).toNat = x ∧ (woF f 0 (11 - y) y + 1).testBit t = true
  | 0, _, h => by simp [woF] at h
  | k + 1, hk, h => by
    rw [woF_s (by omega)] at h
    by_cases q : x = (f (11 - k)).toNat
    · rw [if_pos q, Nat.testBit_xor] at h
      by_cases q2 : (woF f 0 k x).testBit t = true
      · obtain ⟨y, h1, h2, h3⟩ := woF_child k (by omega) q2
        exact ⟨y, by omega, h2, h3⟩
      · rw [Bool.eq_false_iff.mpr q2, Bool.false_xor] at h
        exact ⟨11 - k, by omega, by omega, q.symm, by rw [show 11 - (11 - k) = k by omega]; exact h⟩
    · rw [if_neg q] at h
      obtain ⟨y, h1, h2, h3⟩ := woF_child k (by omega) h
      exact ⟨y, by omega, h2, h3⟩
theorem fr_run {f : Nat → Int} {c x e y : Nat} (hy : x < y) (hc : y ≤ c) (hcc : c ≤ 11) : ∀ i, 12 - y + i ≤ 11 - x → Fr f c (12 - y) x e → Fr f c (12 - y + i) x e
  | 0, _, h => h
  | i + 1, hi, h => by
    have := fr_run hy hc hcc i (by omega) h
    exact fr_keep (k := 12 - y + i) (by omega) this (by omega) (by omega)
theorem nim_b {f : Nat → Int} (hf : tok f) : ∀ n x, x + n = 11 → ∀ w, w < woF f 0 (11 - x) x → ∃ c, x < c ∧ c ≤ 11 ∧ Fr f c (11 - x) x (woF f 0 (11 - x) x ^^^ w) := by
  intro n
  induction n using Nat.strongRecOn with
  | ind n ih =>
    intro x hx w hw
    obtain ⟨t, t1, t2, t3⟩ := top_bit hw
    obtain ⟨y, y1, y2, y3, y4⟩ := woF_child (11 - x) (by omega) t1
    obtain ⟨s, hs⟩ : ∃ s, s = woF f 0 (11 - x) x ^^^ w := ⟨_, rfl⟩
    have s1 : s.testBit t = true := by rw [hs, Nat.testBit_xor, t1, t2]; rfl
    have s2 : ∀ j, t < j → s.testBit j = false := fun j hj => by rw [hs, Nat.testBit_xor, t3 j hj, Bool.xor_self]
    rw [← hs]
    obtain ⟨X, hX⟩ : ∃ X, X = woF f 0 (11 - y) y := ⟨_, rfl⟩
    rw [← hX] at y4
    have hu : (X + 1) ^^^ s < X + 1 := lt_of_top t (by rw [Nat.testBit_xor, y4, s1]; rfl) y4 (fun j hj => by rw [Nat.testBit_xor, s2 j hj, Bool.xor_false])
    have hcl : ∃ c, y ≤ c ∧ c ≤ 11 ∧ Fr f c (12 - y) x s := by
      by_cases u0 : (X + 1) ^^^ s = 0
      · have es : X + 1 = s := by
          refine Decidable.byContradiction fun hne => xor_ne hne u0
        have hst := fr_start (f := f) (c := y) (k := 11 - y) (by omega) (by omega)
        rw [y3, ← hX, es, show 11 - y + 1 = 12 - y by omega] at hst
        exact ⟨y, Nat.le_refl _, y2, hst⟩
      · obtain ⟨c, c1, c2, c3⟩ := ih (11 - y) (by omega) y (by omega) (((X + 1) ^^^ s) - 1) (by rw [← hX]; omega)
        rw [← hX] at c3
        have hup := fr_up hf (k := 11 - y) (by omega) c3 (by omega) (by omega)
        rw [y3, ← hX, ← Nat.xor_assoc X X, Nat.xor_self, Nat.zero_xor, show ((X + 1) ^^^ s) - 1 + 1 = (X + 1) ^^^ s by omega, ← Nat.xor_assoc, Nat.xor_self, Nat.zero_xor, show 11 - y + 1 = 12 - y by omega] at hup
        exact ⟨c, by omega, c2, hup⟩
    obtain ⟨c, c1, c2, c3⟩ := hcl
    have := fr_run (by omega) c1 c2 (11 - x - (12 - y)) (by omega) c3
    rw [show 12 - y + (11 - x - (12 - y)) = 11 - x by omega] at this
    exact ⟨c, by omega, c2, this⟩
theorem a_win {f : Nat → Int} (hf : tok f) (h0 : woF f 0 11 0 ≠ 0) : ∃ c, 1 ≤ c ∧ c ≤ 11 ∧ woF f c 11 0 = 0 := by
  obtain ⟨c, c1, c2, c3⟩ := nim_b hf 11 0 rfl 0 (Nat.pos_of_ne_zero h0)
  refine ⟨c, by omega, c2, ?_⟩
  have := c3.2
  rw [Nat.xor_zero] at this
  show woF f c 11 0 = 0
  rw [show (11 : Nat) = 11 - 0 from rfl, this, Nat.xor_self]
theorem fCutN_sp (f : Nat → Int) : ∀ n l, (fCutN f n l = -6 ∧ ∀ x, l ≤ x → x < l + n → woF f x 11 0 ≠ 0) ∨ ∃ x : Nat, l ≤ x ∧ x < l + n ∧ fCutN f n l = x ∧ woF f x 11 0 = 0
  | 0, l => Or.inl ⟨rfl, fun x h1 h2 => by omega⟩
  | n + 1, l => by
    simp only [fCutN]
    by_cases h : woF f l 11 0 = 0
    · rw [if_pos h]; exact Or.inr ⟨l, Nat.le_refl _, by omega, rfl, h⟩
    · rw [if_neg h]
      rcases fCutN_sp f n (l + 1) with ⟨h1, h2⟩ | ⟨x, h1, h2, h3, h4⟩
      · refine Or.inl ⟨h1, fun x q1 q2 => ?_⟩
        by_cases e : x = l
        · subst e; exact h
        · exact h2 x (by omega) (by omega)
      · exact Or.inr ⟨x, by omega, by omega, h3, h4⟩
theorem cut_win {f : Nat → Int} (hf : tok f) : (woF f 0 11 0 ≠ 0 → 0 ≤ fCutN f 11 1) ∧ (woF f 0 11 0 = 0 → fCutN f 11 1 = -6) ∧ -6 ≤ fCutN f 11 1 ∧ fCutN f 11 1 ≤ 12 := by
  rcases fCutN_sp f 11 1 with ⟨h1, h2⟩ | ⟨x, h1, h2, h3, h4⟩
  · refine ⟨fun q => ?_, fun _ => h1, by omega, by omega⟩
    obtain ⟨c, c1, c2, c3⟩ := a_win hf q
    exact absurd c3 (h2 c c1 (by omega))
  · exact ⟨fun _ => by omega, fun q => absurd h4 (no_win hf ⟨h1, by omega⟩ q), by omega, by omega⟩
theorem m_Md_worthOf {M : wM} {β : Nat → Int} {c : Nat} (hG : M.2.2 = RG) (hB : bkA M β) (hf : tok β) (hc : c < 12) : EvI k_Md_worthOf [.ref 47, .int (iI c)] SH M (fun r M' => r = iI (woF β c 11 0) ∧ Kp M M') := by
  refine EvI.of 1 (by decide) (Nat.le_of_ble_eq_true rfl) rfl ?_
  refine Rn.iconst (v := iI 0) d_Md_worthOf_0 rfl ?_
  refine Rn.istore_n (lv1 := [_, _, _]) d_Md_worthOf_1 (by decide) (w_pv rfl) rfl ?_
  have loop2 : ∀ (l : Nat) (Mc : wM), l ≤ 11 → Kp M Mc → (∀ j, j < 12 → Mc.1 54 j = iI (woF β c (11 - l) j)) → Rn k_Md_worthOf none (0, 0) 24 [some (.ref 47), some (.int (iI c)), some (.int (iI l))] [] SH Mc (w_FI (0, 0) SH (fun r M' => r = iI (woF β c 11 0) ∧ Kp M M')) := by
    intro l
    induction l with
    | zero =>
      intro Mc h1 h2 h3
      have hGc := h2.G hG
      refine Rn.iload_n d_Md_worthOf_24 rfl ?_
      refine In.if_le (tgt := 65) d_Md_worthOf_25 (by decide) ⟨by omega, by omega⟩ (fun c25 => ?_) (fun c25 => ?_)
      · refine Rn.aload_n d_Md_worthOf_65 rfl ?_
        refine Rn.getR d_Md_worthOf_66 f_Md_worth g_663 z_Md (r_Md_worth (by assumption)) ?_
        refine Rn.iconst (v := iI 0) d_Md_worthOf_69 rfl ?_
        refine In.ald d_Md_worthOf_70 z_Md_worth (rfl : (0 : Int) = ((0 : Nat) : Int)) (by decide) (by decide) (h3 0 (by decide)) ?_
        exact Rn.iret d_Md_worthOf_71 rfl rfl ⟨rfl, h2⟩
      · omega
    | succ l ih =>
      intro Mc h1 h2 h3
      have hGc := h2.G hG
      have hp := hf (l + 1) (by omega) (by omega)
      obtain ⟨p, hpp⟩ : ∃ p : Nat, β (l + 1) = p := ⟨(β (l + 1)).toNat, by omega⟩
      have k1 : 11 - (11 - (l + 1)) = l + 1 := by omega
      have k2 : 11 - (l + 1) + 1 = 11 - l := by omega
      have e1 : l + 1 = c → ∀ j, woF β c (11 - l) j = woF β c (11 - (l + 1)) j := fun q j => by rw [← k2, woF_c (by omega)]
      have e2 : l + 1 ≠ c → ∀ j, woF β c (11 - l) j = if j = p then woF β c (11 - (l + 1)) j ^^^ (woF β c (11 - (l + 1)) (l + 1) + 1) else woF β c (11 - (l + 1)) j := fun q j => by rw [← k2, woF_s (by omega), k1, hpp, Int.toNat_natCast]
      have em : ((l + 1 : Nat) : Int) + -1 = l := by omega
      refine Rn.iload_n d_Md_worthOf_24 rfl ?_
      refine In.if_le (tgt := 65) d_Md_worthOf_25 (by decide) ⟨by omega, by omega⟩ (fun c25 => ?_) (fun c25 => ?_)
      · omega
      · refine Rn.aload_n d_Md_worthOf_28 rfl ?_
        refine Rn.getR d_Md_worthOf_29 f_Md_worth g_663 z_Md (r_Md_worth (by assumption)) ?_
        refine Rn.aload_n d_Md_worthOf_32 rfl ?_
        refine Rn.getR d_Md_worthOf_33 f_Md_book g_650 z_Md (r_Md_book (by assumption)) ?_
        refine Rn.iload_n d_Md_worthOf_36 rfl ?_
        refine In.ald d_Md_worthOf_37 z_Md_book rfl (by omega) (by decide) (((hB.kp h2) (l + 1) (by omega)).trans (by rw [hpp])) ?_
        refine Rn.dup2 d_Md_worthOf_38 rfl rfl ?_
        refine In.ald d_Md_worthOf_39 z_Md_worth rfl (by omega) (by decide) (h3 p (by omega)) ?_
        refine Rn.iload_n d_Md_worthOf_40 rfl ?_
        refine Rn.iload_n d_Md_worthOf_41 rfl ?_
        refine In.icmp_ne (tgt := 49) d_Md_worthOf_42 (by decide) ⟨by omega, by omega⟩ ⟨by omega, by omega⟩ (fun c42 => ?_) (fun c42 => ?_)
        · refine Rn.aload_n d_Md_worthOf_49 rfl ?_
          refine Rn.getR d_Md_worthOf_50 f_Md_worth g_663 z_Md (r_Md_worth (by assumption)) ?_
          refine Rn.iload_n d_Md_worthOf_53 rfl ?_
          refine In.ald d_Md_worthOf_54 z_Md_worth rfl (by omega) (by decide) (h3 (l + 1) (by omega)) ?_
          refine Rn.iconst (v := iI 1) d_Md_worthOf_55 rfl ?_
          refine In.add d_Md_worthOf_56 ?_
          refine In.xor rfl (show ((woF β c (11 - (l + 1)) (l + 1) : Int) + 1) = ((woF β c (11 - (l + 1)) (l + 1) + 1 : Nat) : Int) by omega) d_Md_worthOf_57 ?_
          refine In.ast d_Md_worthOf_58 z_Md_worth rfl (by omega) (by decide) ?_
          refine In.inc (lv1 := [_, _, _]) d_Md_worthOf_59 rfl (by decide) (w_pv rfl) rfl ?_
          refine Rn.goto (tgt := 24) d_Md_worthOf_62 (by decide) ?_
          rw [em]
          refine ih _ (by omega) (h2.tr (Kp.ui (by omega))) (fun j hj => ?_)
          rw [w_ui_if, e2 (by omega)]
          by_cases q : j = p
          · rw [if_pos ⟨rfl, q⟩, if_pos q, q]
          · rw [if_neg (by omega), if_neg q]; exact h3 j hj
        · refine Rn.iconst (v := iI 0) d_Md_worthOf_45 rfl ?_
          refine Rn.goto (tgt := 57) d_Md_worthOf_46 (by decide) ?_
          refine In.xor rfl (rfl : (0 : Int) = ((0 : Nat) : Int)) d_Md_worthOf_57 ?_
          rw [Nat.xor_zero]
          refine In.ast d_Md_worthOf_58 z_Md_worth rfl (by omega) (by decide) ?_
          refine In.inc (lv1 := [_, _, _]) d_Md_worthOf_59 rfl (by decide) (w_pv rfl) rfl ?_
          refine Rn.goto (tgt := 24) d_Md_worthOf_62 (by decide) ?_
          rw [em]
          refine ih _ (by omega) (h2.tr (Kp.ui (by omega))) (fun j hj => ?_)
          rw [w_ui_if, e1 (by omega)]
          by_cases q : j = p
          · rw [if_pos ⟨rfl, q⟩, q]
          · rw [if_neg (by omega)]; exact h3 j hj
  have loop1 : ∀ (d k : Nat) (Mc : wM), k + d = 12 → Kp M Mc → (∀ j, j < k → Mc.1 54 j = iI 0) → Rn k_Md_worthOf none (0, 0) 2 [some (.ref 47), some (.int (iI c)), some (.int (iI k))] [] SH Mc (w_FI (0, 0) SH (fun r M' => r = iI (woF β c 11 0) ∧ Kp M M')) := by
    intro d
    induction d with
    | zero =>
      intro k Mc h1 h2 h3
      refine Rn.iload_n d_Md_worthOf_2 rfl ?_
      refine Rn.bipush (v := iI 12) d_Md_worthOf_3 (by decide +kernel) ?_
      refine In.icmp_ge (tgt := 21) d_Md_worthOf_5 (by decide) ⟨by omega, by omega⟩ ⟨by omega, by omega⟩ (fun c5 => ?_) (fun c5 => ?_)
      · refine Rn.bipush (v := iI 11) d_Md_worthOf_21 (by decide +kernel) ?_
        refine Rn.istore_n (lv1 := [_, _, _]) d_Md_worthOf_23 (by decide) (w_pv rfl) rfl ?_
        exact loop2 11 Mc (Nat.le_refl _) h2 (fun j hj => h3 j (by omega))
      · omega
    | succ d ih =>
      intro k Mc h1 h2 h3
      have hGc := h2.G hG
      refine Rn.iload_n d_Md_worthOf_2 rfl ?_
      refine Rn.bipush (v := iI 12) d_Md_worthOf_3 (by decide +kernel) ?_
      refine In.icmp_ge (tgt := 21) d_Md_worthOf_5 (by decide) ⟨by omega, by omega⟩ ⟨by omega, by omega⟩ (fun c5 => ?_) (fun c5 => ?_)
      · omega
      · refine Rn.aload_n d_Md_worthOf_8 rfl ?_
        refine Rn.getR d_Md_worthOf_9 f_Md_worth g_663 z_Md (r_Md_worth (by assumption)) ?_
        refine Rn.iload_n d_Md_worthOf_12 rfl ?_
        refine Rn.iconst (v := iI 0) d_Md_worthOf_13 rfl ?_
        refine In.ast d_Md_worthOf_14 z_Md_worth rfl (by omega) (by decide) ?_
        refine In.inc (lv1 := [_, _, _]) d_Md_worthOf_15 rfl (by decide) (w_pv rfl) rfl ?_
        refine Rn.goto (tgt := 2) d_Md_worthOf_18 (by decide) ?_
        refine ih (k + 1) _ (by omega) (h2.tr (Kp.ui (by omega))) (fun j hj => ?_)
        rw [w_ui_if]
        by_cases e : j = k
        · rw [if_pos ⟨rfl, e⟩]
        · rw [if_neg (by omega)]; exact h3 j (by omega)
  exact loop1 12 0 M rfl Kp.rf (fun j hj => by omega)
theorem m_Md_cut {M : wM} {β : Nat → Int} {n : Nat} {σ : Nat → Int} {m : Nat} {τ : Nat → Int} {I J : wIm} {w V : Int} (hG : M.2.2 = RG) (hA : mdA M β n σ m τ I J) (hV : aLok β n σ m τ I J) (hw : -2147483648 ≤ w ∧ w < 2147483648) (v1 : ¬ (0 ≤ w ∧ w ≤ 1) → V = -2) (v2 : w = 0 → woF β 0 11 0 ≠ 0 → V = 1) (v3 : w = 0 → woF β 0 11 0 = 0 → V = 0) (v4 : w = 1 → V = fCutN β 11 1) : EvI k_Md_cut [.ref 47, .int (iI w)] SH M (fun r M' => r = iI V ∧ mdA M' β n σ m τ I J ∧ Ofm M M') := by
  refine EvI.of 2 (by decide) (Nat.le_of_ble_eq_true rfl) rfl ?_
  have ht := hV.1.t
  refine Rn.iload_n d_Md_cut_0 rfl ?_
  refine Rn.iconst (v := iI 0) d_Md_cut_1 rfl ?_
  refine Rn.iconst (v := iI 1) d_Md_cut_2 rfl ?_
  refine Rn.cSI d_Md_cut_3 s_Md_cut_Md_in g_708 g_709 ⟨rfl, rfl⟩ ⟨Nat.zero_le _, Nat.zero_le _⟩ (m_Md_in hw (by decide) (by decide)) rfl rfl (Nat.le_of_ble_eq_true rfl) (fun rr MM qq => ?_)
  obtain ⟨rfl, rfl⟩ := And.imp id Eq.symm qq; clear qq
  refine In.if_ne (tgt := 12) d_Md_cut_6 (by decide) fl_rg (fun c6 => ?_) (fun c6 => ?_)
  · have q := fl_ne c6
    obtain ⟨w1, w2, w3, w4⟩ := cut_win ht
    have loop : ∀ (l : Nat) (Mc : wM), l ≤ 11 → Kp M Mc → Rn k_Md_cut none (0, 0) 18 [some (.ref 47), some (.int (iI w)), some (.int (iI (fCutN β (11 - l) (l + 1)))), some (.int (iI l))] [] SH Mc (w_FI (0, 0) SH (fun r M' => r = iI V ∧ mdA M' β n σ m τ I J ∧ Ofm M M')) := by
      intro l
      induction l with
      | zero =>
        intro Mc h1 h2
        rw [show 11 - 0 = 11 from rfl, show 0 + 1 = 1 from rfl]
        refine Rn.iload_n d_Md_cut_18 rfl ?_
        refine In.if_le (tgt := 42) d_Md_cut_19 (by decide) ⟨by omega, by omega⟩ (fun c19 => ?_) (fun c19 => ?_)
        · refine Rn.iload_n d_Md_cut_42 rfl ?_
          refine Rn.iconst (v := iI 1) d_Md_cut_43 rfl ?_
          refine In.icmp_ne (tgt := 51) d_Md_cut_44 (by decide) ⟨by omega, by omega⟩ ⟨by omega, by omega⟩ (fun c44 => ?_) (fun c44 => ?_)
          · refine Rn.iload_n d_Md_cut_51 rfl ?_
            refine In.if_ge (tgt := 59) d_Md_cut_52 (by decide) ⟨by omega, by omega⟩ (fun c52 => ?_) (fun c52 => ?_)
            · rw [v2 (by omega) (fun k => by have := w2 k; omega)]
              refine Rn.iconst (v := iI 1) d_Md_cut_59 rfl ?_
              exact Rn.iret d_Md_cut_60 rfl rfl ⟨rfl, hA.kp h2, h2.o⟩
            · have z : woF β 0 11 0 = 0 := Decidable.byContradiction fun k => by have := w1 k; omega
              rw [v3 (by omega) z]
              refine Rn.iconst (v := iI 0) d_Md_cut_55 rfl ?_
              refine Rn.goto (tgt := 60) d_Md_cut_56 (by decide) ?_
              exact Rn.iret d_Md_cut_60 rfl rfl ⟨rfl, hA.kp h2, h2.o⟩
          · rw [v4 (by omega)]
            refine Rn.iload_n d_Md_cut_47 rfl ?_
            refine Rn.goto (tgt := 60) d_Md_cut_48 (by decide) ?_
            exact Rn.iret d_Md_cut_60 rfl rfl ⟨rfl, hA.kp h2, h2.o⟩
        · omega
      | succ l ih =>
        intro Mc h1 h2
        have hGc := h2.G hG
        have hlt := woF_lt β (l + 1) 11 0
        have em : ((l + 1 : Nat) : Int) + -1 = l := by omega
        have k2 : 11 - l = 11 - (l + 1) + 1 := by omega
        have e1 : woF β (l + 1) 11 0 = 0 → fCutN β (11 - l) (l + 1) = (l + 1 : Nat) := fun q => by rw [k2]; simp only [fCutN]; rw [if_pos q]
        have e2 : ¬ woF β (l + 1) 11 0 = 0 → fCutN β (11 - l) (l + 1) = fCutN β (11 - (l + 1)) (l + 1 + 1) := fun q => by rw [k2]; simp only [fCutN]; rw [if_neg q]
        refine Rn.iload_n d_Md_cut_18 rfl ?_
        refine In.if_le (tgt := 42) d_Md_cut_19 (by decide) ⟨by omega, by omega⟩ (fun c19 => ?_) (fun c19 => ?_)
        · omega
        · refine Rn.aload_n d_Md_cut_22 rfl ?_
          refine Rn.iload_n d_Md_cut_23 rfl ?_
          refine Rn.cVI d_Md_cut_24 s_Md_cut_Md_worthOf g_856 g_858 gs_24 ⟨rfl, rfl⟩ ⟨Nat.zero_le _, Nat.zero_le _⟩ (m_Md_worthOf (c := l + 1) hGc (hA.1.kp h2) ht (by omega)) rfl rfl z_Md c_Md (Nat.le_of_ble_eq_true rfl) (fun rr M1 qq => ?_)
          obtain ⟨rfl, hO⟩ := qq
          have ih := ih M1 (by omega) (h2.tr hO)
          refine In.if_ne (tgt := 34) d_Md_cut_27 (by decide) ⟨by omega, by omega⟩ (fun c27 => ?_) (fun c27 => ?_)
          · rw [e2 (by omega)] at ih
            refine Rn.iload_n d_Md_cut_34 rfl ?_
            refine Rn.istore_n (lv1 := [_, _, _, _]) d_Md_cut_35 (by decide) (w_pv rfl) rfl ?_
            refine In.inc (lv1 := [_, _, _, _]) d_Md_cut_36 rfl (by decide) (w_pv rfl) rfl ?_
            refine Rn.goto (tgt := 18) d_Md_cut_39 (by decide) ?_
            rw [em]
            exact ih
          · rw [e1 (by omega)] at ih
            refine Rn.iload_n d_Md_cut_30 rfl ?_
            refine Rn.goto (tgt := 35) d_Md_cut_31 (by decide) ?_
            refine Rn.istore_n (lv1 := [_, _, _, _]) d_Md_cut_35 (by decide) (w_pv rfl) rfl ?_
            refine In.inc (lv1 := [_, _, _, _]) d_Md_cut_36 rfl (by decide) (w_pv rfl) rfl ?_
            refine Rn.goto (tgt := 18) d_Md_cut_39 (by decide) ?_
            rw [em]
            exact ih
    refine Rn.bipush (v := iI (-6)) d_Md_cut_12 (by decide +kernel) ?_
    refine Rn.istore_n (lv1 := [_, _, _, _]) d_Md_cut_14 (by decide) (w_pv rfl) rfl ?_
    refine Rn.bipush (v := iI 11) d_Md_cut_15 (by decide +kernel) ?_
    refine Rn.istore_n (lv1 := [_, _, _, _]) d_Md_cut_17 (by decide) (w_pv rfl) rfl ?_
    exact loop 11 M (Nat.le_refl _) Kp.rf
  · have q := fl_eq c6
    rw [v1 q]
    refine Rn.bipush (v := iI (-2)) d_Md_cut_9 (by decide +kernel) ?_
    exact Rn.iret d_Md_cut_11 rfl rfl ⟨rfl, hA, Ofm.rf⟩
