/-! Chance. -/
set_option maxRecDepth 20000
set_option maxHeartbeats 400000
theorem ch_step {n k j : Nat} (hk : k ≤ n) : (ch (n - k + j) j : Int) * (n - k + ((j : Int) + 1)) = ((ch (n - k + j + 1) (j + 1) * (j + 1) : Nat) : Int) := by
  rw [ch_abs, Int.natCast_mul]
  congr 1
  omega
theorem ch_40 {n k : Nat} (h : n ≤ 40) : ch n k ≤ 1099511627776 := Nat.le_trans (ch_le n k) (Nat.le_trans (Nat.pow_le_pow_right (by decide) h) (by decide))
theorem mul_41 {a b : Nat} (ha : a ≤ 1099511627776) (hb : b ≤ 41) : a * b ≤ 45079976738816 := Nat.le_trans (Nat.mul_le_mul ha hb) (by decide)
theorem m_Chance_ways {M : wM} {n k : Nat} (hn : n ≤ 40) (hk : k ≤ 40) : EvL k_Chance_ways [.int (iI n), .int (iI k)] SH M (fun r M' => r = jI (ch n k) ∧ M' = M) := by
  refine EvL.of 3 (by decide) (Nat.le_of_ble_eq_true rfl) rfl ?_
  refine Rn.iload_n d_Chance_ways_0 rfl ?_
  refine In.if_lt (tgt := 9) d_Chance_ways_1 (by decide) ⟨by omega, by omega⟩ (fun c1 => ?_) (fun c1 => ?_)
  · omega
  · refine Rn.iload_n d_Chance_ways_4 rfl ?_
    refine Rn.iload_n d_Chance_ways_5 rfl ?_
    refine In.icmp_le (tgt := 11) d_Chance_ways_6 (by decide) ⟨by omega, by omega⟩ ⟨by omega, by omega⟩ (fun c6 => ?_) (fun c6 => ?_)
    · refine Rn.lconst (v := jI 1) d_Chance_ways_11 (by decide +kernel) ?_
      refine Rn.lstore_n (lv1 := [_, _, _, _, _]) d_Chance_ways_12 (by decide) (w_pv rfl) rfl ?_
      refine Rn.iconst (v := iI 1) d_Chance_ways_13 rfl ?_
      refine Rn.istore (lv1 := [_, _, _, _, _]) d_Chance_ways_14 (by decide) (w_pv rfl) rfl ?_
      have loop : ∀ (d j : Nat), j + d = k → Rn k_Chance_ways none (0, 0) 16 [some (.int (iI n)), some (.int (iI k)), some (.long (jI (ch (n - k + j) j))), none, some (.int (iI (j + 1 : Nat)))] [] SH M (w_FL (0, 0) SH (fun r M' => r = jI (ch n k) ∧ M' = M)) := by
        intro d
        induction d with
        | zero =>
          intro j h1
          have : j = k := by omega
          subst this
          refine Rn.iload d_Chance_ways_16 rfl ?_
          refine Rn.iload_n d_Chance_ways_18 rfl ?_
          refine In.icmp_gt (tgt := 42) d_Chance_ways_19 (by decide) ⟨by omega, by omega⟩ ⟨by omega, by omega⟩ (fun c19 => ?_) (fun c19 => ?_)
          · refine Rn.lload_n d_Chance_ways_42 rfl ?_
            have e : n - j + j = n := by omega
            rw [e]
            exact Rn.lret d_Chance_ways_43 rfl ⟨rfl, rfl⟩
          · omega
        | succ d ih =>
          intro j h1
          have ih := ih (j + 1) (by omega)
          have hs := ch_step (n := n) (k := k) (j := j) (by omega)
          have hb : ch (n - k + j + 1) (j + 1) * (j + 1) ≤ 45079976738816 := mul_41 (ch_40 (by omega)) (by omega)
          refine Rn.iload d_Chance_ways_16 rfl ?_
          refine Rn.iload_n d_Chance_ways_18 rfl ?_
          refine In.icmp_gt (tgt := 42) d_Chance_ways_19 (by decide) ⟨by omega, by omega⟩ ⟨by omega, by omega⟩ (fun c19 => ?_) (fun c19 => ?_)
          · omega
          · refine Rn.lload_n d_Chance_ways_22 rfl ?_
            refine Rn.iload_n d_Chance_ways_23 rfl ?_
            refine Rn.iload_n d_Chance_ways_24 rfl ?_
            refine In.sub d_Chance_ways_25 ?_
            refine Rn.iload d_Chance_ways_26 rfl ?_
            refine In.add d_Chance_ways_28 ?_
            refine In.i2l d_Chance_ways_29 ⟨by omega, by omega⟩ ?_
            refine In.lmul d_Chance_ways_30 ?_
            have e1 : (ch (n - k + j) j : Int) * ((n : Int) - k + ((j + 1 : Nat) : Int)) = ((ch (n - k + j + 1) (j + 1) * (j + 1) : Nat) : Int) := hs
            rw [e1]
            refine Rn.iload d_Chance_ways_31 rfl ?_
            refine In.i2l d_Chance_ways_33 ⟨by omega, by omega⟩ ?_
            refine In.ldiv d_Chance_ways_34 ⟨Int.natCast_nonneg _, Int.lt_of_le_of_lt (Int.ofNat_le.mpr hb) (by decide)⟩ ⟨by omega, by omega⟩ ?_
            have e2 : ((ch (n - k + j + 1) (j + 1) * (j + 1) : Nat) : Int) / ((j + 1 : Nat) : Int) = ch (n - k + (j + 1)) (j + 1) := by
              rw [Int.natCast_mul, Int.mul_ediv_cancel _ (by omega)]; rfl
            rw [e2]
            refine Rn.lstore_n (lv1 := [_, _, _, _, _]) d_Chance_ways_35 (by decide) (w_pv rfl) rfl ?_
            refine In.inc (lv1 := [_, _, _, _, _]) d_Chance_ways_36 rfl (by decide) (w_pv rfl) rfl ?_
            refine Rn.goto (tgt := 16) d_Chance_ways_39 (by decide) ?_
            exact ih
      have L := loop k 0 (by omega)
      rw [Nat.add_zero, ch_0] at L
      exact L
    · refine Rn.lconst (v := jI 0) d_Chance_ways_9 (by decide +kernel) ?_
      exact Rn.lret d_Chance_ways_10 rfl ⟨by rw [ch_big n k (by omega)]; rfl, rfl⟩
theorem m_Chance_waysAtLeast {M : wM} {n r k j : Nat} (hn : n ≤ 40) (hr : r ≤ n) (hk : k ≤ n) (hj : j ≤ k) : EvL k_Chance_waysAtLeast [.int (iI n), .int (iI r), .int (iI k), .int (iI j)] SH M (fun v M' => v = jI (hyN n r k j (k - j + 1)) ∧ M' = M) := by
  refine EvL.of 3 (by decide) (Nat.le_of_ble_eq_true rfl) rfl ?_
  refine Rn.lconst (v := jI 0) d_Chance_waysAtLeast_0 (by decide +kernel) ?_
  refine Rn.lstore (lv1 := [_, _, _, _, _, _, _]) d_Chance_waysAtLeast_1 (by decide) (w_pv rfl) rfl ?_
  refine Rn.iload_n d_Chance_waysAtLeast_3 rfl ?_
  refine Rn.istore (lv1 := [_, _, _, _, _, _, _]) d_Chance_waysAtLeast_4 (by decide) (w_pv rfl) rfl ?_
  obtain ⟨V, hV⟩ : ∃ V, V = hyN n r k j (k - j + 1) := ⟨_, rfl⟩
  rw [← hV]
  have loop : ∀ (d i : Nat), i + d = k - j + 1 → Rn k_Chance_waysAtLeast none (0, 0) 6 [some (.int (iI n)), some (.int (iI r)), some (.int (iI k)), some (.int (iI j)), some (.long (jI (hyN n r k j i))), none, some (.int (iI (j + i : Nat)))] [] SH M (w_FL (0, 0) SH (fun v M' => v = jI V ∧ M' = M)) := by
    intro d
    induction d with
    | zero =>
      intro i h1
      have : i = k - j + 1 := by omega
      subst this
      rw [← hV]
      refine Rn.iload d_Chance_waysAtLeast_6 rfl ?_
      refine Rn.iload_n d_Chance_waysAtLeast_8 rfl ?_
      refine In.icmp_gt (tgt := 40) d_Chance_waysAtLeast_9 (by decide) ⟨by omega, by omega⟩ ⟨by omega, by omega⟩ (fun c9 => ?_) (fun c9 => ?_)
      · refine Rn.lload d_Chance_waysAtLeast_40 rfl ?_
        exact Rn.lret d_Chance_waysAtLeast_42 rfl ⟨rfl, rfl⟩
      · omega
    | succ d ih =>
      intro i h1
      have ih := ih (i + 1) (by omega)
      have e1 : ((n : Int) - r) = ((n - r : Nat) : Int) := by omega
      have e2 : ((k : Int) - (j + i : Nat)) = ((k - (j + i) : Nat) : Int) := by omega
      refine Rn.iload d_Chance_waysAtLeast_6 rfl ?_
      refine Rn.iload_n d_Chance_waysAtLeast_8 rfl ?_
      refine In.icmp_gt (tgt := 40) d_Chance_waysAtLeast_9 (by decide) ⟨by omega, by omega⟩ ⟨by omega, by omega⟩ (fun c9 => ?_) (fun c9 => ?_)
      · omega
      · refine Rn.lload d_Chance_waysAtLeast_12 rfl ?_
        refine Rn.iload_n d_Chance_waysAtLeast_14 rfl ?_
        refine Rn.iload d_Chance_waysAtLeast_15 rfl ?_
        refine Rn.cSL d_Chance_waysAtLeast_17 s_Chance_waysAtLeast_Chance_ways g_579 g_580 ⟨rfl, rfl⟩ ⟨Nat.zero_le _, Nat.zero_le _⟩ (m_Chance_ways (show r ≤ 40 by omega) (show j + i ≤ 40 by omega)) rfl rfl (Nat.le_of_ble_eq_true rfl) (fun rr MM qq => ?_)
        obtain ⟨rfl, rfl⟩ := And.imp id Eq.symm qq; clear qq
        refine Rn.iload_n d_Chance_waysAtLeast_20 rfl ?_
        refine Rn.iload_n d_Chance_waysAtLeast_21 rfl ?_
        refine In.sub d_Chance_waysAtLeast_22 ?_
        refine Rn.iload_n d_Chance_waysAtLeast_23 rfl ?_
        refine Rn.iload d_Chance_waysAtLeast_24 rfl ?_
        refine In.sub d_Chance_waysAtLeast_26 ?_
        rw [e1, e2]
        refine Rn.cSL d_Chance_waysAtLeast_27 s_Chance_waysAtLeast_Chance_ways g_579 g_580 ⟨rfl, rfl⟩ ⟨Nat.zero_le _, Nat.zero_le _⟩ (m_Chance_ways (show n - r ≤ 40 by omega) (show k - (j + i) ≤ 40 by omega)) rfl rfl (Nat.le_of_ble_eq_true rfl) (fun rr MM qq => ?_)
        obtain ⟨rfl, rfl⟩ := And.imp id Eq.symm qq; clear qq
        refine In.lmul d_Chance_waysAtLeast_30 ?_
        refine In.ladd d_Chance_waysAtLeast_31 ?_
        refine Rn.lstore (lv1 := [_, _, _, _, _, _, _]) d_Chance_waysAtLeast_32 (by decide) (w_pv rfl) rfl ?_
        refine In.inc (lv1 := [_, _, _, _, _, _, _]) d_Chance_waysAtLeast_34 rfl (by decide) (w_pv rfl) rfl ?_
        refine Rn.goto (tgt := 6) d_Chance_waysAtLeast_37 (by decide) ?_
        have e3 : (hyN n r k j i : Int) + (ch r (j + i) : Int) * (ch (n - r) (k - (j + i)) : Int) = (hyN n r k j (i + 1) : Nat) := by simp only [hyN]; rw [Int.natCast_add, Int.natCast_mul]
        rw [e3]
        exact ih
  exact loop (k - j + 1) 0 (by omega)
theorem m_Chance_commonDivisor {M : wM} {a b : Nat} (ha : a < 4611686018427387904) (hb : b < 4611686018427387904) : EvL k_Chance_commonDivisor [.long (jI a), .long (jI b)] SH M (fun r M' => r = jI (Nat.gcd a b) ∧ M' = M) := by
  refine EvL.of 3 (by decide) (Nat.le_of_ble_eq_true rfl) rfl ?_
  refine Rn.iconst (v := iI 0) d_Chance_commonDivisor_0 rfl ?_
  refine Rn.istore (lv1 := [_, _, _, _, _, _, _]) d_Chance_commonDivisor_1 (by decide) (w_pv rfl) rfl ?_
  obtain ⟨G, hG⟩ : ∃ G, G = Nat.gcd a b := ⟨_, rfl⟩
  rw [← hG]
  have fin : ∀ (a st : Nat) (x5 x6 : Option Value), st < 1000 → Nat.gcd a 0 = G → Rn k_Chance_commonDivisor none (0, 0) 3 [some (.long (jI a)), none, some (.long (jI (0 : Nat))), none, some (.int (iI st)), x5, x6] [] SH M (w_FL (0, 0) SH (fun r M' => r = jI G ∧ M' = M)) := by
    intro a st x5 x6 h1 h2
    refine Rn.iload d_Chance_commonDivisor_3 rfl ?_
    refine Rn.sipush (v := iI 1000) d_Chance_commonDivisor_5 (by decide +kernel) ?_
    refine In.icmp_ge (tgt := 33) d_Chance_commonDivisor_8 (by decide) ⟨by omega, by omega⟩ ⟨by omega, by omega⟩ (fun c8 => ?_) (fun c8 => ?_)
    · omega
    · refine Rn.lload_n d_Chance_commonDivisor_11 rfl ?_
      refine Rn.lconst (v := jI 0) d_Chance_commonDivisor_12 (by decide +kernel) ?_
      refine In.lcmp d_Chance_commonDivisor_13 ⟨by decide, by decide⟩ ⟨by decide, by decide⟩ ?_
      rw [if_neg (by decide), if_pos (by decide)]
      refine In.if_eq (tgt := 33) d_Chance_commonDivisor_14 (by decide) ⟨by omega, by omega⟩ (fun c14 => ?_) (fun c14 => ?_)
      · refine Rn.lload_n d_Chance_commonDivisor_33 rfl ?_
        rw [Nat.gcd_zero_right] at h2
        exact Rn.lret d_Chance_commonDivisor_34 rfl ⟨by rw [h2], rfl⟩
      · omega
  have turn : ∀ (a b st : Nat) (x5 x6 : Option Value), st < 1000 → 0 < b → a < 4611686018427387904 → b < 4611686018427387904 → Rn k_Chance_commonDivisor none (0, 0) 3 [some (.long (jI b)), none, some (.long (jI (a % b : Nat))), none, some (.int (iI (st + 1 : Nat))), some (.long (jI (a % b : Nat))), none] [] SH M (w_FL (0, 0) SH (fun r M' => r = jI G ∧ M' = M)) → Rn k_Chance_commonDivisor none (0, 0) 3 [some (.long (jI a)), none, some (.long (jI b)), none, some (.int (iI st)), x5, x6] [] SH M (w_FL (0, 0) SH (fun r M' => r = jI G ∧ M' = M)) := by
    intro a b st x5 x6 h1 h2 h3 h4 k
    refine Rn.iload d_Chance_commonDivisor_3 rfl ?_
    refine Rn.sipush (v := iI 1000) d_Chance_commonDivisor_5 (by decide +kernel) ?_
    refine In.icmp_ge (tgt := 33) d_Chance_commonDivisor_8 (by decide) ⟨by omega, by omega⟩ ⟨by omega, by omega⟩ (fun c8 => ?_) (fun c8 => ?_)
    · omega
    · refine Rn.lload_n d_Chance_commonDivisor_11 rfl ?_
      refine Rn.lconst (v := jI 0) d_Chance_commonDivisor_12 (by decide +kernel) ?_
      refine In.lcmp d_Chance_commonDivisor_13 ⟨by omega, by omega⟩ ⟨by decide, by decide⟩ ?_
      rw [if_pos (by omega)]
      refine In.if_eq (tgt := 33) d_Chance_commonDivisor_14 (by decide) ⟨by omega, by omega⟩ (fun c14 => ?_) (fun c14 => ?_)
      · omega
      · refine Rn.lload_n d_Chance_commonDivisor_17 rfl ?_
        refine Rn.lload_n d_Chance_commonDivisor_18 rfl ?_
        refine In.lrem d_Chance_commonDivisor_19 ⟨by omega, by omega⟩ ⟨by omega, by omega⟩ ?_
        refine Rn.lstore (lv1 := [_, _, _, _, _, _, _]) d_Chance_commonDivisor_20 (by decide) (w_pv rfl) rfl ?_
        refine Rn.lload_n d_Chance_commonDivisor_22 rfl ?_
        refine Rn.lstore_n (lv1 := [_, _, _, _, _, _, _]) d_Chance_commonDivisor_23 (by decide) (w_pv rfl) rfl ?_
        refine Rn.lload d_Chance_commonDivisor_24 rfl ?_
        refine Rn.lstore_n (lv1 := [_, _, _, _, _, _, _]) d_Chance_commonDivisor_26 (by decide) (w_pv rfl) rfl ?_
        refine In.inc (lv1 := [_, _, _, _, _, _, _]) d_Chance_commonDivisor_27 rfl (by decide) (w_pv rfl) rfl ?_
        refine Rn.goto (tgt := 3) d_Chance_commonDivisor_30 (by decide) ?_
        exact k
  have loop : ∀ (kk a b st : Nat) (x5 x6 : Option Value), b < 2 ^ kk → st + 2 * kk < 1000 → a < 4611686018427387904 → b < 4611686018427387904 → Nat.gcd a b = G → Rn k_Chance_commonDivisor none (0, 0) 3 [some (.long (jI a)), none, some (.long (jI b)), none, some (.int (iI st)), x5, x6] [] SH M (w_FL (0, 0) SH (fun r M' => r = jI G ∧ M' = M)) := by
    intro kk
    induction kk with
    | zero =>
      intro a b st x5 x6 h1 h2 h3 h4 h5
      have : b = 0 := by simpa using h1
      subst this
      exact fin a st x5 x6 (by omega) h5
    | succ kk ih =>
      intro a b st x5 x6 h1 h2 h3 h4 h5
      by_cases e : b = 0
      · subst e; exact fin a st x5 x6 (by omega) h5
      · have q1 := Nat.mod_lt a (show 0 < b by omega)
        refine turn a b st x5 x6 (by omega) (by omega) h3 h4 ?_
        by_cases e2 : a % b = 0
        · rw [e2]
          refine fin b (st + 1) _ _ (by omega) ?_
          rw [← e2, gcd_turn]; exact h5
        · have q2 := mod_half (show 0 < a % b by omega) q1
          have q3 := Nat.mod_lt b (show 0 < a % b by omega)
          refine turn b (a % b) (st + 1) _ _ (by omega) (by omega) h4 (by omega) ?_
          refine ih (a % b) (b % (a % b)) (st + 1 + 1) _ _ ?_ (by omega) (by omega) (by omega) ?_
          · rw [Nat.pow_succ] at h1; omega
          · rw [gcd_turn, gcd_turn]; exact h5
  exact loop 62 a b 0 _ _ (by omega) (by omega) ha hb hG.symm
theorem m_Chance_lowest {M : wM} {u l : Nat} {part : Int} (hu : u < 4611686018427387904) (hl : l < 4611686018427387904) (hl0 : 0 < l) (hp : 0 ≤ part ∧ part ≤ 1) : EvL k_Chance_lowest [.long (jI u), .long (jI l), .int (iI part)] SH M (fun r M' => r = jI (lowS u l part) ∧ M' = M) := by
  refine EvL.of 2 (by decide) (Nat.le_of_ble_eq_true rfl) rfl ?_
  have hg := Nat.gcd_pos_of_pos_right u hl0
  have hgl := Nat.gcd_le_right u hl0
  refine Rn.lload_n d_Chance_lowest_0 rfl ?_
  refine Rn.lload_n d_Chance_lowest_1 rfl ?_
  refine Rn.cSL d_Chance_lowest_2 s_Chance_lowest_Chance_commonDivisor g_586 g_587 ⟨rfl, rfl⟩ ⟨Nat.zero_le _, Nat.zero_le _⟩ (m_Chance_commonDivisor hu hl) rfl rfl (Nat.le_of_ble_eq_true rfl) (fun rr MM qq => ?_)
  obtain ⟨rfl, rfl⟩ := And.imp id Eq.symm qq; clear qq
  refine Rn.lconst (v := jI 1) d_Chance_lowest_5 (by decide +kernel) ?_
  refine In.maxL ⟨by omega, by omega⟩ ⟨by decide, by decide⟩ d_Chance_lowest_6 g_589 g_590 g_14 g_591 (Nat.le_of_ble_eq_true rfl) (Nat.le_of_ble_eq_true rfl) ?_
  have e : (if (1 : Int) < (Nat.gcd u l : Nat) then ((Nat.gcd u l : Nat) : Int) else 1) = (Nat.gcd u l : Nat) := by split <;> omega
  rw [e]
  unfold lowS
  refine Rn.lstore (lv1 := [_, _, _, _, _, _, _]) d_Chance_lowest_9 (by decide) (w_pv rfl) rfl ?_
  refine Rn.iload d_Chance_lowest_11 rfl ?_
  refine In.if_ne (tgt := 20) d_Chance_lowest_13 (by decide) ⟨by omega, by omega⟩ (fun c13 => ?_) (fun c13 => ?_)
  · refine Rn.lload_n d_Chance_lowest_20 rfl ?_
    refine Rn.lload d_Chance_lowest_21 rfl ?_
    refine In.ldiv d_Chance_lowest_23 ⟨by omega, by omega⟩ ⟨by omega, by omega⟩ ?_
    exact Rn.lret d_Chance_lowest_24 rfl ⟨by rw [if_neg c13]; rfl, rfl⟩
  · refine Rn.lload_n d_Chance_lowest_16 rfl ?_
    refine Rn.goto (tgt := 21) d_Chance_lowest_17 (by decide) ?_
    refine Rn.lload d_Chance_lowest_21 rfl ?_
    refine In.ldiv d_Chance_lowest_23 ⟨by omega, by omega⟩ ⟨by omega, by omega⟩ ?_
    exact Rn.lret d_Chance_lowest_24 rfl ⟨by rw [if_pos c13]; rfl, rfl⟩
