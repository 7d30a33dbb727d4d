/-! All stays in order, whatever the call; every answer is there. -/
theorem ok_branch {β : Nat → Int} (h : hok β) (l p : Int) : hok (fBranch β l p).2 := by
  unfold fBranch
  by_cases q : lpq l ∧ lpq p ∧ l ≠ 0
  · rw [if_pos q]
    by_cases q2 : l ≤ p
    · rw [if_pos q2]; exact h
    · rw [if_neg q2]
      obtain ⟨u, rfl⟩ : ∃ u : Nat, p = u := ⟨p.toNat, by omega⟩
      exact bend_ok h (by omega) (by omega)
  · rw [if_neg q]; exact h
theorem ok_ball {β : Nat → Int} (h : hok β) (b l c : Int) : hok (fBall β b l c).2 := by
  unfold fBall
  by_cases q : blq b ∧ (l = -1 ∨ lpq l)
  · rw [if_pos q]
    by_cases q2 : 0 ≤ c ∧ c ≤ 8
    · rw [if_pos q2]
      by_cases q3 : l ≠ -1 ∧ (β (12 + b.toNat) ≠ l ∧ (hungS β 6).testBit l.toNat = true)
      · rw [if_pos q3]; exact h
      · rw [if_neg q3]
        by_cases q4 : l = -1
        · rw [if_pos q4]
          exact putF_ok h (by omega) (Or.inl rfl) q2 (fun _ _ _ _ => rfl)
        · rw [if_neg q4]
          refine putF_ok h (by omega) (Or.inr (by omega)) q2 (fun x hx hxb e => ?_)
          have hb6 : b.toNat < 6 := by omega
          by_cases q5 : β (12 + b.toNat) = l
          · have := h.d x b.toNat hx hb6 hxb (e.trans q5.symm)
            omega
          · exact absurd ⟨q4, q5, (hungS_bit l.toNat 6).mpr ⟨x, hx, by omega, by omega⟩⟩ q3
    · rw [if_neg q2]; exact h
  · rw [if_neg q]; exact h
theorem ok_say {n : Nat} {σ : Nat → Int} (h : pok n σ) (c : Int) : pok (fSay n σ c).2.1 (fSay n σ c).2.2 := by
  unfold fSay
  by_cases q : 33 ≤ c ∧ c ≤ 126
  · rw [if_pos q]
    by_cases q2 : n < 60
    · rw [if_pos q2]
      refine ⟨by simp only; omega, fun i hi => ?_⟩
      simp only [up]
      by_cases e : i = n
      · rw [if_pos e]; omega
      · rw [if_neg e]; exact h.2 i hi
    · rw [if_neg q2]; exact h
  · rw [if_neg q]; exact h
theorem ok_tellF {σ : Nat → Int} {n : Nat} : ∀ m β pl ac bA bB, hok β → okAt σ n pl → hok (tellF σ n m β pl ac bA bB).2.1
  | 0, β, pl, ac, bA, bB, h, _ => h
  | m + 1, β, pl, ac, bA, bB, h, hk => by
    rw [tellF]
    by_cases q : n ≤ pl
    · rw [if_pos q]; exact h
    · rw [if_neg q]
      by_cases q2 : whyF β (rdK σ pl) (rdO σ pl) (rdP σ pl) ≠ 0
      · rw [if_pos q2]; exact h
      · rw [if_neg q2]
        obtain ⟨h1, h2, h3⟩ := rd_ok hk (by omega)
        exact ok_tellF m _ _ _ _ _ (folF_ok h h1 (by omega)) h2
theorem ok_tell {σ β : Nat → Int} {n : Nat} (h : hok β) (hf : fltS σ n = -6) : hok (tellS σ n β).2.1 := ok_tellF 60 β 0 0 (-6) (-6) h ⟨Nat.zero_le _, hf⟩
theorem ok_seen {m : Nat} {τ : Nat → Int} {l v : Int} (h : sok m τ) (hm : m < 8) (hl : lpq l) (hv : 0 ≤ v ∧ v ≤ 11) : sok (m + 1) (up (up τ (2 * m) l) (2 * m + 1) v) := by
  refine ⟨by omega, fun i hi => ?_⟩
  have hi2 := h.2 i hi
  simp only [up]
  by_cases e : i = m
  · subst e
    rw [if_neg (by omega), if_pos rfl, if_pos rfl]; omega
  · rw [if_neg (by omega), if_neg (by omega), if_neg (by omega), if_neg (by omega)]; exact hi2
theorem ok_be0 : hok be0 := by
  have h1 : ∀ k, k < 12 → 1 ≤ k → 0 ≤ be0 k ∧ be0 k < k := by decide
  have h2 : ∀ b, b < 6 → be0 (12 + b) = -6 := by decide
  have h3 : ∀ b, b < 6 → be0 (18 + b) = 0 := by decide
  refine ⟨fun k k1 k2 => h1 k k2 k1, by decide, fun b hb => Or.inl (h2 b hb), fun b c hb hc _ _ => h2 b hb, fun b hb => by rw [h3 b hb]; decide, by decide, by decide, fun b hb => ?_, fun b hb e => h2 b hb⟩
  rw [h3 b hb]
  have h4 : bk be0 = 0 := by decide
  rw [h4]; simp
theorem ok_p0 : pok 0 (fun _ => 0) := ⟨by decide, fun _ _ => ⟨Int.le_refl 0, (by decide : (0 : Int) ≤ 126)⟩⟩
theorem ok_s0 : sok 0 (fun _ => 0) := ⟨by decide, fun _ _ => ⟨⟨Int.le_refl 0, (by decide : (0 : Int) < 12)⟩, Int.le_refl 0, (by decide : (0 : Int) ≤ 11)⟩⟩
theorem ok_0 : aLok be0 0 (fun _ => 0) 0 (fun _ => 0) im0 im0 := ⟨ok_be0, ok_p0, ok_s0, ⟨ok_be0, ok_s0⟩, ⟨ok_be0, ok_s0⟩⟩
theorem and31 (x : Int32) : ∃ z : Nat, x &&& iI 31 = iI z ∧ z < 32 := by
  refine ⟨(x.toBitVec &&& 31#32).toNat, ?_, ?_⟩
  · rw [← iI_nI]
    refine Int32.toBitVec_inj.1 ?_
    show x.toBitVec &&& (iI 31).toBitVec = BitVec.ofNat 32 (x.toBitVec &&& 31#32).toNat
    rw [BitVec.ofNat_toNat, BitVec.setWidth_eq]; rfl
  · rw [BitVec.toNat_and]; exact Nat.lt_of_le_of_lt Nat.and_le_right (by decide)
