/-! The pad's text, as mathematics. -/
def stpF (s c : Int) : Int :=
  if s = 0 then (if 65 ≤ c ∧ c ≤ 70 then 1 else if c = 100 then 2 else if c = 98 then 3 else if c = 46 then 0 else -6)
  else if s = 1 then (if (97 ≤ c ∧ c ≤ 108) ∨ c = 95 then 0 else -6)
  else if s = 2 then (if 49 ≤ c ∧ c ≤ 57 then 0 else -6)
  else if 97 ≤ c ∧ c ≤ 108 then (if s = 3 then 4 else 0) else -6
theorem stpF_rg (s c : Int) : stpF s c = -6 ∨ (0 ≤ stpF s c ∧ stpF s c ≤ 4) := by
  unfold stpF
  repeat' split
  all_goals omega
def fltF (σ : Nat → Int) (n : Nat) : Nat → Nat → Int → Int
  | 0, _, s => if s = 0 then -6 else n
  | m + 1, k, s => if stpF s (σ k) < 0 then (k : Int) else fltF σ n m (k + 1) (stpF s (σ k))
/-- the fault -/
def fltS (σ : Nat → Int) (n : Nat) : Int := fltF σ n n 0 0
theorem fltF_rg (σ : Nat → Int) (n : Nat) : ∀ m k s, k + m = n → fltF σ n m k s = -6 ∨ (0 ≤ fltF σ n m k s ∧ fltF σ n m k s ≤ n)
  | 0, k, s, _ => by simp only [fltF]; split <;> omega
  | m + 1, k, s, h => by
    simp only [fltF]
    split
    · omega
    · exact fltF_rg σ n m (k + 1) _ (by omega)
theorem fltS_rg (σ : Nat → Int) (n : Nat) : fltS σ n = -6 ∨ (0 ≤ fltS σ n ∧ fltS σ n ≤ n) := fltF_rg σ n n 0 0 (by omega)
/-- from a place on, between two acts, the text has no fault -/
def okAt (σ : Nat → Int) (n pl : Nat) : Prop := pl ≤ n ∧ fltF σ n (n - pl) pl 0 = -6
theorem flt_step {σ : Nat → Int} {n k : Nat} {s : Int} (hk : k ≤ n) (h : fltF σ n (n - k) k s = -6) : (k = n ∧ s = 0) ∨ (k < n ∧ 0 ≤ stpF s (σ k) ∧ fltF σ n (n - (k + 1)) (k + 1) (stpF s (σ k)) = -6) := by
  by_cases e : k = n
  · subst e
    rw [Nat.sub_self] at h
    simp only [fltF] at h
    split at h
    · left; exact ⟨rfl, by assumption⟩
    · omega
  · right
    obtain ⟨m, hm⟩ : ∃ m, n - k = m + 1 := ⟨n - k - 1, by omega⟩
    rw [hm] at h
    simp only [fltF] at h
    rw [show n - (k + 1) = m by omega]
    split at h
    · omega
    · exact ⟨by omega, by omega, h⟩
def rdK (σ : Nat → Int) (pl : Nat) : Nat := if 65 ≤ σ pl ∧ σ pl ≤ 70 then (if σ (pl + 1) = 95 then 1 else 0) else if σ pl = 100 then 2 else if σ pl = 98 then 3 else 4
def rdO (σ : Nat → Int) (pl : Nat) : Nat := if 65 ≤ σ pl ∧ σ pl ≤ 70 then (σ pl - 65).toNat else if σ pl = 100 then (σ (pl + 1) - 48).toNat else if σ pl = 98 then (σ (pl + 1) - 97).toNat else 0
def rdP (σ : Nat → Int) (pl : Nat) : Nat := if 65 ≤ σ pl ∧ σ pl ≤ 70 then (if σ (pl + 1) = 95 then 0 else (σ (pl + 1) - 97).toNat) else if σ pl = 98 then (σ (pl + 2) - 97).toNat else 0
def rdL (σ : Nat → Int) (pl : Nat) : Nat := if 65 ≤ σ pl ∧ σ pl ≤ 70 then 2 else if σ pl = 100 then 2 else if σ pl = 98 then 3 else 1
/-- the act at a place of a text without a fault: its four shapes -/
theorem ok_cases {σ : Nat → Int} {n pl : Nat} (h : okAt σ n pl) (hp : pl < n) :
    (65 ≤ σ pl ∧ σ pl ≤ 70 ∧ pl + 1 < n ∧ ((97 ≤ σ (pl + 1) ∧ σ (pl + 1) ≤ 108) ∨ σ (pl + 1) = 95) ∧ okAt σ n (pl + 2)) ∨
    (σ pl = 100 ∧ pl + 1 < n ∧ 49 ≤ σ (pl + 1) ∧ σ (pl + 1) ≤ 57 ∧ okAt σ n (pl + 2)) ∨
    (σ pl = 98 ∧ pl + 2 < n ∧ (97 ≤ σ (pl + 1) ∧ σ (pl + 1) ≤ 108) ∧ (97 ≤ σ (pl + 2) ∧ σ (pl + 2) ≤ 108) ∧ okAt σ n (pl + 3)) ∨
    (σ pl = 46 ∧ okAt σ n (pl + 1)) := by
  obtain ⟨h1, h2⟩ := h
  rcases flt_step h1 h2 with ⟨e, _⟩ | ⟨_, g1, g2⟩
  · omega
  · by_cases a1 : 65 ≤ σ pl ∧ σ pl ≤ 70
    · have e : stpF 0 (σ pl) = 1 := by unfold stpF; rw [if_pos rfl, if_pos a1]
      rw [e] at g2
      rcases flt_step (by omega) g2 with ⟨_, e2⟩ | ⟨q1, q2, q3⟩
      · omega
      · by_cases a2 : (97 ≤ σ (pl + 1) ∧ σ (pl + 1) ≤ 108) ∨ σ (pl + 1) = 95
        · have e2 : stpF 1 (σ (pl + 1)) = 0 := by unfold stpF; rw [if_neg (by decide), if_pos rfl, if_pos a2]
          rw [e2] at q3
          exact Or.inl ⟨a1.1, a1.2, by omega, a2, by omega, q3⟩
        · have e2 : stpF 1 (σ (pl + 1)) = -6 := by unfold stpF; rw [if_neg (by decide), if_pos rfl, if_neg a2]
          omega
    · by_cases a3 : σ pl = 100
      · have e : stpF 0 (σ pl) = 2 := by unfold stpF; rw [if_pos rfl, if_neg a1, if_pos a3]
        rw [e] at g2
        rcases flt_step (by omega) g2 with ⟨_, e2⟩ | ⟨q1, q2, q3⟩
        · omega
        · by_cases a2 : 49 ≤ σ (pl + 1) ∧ σ (pl + 1) ≤ 57
          · have e2 : stpF 2 (σ (pl + 1)) = 0 := by unfold stpF; rw [if_neg (by decide), if_neg (by decide), if_pos rfl, if_pos a2]
            rw [e2] at q3
            exact Or.inr (Or.inl ⟨a3, by omega, a2.1, a2.2, by omega, q3⟩)
          · have e2 : stpF 2 (σ (pl + 1)) = -6 := by unfold stpF; rw [if_neg (by decide), if_neg (by decide), if_pos rfl, if_neg a2]
            omega
      · by_cases a4 : σ pl = 98
        · have e : stpF 0 (σ pl) = 3 := by unfold stpF; rw [if_pos rfl, if_neg a1, if_neg a3, if_pos a4]
          rw [e] at g2
          rcases flt_step (by omega) g2 with ⟨_, e2⟩ | ⟨q1, q2, q3⟩
          · omega
          · by_cases a2 : 97 ≤ σ (pl + 1) ∧ σ (pl + 1) ≤ 108
            · have e2 : stpF 3 (σ (pl + 1)) = 4 := by unfold stpF; rw [if_neg (by decide), if_neg (by decide), if_neg (by decide), if_pos a2, if_pos rfl]
              rw [e2] at q3
              rcases flt_step (by omega) q3 with ⟨_, e3⟩ | ⟨r1, r2, r3⟩
              · omega
              · by_cases a5 : 97 ≤ σ (pl + 1 + 1) ∧ σ (pl + 1 + 1) ≤ 108
                · have e3 : stpF 4 (σ (pl + 1 + 1)) = 0 := by unfold stpF; rw [if_neg (by decide), if_neg (by decide), if_neg (by decide), if_pos a5, if_neg (by decide)]
                  rw [e3] at r3
                  exact Or.inr (Or.inr (Or.inl ⟨a4, by omega, a2, a5, by omega, r3⟩))
                · have e3 : stpF 4 (σ (pl + 1 + 1)) = -6 := by unfold stpF; rw [if_neg (by decide), if_neg (by decide), if_neg (by decide), if_neg a5]
                  omega
            · have e2 : stpF 3 (σ (pl + 1)) = -6 := by unfold stpF; rw [if_neg (by decide), if_neg (by decide), if_neg (by decide), if_neg a2]
              omega
        · by_cases a6 : σ pl = 46
          · have e : stpF 0 (σ pl) = 0 := by unfold stpF; rw [if_pos rfl, if_neg a1, if_neg a3, if_neg a4, if_pos a6]
            rw [e] at g2
            exact Or.inr (Or.inr (Or.inr ⟨a6, by omega, g2⟩))
          · have e : stpF 0 (σ pl) = -6 := by unfold stpF; rw [if_pos rfl, if_neg a1, if_neg a3, if_neg a4, if_neg a6]
            omega
theorem rd_ok {σ : Nat → Int} {n pl : Nat} (h : okAt σ n pl) (hp : pl < n) : aok (rdK σ pl) (rdO σ pl) (rdP σ pl) ∧ okAt σ n (pl + rdL σ pl) ∧ 1 ≤ rdL σ pl := by
  unfold aok rdK rdO rdP rdL
  rcases ok_cases h hp with ⟨h1, h2, h3, h4, h5⟩ | ⟨h1, h3, h4, h6, h5⟩ | ⟨h1, h3, h4, h6, h5⟩ | ⟨h1, h5⟩
  · have e : 65 ≤ σ pl ∧ σ pl ≤ 70 := ⟨h1, h2⟩
    simp only [if_pos e]
    refine ⟨?_, h5, by decide⟩
    by_cases e2 : σ (pl + 1) = 95
    · simp only [if_pos e2]; omega
    · simp only [if_neg e2]; omega
  · have e : ¬ (65 ≤ σ pl ∧ σ pl ≤ 70) := by omega
    simp only [if_neg e, if_pos h1]
    refine ⟨?_, h5, by decide⟩
    omega
  · have e : ¬ (65 ≤ σ pl ∧ σ pl ≤ 70) := by omega
    have e2 : ¬ σ pl = 100 := by omega
    simp only [if_neg e, if_neg e2, if_pos h1]
    refine ⟨?_, h5, by decide⟩
    omega
  · have e : ¬ (65 ≤ σ pl ∧ σ pl ≤ 70) := by omega
    have e2 : ¬ σ pl = 100 := by omega
    have e3 : ¬ σ pl = 98 := by omega
    simp only [if_neg e, if_neg e2, if_neg e3]
    refine ⟨?_, h5, by decide⟩
    omega
/-- what is broken anew -/
def frs (m' m : Nat) : Nat := setOf (fun k => m'.testBit k && !m.testBit k) 6
theorem frs_ok : ∀ m', m' < 64 → ∀ m, m < 64 → iI (m' : Nat) &&& (iI (m : Nat) ^^^ iI (-1)) = iI (frs m' m : Nat) := by decide +kernel
theorem frs_lt (m' m : Nat) : frs m' m < 64 := setOf_lt _ 6
abbrev wT : Type := Int × (Nat → Int) × Nat × Int × Int
/-- winters told: why (0: all can be), the hill behind, the acts, the act that broke one, which -/
def tellF (σ : Nat → Int) (n : Nat) : Nat → (Nat → Int) → Nat → Nat → Int → Int → wT
  | 0, β, _, ac, bA, bB => (0, β, ac, bA, bB)
  | m + 1, β, pl, ac, bA, bB =>
    if n ≤ pl then (0, β, ac, bA, bB)
    else if whyF β (rdK σ pl) (rdO σ pl) (rdP σ pl) ≠ 0 then (whyF β (rdK σ pl) (rdO σ pl) (rdP σ pl), β, ac, bA, bB)
    else
      tellF σ n m (folF β (rdK σ pl) (rdO σ pl) (rdP σ pl)) (pl + rdL σ pl) (ac + 1)
        (if frs (bk (folF β (rdK σ pl) (rdO σ pl) (rdP σ pl))) (bk β) = 0 ∨ bA ≠ -6 then bA else ac)
        (if frs (bk (folF β (rdK σ pl) (rdO σ pl) (rdP σ pl))) (bk β) = 0 ∨ bA ≠ -6 then bB else nth (fun k => (frs (bk (folF β (rdK σ pl) (rdO σ pl) (rdP σ pl))) (bk β)).testBit k) 12 0 0 0)
def tellS (σ : Nat → Int) (n : Nat) (β : Nat → Int) : wT := tellF σ n 60 β 0 0 (-6) (-6)
/-- what the object of Pad holds -/
def padAt (M : wM) (n : Nat) (σ : Nat → Int) : Prop := (∀ i, i < 60 → M.1 10 i = iI (σ i)) ∧ M.1 9 1 = iI n
def pok (n : Nat) (σ : Nat → Int) : Prop := n ≤ 60 ∧ ∀ i, i < 60 → 0 ≤ σ i ∧ σ i ≤ 126
theorem padAt.off {M M' : wM} {lo hi n : Nat} {σ : Nat → Int} (h : padAt M n σ) (ho : Off M M' lo hi) (ht : 11 ≤ lo ∨ hi ≤ 9) : padAt M' n σ := ⟨fun i hi => by rw [ho.1 _ (by omega)]; exact h.1 i hi, by rw [ho.1 _ (by omega)]; exact h.2⟩
