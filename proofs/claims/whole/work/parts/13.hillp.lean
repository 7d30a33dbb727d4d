/-! The hill, as mathematics: one list of 26 numbers: 0 to 11 parents, 12 to 17 where the balls hang, 18 to 23 chips, 24 the broken ones, 25 the winter. -/
def bk (β : Nat → Int) : Nat := (β 24).toNat
def clr (m b : Nat) : Nat := if m.testBit b then m - 2 ^ b else m
def hok (β : Nat → Int) : Prop := tok β ∧ β 0 = -6 ∧ (∀ b, b < 6 → β (12 + b) = -6 ∨ (0 ≤ β (12 + b) ∧ β (12 + b) < 12)) ∧ (∀ b c, b < 6 → c < 6 → b ≠ c → β (12 + b) = β (12 + c) → β (12 + b) = -6) ∧ (∀ b, b < 6 → 0 ≤ β (18 + b) ∧ β (18 + b) ≤ 9) ∧ (0 ≤ β 24 ∧ β 24 < 64) ∧ (0 ≤ β 25 ∧ β 25 ≤ 99) ∧ (∀ b, b < 6 → (bk β).testBit b = decide (β (18 + b) = 9)) ∧ (∀ b, b < 6 → β (18 + b) = 9 → β (12 + b) = -6)
theorem hok.t {β : Nat → Int} (h : hok β) : tok β := h.1
theorem hok.z {β : Nat → Int} (h : hok β) : β 0 = -6 := h.2.1
theorem hok.l {β : Nat → Int} (h : hok β) : ∀ b, b < 6 → β (12 + b) = -6 ∨ (0 ≤ β (12 + b) ∧ β (12 + b) < 12) := h.2.2.1
theorem hok.d {β : Nat → Int} (h : hok β) : ∀ b c, b < 6 → c < 6 → b ≠ c → β (12 + b) = β (12 + c) → β (12 + b) = -6 := h.2.2.2.1
theorem hok.c {β : Nat → Int} (h : hok β) : ∀ b, b < 6 → 0 ≤ β (18 + b) ∧ β (18 + b) ≤ 9 := h.2.2.2.2.1
theorem hok.b {β : Nat → Int} (h : hok β) : 0 ≤ β 24 ∧ β 24 < 64 := h.2.2.2.2.2.1
theorem hok.w {β : Nat → Int} (h : hok β) : 0 ≤ β 25 ∧ β 25 ≤ 99 := h.2.2.2.2.2.2.1
theorem hok.bb {β : Nat → Int} (h : hok β) : ∀ b, b < 6 → (bk β).testBit b = decide (β (18 + b) = 9) := h.2.2.2.2.2.2.2.1
theorem hok.bl {β : Nat → Int} (h : hok β) : ∀ b, b < 6 → β (18 + b) = 9 → β (12 + b) = -6 := h.2.2.2.2.2.2.2.2
theorem hok_bk {β : Nat → Int} (h : hok β) : β 24 = (bk β : Int) ∧ bk β < 64 := by
  have := h.b
  constructor <;> (unfold bk; omega)
/-- the loops on which balls hang -/
def hungS (β : Nat → Int) : Nat → Nat
  | 0 => 0
  | b + 1 => if β (12 + b) = -6 then hungS β b else hungS β b ||| 2 ^ (β (12 + b)).toNat
theorem hungS_lt {β : Nat → Int} (h : ∀ b, b < 6 → β (12 + b) = -6 ∨ (0 ≤ β (12 + b) ∧ β (12 + b) < 12)) : ∀ n, n ≤ 6 → hungS β n < 4096
  | 0, _ => by simp [hungS]
  | n + 1, hn => by
    have ih := hungS_lt h n (by omega)
    simp only [hungS]
    split
    · exact ih
    · have h2 : 2 ^ (β (12 + n)).toNat < 2 ^ 12 := Nat.pow_lt_pow_right (by decide) (by rcases h n (by omega) with h | h <;> omega)
      exact Nat.or_lt_two_pow (n := 12) ih h2
theorem hungS_bit {β : Nat → Int} (l : Nat) : ∀ n, (hungS β n).testBit l = true ↔ ∃ b, b < n ∧ β (12 + b) ≠ -6 ∧ (β (12 + b)).toNat = l
  | 0 => by simp [hungS]
  | n + 1 => by
    have ih := hungS_bit (β := β) l n
    simp only [hungS]
    split
    · rename_i h
      rw [ih]
      constructor
      · rintro ⟨b, h1, h2⟩; exact ⟨b, by omega, h2⟩
      · rintro ⟨b, h1, h2, h3⟩
        have : b ≠ n := fun e => by subst e; exact h2 h
        exact ⟨b, by omega, h2, h3⟩
    · rename_i h
      rw [Nat.testBit_or, Bool.or_eq_true, ih, Nat.testBit_two_pow]
      constructor
      · rintro (⟨b, h1, h2⟩ | h1)
        · exact ⟨b, by omega, h2⟩
        · exact ⟨n, by omega, h, by simpa using h1⟩
      · rintro ⟨b, h1, h2, h3⟩
        by_cases e : b = n
        · subst e; right; simpa using h3
        · left; exact ⟨b, by omega, h2, h3⟩
def chipS (β : Nat → Int) : Nat → Int
  | 0 => 0
  | b + 1 => chipS β b + β (18 + b)
theorem chipS_rg {β : Nat → Int} (h : ∀ b, b < 6 → 0 ≤ β (18 + b) ∧ β (18 + b) ≤ 9) : ∀ n, n ≤ 6 → 0 ≤ chipS β n ∧ chipS β n ≤ 9 * n
  | 0, _ => by simp [chipS]
  | n + 1, hn => by
    have ih := chipS_rg h n (by omega)
    have := h n (by omega)
    simp only [chipS]; omega
def putF (β : Nat → Int) (b : Nat) (l c : Int) : Nat → Int := up (up (up β (12 + b) l) (18 + b) c) 24 (clr (bk β) b)
def wayS (f : Nat → Int) (a b : Nat) : Nat := setOf (fun l => decide (dist f a l + dist f l b = dist f a b)) 12
def ringS (f : Nat → Int) (l : Nat) (lo hi : Int) : Nat := setOf (fun o => decide (lo ≤ dist f l o) && decide ((dist f l o : Int) ≤ hi)) 12
theorem clr_ok : ∀ m, m < 64 → ∀ b, b < 6 → iI (m : Nat) &&& (iI ((2 ^ b : Nat) : Int) ^^^ iI (-1)) = iI (clr m b : Nat) := by decide +kernel
theorem clr_lt {m b : Nat} (h : m < 64) : clr m b < 64 := by
  have : m - 2 ^ b ≤ m := Nat.sub_le _ _
  unfold clr; split <;> omega
theorem clr_bit : ∀ m, m < 64 → ∀ b, b < 6 → ∀ c, c < 6 → (clr m b).testBit c = (decide (c ≠ b) && m.testBit c) := by decide +kernel
theorem set_bit : ∀ m, m < 64 → ∀ b, b < 6 → (m ||| 2 ^ b) < 64 ∧ ∀ c, c < 6 → (m ||| 2 ^ b).testBit c = (decide (c = b) || m.testBit c) := by decide +kernel
/-- what an object of Hill holds -/
def hillAt (M : wM) (h : Nat) (β : Nat → Int) : Prop := treeAt M (h + 1) β ∧ (∀ b, b < 6 → M.1 (h + 3) b = iI (β (12 + b))) ∧ (∀ b, b < 6 → M.1 (h + 4) b = iI (β (18 + b))) ∧ M.1 h 3 = iI (β 24) ∧ M.1 h 4 = iI (β 25)
theorem hillAt.off {M M' : wM} {h lo hi : Nat} {β : Nat → Int} (k : hillAt M h β) (ho : Off M M' lo hi) (ht : h + 5 ≤ lo ∨ hi ≤ h) : hillAt M' h β := by
  obtain ⟨h1, h2, h3, h4, h5⟩ := k
  refine ⟨h1.off ho (by omega), fun b hb => ?_, fun b hb => ?_, ?_, ?_⟩
  · rw [ho.1 _ (by omega)]; exact h2 b hb
  · rw [ho.1 _ (by omega)]; exact h3 b hb
  · rw [ho.1 _ (by omega)]; exact h4
  · rw [ho.1 _ (by omega)]; exact h5
/-- what an object of Act holds -/
def actAt (M : wM) (c : Nat) (k o p : Int) : Prop := M.1 c 0 = iI k ∧ M.1 c 1 = iI o ∧ M.1 c 2 = iI p
theorem actAt.off {M M' : wM} {c lo hi : Nat} {k o p : Int} (h : actAt M c k o p) (ho : Off M M' lo hi) (ht : c < lo ∨ hi ≤ c) : actAt M' c k o p := by
  obtain ⟨h1, h2, h3⟩ := h
  exact ⟨by rw [ho.1 _ ht]; exact h1, by rw [ho.1 _ ht]; exact h2, by rw [ho.1 _ ht]; exact h3⟩
/-- the i-th of a set, from a number on -/
def nth (P : Nat → Bool) : Nat → Nat → Int → Int → Int
  | 0, _, _, _ => -6
  | n + 1, l, c, i => if P l then (if c = i then (l : Int) else nth P n (l + 1) (c + 1) i) else nth P n (l + 1) c i
theorem nth_rg (P : Nat → Bool) : ∀ n l c i, nth P n l c i = -6 ∨ (0 ≤ nth P n l c i ∧ nth P n l c i < l + n)
  | 0, _, _, _ => Or.inl rfl
  | n + 1, l, c, i => by
    simp only [nth]
    split
    · split
      · right; omega
      · rcases nth_rg P n (l + 1) (c + 1) i with h | h
        · exact Or.inl h
        · right; omega
    · rcases nth_rg P n (l + 1) c i with h | h
      · exact Or.inl h
      · right; omega
theorem nth_congr {P P' : Nat → Bool} : ∀ n l c i, (∀ k, l ≤ k → k < l + n → P k = P' k) → nth P n l c i = nth P' n l c i
  | 0, _, _, _, _ => rfl
  | n + 1, l, c, i, h => by
    simp only [nth]
    rw [h l (by omega) (by omega), nth_congr n (l + 1) (c + 1) i (fun k h1 h2 => h k (by omega) (by omega)), nth_congr n (l + 1) c i (fun k h1 h2 => h k (by omega) (by omega))]
