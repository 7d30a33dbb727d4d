/-! Sights, choices, cutting, years, as mathematics. -/
def sgAt (M : wM) (s m : Nat) (τ : Nat → Int) : Prop := (∀ i, i < 8 → M.1 (s + 1) i = iI (τ (2 * i))) ∧ (∀ i, i < 8 → M.1 (s + 2) i = iI (τ (2 * i + 1))) ∧ M.1 s 2 = iI m
def sok (m : Nat) (τ : Nat → Int) : Prop := m ≤ 8 ∧ ∀ i, i < 8 → (0 ≤ τ (2 * i) ∧ τ (2 * i) < 12) ∧ (0 ≤ τ (2 * i + 1) ∧ τ (2 * i + 1) ≤ 11)
theorem sgAt.off {M M' : wM} {s m lo hi : Nat} {τ : Nat → Int} (h : sgAt M s m τ) (ho : Off M M' lo hi) (ht : s + 3 ≤ lo ∨ hi ≤ s) : sgAt M' s m τ :=
  ⟨fun i hi => by rw [ho.1 _ (by omega)]; exact h.1 i hi, fun i hi => by rw [ho.1 _ (by omega)]; exact h.2.1 i hi, by rw [ho.1 _ (by omega)]; exact h.2.2⟩
def fitN (f τ : Nat → Int) : Nat → Nat
  | 0 => 4095
  | i + 1 => fitN f τ i &&& ringS f (τ (2 * i)).toNat (τ (2 * i + 1)) (τ (2 * i + 1))
theorem fitN_lt (f τ : Nat → Int) : ∀ n, fitN f τ n < 4096
  | 0 => by simp [fitN]
  | n + 1 => and_4096 (fitN_lt f τ n)
theorem bit_4095 : ∀ l, l < 12 → (4095 : Nat).testBit l = true := by decide
theorem fitN_bit {f τ : Nat → Int} {l : Nat} (hl : l < 12) : ∀ n, (fitN f τ n).testBit l = true ↔ ∀ i, i < n → (dist f (τ (2 * i)).toNat l : Int) = τ (2 * i + 1)
  | 0 => by simp [fitN, bit_4095 l hl]
  | n + 1 => by
    have ih := fitN_bit (f := f) (τ := τ) hl n
    simp only [fitN, Nat.testBit_and, Bool.and_eq_true, ih]
    have hr : (ringS f (τ (2 * n)).toNat (τ (2 * n + 1)) (τ (2 * n + 1))).testBit l = true ↔ (dist f (τ (2 * n)).toNat l : Int) = τ (2 * n + 1) := by
      unfold ringS
      rw [setOf_bit]
      simp [hl]
      omega
    rw [hr]
    constructor
    · rintro ⟨h1, h2⟩ i hi
      by_cases e : i = n
      · subst e; exact h2
      · exact h1 i (by omega)
    · intro h
      exact ⟨fun i hi => h i (by omega), h n (by omega)⟩
/-! choices -/
def standS (f : Nat → Int) (r : Int) (s : Nat) : Prop := ∀ l, l < 12 → s.testBit l = true → ringS f l 0 r &&& s = 2 ^ l
def litN (f : Nat → Int) (r : Int) (s : Nat) : Nat → Nat
  | 0 => 0
  | l + 1 => if s.testBit l then litN f r s l ||| ringS f l 0 r else litN f r s l
theorem litN_lt (f : Nat → Int) (r : Int) (s : Nat) : ∀ n, litN f r s n < 4096
  | 0 => by simp [litN]
  | n + 1 => by
    simp only [litN]
    split
    · exact or_12 (litN_lt f r s n) (ringS_lt f n 0 r)
    · exact litN_lt f r s n
def moN (P : Nat → Bool) : Nat → Nat
  | 0 => 0
  | k + 1 => if pc (moN P k) < pc (k + 1) ∧ P (k + 1) = true then k + 1 else moN P k
def feN (P : Nat → Bool) : Nat → Nat
  | 0 => 4095
  | k + 1 => if pc (k + 1) < pc (feN P k) ∧ P (k + 1) = true then k + 1 else feN P k
theorem moN_le (P : Nat → Bool) : ∀ n, moN P n ≤ n
  | 0 => Nat.le_refl _
  | n + 1 => by
    have := moN_le P n
    simp only [moN]; split <;> omega
theorem feN_le (P : Nat → Bool) : ∀ n, n ≤ 4095 → feN P n ≤ 4095
  | 0, _ => Nat.le_refl _
  | n + 1, h => by
    have := feN_le P n (by omega)
    simp only [feN]; split <;> omega
/-! cutting -/
def wov (w : Nat → Nat) (p l : Nat) : Nat → Nat := fun j => if j = p then w p ^^^ (w l + 1) else w j
def woF (f : Nat → Int) (c : Nat) : Nat → (Nat → Nat)
  | 0 => fun _ => 0
  | k + 1 => if 11 - k = c then woF f c k else wov (woF f c k) (f (11 - k)).toNat (11 - k)
theorem woF_lt (f : Nat → Int) (c : Nat) : ∀ k j, woF f c k j < 2 ^ k
  | 0, j => by simp [woF]
  | k + 1, j => by
    have h2 : 2 ^ (k + 1) = 2 ^ k + 2 ^ k := by rw [Nat.pow_succ]; omega
    have h3 : 0 < 2 ^ k := Nat.two_pow_pos k
    have ih := fun j => woF_lt f c k j
    simp only [woF]
    split
    · have := ih j; omega
    · simp only [wov]
      split
      · have q1 := ih (f (11 - k)).toNat
        have q2 := ih (11 - k)
        exact Nat.xor_lt_two_pow (by omega) (by omega)
      · have := ih j; omega
/-! years -/
def yrX (x : Nat) : Nat := (75 * x + 74) % 65537
def yrK (x : Nat) : Nat := if x / 6 % 8 = 4 then 1 else if x / 6 % 8 = 5 then 2 else if x / 6 % 8 = 6 then 3 else if x / 6 % 8 = 7 then (if x / 48 % 8 = 0 then 4 else 5) else 0
def yrO (x : Nat) : Nat := if x / 6 % 8 = 4 then x % 6 else if x / 6 % 8 = 5 then 1 + x / 48 % 9 else if x / 6 % 8 = 6 then x / 48 % 12 else if x / 6 % 8 = 7 then 0 else x % 6
def yrP (x : Nat) : Nat := if x / 6 % 8 = 4 then 0 else if x / 6 % 8 = 5 then 0 else if x / 6 % 8 = 6 then x / 48 / 12 % 12 else if x / 6 % 8 = 7 then 0 else x / 48 % 12
theorem yr_ok (x : Nat) : aok (yrK x) (yrO x) (yrP x) := by
  unfold aok yrK yrO yrP
  by_cases h4 : x / 6 % 8 = 4
  · simp only [if_pos h4]; omega
  · by_cases h5 : x / 6 % 8 = 5
    · simp only [if_neg h4, if_pos h5]; omega
    · by_cases h6 : x / 6 % 8 = 6
      · simp only [if_neg h4, if_neg h5, if_pos h6]; omega
      · by_cases h7 : x / 6 % 8 = 7
        · simp only [if_neg h4, if_neg h5, if_neg h6, if_pos h7]
          by_cases h8 : x / 48 % 8 = 0
          · simp only [if_pos h8]; omega
          · simp only [if_neg h8]; omega
        · simp only [if_neg h4, if_neg h5, if_neg h6, if_neg h7]; omega
/-- one act of a year -/
def yrA (β : Nat → Int) (x : Nat) : Nat → Int := if whyF β (yrK x) (yrO x) (yrP x) = 0 then folF β (yrK x) (yrO x) (yrP x) else β
def yrF : Nat → (Nat → Int) → Nat → (Nat → Int)
  | 0, β, _ => β
  | m + 1, β, x => yrF m (yrA β (yrX x)) (yrX x)
theorem yrA_ok {β : Nat → Int} (h : hok β) (x : Nat) : hok (yrA β x) := by
  unfold yrA
  split
  · exact folF_ok h (yr_ok x) (by assumption)
  · exact h
theorem yrF_ok : ∀ (m : Nat) {β : Nat → Int} (_ : hok β) (x : Nat), hok (yrF m β x)
  | 0, _, h, _ => h
  | m + 1, _, h, x => yrF_ok m (yrA_ok h _) _
/-! chances -/
def ch : Nat → Nat → Nat
  | _, 0 => 1
  | 0, _ + 1 => 0
  | n + 1, k + 1 => ch n k + ch n (k + 1)
theorem ch_0 (n : Nat) : ch n 0 = 1 := by cases n <;> rfl
theorem ch_big : ∀ n k, n < k → ch n k = 0
  | 0, 0, h => by omega
  | 0, k + 1, _ => rfl
  | n + 1, 0, h => by omega
  | n + 1, k + 1, h => by simp only [ch]; rw [ch_big n k (by omega), ch_big n (k + 1) (by omega)]
theorem ch_pos : ∀ n k, k ≤ n → 0 < ch n k
  | 0, 0, _ => by decide
  | 0, k + 1, h => by omega
  | n + 1, 0, _ => by rw [ch_0]; decide
  | n + 1, k + 1, h => by simp only [ch]; have := ch_pos n k (by omega); omega
theorem ch_le : ∀ n k, ch n k ≤ 2 ^ n
  | 0, 0 => by decide
  | 0, k + 1 => by simp [ch]
  | n + 1, 0 => by rw [ch_0]; exact Nat.one_le_two_pow
  | n + 1, k + 1 => by
    simp only [ch]
    have h1 := ch_le n k
    have h2 := ch_le n (k + 1)
    rw [Nat.pow_succ]; omega
/-- (k + 1) of n + 1, by the first -/
theorem ch_abs : ∀ n k, ch (n + 1) (k + 1) * (k + 1) = ch n k * (n + 1)
  | 0, 0 => by decide
  | 0, k + 1 => by simp [ch]
  | n + 1, 0 => by
    have h := ch_abs n 0
    simp only [ch, ch_0] at h ⊢
    omega
  | n + 1, k + 1 => by
    have h1 := ch_abs n k
    have h2 := ch_abs n (k + 1)
    have e : ch (n + 1 + 1) (k + 1 + 1) = ch (n + 1) (k + 1) + ch (n + 1) (k + 1 + 1) := rfl
    have e2 : ch (n + 1) (k + 1) = ch n k + ch n (k + 1) := rfl
    rw [e, Nat.add_mul, h2, show k + 1 + 1 = (k + 1) + 1 from rfl, Nat.mul_add (ch (n + 1) (k + 1)) (k + 1) 1, h1, e2]
    simp only [Nat.mul_add, Nat.add_mul, Nat.mul_one]
    omega
def hyN (n r k j : Nat) : Nat → Nat
  | 0 => 0
  | i + 1 => hyN n r k j i + ch r (j + i) * ch (n - r) (k - (j + i))
theorem hyN_le {n r k j : Nat} (hn : n ≤ 40) (hr : r ≤ n) : ∀ i, hyN n r k j i ≤ i * 2 ^ 40
  | 0 => by simp [hyN]
  | i + 1 => by
    have ih := hyN_le (k := k) (j := j) hn hr i
    have h1 := ch_le r (j + i)
    have h2 := ch_le (n - r) (k - (j + i))
    have h3 : ch r (j + i) * ch (n - r) (k - (j + i)) ≤ 2 ^ r * 2 ^ (n - r) := Nat.mul_le_mul h1 h2
    have h4 : 2 ^ r * 2 ^ (n - r) ≤ 2 ^ 40 := by rw [← Nat.pow_add]; exact Nat.pow_le_pow_right (by decide) (by omega)
    simp only [hyN]
    rw [Nat.succ_mul]
    omega
def lowS (u l : Nat) (part : Int) : Int := if part = 0 then ((u / Nat.gcd u l : Nat) : Int) else ((l / Nat.gcd u l : Nat) : Int)
theorem gcd_turn (a b : Nat) : Nat.gcd b (a % b) = Nat.gcd a b := by rw [Nat.gcd_comm b, ← Nat.gcd_rec b a, Nat.gcd_comm]
theorem mod_half {b c : Nat} (h : 0 < c) (h2 : c < b) : 2 * (b % c) < b := by
  by_cases h3 : 2 * c ≤ b
  · have := Nat.mod_lt b h; omega
  · have h4 : b % c = b - c := by rw [Nat.mod_eq_sub_mod (by omega), Nat.mod_eq_of_lt (by omega)]
    omega
