/-! What the system speaks of, as mathematics: trees by parents, distance, sets as bits. -/
def up (f : Nat → Int) (k : Nat) (v : Int) : Nat → Int := fun j => if j = k then v else f j
theorem up_at (f : Nat → Int) (k : Nat) (v : Int) : up f k v k = v := by simp [up]
theorem up_ne (f : Nat → Int) (k j : Nat) (v : Int) (h : j ≠ k) : up f k v j = f j := by simp [up, h]
/-- a tree: each loop but the stem has a parent of less number -/
def tok (f : Nat → Int) : Prop := ∀ k, 1 ≤ k → k < 12 → 0 ≤ f k ∧ f k < k
def dst (f : Nat → Int) : Nat → Nat → Nat → Nat
  | 0, _, _ => 0
  | n + 1, a, b => if a = b then 0 else if b < a then dst f n (f a).toNat b + 1 else dst f n a (f b).toNat + 1
theorem dst_fuel {f : Nat → Int} (hf : tok f) : ∀ (n m a b : Nat), a < 12 → b < 12 → a + b ≤ n → a + b ≤ m → dst f n a b = dst f m a b
  | 0, 0, _, _, _, _, _, _ => rfl
  | 0, m + 1, a, b, _, _, h1, _ => by
    have : a = b := by omega
    simp [dst, this]
  | n + 1, 0, a, b, _, _, _, h2 => by
    have : a = b := by omega
    simp [dst, this]
  | n + 1, m + 1, a, b, ha, hb, h1, h2 => by
    simp only [dst]
    by_cases h : a = b
    · simp [h]
    · by_cases h3 : b < a
      · have hp := hf a (by omega) ha
        rw [if_neg h, if_neg h, if_pos h3, if_pos h3, dst_fuel hf n m (f a).toNat b (by omega) hb (by omega) (by omega)]
      · have hp := hf b (by omega) hb
        rw [if_neg h, if_neg h, if_neg h3, if_neg h3, dst_fuel hf n m a (f b).toNat ha (by omega) (by omega) (by omega)]
/-- the branches from one loop to another -/
def dist (f : Nat → Int) (a b : Nat) : Nat := dst f (a + b) a b
theorem dist_self (f : Nat → Int) (a : Nat) : dist f a a = 0 := by
  unfold dist
  cases h : a + a with
  | zero => rfl
  | succ n => simp [dst]
theorem dist_gt {f : Nat → Int} (hf : tok f) {a b : Nat} (ha : a < 12) (h : b < a) : dist f a b = dist f (f a).toNat b + 1 := by
  have hp := hf a (by omega) ha
  unfold dist
  obtain ⟨n, hn⟩ : ∃ n, a + b = n + 1 := ⟨a + b - 1, by omega⟩
  rw [hn, dst, if_neg (by omega), if_pos h, dst_fuel hf n ((f a).toNat + b) _ _ (by omega) (by omega) (by omega) (Nat.le_refl _)]
theorem dist_lt {f : Nat → Int} (hf : tok f) {a b : Nat} (hb : b < 12) (h : a < b) : dist f a b = dist f a (f b).toNat + 1 := by
  have hp := hf b (by omega) hb
  unfold dist
  obtain ⟨n, hn⟩ : ∃ n, a + b = n + 1 := ⟨a + b - 1, by omega⟩
  rw [hn, dst, if_neg (by omega), if_neg (by omega), dst_fuel hf n (a + (f b).toNat) _ _ (by omega) (by omega) (by omega) (Nat.le_refl _)]
theorem dist_comm {f : Nat → Int} (hf : tok f) : ∀ (n a b : Nat), a + b ≤ n → a < 12 → b < 12 → dist f a b = dist f b a
  | n, a, b, hn, ha, hb => by
    rcases Nat.lt_trichotomy a b with h | h | h
    · have hp := hf b (by omega) hb
      rw [dist_lt hf hb h, dist_gt hf hb h]
      cases n with
      | zero => omega
      | succ n => rw [dist_comm hf n a (f b).toNat (by omega) ha (by omega)]
    · rw [h]
    · have hp := hf a (by omega) ha
      rw [dist_gt hf ha h, dist_lt hf ha h]
      cases n with
      | zero => omega
      | succ n => rw [dist_comm hf n (f a).toNat b (by omega) (by omega) hb]
theorem dist_sym {f : Nat → Int} (hf : tok f) {a b : Nat} (ha : a < 12) (hb : b < 12) : dist f a b = dist f b a := dist_comm hf (a + b) a b (Nat.le_refl _) ha hb
theorem dist_le {f : Nat → Int} (hf : tok f) : ∀ (n a b : Nat), a + b ≤ n → a < 12 → b < 12 → dist f a b ≤ a + b
  | n, a, b, hn, ha, hb => by
    rcases Nat.lt_trichotomy a b with h | h | h
    · have hp := hf b (by omega) hb
      rw [dist_lt hf hb h]
      cases n with
      | zero => omega
      | succ n => have := dist_le hf n a (f b).toNat (by omega) ha (by omega); omega
    · rw [h, dist_self]; omega
    · have hp := hf a (by omega) ha
      rw [dist_gt hf ha h]
      cases n with
      | zero => omega
      | succ n => have := dist_le hf n (f a).toNat b (by omega) (by omega) hb; omega
theorem dist_22 {f : Nat → Int} (hf : tok f) {a b : Nat} (ha : a < 12) (hb : b < 12) : dist f a b ≤ 22 := by
  have := dist_le hf (a + b) a b (Nat.le_refl _) ha hb; omega
theorem dist_0 {f : Nat → Int} (hf : tok f) {a b : Nat} (ha : a < 12) (hb : b < 12) (h : dist f a b = 0) : a = b := by
  rcases Nat.lt_trichotomy a b with h1 | h1 | h1
  · rw [dist_lt hf hb h1] at h; omega
  · exact h1
  · rw [dist_gt hf ha h1] at h; omega
/-! sets as bits -/
def setOf (P : Nat → Bool) : Nat → Nat
  | 0 => 0
  | n + 1 => if P n then setOf P n ||| 2 ^ n else setOf P n
theorem setOf_lt (P : Nat → Bool) : ∀ n, setOf P n < 2 ^ n
  | 0 => by simp [setOf]
  | n + 1 => by
    have h := setOf_lt P n
    have h2 : 2 ^ n < 2 ^ (n + 1) := Nat.pow_lt_pow_right (by decide) (by omega)
    simp only [setOf]
    split
    · exact Nat.or_lt_two_pow (Nat.lt_trans h h2) h2
    · exact Nat.lt_trans h h2
theorem setOf_bit (P : Nat → Bool) : ∀ n l, (setOf P n).testBit l = (decide (l < n) && P l)
  | 0, l => by simp [setOf]
  | n + 1, l => by
    simp only [setOf]
    by_cases hl : l = n
    · subst hl
      have h := setOf_lt P l
      have h3 : (setOf P l).testBit l = false := Nat.testBit_lt_two_pow h
      cases hP : P l <;> simp [h3, hP]
    · have h4 : (2 ^ n).testBit l = false := by simp [Nat.testBit_two_pow]; omega
      have h5 : decide (l < n + 1) = decide (l < n) := by
        by_cases h : l < n <;> simp [h] <;> omega
      cases hP : P n <;> simp [setOf_bit P n l, h4, h5]
theorem setOf_congr {P P' : Nat → Bool} : ∀ n, (∀ l, l < n → P l = P' l) → setOf P n = setOf P' n
  | 0, _ => rfl
  | n + 1, h => by
    simp only [setOf]
    rw [h n (by omega), setOf_congr n (fun l hl => h l (by omega))]
def cnt (P : Nat → Bool) : Nat → Nat
  | 0 => 0
  | n + 1 => cnt P n + (if P n then 1 else 0)
theorem cnt_le (P : Nat → Bool) : ∀ n, cnt P n ≤ n
  | 0 => Nat.le_refl _
  | n + 1 => by have := cnt_le P n; simp only [cnt]; split <;> omega
theorem cnt_congr {P P' : Nat → Bool} : ∀ n, (∀ l, l < n → P l = P' l) → cnt P n = cnt P' n
  | 0, _ => rfl
  | n + 1, h => by simp only [cnt]; rw [h n (by omega), cnt_congr n (fun l hl => h l (by omega))]
/-- how many of the first twelve are in a set -/
def pc (s : Nat) : Nat := cnt (fun k => s.testBit k) 12
theorem pc_setOf (P : Nat → Bool) : pc (setOf P 12) = cnt P 12 := cnt_congr 12 (fun l hl => by simp [setOf_bit, hl])
/-- what an object of Tree holds -/
def treeAt (M : wM) (t : Nat) (f : Nat → Int) : Prop := ∀ k, 1 ≤ k → k < 12 → M.1 (t + 1) k = iI (f k)
/-- but for the cells of lo to hi (not hi) nothing differs -/
def Off (M M' : wM) (lo hi : Nat) : Prop := (∀ k, (k < lo ∨ hi ≤ k) → M'.1 k = M.1 k) ∧ M'.2 = M.2
theorem Off.rf {M : wM} {lo hi : Nat} : Off M M lo hi := ⟨fun _ _ => rfl, rfl⟩
theorem Off.tr {M M' M'' : wM} {lo hi : Nat} (h : Off M M' lo hi) (h2 : Off M' M'' lo hi) : Off M M'' lo hi := ⟨fun k hk => (h2.1 k hk).trans (h.1 k hk), h2.2.trans h.2⟩
theorem Off.wide {M M' : wM} {lo hi lo' hi' : Nat} (h : Off M M' lo hi) (h1 : lo' ≤ lo) (h2 : hi ≤ hi') : Off M M' lo' hi' := ⟨fun k hk => h.1 k (by omega), h.2⟩
theorem Off.ui (M : wM) (k j : Nat) (x : Int32) : Off M (w_ui M k j x) k (k + 1) := ⟨fun a ha => w_ui_off _ _ _ _ _ (by omega), rfl⟩
theorem Off.G {M M' : wM} {lo hi : Nat} (h : Off M M' lo hi) (hG : M.2.2 = RG) : M'.2.2 = RG := by rw [h.2]; exact hG
theorem treeAt.off {M M' : wM} {t lo hi : Nat} {f : Nat → Int} (h : treeAt M t f) (ho : Off M M' lo hi) (ht : t + 1 < lo ∨ hi ≤ t + 1) : treeAt M' t f := fun k h1 h2 => by rw [ho.1 _ ht]; exact h k h1 h2
