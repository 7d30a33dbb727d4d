/-! What the reference holds. -/
def bkA (M : wM) (β : Nat → Int) : Prop := ∀ k, k < 26 → M.1 48 k = iI (β k)
def nwA (M : wM) (g : Nat → Int) : Prop := ∀ k, k < 26 → M.1 49 k = iI (g k)
def imA (M : wM) (o i : Nat) (I : wIm) : Prop := M.1 57 i = iI (if I.1 = true then 1 else 0) ∧ (I.1 = true → (∀ k, k < 26 → M.1 56 (o + k) = iI (I.2.1 k)) ∧ (∀ k, k < 16 → M.1 56 (o + 26 + k) = iI (I.2.2.2 k)) ∧ M.1 56 (o + 45) = iI I.2.2.1)
def mdA (M : wM) (β : Nat → Int) (n : Nat) (σ : Nat → Int) (m : Nat) (τ : Nat → Int) (I J : wIm) : Prop := bkA M β ∧ (∀ i, i < 60 → M.1 51 i = iI (σ i)) ∧ M.1 47 4 = iI n ∧ (∀ i, i < 16 → M.1 50 i = iI (τ i)) ∧ M.1 47 2 = iI m ∧ imA M 0 0 I ∧ imA M 50 1 J
/-- the class's objects are not touched -/
def Ofm (M M' : wM) : Prop := (∀ k, (k < 47 ∨ 58 ≤ k) → M'.1 k = M.1 k) ∧ M'.2.2 = M.2.2
/-- nor what the reference holds from call to call -/
def Kp (M M' : wM) : Prop := (∀ k, (k < 47 ∨ 58 ≤ k ∨ k = 48 ∨ k = 50 ∨ k = 51 ∨ k = 56 ∨ k = 57) → M'.1 k = M.1 k) ∧ M'.2.2 = M.2.2 ∧ M'.1 47 2 = M.1 47 2 ∧ M'.1 47 4 = M.1 47 4
theorem Kp.rf {M : wM} : Kp M M := ⟨fun _ _ => rfl, rfl, rfl, rfl⟩
theorem Kp.tr {M M' M'' : wM} (h : Kp M M') (h2 : Kp M' M'') : Kp M M'' := ⟨fun k hk => (h2.1 k hk).trans (h.1 k hk), h2.2.1.trans h.2.1, h2.2.2.1.trans h.2.2.1, h2.2.2.2.trans h.2.2.2⟩
theorem Kp.G {M M' : wM} (h : Kp M M') (hG : M.2.2 = RG) : M'.2.2 = RG := h.2.1.trans hG
theorem Kp.o {M M' : wM} (h : Kp M M') : Ofm M M' := ⟨fun k hk => h.1 k (by omega), h.2.1⟩
theorem Ofm.rf {M : wM} : Ofm M M := ⟨fun _ _ => rfl, rfl⟩
theorem Ofm.tr {M M' M'' : wM} (h : Ofm M M') (h2 : Ofm M' M'') : Ofm M M'' := ⟨fun k hk => (h2.1 k hk).trans (h.1 k hk), h2.2.trans h.2⟩
theorem Ofm.G {M M' : wM} (h : Ofm M M') (hG : M.2.2 = RG) : M'.2.2 = RG := h.2.trans hG
theorem Ofm.ui {M : wM} {k j : Nat} {x : Int32} (h : 47 ≤ k ∧ k < 58) : Ofm M (w_ui M k j x) := ⟨fun a ha => w_ui_off _ _ _ _ _ (by omega), rfl⟩
theorem Kp.ui {M : wM} {k j : Nat} {x : Int32} (h : k = 49 ∨ k = 52 ∨ k = 53 ∨ k = 54) : Kp M (w_ui M k j x) := ⟨fun a ha => w_ui_off _ _ _ _ _ (by omega), rfl, by rw [w_ui_off _ _ _ _ _ (by omega)], by rw [w_ui_off _ _ _ _ _ (by omega)]⟩
theorem Kp.fl {M : wM} {j : Nat} {x : Int32} (h : 5 ≤ j) : Kp M (w_ui M 47 j x) := ⟨fun a ha => w_ui_off _ _ _ _ _ (by omega), rfl, by rw [w_ui_if, if_neg (by omega)], by rw [w_ui_if, if_neg (by omega)]⟩
theorem bkA.kp {M M' : wM} {β : Nat → Int} (h : bkA M β) (ho : Kp M M') : bkA M' β := fun k hk => by rw [ho.1 48 (by omega)]; exact h k hk
theorem imA.of {M M' : wM} {o i : Nat} {I : wIm} (h : imA M o i I) (h1 : M'.1 56 = M.1 56) (h2 : M'.1 57 = M.1 57) : imA M' o i I := by
  unfold imA at *
  rw [h1, h2]; exact h
theorem mdA.kp {M M' : wM} {β : Nat → Int} {n : Nat} {σ : Nat → Int} {m : Nat} {τ : Nat → Int} {I J : wIm} (h : mdA M β n σ m τ I J) (ho : Kp M M') : mdA M' β n σ m τ I J := by
  obtain ⟨h1, h2, h3, h4, h5, h6, h7⟩ := h
  exact ⟨h1.kp ho, fun i hi => by rw [ho.1 51 (by omega)]; exact h2 i hi, by rw [ho.2.2.2]; exact h3, fun i hi => by rw [ho.1 50 (by omega)]; exact h4 i hi, by rw [ho.2.2.1]; exact h5, h6.of (ho.1 56 (by omega)) (ho.1 57 (by omega)), h7.of (ho.1 56 (by omega)) (ho.1 57 (by omega))⟩
theorem clsAt.md {M M' : wM} {β : Nat → Int} {n : Nat} {σ : Nat → Int} {m : Nat} {τ : Nat → Int} {I J : wIm} (h : clsAt M β n σ m τ I J) (ho : Ofm M M') : clsAt M' β n σ m τ I J :=
  clsAt.off (M := M) (M' := (M'.1, M.2)) (lo := 47) (hi := 58) h ⟨fun k hk => ho.1 k hk, rfl⟩ (by omega)
theorem mdA.cl {M M' : wM} {β : Nat → Int} {n : Nat} {σ : Nat → Int} {m : Nat} {τ : Nat → Int} {I J : wIm} (h : mdA M β n σ m τ I J) (ho : Off M M' 0 47) : mdA M' β n σ m τ I J := by
  obtain ⟨h1, h2, h3, h4, h5, h6, h7⟩ := h
  have e : ∀ k, 47 ≤ k → M'.1 k = M.1 k := fun k hk => ho.1 k (by omega)
  exact ⟨fun k hk => by rw [e 48 (by omega)]; exact h1 k hk, fun i hi => by rw [e 51 (by omega)]; exact h2 i hi, by rw [e 47 (by omega)]; exact h3, fun i hi => by rw [e 50 (by omega)]; exact h4 i hi, by rw [e 47 (by omega)]; exact h5, h6.of (e 56 (by omega)) (e 57 (by omega)), h7.of (e 56 (by omega)) (e 57 (by omega))⟩
/-- from a place on the first ball that hangs on a loop -/
def onB (g : Nat → Int) (l : Int) : Nat → Nat → Int
  | 0, _ => -6
  | d + 1, b => if g (12 + b) = l then (b : Int) else onB g l d (b + 1)
theorem onB_sp (g : Nat → Int) (l : Int) : ∀ d b, (onB g l d b = -6 ∧ ∀ x, b ≤ x → x < b + d → g (12 + x) ≠ l) ∨ ∃ x : Nat, onB g l d b = x ∧ b ≤ x ∧ x < b + d ∧ g (12 + x) = l
  | 0, b => Or.inl ⟨rfl, fun x h1 h2 => by omega⟩
  | d + 1, b => by
    simp only [onB]
    by_cases h : g (12 + b) = l
    · rw [if_pos h]; exact Or.inr ⟨b, rfl, Nat.le_refl _, by omega, h⟩
    · rw [if_neg h]
      rcases onB_sp g l d (b + 1) with ⟨h1, h2⟩ | ⟨x, h1, h2, h3, h4⟩
      · refine Or.inl ⟨h1, fun x q1 q2 => ?_⟩
        by_cases e : x = b
        · subst e; exact h
        · exact h2 x (by omega) (by omega)
      · exact Or.inr ⟨x, h1, by omega, by omega, h4⟩
/-- a loop taken by another ball -/
theorem onB_hung {g : Nat → Int} (h : hok g) {l b : Nat} (hb : b < 6) :
    (onB g l 6 0 = -6 ∧ (hungS g 6).testBit l = false ∧ g (12 + b) ≠ l) ∨ (onB g l 6 0 = b ∧ g (12 + b) = l) ∨ (∃ x : Nat, x < 6 ∧ onB g l 6 0 = x ∧ x ≠ b ∧ g (12 + b) ≠ l ∧ (hungS g 6).testBit l = true) := by
  rcases onB_sp g l 6 0 with ⟨h1, h2⟩ | ⟨x, h1, h2, h3, h4⟩
  · refine Or.inl ⟨h1, ?_, h2 b (by omega) (by omega)⟩
    rw [Bool.eq_false_iff]
    intro e
    obtain ⟨c, q1, q2, q3⟩ := (hungS_bit l 6).mp e
    have := h.l c q1
    exact h2 c (by omega) (by omega) (by omega)
  · by_cases e : x = b
    · subst e; exact Or.inr (Or.inl ⟨h1, h4⟩)
    · refine Or.inr (Or.inr ⟨x, by omega, h1, e, fun q => ?_, (hungS_bit l 6).mpr ⟨x, by omega, by omega, by omega⟩⟩)
      have := h.d x b (by omega) hb e (by omega)
      omega
theorem bit_if {a k : Nat} : ((a / 2 ^ k &&& 1 : Nat) : Int) = if a.testBit k = true then 1 else 0 := by
  rw [Nat.and_one_is_mod, Nat.testBit_eq_decide_div_mod_eq]
  rcases Nat.mod_two_eq_zero_or_one (a / 2 ^ k) with h | h <;> simp [h]
/-- where two ways down meet -/
def meeF (f : Nat → Int) : Nat → Nat → Nat → Nat
  | 0, a, _ => a
  | n + 1, a, b => if a = b then a else if b < a then meeF f n (f a).toNat b else meeF f n a (f b).toNat
theorem nwA.up {M : wM} {g : Nat → Int} {k : Nat} {x : Int} (h : nwA M g) : nwA (w_ui M 49 k (iI x)) (up g k x) := fun j hj => by
  by_cases e : j = k
  · subst e; rw [up_at, w_ui_if, if_pos ⟨rfl, rfl⟩]
  · rw [up_ne _ _ _ _ e, w_ui_if, if_neg (by omega)]; exact h j hj
theorem bkA.up {M : wM} {g : Nat → Int} {k : Nat} {x : Int} (h : bkA M g) : bkA (w_ui M 48 k (iI x)) (up g k x) := fun j hj => by
  by_cases e : j = k
  · subst e; rw [up_at, w_ui_if, if_pos ⟨rfl, rfl⟩]
  · rw [up_ne _ _ _ _ e, w_ui_if, if_neg (by omega)]; exact h j hj
theorem nwA.ui {M : wM} {g : Nat → Int} {c k : Nat} {x : Int32} (h : nwA M g) (hc : c ≠ 49) : nwA (w_ui M c k x) g := fun j hj => by
  rw [w_ui_off _ _ _ _ _ (by omega)]; exact h j hj
theorem bkA.ui {M : wM} {g : Nat → Int} {c k : Nat} {x : Int32} (h : bkA M g) (hc : c ≠ 48) : bkA (w_ui M c k x) g := fun j hj => by
  rw [w_ui_off _ _ _ _ _ (by omega)]; exact h j hj
theorem nwA.cg {M : wM} {g g' : Nat → Int} (h : nwA M g) (e : ∀ k, k < 26 → g' k = g k) : nwA M g' := fun k hk => by rw [e k hk]; exact h k hk
