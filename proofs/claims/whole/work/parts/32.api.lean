/-! The answers of the calls, as mathematics. -/
abbrev wIm : Type := Bool × (Nat → Int) × Nat × (Nat → Int)
def imgAt (M : wM) (i : Nat) (I : wIm) : Prop := hillAt M (i + 1) I.2.1 ∧ sgAt M (i + 6) I.2.2.1 I.2.2.2 ∧ M.1 i 2 = iI (if I.1 = true then 1 else 0)
def clsAt (M : wM) (β : Nat → Int) (n : Nat) (σ : Nat → Int) (m : Nat) (τ : Nat → Int) (I J : wIm) : Prop := hillAt M 1 β ∧ padAt M n σ ∧ sgAt M 6 m τ ∧ imgAt M 29 I ∧ imgAt M 38 J
theorem imgAt.off {M M' : wM} {i lo hi : Nat} {I : wIm} (h : imgAt M i I) (ho : Off M M' lo hi) (ht : i + 9 ≤ lo ∨ hi ≤ i) : imgAt M' i I := ⟨h.1.off ho (by omega), h.2.1.off ho (by omega), by rw [ho.1 _ (by omega)]; exact h.2.2⟩
theorem clsAt.off {M M' : wM} {lo hi : Nat} {β : Nat → Int} {n : Nat} {σ : Nat → Int} {m : Nat} {τ : Nat → Int} {I J : wIm} (h : clsAt M β n σ m τ I J) (ho : Off M M' lo hi) (ht : (11 ≤ lo ∧ hi ≤ 29) ∨ 47 ≤ lo) : clsAt M' β n σ m τ I J :=
  ⟨h.1.off ho (by omega), h.2.1.off ho (by omega), h.2.2.1.off ho (by omega), h.2.2.2.1.off ho (by omega), h.2.2.2.2.off ho (by omega)⟩
def iok (I : wIm) : Prop := hok I.2.1 ∧ sok I.2.2.1 I.2.2.2
/-- all is in order -/
def aLok (β : Nat → Int) (n : Nat) (σ : Nat → Int) (m : Nat) (τ : Nat → Int) (I J : wIm) : Prop := hok β ∧ pok n σ ∧ sok m τ ∧ iok I ∧ iok J
abbrev lpq (a : Int) : Prop := 0 ≤ a ∧ a < 12
abbrev blq (a : Int) : Prop := 0 ≤ a ∧ a < 6
def fBranch (β : Nat → Int) (l p : Int) : Int × (Nat → Int) :=
  if lpq l ∧ lpq p ∧ l ≠ 0 then (if l ≤ p then (-2, β) else (β l.toNat, up β l.toNat p)) else (-1, β)
def fBall (β : Nat → Int) (b l c : Int) : Int × (Nat → Int) :=
  if blq b ∧ (l = -1 ∨ lpq l) then
    (if 0 ≤ c ∧ c ≤ 8 then
      (if l ≠ -1 ∧ (β (12 + b.toNat) ≠ l ∧ (hungS β 6).testBit l.toNat = true) then (-3, β)
       else (β (12 + b.toNat), putF β b.toNat (if l = -1 then -6 else l) c))
     else (-2, β))
  else (-1, β)
def fSay (n : Nat) (σ : Nat → Int) (c : Int) : Int × Nat × (Nat → Int) :=
  if 33 ≤ c ∧ c ≤ 126 then (if n < 60 then (((n + 1 : Nat) : Int), n + 1, up σ n c) else (-4, n, σ)) else (-2, n, σ)
abbrev barS (σ : Nat → Int) (n : Nat) (β : Nat → Int) : Prop := fltS σ n = -6 ∧ (tellS σ n β).1 = 0
def fJudge (β : Nat → Int) (n : Nat) (σ : Nat → Int) (w : Int) : Int :=
  if 0 ≤ w ∧ w ≤ 1 then (if fltS σ n = -6 then (if (tellS σ n β).1 = 0 then -6 else if w = 0 then ((tellS σ n β).2.2.1 : Int) else (tellS σ n β).1) else -5) else -2
def fNear (f : Nat → Int) (h : Nat) (far : Bool) : Nat → Nat × Nat
  | 0 => (0, howF f 0 h far 12)
  | k + 1 => if howF f (k + 1) h far 12 < (fNear f h far k).2 then (k + 1, howF f (k + 1) h far 12) else fNear f h far k
def fAskN (f : Nat → Int) (s : Nat) : Nat → Nat × Nat
  | 0 => (0, mlF f 0 s 12)
  | k + 1 => if mlF f (k + 1) s 12 < (fAskN f s k).2 then (k + 1, mlF f (k + 1) s 12) else fAskN f s k
def fCutN (f : Nat → Int) : Nat → Nat → Int
  | 0, _ => -6
  | n + 1, l => if woF f l 11 0 = 0 then (l : Int) else fCutN f n (l + 1)
theorem fNear_lt (f : Nat → Int) (h : Nat) (far : Bool) : ∀ k, (fNear f h far k).1 ≤ k
  | 0 => Nat.le_refl _
  | k + 1 => by
    have := fNear_lt f h far k
    simp only [fNear]; split
    · exact Nat.le_refl _
    · omega
theorem fNear_le {f : Nat → Int} (hf : tok f) (h : Nat) (far : Bool) : ∀ k, k < 12 → (fNear f h far k).2 ≤ 264
  | 0, _ => howF_le hf (by decide) far 12 (Nat.le_refl _)
  | k + 1, hk => by
    have := fNear_le hf h far k (by omega)
    simp only [fNear]; split
    · exact howF_le hf hk far 12 (Nat.le_refl _)
    · exact this
theorem fAskN_lt (f : Nat → Int) (s : Nat) : ∀ k, (fAskN f s k).1 ≤ k
  | 0 => Nat.le_refl _
  | k + 1 => by
    have := fAskN_lt f s k
    simp only [fAskN]; split
    · exact Nat.le_refl _
    · omega
theorem fAskN_le (f : Nat → Int) (s : Nat) : ∀ k, (fAskN f s k).2 ≤ 12
  | 0 => mlF_le _ _ _ _
  | k + 1 => by
    have := fAskN_le f s k
    simp only [fAskN]; split
    · exact mlF_le _ _ _ _
    · exact this
def tisQ (n r k j w part : Int) : Prop := (0 ≤ n ∧ n ≤ 40) ∧ (0 ≤ r ∧ r ≤ n) ∧ (0 ≤ k ∧ k ≤ n) ∧ (0 ≤ j ∧ j ≤ k) ∧ (0 ≤ w ∧ w ≤ 1) ∧ (0 ≤ part ∧ part ≤ 1)
