/-! Acts, as mathematics. -/
def howF (f : Nat → Int) (l s : Nat) (far : Bool) : Nat → Nat
  | 0 => 0
  | n + 1 => if s.testBit n then (if far then (if howF f l s far n < dist f l n then dist f l n else howF f l s far n) else howF f l s far n + dist f l n) else howF f l s far n
theorem howF_le {f : Nat → Int} (hf : tok f) {l s : Nat} (hl : l < 12) (far : Bool) : ∀ n, n ≤ 12 → howF f l s far n ≤ 22 * n
  | 0, _ => by simp [howF]
  | n + 1, hn => by
    have ih := howF_le hf (s := s) hl far n (by omega)
    have := dist_22 hf hl (show n < 12 by omega)
    simp only [howF]
    split
    · split
      · split <;> omega
      · omega
    · omega
def mlF (f : Nat → Int) (l s : Nat) : Nat → Nat
  | 0 => 0
  | n + 1 => if mlF f l s n < pc (ringS f l n n &&& s) then pc (ringS f l n n &&& s) else mlF f l s n
theorem pc_le (s : Nat) : pc s ≤ 12 := cnt_le _ 12
theorem mlF_le (f : Nat → Int) (l s : Nat) : ∀ n, mlF f l s n ≤ 12
  | 0 => by simp [mlF]
  | n + 1 => by
    have ih := mlF_le f l s n
    have := pc_le (ringS f l n n &&& s)
    simp only [mlF]; split <;> omega
theorem ringS_lt (f : Nat → Int) (l : Nat) (lo hi : Int) : ringS f l lo hi < 4096 := setOf_lt _ 12
theorem wayS_lt (f : Nat → Int) (a b : Nat) : wayS f a b < 4096 := setOf_lt _ 12
theorem and_4096 {a b : Nat} (h : a < 4096) : a &&& b < 4096 := Nat.lt_of_le_of_lt Nat.and_le_left h
/-- of a draught: by how many balls of a set of loops a loop is touched -/
def touchS (β : Nat → Int) (far : Int) (b : Nat) : Nat := pc (ringS β (β (12 + b)).toNat 1 far &&& hungS β 6)
def chipF (g : Nat → Int) (b : Nat) (m : Int) : Nat → Int :=
  if g (18 + b) + m < 9 then putF g b (g (12 + b)) (g (18 + b) + m) else up (putF g b (-6) 9) 24 ((clr (bk g) b ||| 2 ^ b : Nat) : Int)
def blowN (β : Nat → Int) (far : Int) : Nat → (Nat → Int)
  | 0 => β
  | b + 1 => if β (12 + b) = -6 then blowN β far b else chipF (blowN β far b) b (touchS β far b)
def packN (β : Nat → Int) : Nat → (Nat → Int)
  | 0 => β
  | b + 1 => up (packN β b) (12 + b) (-6)
def aok (k o p : Nat) : Prop := k ≤ 5 ∧ (k = 0 → o < 6 ∧ p < 12) ∧ (k = 1 → o < 6) ∧ (k = 2 → 1 ≤ o ∧ o ≤ 9) ∧ (k = 3 → o < 12 ∧ p < 12)
/-- why an act can not be (0: it can) -/
def whyF (β : Nat → Int) (k o p : Nat) : Int :=
  if k = 0 then (if (bk β).testBit o then 1 else if β (12 + o) ≠ p ∧ (hungS β 6).testBit p = true then 2 else if β (12 + o) = p then 3 else 0)
  else if k = 1 then (if (bk β).testBit o then 1 else if β (12 + o) = -6 then 3 else 0)
  else if k = 2 then (if 2 ≤ pc (hungS β 6) then 0 else 4)
  else if k = 3 then (if o ≤ p then 5 else if β o = p then 5 else 0)
  else if k = 4 then (if β 25 < 99 then 0 else 6)
  else 0
/-- what an act does -/
def folF (β : Nat → Int) (k o p : Nat) : Nat → Int :=
  if k = 0 then putF β o p (β (18 + o))
  else if k = 1 then putF β o (-6) (β (18 + o))
  else if k = 2 then blowN β o 6
  else if k = 3 then up β o p
  else if k = 4 then up (packN β 6) 25 (β 25 + 1)
  else β
theorem putF_24 (β : Nat → Int) (b : Nat) (l c : Int) : putF β b l c 24 = (clr (bk β) b : Int) := by simp [putF, up]
theorem putF_bk (β : Nat → Int) (b : Nat) (l c : Int) : bk (putF β b l c) = clr (bk β) b := by unfold bk; rw [putF_24]; simp [bk]
theorem putF_lo {β : Nat → Int} {b k : Nat} {l c : Int} (h : k < 12) : putF β b l c k = β k := by
  simp [putF, up, show k ≠ 24 by omega, show k ≠ 18 + b by omega, show k ≠ 12 + b by omega]
theorem putF_l {β : Nat → Int} {b x : Nat} {l c : Int} (hb : b < 6) (hx : x < 6) : putF β b l c (12 + x) = if x = b then l else β (12 + x) := by
  by_cases e : x = b
  · subst e; simp [putF, up, show 12 + x ≠ 24 by omega, show 12 + x ≠ 18 + x by omega]
  · simp [putF, up, e, show 12 + x ≠ 24 by omega, show 12 + x ≠ 18 + b by omega]
theorem putF_c {β : Nat → Int} {b x : Nat} {l c : Int} (hb : b < 6) (hx : x < 6) : putF β b l c (18 + x) = if x = b then c else β (18 + x) := by
  by_cases e : x = b
  · subst e; simp [putF, up, show 18 + x ≠ 24 by omega]
  · simp [putF, up, e, show 18 + x ≠ 24 by omega, show 18 + x ≠ 12 + b by omega]
theorem putF_25 {β : Nat → Int} {b : Nat} {l c : Int} (hb : b < 6) : putF β b l c 25 = β 25 := by
  simp [putF, up, show (25 : Nat) ≠ 18 + b by omega, show (25 : Nat) ≠ 12 + b by omega]
/-- a put that keeps all in order -/
theorem putF_ok {β : Nat → Int} {b : Nat} {l c : Int} (h : hok β) (hb : b < 6) (hl : l = -6 ∨ (0 ≤ l ∧ l < 12)) (hc : 0 ≤ c ∧ c ≤ 8) (hd : ∀ x, x < 6 → x ≠ b → β (12 + x) = l → l = -6) : hok (putF β b l c) := by
  have hb24 := (hok_bk h).2
  refine ⟨fun k h1 h2 => ?_, ?_, fun x hx => ?_, fun x y hx hy hxy => ?_, fun x hx => ?_, ?_, ?_, fun x hx => ?_, fun x hx => ?_⟩
  · rw [putF_lo h2]; exact h.t k h1 h2
  · rw [putF_lo (by omega)]; exact h.z
  · rw [putF_l hb hx]; split
    · exact hl
    · exact h.l x hx
  · rw [putF_l hb hx, putF_l hb hy]
    by_cases e1 : x = b
    · rw [if_pos e1, if_neg (by omega)]
      intro e; exact hd y hy (by omega) e.symm
    · rw [if_neg e1]
      split
      · intro e; rw [e]; exact hd x hx e1 e
      · exact h.d x y hx hy hxy
  · rw [putF_c hb hx]; split
    · omega
    · exact h.c x hx
  · rw [putF_24]; have := clr_lt (b := b) hb24; omega
  · rw [putF_25 hb]; exact h.w
  · rw [putF_bk, putF_c hb hx, clr_bit _ hb24 b hb x hx]
    by_cases e : x = b
    · subst e; simp; omega
    · simp [e, h.bb x hx]
  · rw [putF_c hb hx, putF_l hb hx]
    by_cases e : x = b
    · rw [if_pos e]; intro; omega
    · rw [if_neg e, if_neg e]; exact h.bl x hx
theorem brk_ok {β : Nat → Int} {b : Nat} (h : hok β) (hb : b < 6) : hok (up (putF β b (-6) 9) 24 ((clr (bk β) b ||| 2 ^ b : Nat) : Int)) := by
  have hb24 := (hok_bk h).2
  have hs := set_bit _ (clr_lt (b := b) hb24) b hb
  have e24 : bk (up (putF β b (-6) 9) 24 ((clr (bk β) b ||| 2 ^ b : Nat) : Int)) = clr (bk β) b ||| 2 ^ b := by unfold bk; simp [up_at, bk]
  refine ⟨fun k h1 h2 => ?_, ?_, fun x hx => ?_, fun x y hx hy hxy => ?_, fun x hx => ?_, ?_, ?_, fun x hx => ?_, fun x hx => ?_⟩
  · rw [up_ne _ _ _ _ (by omega), putF_lo h2]; exact h.t k h1 h2
  · rw [up_ne _ _ _ _ (by omega), putF_lo (by omega)]; exact h.z
  · rw [up_ne _ _ _ _ (by omega), putF_l hb hx]; split
    · exact Or.inl rfl
    · exact h.l x hx
  · rw [up_ne _ _ _ _ (by omega), up_ne _ _ _ _ (by omega), putF_l hb hx, putF_l hb hy]
    by_cases e1 : x = b
    · rw [if_pos e1]; intro; trivial
    · rw [if_neg e1]
      split
      · intro e; exact e
      · exact h.d x y hx hy hxy
  · rw [up_ne _ _ _ _ (by omega), putF_c hb hx]; split
    · omega
    · exact h.c x hx
  · rw [up_at]; have := hs.1; omega
  · rw [up_ne _ _ _ _ (by omega), putF_25 hb]; exact h.w
  · rw [e24, up_ne _ _ _ _ (by omega), putF_c hb hx, hs.2 x hx, clr_bit _ hb24 b hb x hx]
    by_cases e : x = b
    · subst e; simp
    · simp [e, h.bb x hx]
  · rw [up_ne _ _ _ _ (by omega), up_ne _ _ _ _ (by omega), putF_c hb hx, putF_l hb hx]
    by_cases e : x = b
    · rw [if_pos e, if_pos e]; intro; trivial
    · rw [if_neg e, if_neg e]; exact h.bl x hx
theorem chipF_ok {g : Nat → Int} {b m : Nat} (h : hok g) (hb : b < 6) : hok (chipF g b m) := by
  unfold chipF
  split
  · have := h.c b hb
    refine putF_ok h hb (h.l b hb) (by omega) (fun x hx hxb e => h.d b x hb hx (Ne.symm hxb) e.symm)
  · exact brk_ok h hb
theorem blowN_ok {β : Nat → Int} (h : hok β) (far : Int) : ∀ n, n ≤ 6 → hok (blowN β far n)
  | 0, _ => h
  | n + 1, hn => by
    have ih := blowN_ok h far n (by omega)
    simp only [blowN]
    split
    · exact ih
    · exact chipF_ok ih (by omega)
theorem chipF_off {g : Nat → Int} {b k : Nat} {m : Int} (hb : b < 6) (h1 : k ≠ 12 + b) (h2 : k ≠ 18 + b) (h3 : k ≠ 24) : chipF g b m k = g k := by
  unfold chipF
  split
  · simp [putF, up, h1, h2, h3]
  · simp [putF, up, h1, h2, h3]
theorem blowN_off {β : Nat → Int} {far : Int} {k : Nat} : ∀ n, n ≤ 6 → (∀ b, b < n → k ≠ 12 + b ∧ k ≠ 18 + b) → k ≠ 24 → blowN β far n k = β k
  | 0, _, _, _ => rfl
  | n + 1, hn, h, h3 => by
    have ih := blowN_off (β := β) (far := far) (k := k) n (by omega) (fun b hb => h b (by omega)) h3
    simp only [blowN]
    split
    · exact ih
    · rw [chipF_off (by omega) (h n (by omega)).1 (h n (by omega)).2 h3]; exact ih
theorem packN_if {β : Nat → Int} {k : Nat} : ∀ n, packN β n k = if 12 ≤ k ∧ k < 12 + n then -6 else β k
  | 0 => by simp [packN]; intro h1 h2; omega
  | n + 1 => by
    simp only [packN]
    by_cases e : k = 12 + n
    · subst e; simp [up_at]
    · rw [up_ne _ _ _ _ e, packN_if n]
      by_cases h : 12 ≤ k ∧ k < 12 + n
      · rw [if_pos h, if_pos (by omega)]
      · rw [if_neg h, if_neg (by omega)]
theorem winter_ok {β : Nat → Int} (h : hok β) (hw : β 25 < 99) : hok (up (packN β 6) 25 (β 25 + 1)) := by
  have hb24 := (hok_bk h).2
  have e24 : bk (up (packN β 6) 25 (β 25 + 1)) = bk β := by unfold bk; rw [up_ne _ _ _ _ (by decide), packN_if, if_neg (by omega)]
  have hl : ∀ x, x < 6 → up (packN β 6) 25 (β 25 + 1) (12 + x) = -6 := fun x hx => by rw [up_ne _ _ _ _ (by omega), packN_if, if_pos (by omega)]
  have hc : ∀ x, x < 6 → up (packN β 6) 25 (β 25 + 1) (18 + x) = β (18 + x) := fun x hx => by rw [up_ne _ _ _ _ (by omega), packN_if, if_neg (by omega)]
  have hw0 := h.w
  refine ⟨fun k h1 h2 => ?_, ?_, fun x hx => Or.inl (hl x hx), fun x y hx hy hxy _ => hl x hx, fun x hx => ?_, ?_, ?_, fun x hx => ?_, fun x hx _ => hl x hx⟩
  · rw [up_ne _ _ _ _ (by omega), packN_if, if_neg (by omega)]; exact h.t k h1 h2
  · rw [up_ne _ _ _ _ (by omega), packN_if, if_neg (by omega)]; exact h.z
  · rw [hc x hx]; exact h.c x hx
  · rw [up_ne _ _ _ _ (by omega), packN_if, if_neg (by omega)]; exact h.b
  · rw [up_at]; omega
  · rw [e24, hc x hx]; exact h.bb x hx
theorem bend_ok {β : Nat → Int} {o p : Nat} (h : hok β) (ho : o < 12) (hp : p < o) : hok (up β o p) := by
  have e24 : bk (up β o p) = bk β := by unfold bk; rw [up_ne _ _ _ _ (by omega)]
  refine ⟨fun k h1 h2 => ?_, ?_, fun x hx => ?_, fun x y hx hy hxy => ?_, fun x hx => ?_, ?_, ?_, fun x hx => ?_, fun x hx => ?_⟩
  · by_cases e : k = o
    · subst e; rw [up_at]; omega
    · rw [up_ne _ _ _ _ e]; exact h.t k h1 h2
  · rw [up_ne _ _ _ _ (by omega)]; exact h.z
  · rw [up_ne _ _ _ _ (by omega)]; exact h.l x hx
  · rw [up_ne _ _ _ _ (by omega), up_ne _ _ _ _ (by omega)]; exact h.d x y hx hy hxy
  · rw [up_ne _ _ _ _ (by omega)]; exact h.c x hx
  · rw [up_ne _ _ _ _ (by omega)]; exact h.b
  · rw [up_ne _ _ _ _ (by omega)]; exact h.w
  · rw [e24, up_ne _ _ _ _ (by omega)]; exact h.bb x hx
  · rw [up_ne _ _ _ _ (by omega), up_ne _ _ _ _ (by omega)]; exact h.bl x hx
/-- an act that can be keeps all in order -/
theorem folF_ok {β : Nat → Int} {k o p : Nat} (h : hok β) (ha : aok k o p) (hw : whyF β k o p = 0) : hok (folF β k o p) := by
  obtain ⟨h5, h0, h1, h2, h3⟩ := ha
  unfold whyF at hw
  unfold folF
  by_cases e0 : k = 0
  · rw [if_pos e0] at hw ⊢
    obtain ⟨ho, hp⟩ := h0 e0
    have hc := h.c o ho
    have hbb := h.bb o ho
    by_cases q1 : (bk β).testBit o = true
    · rw [if_pos q1] at hw; omega
    · rw [if_neg q1] at hw
      have : β (18 + o) ≠ 9 := fun e => q1 (by rw [hbb]; simp [e])
      by_cases q2 : β (12 + o) ≠ p ∧ (hungS β 6).testBit p = true
      · rw [if_pos q2] at hw; omega
      · rw [if_neg q2] at hw
        by_cases q3 : β (12 + o) = p
        · rw [if_pos q3] at hw; omega
        · refine putF_ok h ho (Or.inr (by omega)) (by omega) (fun x hx hxo e => ?_)
          exact absurd ⟨q3, (hungS_bit p 6).mpr ⟨x, hx, by omega, by omega⟩⟩ q2
  · rw [if_neg e0] at hw ⊢
    by_cases e1 : k = 1
    · rw [if_pos e1] at hw ⊢
      have ho := h1 e1
      have hc := h.c o ho
      have hbb := h.bb o ho
      by_cases q1 : (bk β).testBit o = true
      · rw [if_pos q1] at hw; omega
      · have : β (18 + o) ≠ 9 := fun e => q1 (by rw [hbb]; simp [e])
        exact putF_ok h ho (Or.inl rfl) (by omega) (fun _ _ _ _ => rfl)
    · rw [if_neg e1] at hw ⊢
      by_cases e2 : k = 2
      · rw [if_pos e2]; exact blowN_ok h o 6 (Nat.le_refl _)
      · rw [if_neg e2] at hw ⊢
        by_cases e3 : k = 3
        · rw [if_pos e3] at hw ⊢
          obtain ⟨ho, hp⟩ := h3 e3
          by_cases q : o ≤ p
          · rw [if_pos q] at hw; omega
          · exact bend_ok h ho (by omega)
        · rw [if_neg e3] at hw ⊢
          by_cases e4 : k = 4
          · rw [if_pos e4] at hw ⊢
            by_cases q : β 25 < 99
            · exact winter_ok h q
            · rw [if_neg q] at hw; omega
          · rw [if_neg e4]; exact h
theorem cmax (a b : Nat) : (if (a : Int) < b then (b : Int) else a) = ((if a < b then b else a : Nat) : Int) := by split <;> split <;> omega
theorem cmin (a b : Nat) : (if (b : Int) < a then (b : Int) else a) = ((if b < a then b else a : Nat) : Int) := by split <;> split <;> omega
theorem mn_rg {c : Int} {m : Nat} (hc : 0 ≤ c ∧ c ≤ 9) (hm : m < 100) : -2147483648 ≤ (if (9 : Int) < c + m then (9 : Int) else c + m) ∧ (if (9 : Int) < c + m then (9 : Int) else c + m) < 2147483648 := by split <;> omega
theorem mn_ge {c : Int} (h : 9 ≤ (if (9 : Int) < c then (9 : Int) else c)) : ¬ c < 9 := by revert h; split <;> omega
theorem mn_lt {c : Int} (h : ¬ 9 ≤ (if (9 : Int) < c then (9 : Int) else c)) : c < 9 := by revert h; split <;> omega
theorem mn_9 {c : Int} (h : ¬ c < 9) : (if (9 : Int) < c then (9 : Int) else c) = 9 := by split <;> omega
theorem dst_congr {f g : Nat → Int} (hf : tok f) (h : ∀ k, 1 ≤ k → k < 12 → g k = f k) : ∀ (n a b : Nat), a < 12 → b < 12 → dst g n a b = dst f n a b
  | 0, _, _, _, _ => rfl
  | n + 1, a, b, ha, hb => by
    simp only [dst]
    by_cases e : a = b
    · simp [e]
    · rw [if_neg e, if_neg e]
      by_cases e2 : b < a
      · have hp := hf a (by omega) ha
        rw [if_pos e2, if_pos e2, h a (by omega) ha, dst_congr hf h n _ _ (by omega) hb]
      · have hp := hf b (by omega) hb
        rw [if_neg e2, if_neg e2, h b (by omega) hb, dst_congr hf h n _ _ ha (by omega)]
theorem dist_congr {f g : Nat → Int} (hf : tok f) (h : ∀ k, 1 ≤ k → k < 12 → g k = f k) {a b : Nat} (ha : a < 12) (hb : b < 12) : dist g a b = dist f a b := dst_congr hf h _ a b ha hb
theorem ringS_congr {f g : Nat → Int} (hf : tok f) (hg : tok g) (h : ∀ k, 1 ≤ k → k < 12 → g k = f k) {l : Nat} {lo hi : Int} (hl : l < 12) : ringS g l lo hi = ringS f l lo hi := setOf_congr 12 (fun o ho => by rw [dist_congr hf h hl ho])
