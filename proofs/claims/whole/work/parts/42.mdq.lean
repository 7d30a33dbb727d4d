/-! Sums over balls and over loops; acts twice. -/
def sm (f : Nat → Nat) : Nat → Nat
  | 0 => 0
  | n + 1 => sm f n + f n
theorem sm_s (f : Nat → Nat) (n : Nat) : sm f (n + 1) = sm f n + f n := rfl
theorem sm_congr {f f' : Nat → Nat} : ∀ n, (∀ l, l < n → f l = f' l) → sm f n = sm f' n
  | 0, _ => rfl
  | n + 1, h => by simp only [sm]; rw [h n (by omega), sm_congr n (fun l hl => h l (by omega))]
theorem sm_le {f : Nat → Nat} {c : Nat} : ∀ n, (∀ l, l < n → f l ≤ c) → sm f n ≤ n * c
  | 0, _ => by simp [sm]
  | n + 1, h => by
    have h1 := sm_le n (fun l hl => h l (by omega))
    have h2 := h n (by omega)
    simp only [sm]; rw [Nat.succ_mul]; omega
theorem sm_add {f f' : Nat → Nat} {u v : Nat} (h0 : f u = 0) (h1 : f' u = v) (h2 : ∀ l, l ≠ u → f' l = f l) : ∀ m, sm f' m = sm f m + if u < m then v else 0
  | 0 => by simp [sm]
  | m + 1 => by
    have ih := sm_add h0 h1 h2 m
    rw [sm_s, sm_s, ih]
    by_cases e : m = u
    · subst e
      rw [h1, h0, if_neg (Nat.lt_irrefl m), if_pos (Nat.lt_succ_self m)]
    · rw [h2 m e]
      by_cases e2 : u < m
      · rw [if_pos e2, if_pos (show u < m + 1 by omega)]; omega
      · rw [if_neg e2, if_neg (show ¬ u < m + 1 by omega)]; omega
theorem hungS_new {g : Nat → Int} (h : hok g) {n : Nat} (hn : n < 6) (hg : g (12 + n) ≠ -6) : (hungS g n).testBit (g (12 + n)).toNat = false := by
  rw [Bool.eq_false_iff]
  intro e
  obtain ⟨x, h1, h2, h3⟩ := (hungS_bit _ n).mp e
  have q1 := h.l x (by omega)
  have q2 := h.l n hn
  exact hg (h.d n x hn (by omega) (by omega) (by omega))
theorem sm_hung {g : Nat → Int} (h : hok g) (f : Nat → Nat) : ∀ n, n ≤ 6 → sm (fun l => if (hungS g n).testBit l = true then f l else 0) 12 = sm (fun x => if g (12 + x) = -6 then 0 else f (g (12 + x)).toNat) n
  | 0, _ => by simp [hungS, sm]
  | n + 1, hn => by
    have ih := sm_hung h f n (by omega)
    rw [sm_s (fun x => if g (12 + x) = -6 then 0 else f (g (12 + x)).toNat) n]
    by_cases e : g (12 + n) = -6
    · have e2 : hungS g (n + 1) = hungS g n := by simp only [hungS]; rw [if_pos e]
      rw [e2, if_pos e, Nat.add_zero]; exact ih
    · have e2 : hungS g (n + 1) = hungS g n ||| 2 ^ (g (12 + n)).toNat := by simp only [hungS]; rw [if_neg e]
      have hb := hungS_new h (by omega) e
      have hl := h.l n (by omega)
      rw [e2, if_neg e, ← ih]
      have := sm_add (f := fun l => if (hungS g n).testBit l = true then f l else 0) (f' := fun l => if (hungS g n ||| 2 ^ (g (12 + n)).toNat).testBit l = true then f l else 0) (u := (g (12 + n)).toNat) (v := f (g (12 + n)).toNat) (by simp [hb]) (by simp [Nat.testBit_or, Nat.testBit_two_pow]) (fun l hl => by simp [Nat.testBit_or, Nat.testBit_two_pow, Ne.symm hl]) 12
      rw [this, if_pos (by omega)]
def mx (f : Nat → Nat) : Nat → Nat
  | 0 => 0
  | n + 1 => max (mx f n) (f n)
theorem mx_s (f : Nat → Nat) (n : Nat) : mx f (n + 1) = max (mx f n) (f n) := rfl
theorem mx_congr {f f' : Nat → Nat} : ∀ n, (∀ l, l < n → f l = f' l) → mx f n = mx f' n
  | 0, _ => rfl
  | n + 1, h => by rw [mx_s, mx_s, h n (by omega), mx_congr n (fun l hl => h l (by omega))]
theorem mx_le {f : Nat → Nat} {c : Nat} : ∀ n, (∀ l, l < n → f l ≤ c) → mx f n ≤ c
  | 0, _ => by simp [mx]
  | n + 1, h => by
    have h1 := mx_le n (fun l hl => h l (by omega))
    have h2 := h n (by omega)
    rw [mx_s]; omega
theorem mx_add {f f' : Nat → Nat} {u v : Nat} (h0 : f u = 0) (h1 : f' u = v) (h2 : ∀ l, l ≠ u → f' l = f l) : ∀ m, mx f' m = max (mx f m) (if u < m then v else 0)
  | 0 => by simp [mx]
  | m + 1 => by
    have ih := mx_add h0 h1 h2 m
    rw [mx_s, mx_s, ih]
    by_cases e : m = u
    · subst e
      rw [h1, h0, if_neg (Nat.lt_irrefl m), if_pos (Nat.lt_succ_self m)]
    · rw [h2 m e]
      by_cases e2 : u < m
      · rw [if_pos e2, if_pos (show u < m + 1 by omega)]; omega
      · rw [if_neg e2, if_neg (show ¬ u < m + 1 by omega)]; omega
theorem mx_hung {g : Nat → Int} (h : hok g) (f : Nat → Nat) : ∀ n, n ≤ 6 → mx (fun l => if (hungS g n).testBit l = true then f l else 0) 12 = mx (fun x => if g (12 + x) = -6 then 0 else f (g (12 + x)).toNat) n
  | 0, _ => by simp [hungS, mx]
  | n + 1, hn => by
    have ih := mx_hung h f n (by omega)
    rw [mx_s (fun x => if g (12 + x) = -6 then 0 else f (g (12 + x)).toNat) n]
    by_cases e : g (12 + n) = -6
    · have e2 : hungS g (n + 1) = hungS g n := by simp only [hungS]; rw [if_pos e]
      rw [e2, if_pos e, Nat.max_zero]; exact ih
    · have e2 : hungS g (n + 1) = hungS g n ||| 2 ^ (g (12 + n)).toNat := by simp only [hungS]; rw [if_neg e]
      have hb := hungS_new h (by omega) e
      have hl := h.l n (by omega)
      rw [e2, if_neg e, ← ih]
      have := mx_add (f := fun l => if (hungS g n).testBit l = true then f l else 0) (f' := fun l => if (hungS g n ||| 2 ^ (g (12 + n)).toNat).testBit l = true then f l else 0) (u := (g (12 + n)).toNat) (v := f (g (12 + n)).toNat) (by simp [hb]) (by simp [Nat.testBit_or, Nat.testBit_two_pow]) (fun l hl => by simp [Nat.testBit_or, Nat.testBit_two_pow, Ne.symm hl]) 12
      rw [this, if_pos (by omega)]
theorem cnt_sm (P : Nat → Bool) : ∀ n, cnt P n = sm (fun l => if P l = true then 1 else 0) n
  | 0 => rfl
  | n + 1 => by simp only [cnt, sm]; rw [cnt_sm P n]
/-- how many balls a draught touches of one -/
def morF (g : Nat → Int) (far : Int) (b x : Nat) : Nat := if (x ≠ b ∧ 0 ≤ g (12 + b) ∧ 0 ≤ g (12 + x)) ∧ (dist g (g (12 + b)).toNat (g (12 + x)).toNat : Int) ≤ far then 1 else 0
theorem mor_touch {g : Nat → Int} (h : hok g) {b : Nat} (hb : b < 6) (far : Int) (hg : g (12 + b) ≠ -6) : sm (morF g far b) 6 = touchS g far b := by
  have hlb := h.l b hb
  unfold touchS pc
  rw [cnt_sm]
  have e : sm (fun l => if (ringS g (g (12 + b)).toNat 1 far &&& hungS g 6).testBit l = true then 1 else 0) 12 = sm (fun l => if (hungS g 6).testBit l = true then (if (ringS g (g (12 + b)).toNat 1 far).testBit l = true then 1 else 0) else 0) 12 := by
    refine sm_congr 12 (fun l hl => ?_)
    rw [Nat.testBit_and]
    cases (ringS g (g (12 + b)).toNat 1 far).testBit l <;> cases (hungS g 6).testBit l <;> simp
  rw [e, sm_hung h _ 6 (Nat.le_refl _)]
  refine sm_congr 6 (fun x hx => ?_)
  have hlx := h.l x hx
  unfold morF
  by_cases q : g (12 + x) = -6
  · rw [if_pos q, if_neg (by omega)]
  · rw [if_neg q]
    have hx12 : (g (12 + x)).toNat < 12 := by omega
    have hr : (ringS g (g (12 + b)).toNat 1 far).testBit (g (12 + x)).toNat = true ↔ (1 : Int) ≤ dist g (g (12 + b)).toNat (g (12 + x)).toNat ∧ (dist g (g (12 + b)).toNat (g (12 + x)).toNat : Int) ≤ far := by
      unfold ringS
      rw [setOf_bit]
      simp only [hx12, decide_true, Bool.true_and, Bool.and_eq_true, decide_eq_true_eq]
    by_cases e2 : x = b
    · subst e2
      rw [dist_self] at hr ⊢
      rw [if_neg (by omega), if_neg (by rw [hr]; omega)]
    · have hne : dist g (g (12 + b)).toNat (g (12 + x)).toNat ≠ 0 := fun e3 => by
        have := dist_0 h.t (by omega) hx12 e3
        exact hg (h.d b x hb hx (Ne.symm e2) (by omega))
      by_cases q2 : (dist g (g (12 + b)).toNat (g (12 + x)).toNat : Int) ≤ far
      · rw [if_pos ⟨⟨e2, by omega, by omega⟩, q2⟩, if_pos (hr.mpr ⟨by omega, q2⟩)]
      · rw [if_neg (fun k => q2 k.2), if_neg (fun k => q2 (hr.mp k).2)]
theorem mor_none {g : Nat → Int} {b : Nat} (far : Int) (hg : g (12 + b) = -6) : sm (morF g far b) 6 = 0 := by
  have : sm (morF g far b) 6 = sm (fun _ => 0) 6 := sm_congr 6 (fun x hx => by unfold morF; rw [if_neg (by omega)])
  rw [this]; rfl
theorem clr_no {m b : Nat} (h : ¬ m.testBit b = true) : clr m b = m := by unfold clr; rw [if_neg h]
/-- to put what hangs: nothing but the loop differs -/
theorem putF_same {g : Nat → Int} (h : hok g) {b : Nat} {l : Int} (hb6 : b < 6) (hb : ¬ (bk g).testBit b = true) (k : Nat) : putF g b l (g (18 + b)) k = up g (12 + b) l k := by
  have e := (hok_bk h).1
  simp only [putF, up, clr_no hb, ← e]
  by_cases e1 : k = 24
  · subst e1; rw [if_pos rfl, if_neg (by omega)]
  · rw [if_neg e1]
    by_cases e2 : k = 18 + b
    · subst e2; rw [if_pos rfl, if_neg (by omega)]
    · rw [if_neg e2]
/-- what an act leaves -/
def actG (g : Nat → Int) (k o p : Nat) : Nat → Int := if whyF g k o p = 0 then folF g k o p else g
theorem yrA_act (β : Nat → Int) (x : Nat) : yrA β x = actG β (yrK x) (yrO x) (yrP x) := rfl
theorem actG_ok {g : Nat → Int} {k o p : Nat} (h : hok g) (ha : aok k o p) : hok (actG g k o p) := by
  unfold actG
  split
  · exact folF_ok h ha (by assumption)
  · exact h
theorem chipS_cg {g g' : Nat → Int} : ∀ n, n ≤ 6 → (∀ b, b < n → g' (18 + b) = g (18 + b)) → chipS g' n = chipS g n
  | 0, _, _ => rfl
  | n + 1, hn, h => by simp only [chipS]; rw [h n (by omega), chipS_cg n (by omega) (fun b hb => h b (by omega))]
theorem chipS_up {g g' : Nat → Int} {b : Nat} (h : ∀ x, x < 6 → x ≠ b → g' (18 + x) = g (18 + x)) : ∀ n, n ≤ 6 → chipS g' n = chipS g n + (if b < n then g' (18 + b) - g (18 + b) else 0)
  | 0, _ => by simp [chipS]
  | n + 1, hn => by
    have ih := chipS_up h n (by omega)
    simp only [chipS]
    rw [ih]
    by_cases e : n = b
    · subst e; rw [if_neg (by omega), if_pos (by omega)]; omega
    · rw [h n (by omega) e]
      by_cases e2 : b < n
      · rw [if_pos e2, if_pos (by omega)]; omega
      · rw [if_neg e2, if_neg (by omega)]; omega
/-- an act of the reference, done -/
def Act1 (M M' : wM) (g g' : Nat → Int) : Prop := Kp M M' ∧ nwA M' g' ∧ (∀ i, i ≠ 6 → M'.1 47 i = M.1 47 i) ∧ ∀ c, M.1 47 6 = iI c → M'.1 47 6 = iI (c + (chipS g' 6 - chipS g 6))
theorem Act1.rf {M : wM} {g : Nat → Int} (h : nwA M g) : Act1 M M g g := ⟨Kp.rf, h, fun _ _ => rfl, fun c hc => by rw [hc]; congr 1; omega⟩
theorem Act1.of {M M' : wM} {g g' : Nat → Int} (h1 : Kp M M') (h2 : nwA M' g') (h3 : M'.1 47 = M.1 47) (h4 : ∀ b, b < 6 → g' (18 + b) = g (18 + b)) : Act1 M M' g g' :=
  ⟨h1, h2, fun _ _ => by rw [h3], fun c hc => by rw [h3, hc, chipS_cg 6 (Nat.le_refl _) h4]; congr 1; omega⟩
/-- chips added by a draught -/
theorem chipF_same {g : Nat → Int} (h : hok g) {b m : Nat} (hb : b < 6) (hg : g (12 + b) ≠ -6) (k : Nat) :
    chipF g b m k = if g (18 + b) + m < 9 then up g (18 + b) (g (18 + b) + m) k else up (up (up g (18 + b) 9) 24 ((bk g ||| 2 ^ b : Nat) : Int)) (12 + b) (-6) k := by
  have hc := h.c b hb
  have hbb := h.bb b hb
  have q : ¬ (bk g).testBit b = true := by
    intro e
    rw [hbb] at e
    exact hg (h.bl b hb (by simpa using e))
  have e := (hok_bk h).1
  unfold chipF
  by_cases q1 : g (18 + b) + m < 9
  · rw [if_pos q1, if_pos q1]
    simp only [putF, up, clr_no q, ← e]
    by_cases e1 : k = 24
    · subst e1; rw [if_pos rfl, if_neg (by omega)]
    · rw [if_neg e1]
      by_cases e2 : k = 18 + b
      · rw [if_pos e2, if_pos e2]
      · rw [if_neg e2, if_neg e2]
        by_cases e3 : k = 12 + b
        · rw [if_pos e3, e3]
        · rw [if_neg e3]
  · rw [if_neg q1, if_neg q1]
    simp only [putF, up, clr_no q]
    by_cases e1 : k = 24
    · subst e1; rw [if_pos rfl, if_neg (by omega), if_pos rfl]
    · rw [if_neg e1, if_neg e1, if_neg e1]
      by_cases e2 : k = 18 + b
      · subst e2; rw [if_pos rfl, if_neg (by omega), if_pos rfl]
      · rw [if_neg e2, if_neg e2]
/-- the first of a set -/
theorem nth_first {P : Nat → Bool} : ∀ n l b, l ≤ b → b < l + n → P b = true → (∀ k, l ≤ k → k < b → P k = false) → nth P n l 0 0 = b
  | 0, l, b, h1, h2, _, _ => by omega
  | n + 1, l, b, h1, h2, h3, h4 => by
    simp only [nth]
    by_cases e : l = b
    · subst e; rw [if_pos h3]; simp
    · rw [h4 l (Nat.le_refl _) (by omega)]
      simp only [Bool.false_eq_true, if_false]
      exact nth_first n (l + 1) b (by omega) (by omega) h3 (fun k q1 q2 => h4 k (by omega) q2)
