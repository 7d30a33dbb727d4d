/-! The judgement Rn: 'from this instruction, with these locals, this stack and this memory, in whatever machine, the method comes to a return with Q'. -/
/-- the number that the law's script has -/
abbrev w_scr : Nat := 9999
def w_sx (sx : Option (Nat × (Nat → Int32) × Nat)) (A : Nat → Prop) (s : State) : Prop := match sx with
  | none => True
  | some q => va_X q.2.2 q.1 q.2.1 s s.heap ∧ q.2.2 < s.heap.size ∧ ¬ A q.2.2
def w_sa (sx : Option (Nat × (Nat → Int32) × Nat)) (ad : Nat → Nat) : Prop := match sx with
  | none => True
  | some q => ad w_scr = q.2.2
def w_C (K : wK) (sx : Option (Nat × (Nat → Int32) × Nat)) (p : Program) (s : State) (m : MethodId) (args : Array Value) (meth : Method) (c : Code) (A : Nat → Prop) (D3 : wD) (D : va_G) : Prop :=
  p.tables.exec = Jvm.exec ∧ c.code = K.2.1 ∧ c.maxLocals = K.2.2.1 ∧ s.vm.findClass K.1.cls = some m.cls ∧ (∀ w ∈ lw_g, w.before args s = true) ∧ va_K D vwCl (w_ty D3) s ∧ (∀ q, s.heap.size ≤ q → A q) ∧ w_nw s ∧ (K.1.name = "<init>" → meth.name = K.1.name) ∧ w_sx sx A s
/-- the locals: the listed ones are held -/
def w_L (nL : Nat) (ad : Nat → Nat) (lv : List (Option Value)) (ls : Array Slot) : Prop := ls.size = nL ∧ lv_wf ls ∧ ∀ (i : Nat) (v : Value), lv[i]? = some (some v) → ls[i]? = some (.val (w_cv ad v))
def w_S (K : wK) (sx : Option (Nat × (Nat → Int32) × Nat)) (s : State) (A : Nat → Prop) (D3 : wD) (D : va_G) (ad : Nat → Nat) (sh : wSh) (M : wM) (H : Heap) (locs : List Loc) (lv : List (Option Value)) (ls : Array Slot) (cs : Nat × Nat) : Prop :=
  va_P D vwCl (w_W D3 ad sh M) H ∧ va_D A (w_W D3 ad sh M) ∧ va_S A s.heap H locs ∧ w_L K.2.2.1 ad lv ls ∧ (cs.1 ≤ K.2.2.2.2.cells ∧ cs.2 ≤ K.2.2.2.2.slots) ∧ w_wf sh M ∧ w_sa sx ad
/-- the numbering grows -/
def w_X (ad : Nat → Nat) (sh : wSh) (ad' : Nat → Nat) (sh' : wSh) : Prop := (∀ k, k < sh.length → ad' k = ad k) ∧ ad' w_scr = ad w_scr ∧ sh.length ≤ sh'.length ∧ (sh'.length = sh.length → ad' = ad)
theorem w_X.rf {ad : Nat → Nat} {sh : wSh} : w_X ad sh ad sh := ⟨fun _ _ => rfl, rfl, Nat.le_refl _, fun _ => rfl⟩
theorem w_X.tr {a b c : Nat → Nat} {x y z : wSh} (h1 : w_X a x b y) (h2 : w_X b y c z) : w_X a x c z :=
  ⟨fun k hk => (h2.1 k (Nat.lt_of_lt_of_le hk h1.2.2.1)).trans (h1.1 k hk), h2.2.1.trans h1.2.1, Nat.le_trans h1.2.2.1 h2.2.2.1, fun h => by
    have e1 := h1.2.2.1
    have e2 := h2.2.2.1
    rw [h2.2.2.2 (by omega), h1.2.2.2 (by omega)]⟩
/-- a return instruction that fits the answer -/
def w_rt (K : wK) (v : Option Value) (pc : Nat) : Prop := match v with
  | none => decode K.2.1 pc = .ok (.return_, 1) ∧ K.2.2.2.1 = none
  | some (.int x) => decode K.2.1 pc = .ok (.ireturn, 1) ∧ ∃ ty, K.2.2.2.1 = some ty ∧ narrow ty (.int x) = .int x
  | some (.long _) => decode K.2.1 pc = .ok (.lreturn, 1) ∧ K.2.2.2.1 = some .long
  | some (.ref _) => decode K.2.1 pc = .ok (.areturn, 1) ∧ ∃ n, K.2.2.2.1 = some (.object n)
  | _ => False
def w_E (K : wK) (sx : Option (Nat × (Nat → Int32) × Nat)) (p : Program) (l : Launch) (e : Env) (s : State) (m : MethodId) (args : Array Value) (below : List Frame) (meth : Method) (c : Code) (A : Nat → Prop) (D3 : wD) (D : va_G) (Qf : State → Prop) (Q : Option Value → wSh → wM → Nat × Nat → Prop) (ad : Nat → Nat) (sh : wSh) : Prop :=
  ∀ (v : Option Value) (sh' : wSh) (M' : wM) (cs' : Nat × Nat) (ad' : Nat → Nat) (H' : Heap) (locs' : List Loc) (pc' : Nat) (ls' : Array Slot), Q v sh' M' cs' → w_X ad sh ad' sh' → va_P D vwCl (w_W D3 ad' sh' M') H' → va_D A (w_W D3 ad' sh' M') → va_S A s.heap H' locs' → w_wf sh' M' → w_rt K v pc' →
    W p l e K.2.2.2.2 s m args below meth c H' locs' cs'.1 cs'.2 Qf (F0 m pc' ls' (v.map (w_cv ad')).toList)
theorem w_E.mv {K : wK} {sx : Option (Nat × (Nat → Int32) × Nat)} {p : Program} {l : Launch} {e : Env} {s : State} {m : MethodId} {args : Array Value} {below : List Frame} {meth : Method} {c : Code} {A : Nat → Prop} {D3 : wD} {D : va_G} {Qf : State → Prop} {Q : Option Value → wSh → wM → Nat × Nat → Prop} {ad ad' : Nat → Nat} {sh sh' : wSh} (h : w_E K sx p l e s m args below meth c A D3 D Qf Q ad sh) (hx : w_X ad sh ad' sh') : w_E K sx p l e s m args below meth c A D3 D Qf Q ad' sh' :=
  fun v sh2 M2 cs2 ad2 H2 locs2 pc2 ls2 hq h2 hP hD hS hw hr => h v sh2 M2 cs2 ad2 H2 locs2 pc2 ls2 hq (hx.tr h2) hP hD hS hw hr
def Rn (K : wK) (sx : Option (Nat × (Nat → Int32) × Nat)) (cs : Nat × Nat) (pc : Nat) (lv : List (Option Value)) (st : List Value) (sh : wSh) (M : wM) (Q : Option Value → wSh → wM → Nat × Nat → Prop) : Prop :=
  ∀ (p : Program) (l : Launch) (e : Env) (s : State) (m : MethodId) (args : Array Value) (below : List Frame) (meth : Method) (c : Code) (A : Nat → Prop) (D3 : wD) (D : va_G) (Qf : State → Prop) (ad : Nat → Nat) (H : Heap) (locs : List Loc) (ls : Array Slot),
    w_C K sx p s m args meth c A D3 D → w_S K sx s A D3 D ad sh M H locs lv ls cs → w_E K sx p l e s m args below meth c A D3 D Qf Q ad sh →
    W p l e K.2.2.2.2 s m args below meth c H locs cs.1 cs.2 Qf (F0 m pc ls (st.map (w_cv ad)))
/-! the locals -/
def w_pr (ad : Nat → Nat) : Nat → List (Option Value) → List (Nat × Value)
  | _, [] => []
  | i, none :: t => w_pr ad (i + 1) t
  | i, some v :: t => (i, w_cv ad v) :: w_pr ad (i + 1) t
theorem w_pr_mem (ad : Nat → Nat) : ∀ (lv : List (Option Value)) (i : Nat) (q : Nat × Value), q ∈ w_pr ad i lv ↔ ∃ j v, lv[j]? = some (some v) ∧ q = (i + j, w_cv ad v)
  | [], i, q => by simp [w_pr]
  | none :: t, i, q => by
    rw [w_pr, w_pr_mem ad t (i + 1) q]
    constructor
    · rintro ⟨j, v, h, rfl⟩
      exact ⟨j + 1, v, by simpa using h, by rw [Nat.add_assoc, Nat.add_comm 1 j]⟩
    · rintro ⟨j, v, h, rfl⟩
      cases j with
      | zero => simp at h
      | succ j => exact ⟨j, v, by simpa using h, by rw [Nat.add_assoc, Nat.add_comm 1 j]⟩
  | some w :: t, i, q => by
    rw [w_pr, List.mem_cons, w_pr_mem ad t (i + 1) q]
    constructor
    · rintro (rfl | ⟨j, v, h, rfl⟩)
      · exact ⟨0, w, by simp, rfl⟩
      · exact ⟨j + 1, v, by simpa using h, by rw [Nat.add_assoc, Nat.add_comm 1 j]⟩
    · rintro ⟨j, v, h, rfl⟩
      cases j with
      | zero => simp at h; subst h; exact Or.inl rfl
      | succ j => exact Or.inr ⟨j, v, by simpa using h, by rw [Nat.add_assoc, Nat.add_comm 1 j]⟩
theorem w_L.has {nL : Nat} {ad : Nat → Nat} {lv : List (Option Value)} {ls : Array Slot} (h : w_L nL ad lv ls) : lv_has ls nL (w_pr ad 0 lv) :=
  ⟨h.1, h.2.1, fun q hq => by
    obtain ⟨j, v, h1, rfl⟩ := (w_pr_mem ad lv 0 q).mp hq
    simpa using h.2.2 j v h1⟩
/-- not the first half of a long or a double -/
def w_n2 : Option Value → Bool
  | some (.long _) => false
  | some (.double _) => false
  | _ => true
theorem w_n2_cat {v : Value} (h : w_n2 (some v) = true) : v.category = 1 := by cases v <;> first | rfl | cases h
theorem w_L.st1 {nL : Nat} {ad : Nat → Nat} {lv lv' : List (Option Value)} {ls' : Array Slot} {i : Nat} {v : Value} (h : lv_has ls' nL ((i, w_cv ad v) :: (w_pr ad 0 lv).filter (fun q => !(q.1 == i) && !(q.1 + 1 == i && q.2.category == 2))))
    (hl : ∀ j w, lv'[j]? = some (some w) → (j = i ∧ w = v) ∨ (j ≠ i ∧ lv[j]? = some (some w) ∧ (j + 1 = i → w.category = 1))) : w_L nL ad lv' ls' := by
  refine ⟨h.1, h.2.1, fun j w hj => ?_⟩
  rcases hl j w hj with ⟨rfl, rfl⟩ | ⟨h1, h2, h3⟩
  · exact h.2.2 (j, w_cv ad w) List.mem_cons_self
  · refine h.2.2 (j, w_cv ad w) (List.mem_cons_of_mem _ (List.mem_filter.mpr ⟨(w_pr_mem ad lv 0 _).mpr ⟨j, w, h2, by simp⟩, ?_⟩))
    by_cases h4 : j + 1 = i
    · have h5 := h3 h4
      simp [h1, w_cv_cat, h5]
    · simp [h1, h4]
theorem w_L.st2 {nL : Nat} {ad : Nat → Nat} {lv lv' : List (Option Value)} {ls' : Array Slot} {i : Nat} {v : Value} (h : lv_has ls' nL ((i, w_cv ad v) :: (w_pr ad 0 lv).filter (fun q => !(q.1 == i) && (!(q.1 == i + 1) && !(q.1 + 1 == i && q.2.category == 2)))))
    (hl : ∀ j w, lv'[j]? = some (some w) → (j = i ∧ w = v) ∨ (j ≠ i ∧ j ≠ i + 1 ∧ lv[j]? = some (some w) ∧ (j + 1 = i → w.category = 1))) : w_L nL ad lv' ls' := by
  refine ⟨h.1, h.2.1, fun j w hj => ?_⟩
  rcases hl j w hj with ⟨rfl, rfl⟩ | ⟨h1, h0, h2, h3⟩
  · exact h.2.2 (j, w_cv ad w) List.mem_cons_self
  · refine h.2.2 (j, w_cv ad w) (List.mem_cons_of_mem _ (List.mem_filter.mpr ⟨(w_pr_mem ad lv 0 _).mpr ⟨j, w, h2, by simp⟩, ?_⟩))
    by_cases h4 : j + 1 = i
    · have h5 := h3 h4
      simp [h1, h0, w_cv_cat, h5]
    · simp [h1, h0, h4]
theorem w_set1 {lv : List (Option Value)} {i : Nat} {v : Value} (hp : i = 0 ∨ ∀ x, lv[i - 1]? = some x → w_n2 x = true) : ∀ j w, (lv.set i (some v))[j]? = some (some w) → (j = i ∧ w = v) ∨ (j ≠ i ∧ lv[j]? = some (some w) ∧ (j + 1 = i → w.category = 1)) := by
  intro j w hj
  by_cases h : j = i
  · subst h
    have hl : j < lv.length := by have := (List.getElem?_eq_some_iff.mp hj).1; simpa using this
    rw [List.getElem?_set_self hl] at hj
    cases hj
    exact Or.inl ⟨rfl, rfl⟩
  · rw [List.getElem?_set_ne (Ne.symm h)] at hj
    refine Or.inr ⟨h, hj, fun e => ?_⟩
    subst e
    rcases hp with hp | hp
    · omega
    · exact w_n2_cat (hp (some w) (by simpa using hj))
theorem w_set2 {lv : List (Option Value)} {i : Nat} {v : Value} (hp : i = 0 ∨ ∀ x, lv[i - 1]? = some x → w_n2 x = true) : ∀ j w, ((lv.set i (some v)).set (i + 1) none)[j]? = some (some w) → (j = i ∧ w = v) ∨ (j ≠ i ∧ j ≠ i + 1 ∧ lv[j]? = some (some w) ∧ (j + 1 = i → w.category = 1)) := by
  intro j w hj
  by_cases h0 : j = i + 1
  · subst h0
    have hl : i + 1 < lv.length := by have := (List.getElem?_eq_some_iff.mp hj).1; simpa using this
    rw [List.getElem?_set_self (by simpa using hl)] at hj
    cases hj
  · rw [List.getElem?_set_ne (Ne.symm h0)] at hj
    rcases w_set1 hp j w hj with h | ⟨h1, h2, h3⟩
    · exact Or.inl h
    · exact Or.inr ⟨h1, h0, h2, h3⟩
