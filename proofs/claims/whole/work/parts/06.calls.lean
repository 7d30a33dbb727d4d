/-! Contracts over Rn, calls, what is made. -/
def w_ws (K : wK) : List Cond := Cond.code K.1 K.2.1 K.2.2.1 K.2.2.2.1 :: lw_g
def w_Pc (D3 : wD) (D : va_G) (ad : Nat → Nat) (sh : wSh) (M : wM) (As : List Value) (sz : Nat) : Array Value → State → Prop :=
  va_Pc (As.map (w_cv ad)) (fun U => U.heap.size = sz ∧ va_P D vwCl (w_W D3 ad sh M) U.heap ∧ va_K D vwCl (w_ty D3) U ∧ va_D (fun _ => True) (w_W D3 ad sh M) ∧ w_nw U)
def w_Qc (D3 : wD) (D : va_G) (ad : Nat → Nat) (sh : wSh) (Q : Option Value → wSh → wM → Prop) (A : Nat → Prop) : Array Value → State → Outcome → State → Prop := fun _ st oc t =>
  (∃ (v : Option Value) (sh' : wSh) (M' : wM) (ad' : Nat → Nat), oc = .returned (v.map (w_cv ad')) ∧ Q v sh' M' ∧ w_X ad sh ad' sh' ∧ w_wf sh' M' ∧ va_P D vwCl (w_W D3 ad' sh' M') t.heap ∧ va_D A (w_W D3 ad' sh' M')) ∧ va_F A st t
/-- a method's contract: with these arguments and this memory it returns, and Q -/
def Ev (K : wK) (As : List Value) (sh : wSh) (M : wM) (Q : Option Value → wSh → wM → Prop) : Prop :=
  w_wf sh M → ∀ (l : Launch) (D3 : wD) (D : va_G) (ad : Nat → Nat) (sz : Nat), Met l K.1 (w_ws K) K.2.2.2.2 (w_Pc D3 D ad sh M As sz) (w_Qc D3 D ad sh Q (va_A (w_W D3 ad sh M) sz)) K.2.2.2.2.cells K.2.2.2.2.slots (va_A (w_W D3 ad sh M) sz)
theorem Ev.mono {K : wK} {As : List Value} {sh : wSh} {M : wM} {Q Q' : Option Value → wSh → wM → Prop} (h : ∀ v sh' M', Q' v sh' M' → Q v sh' M') (k : Ev K As sh M Q') : Ev K As sh M Q := by
  intro hwf l D3 D ad sz p e ha hc hk s m args below hf hap hP hK
  obtain ⟨n, o, h1, h2, h3, h4, h5⟩ := k hwf l D3 D ad sz p e ha hc hk s m args below hf hap hP hK
  refine ⟨n, o, h1, h2, h3, ?_, h5⟩
  obtain ⟨⟨v, sh', M', ad', a1, a2, a3⟩, a4⟩ := h4
  exact ⟨⟨v, sh', M', ad', a1, h _ _ _ a2, a3⟩, a4⟩
/-! the entry -/
def w_lv : List Value → List (Option Value)
  | [] => []
  | .long x :: t => some (.long x) :: none :: w_lv t
  | .double x :: t => some (.double x) :: none :: w_lv t
  | v :: t => some v :: w_lv t
theorem w_lv_1 {v : Value} (h : v.category = 1) (t : List Value) : w_lv (v :: t) = some v :: w_lv t := by cases v <;> first | rfl | cases h
theorem w_lv_2 {v : Value} (h : v.category = 2) (t : List Value) : w_lv (v :: t) = some v :: none :: w_lv t := by cases v <;> first | rfl | cases h
theorem w_lv_args (ad : Nat → Nat) : ∀ (As : List Value) (i j : Nat) (v : Value), (w_lv As)[j]? = some (some v) → (i + j, w_cv ad v) ∈ lv_args i (As.map (w_cv ad))
  | [], _, _, _, h => by simp [w_lv] at h
  | a :: t, i, j, v, h => by
    have hc := w_cv_cat ad a
    rcases lv_cat a with h1 | h2
    · rw [w_lv_1 h1] at h
      rw [List.map_cons, lv_args, if_neg (by rw [hc, h1]; decide)]
      cases j with
      | zero => simp at h; subst h; exact List.mem_cons_self
      | succ j =>
        have := w_lv_args ad t (i + 1) j v (by simpa using h)
        rw [Nat.add_assoc, Nat.add_comm 1 j] at this
        exact List.mem_cons_of_mem _ this
    · rw [w_lv_2 h2] at h
      rw [List.map_cons, lv_args, if_pos (by rw [hc, h2])]
      match j, h with
      | 0, h => simp at h; subst h; exact List.mem_cons_self
      | 1, h => simp at h
      | j + 2, h =>
        have := w_lv_args ad t (i + 2) j v (by simpa using h)
        rw [Nat.add_assoc, Nat.add_comm 2 j] at this
        exact List.mem_cons_of_mem _ this
theorem w_sl (ad : Nat → Nat) (As : List Value) : (lg_sl (As.map (w_cv ad))).length = (lg_sl As).length := by
  induction As with
  | nil => rfl
  | cons a t ih =>
    have hc := w_cv_cat ad a
    simp only [lg_sl, List.map_cons, List.flatMap_cons, List.length_append] at ih ⊢
    rw [ih, hc]
    by_cases h : a.category = 2 <;> simp [h]
theorem w_L.entry {ad : Nat → Nat} {As : List Value} {n : Nat} {lv : List (Option Value)} (hn : (lg_sl As).length ≤ n) (hlv : ∀ (j : Nat) (v : Value), lv[j]? = some (some v) → (w_lv As)[j]? = some (some v)) :
    w_L n ad lv ((lg_sl (As.map (w_cv ad)) ++ List.replicate (n - (lg_sl (As.map (w_cv ad))).length) Slot.unset).toArray) := by
  have h := lv_entry (As.map (w_cv ad)) (n := n) (by rw [w_sl]; exact hn)
  refine ⟨h.1, h.2.1, fun j v hj => ?_⟩
  have h2 := w_lv_args ad As 0 j v (hlv j v hj)
  rw [Nat.zero_add] at h2
  exact h.2.2 _ h2
theorem w_pad (As : List Value) (k : Nat) : ∀ (j : Nat) (v : Value), (w_lv As ++ List.replicate k none)[j]? = some (some v) → (w_lv As)[j]? = some (some v) := by
  intro j v h
  by_cases hj : j < (w_lv As).length
  · rw [List.getElem?_append_left hj] at h; exact h
  · rw [List.getElem?_append_right (by omega)] at h
    have := List.mem_of_getElem? h
    simp at this
theorem Ev.of {K : wK} {As : List Value} {sh : wSh} {M : wM} {Q : Option Value → wSh → wM → Prop} {lv : List (Option Value)} (k0 : Nat) (hy : plainName K.1.cls = true) (hn : (lg_sl As).length ≤ K.2.2.1) (hlv : w_lv As ++ List.replicate k0 none = lv)
    (body : Rn K none (0, 0) 0 lv [] sh M (fun v sh' M' cs' => Q v sh' M' ∧ cs'.1 ≤ K.2.2.2.2.cells ∧ cs'.2 ≤ K.2.2.2.2.slots)) : Ev K As sh M Q := by
  subst hlv
  intro hwf l D3 D ad sz
  refine Met.ofW (cc := K.2.1) (maxL := K.2.2.1) (ret := K.2.2.2.1) hy rfl ?_
  intro p e s m args below meth c s₁ B hml hv
  obtain ⟨rfl, hsz, hP, hK, hD0, hnw⟩ := hv
  have hts := atoms_spec (ws := w_ws K) B.pre
  have hown : s.vm.findClass K.1.cls = some m.cls := findClass_of_methodNamed B.named
  have hlocks := B.notSynchronized
  have hin : meth.name = K.1.name := (name_of_methodNamed B.named B.method).1
  have hr := B.returns
  subst hsz
  have hD := hD0.self (sz := s.heap.size)
  generalize hAe : va_A (w_W D3 ad sh M) s.heap.size = A at hD ⊢
  have hA : ∀ q : Nat, s.heap.size ≤ q → A q := fun q h => by rw [← hAe]; exact Or.inr h
  rw [lg_entry_eq]
  have hl := w_L.entry (ad := ad) hn (w_pad As k0)
  generalize (lg_sl (As.map (w_cv ad)) ++ List.replicate (K.2.2.1 - (lg_sl (As.map (w_cv ad))).length) Slot.unset).toArray = ls at hl ⊢
  refine body p l e s m (As.map (w_cv ad)).toArray below meth c A D3 D _ ad s.heap [] ls
    ⟨B.exec, B.bytes, hml, hown, fun w hw => hts w (List.mem_cons_of_mem _ hw), hK, hA, hnw, fun _ => hin, trivial⟩
    ⟨hP, hD, va_S.rf, hl, ⟨Nat.zero_le _, Nat.zero_le _⟩, hwf, trivial⟩ ?_
  intro v sh' M' cs' ad' H' locs' pc' ls' hq hx hP' hD' hS' hwf' hrt
  refine W.widen (k := K.2.2.2.2.cells) (n := K.2.2.2.2.slots) hq.2.1 hq.2.2 ?_
  have fin : ∀ t : State, t.heap = H' → w_Qc D3 D ad sh Q A (As.map (w_cv ad)).toArray s (.returned (v.map (w_cv ad'))) t := fun t ht =>
    ⟨⟨v, sh', M', ad', rfl, hq.1, hx, hwf', by rw [ht]; exact hP', hD'⟩, hS'.F ht⟩
  match v, hrt with
  | none, hrt => exact W.vret B.exec B.bytes (hr.trans hrt.2) (fun t ht _ => fin t ht) hS'.2.2 hrt.1
  | some (.int x), hrt =>
    obtain ⟨hd, ty, h1, h2⟩ := hrt
    exact W.zret B.exec B.bytes (hr.trans h1) h2 (fun t ht _ => fin t ht) hS'.2.2 hd
  | some (.long x), hrt => exact W.lret B.exec B.bytes (hr.trans hrt.2) (fun t ht _ => fin t ht) hS'.2.2 hrt.1
  | some (.ref x), hrt =>
    obtain ⟨hd, n, h1⟩ := hrt
    exact W.aret (v := .ref (ad' x)) B.exec B.bytes (hr.trans h1) (Or.inl ⟨n, rfl⟩) (Or.inr ⟨ad' x, rfl⟩) (fun t ht _ => fin t ht) hS'.2.2 hd
/-! calls -/
theorem w_run {p : Program} {l : Launch} {e : Env} {R : Room} {s : State} {m : MethodId} {args : Array Value} {below : List Frame} {meth : Method} {c : Code} {H : Heap} {locs : List Loc} {cells slots mc ms : Nat} {Qf : State → Prop} {pc : Nat} {ls : Array Slot} {st0 rest : List Value} {D3 : wD} {D : va_G} {ad : Nat → Nat} {sh : wSh} {M : wM} {Q' : Option Value → wSh → wM → Prop} {a : Array Value} {A : Nat → Prop}
    (hr : va_Run p l e R s m args below meth c H locs cells slots mc ms (F0 m pc ls st0) rest (w_Qc D3 D ad sh Q' (va_A (w_W D3 ad sh M) H.size) a) (va_A (w_W D3 ad sh M) H.size)) (hD : va_D A (w_W D3 ad sh M)) (hS : va_S A s.heap H locs) (hA : ∀ q, s.heap.size ≤ q → A q)
    (kk : ∀ (v : Option Value) (sh' : wSh) (M' : wM) (ad' : Nat → Nat) (H1 : Heap) (locs1 : List Loc), Q' v sh' M' → w_X ad sh ad' sh' → w_wf sh' M' → va_P D vwCl (w_W D3 ad' sh' M') H1 → va_D A (w_W D3 ad' sh' M') → va_S A s.heap H1 locs1 → W p l e R s m args below meth c H1 locs1 (cells + mc) (slots + ms) Qf (F0 m (pc + 3) ls ((v.map (w_cv ad')).toList ++ rest))) :
    W p l e R s m args below meth c H locs cells slots Qf (F0 m pc ls st0) := by
  have hF : ∀ q, va_A (w_W D3 ad sh M) H.size q → A q := by
    intro q hq
    rcases hq with ⟨k, e2, hk⟩ | hq
    · exact hD.2 k (q, e2) hk
    · exact hA q (Nat.le_trans hS.1 hq)
  intro T hT X
  obtain ⟨v0, st₀, t, T', L, h0, X', hL, e1, e2, ⟨⟨v, sh', M', ad', hv, hq, hx, hwf, hP', hD'⟩, hz, hk⟩, stp⟩ := hr T hT X
  cases hv
  rw [h0] at hz hk
  obtain ⟨t2, a1, b1⟩ := kk v sh' M' ad' T'.heap (locs ++ L) hq hx hwf (by rw [e1]; exact hP') (hD'.weaken (fun _ q _ h => hF q.1 h))
    ⟨Nat.le_trans hS.1 (by rw [e1]; exact hz), fun q h1 h2 => by rw [e1, hk q (Nat.lt_of_lt_of_le h1 hS.1) (fun z => h2 (hF q z))]; exact hS.2.1 q h1 h2, fun q hq => by
      rcases List.mem_append.mp hq with h | h
      · exact hS.2.2 q h
      · exact hF _ (hL q h)⟩ T' rfl X'
  exact ⟨t2, stp t2 a1, b1⟩
/-- what a call site needs of the callee, but its link -/
def w_site (K K' : wK) (n : Nat) : Prop := Cond.code K'.1 K'.2.1 K'.2.2.1 K'.2.2.2.1 ∈ lw_g ∧ Cond.initialized K'.1.cls ∈ lw_g ∧
  (K'.1.cls ≠ "java/lang/invoke/MethodHandle" ∧ K'.1.cls ≠ "java/lang/invoke/VarHandle" ∧ (parseMethodDescriptor K'.1.desc).map (fun d => d.parameters.length) = some n) ∧ (K'.2.2.2.2.frames + 1 ≤ K.2.2.2.2.frames ∧ 8 + (K'.2.2.1 + 11) + K'.2.2.2.2.locals ≤ K.2.2.2.2.locals)
theorem w_good {K' : wK} (h : Cond.code K'.1 K'.2.1 K'.2.2.1 K'.2.2.2.1 ∈ lw_g) : GoodIn lw_g (w_ws K') := by
  intro w hw
  rcases List.mem_cons.mp hw with rfl | hw
  · exact ⟨h, good_of_word (g_good _ h).2⟩
  · exact ⟨hw, good_of_word (g_good _ hw).2⟩
theorem w_fb {D3 : wD} {D : va_G} {ad : Nat → Nat} {sh : wSh} {M : wM} {As : List Value} {sz : Nat} : FrameBlind (w_Pc D3 D ad sh M As sz) := fun a U g mk q => by
  obtain ⟨q0, q1, qP, qK, qD, qN⟩ := q
  exact ⟨q0, q1, qP, va_K.moved (u := U) (U := U.calling g mk a) (Vm.Alike.refl U.vm) qK, qD, qN.same rfl⟩
section CALLS
variable {K K' : wK} {sx : Option (Nat × (Nat → Int32) × Nat)} {cs : Nat × Nat} {pc : Nat} {lv : List (Option Value)} {st rest As : List Value} {sh : wSh} {M : wM} {Q : Option Value → wSh → wM → Nat × Nat → Prop} {Q' : Option Value → wSh → wM → Prop} {index n b ci z : Nat}
/-- the references of a list lie within -/
def w_in (n : Nat) (l : List Value) : Prop := ∀ k, Value.ref k ∈ l → k < n ∨ k = w_scr
def w_inL (n : Nat) (l : List (Option Value)) : Prop := ∀ k, some (Value.ref k) ∈ l → k < n ∨ k = w_scr
theorem w_in.map {n : Nat} {l : List Value} {ad ad' : Nat → Nat} (h : w_in n l) (h1 : ∀ k, k < n → ad' k = ad k) (h2 : ad' w_scr = ad w_scr) : l.map (w_cv ad') = l.map (w_cv ad) := by
  apply List.map_congr_left
  intro v hv
  cases v with
  | ref k =>
    rcases h k hv with hk | rfl
    · simp [w_cv, h1 k hk]
    · simp [w_cv, h2]
  | _ => rfl
theorem w_L.mv {nL n : Nat} {ad ad' : Nat → Nat} {lv : List (Option Value)} {ls : Array Slot} (h : w_L nL ad lv ls) (hl : w_inL n lv) (h1 : ∀ k, k < n → ad' k = ad k) (h2 : ad' w_scr = ad w_scr) : w_L nL ad' lv ls := by
  refine ⟨h.1, h.2.1, fun i v hv => ?_⟩
  rw [h.2.2 i v hv]
  cases v with
  | ref k =>
    rcases hl k (List.mem_of_getElem? hv) with hk | rfl
    · simp [w_cv, h1 k hk]
    · simp [w_cv, h2]
  | _ => rfl
/-- behind a call that may make cells -/
theorem w_back {p : Program} {l : Launch} {e : Env} {s : State} {m : MethodId} {args : Array Value} {below : List Frame} {meth : Method} {c : Code} {A : Nat → Prop} {D3 : wD} {D : va_G} {Qf : State → Prop} {ad : Nat → Nat} {H : Heap} {locs : List Loc} {ls : Array Slot} {a : Array Value} {st0 : List Value}
    (hC : w_C K sx p s m args meth c A D3 D) (hS : w_S K sx s A D3 D ad sh M H locs lv ls cs) (hE : w_E K sx p l e s m args below meth c A D3 D Qf Q ad sh)
    (hr : va_Run p l e K.2.2.2.2 s m args below meth c H locs cs.1 cs.2 K'.2.2.2.2.cells K'.2.2.2.2.slots (F0 m pc ls st0) (rest.map (w_cv ad)) (w_Qc D3 D ad sh Q' (va_A (w_W D3 ad sh M) H.size) a) (va_A (w_W D3 ad sh M) H.size))
    (hcc : cs.1 + K'.2.2.2.2.cells ≤ K.2.2.2.2.cells ∧ cs.2 + K'.2.2.2.2.slots ≤ K.2.2.2.2.slots) (hok : (w_in sh.length rest ∧ w_inL sh.length lv) ∨ ∀ v sh' M', Q' v sh' M' → sh'.length = sh.length)
    (k : ∀ v sh' M', Q' v sh' M' → sh.length ≤ sh'.length → Rn K sx (cs.1 + K'.2.2.2.2.cells, cs.2 + K'.2.2.2.2.slots) (pc + 3) lv (v.toList ++ rest) sh' M' Q) :
    W p l e K.2.2.2.2 s m args below meth c H locs cs.1 cs.2 Qf (F0 m pc ls st0) := by
  refine w_run hr hS.2.1 hS.2.2.1 hC.2.2.2.2.2.2.1 (fun v sh' M' ad' H1 locs1 hq hx hwf hP hD hSS => ?_)
  have hm : rest.map (w_cv ad') = rest.map (w_cv ad) := by
    rcases hok with hok | hok
    · exact hok.1.map hx.1 hx.2.1
    · rw [hx.2.2.2 (hok v sh' M' hq)]
  have hL : w_L K.2.2.1 ad' lv ls := by
    rcases hok with hok | hok
    · exact hS.2.2.2.1.mv hok.2 hx.1 hx.2.1
    · rw [hx.2.2.2 (hok v sh' M' hq)]; exact hS.2.2.2.1
  have h2 := k v sh' M' hq hx.2.2.1 p l e s m args below meth c A D3 D Qf ad' H1 locs1 ls hC ⟨hP, hD, hSS, hL, hcc, hwf, by
    have h3 := hS.2.2.2.2.2.2
    cases sx with
    | none => trivial
    | some q => exact hx.2.1.trans h3⟩ (hE.mv hx)
  rw [List.map_append, hm] at h2
  cases v with
  | none => exact h2
  | some x => exact h2
theorem Rn.callV (hd : decode K.2.1 pc = .ok (.invokevirtual index, 3)) (hs : w_site K K' n) (hl : Cond.methodLink K.1.cls index K'.1 ∈ lw_g) (hi : Cond.instanceMethod K'.1 ∈ lw_g) (hse : Cond.selects K'.1.cls K'.1 K'.1 ∈ lw_g) (hE' : Ev K' (.ref b :: As) sh M Q') (hst : st = As.reverse ++ .ref b :: rest) (hn : As.length = n) (hsh : sh[b]? = some (ci, z)) (hci : ∃ T N, vwCl[ci]? = some (K'.1.cls, T, N) ∧ ci ≠ 12 ∧ ci ≠ 13 ∧ ci ≠ 14) (hW : (rest.map fun v => v.category).sum ≤ 8)
    (hcc : cs.1 + K'.2.2.2.2.cells ≤ K.2.2.2.2.cells ∧ cs.2 + K'.2.2.2.2.slots ≤ K.2.2.2.2.slots) (hok : (w_in sh.length rest ∧ w_inL sh.length lv) ∨ ∀ v sh' M', Q' v sh' M' → sh'.length = sh.length)
    (k : ∀ v sh' M', Q' v sh' M' → sh.length ≤ sh'.length → Rn K sx (cs.1 + K'.2.2.2.2.cells, cs.2 + K'.2.2.2.2.slots) (pc + 3) lv (v.toList ++ rest) sh' M' Q) : Rn K sx cs pc lv st sh M Q := by
  subst hst
  intro p l e s m args below meth c A D3 D Qf ad H locs ls hC hS hE
  obtain ⟨T0, N0, hc1, hc2, hc3, hc4⟩ := hci
  have hts := hC.2.2.2.2.1
  refine w_back (a := (Value.ref (ad b) :: As.map (w_cv ad)).toArray) hC hS hE ?_ hcc hok k
  refine va_runV (C := K'.1.cls) (y := K'.1) (bytes := K'.2.1) (maxL := K'.2.2.1) (ret := K'.2.2.2.1) (ws := w_ws K') (rm := K'.2.2.2.2) (n := n) (Ts := lw_g) (own := K.1.cls) (index := index) (b := ad b) (As := As.map (w_cv ad)) (cc := K.2.1) (nL := K.2.2.1)
    ⟨hC.1, hC.2.1, hC.2.2.1, hC.2.2.2.1, hts⟩ (hE' hS.2.2.2.2.2.1 l D3 D ad H.size)
    ⟨callB_of n hts (w_good hs.1) rfl rfl rfl (hts _ hs.2.1) (hts _ hl) hs.2.2.1 hs.2.2.2, hts _ hi, hts _ hse⟩
    ⟨w_fb, va_recv hC.2.2.2.2.2.1 hS.1 hc1 (by rw [w_get hsh, w_cellO hc2 hc3 hc4]), fun U hU hW2 => ⟨rfl, by rw [hU], by rw [hU]; exact hS.1, va_K.moved hW2.alike hC.2.2.2.2.2.1, hS.2.1.weaken (fun _ _ _ _ => trivial), hC.2.2.2.2.2.2.2.1.warm hW2⟩⟩
    rfl (by simp [hn]) hS.2.2.2.1.1 (by simp [List.map_append, List.map_reverse, w_cv]) (lv_room ?_) hd hcc
  rw [List.map_map]
  have : ((fun v : Value => v.category) ∘ w_cv ad) = fun v => v.category := funext (fun v => w_cv_cat ad v)
  rw [this]; exact hW
theorem Rn.callVN {host : String} {j : Nat} (hd : decode K.2.1 pc = .ok (.invokevirtual index, 3)) (hs : w_site K K' n) (hl : w_nest[j]? = some (K.1.cls, index, K'.1, host)) (hi : Cond.instanceMethod K'.1 ∈ lw_g) (hse : Cond.selects K'.1.cls K'.1 K'.1 ∈ lw_g) (hE' : Ev K' (.ref b :: As) sh M Q') (hst : st = As.reverse ++ .ref b :: rest) (hn : As.length = n) (hsh : sh[b]? = some (ci, z)) (hci : ∃ T N, vwCl[ci]? = some (K'.1.cls, T, N) ∧ ci ≠ 12 ∧ ci ≠ 13 ∧ ci ≠ 14) (hW : (rest.map fun v => v.category).sum ≤ 8)
    (hcc : cs.1 + K'.2.2.2.2.cells ≤ K.2.2.2.2.cells ∧ cs.2 + K'.2.2.2.2.slots ≤ K.2.2.2.2.slots) (hok : (w_in sh.length rest ∧ w_inL sh.length lv) ∨ ∀ v sh' M', Q' v sh' M' → sh'.length = sh.length)
    (k : ∀ v sh' M', Q' v sh' M' → sh.length ≤ sh'.length → Rn K sx (cs.1 + K'.2.2.2.2.cells, cs.2 + K'.2.2.2.2.slots) (pc + 3) lv (v.toList ++ rest) sh' M' Q) : Rn K sx cs pc lv st sh M Q := by
  subst hst
  intro p l e s m args below meth c A D3 D Qf ad H locs ls hC hS hE
  obtain ⟨T0, N0, hc1, hc2, hc3, hc4⟩ := hci
  have hts := hC.2.2.2.2.1
  refine w_back (a := (Value.ref (ad b) :: As.map (w_cv ad)).toArray) hC hS hE ?_ hcc hok k
  refine va_runVN (C := K'.1.cls) (y := K'.1) (bytes := K'.2.1) (maxL := K'.2.2.1) (ret := K'.2.2.2.1) (ws := w_ws K') (rm := K'.2.2.2.2) (n := n) (Ts := lw_g) (own := K.1.cls) (host := host) (index := index) (b := ad b) (As := As.map (w_cv ad)) (cc := K.2.1) (nL := K.2.2.1)
    ⟨hC.1, hC.2.1, hC.2.2.1, hC.2.2.2.1, hts⟩ (hE' hS.2.2.2.2.2.1 l D3 D ad H.size)
    ⟨va_cnB n hts (w_good hs.1) rfl rfl rfl (hC.2.2.2.2.2.2.2.1 _ (List.mem_of_getElem? hl)) (hts _ hs.2.1) hs.2.2.1 hs.2.2.2, hts _ hi, hts _ hse⟩
    ⟨w_fb, va_recv hC.2.2.2.2.2.1 hS.1 hc1 (by rw [w_get hsh, w_cellO hc2 hc3 hc4]), fun U hU hW2 => ⟨rfl, by rw [hU], by rw [hU]; exact hS.1, va_K.moved hW2.alike hC.2.2.2.2.2.1, hS.2.1.weaken (fun _ _ _ _ => trivial), hC.2.2.2.2.2.2.2.1.warm hW2⟩⟩
    rfl (by simp [hn]) hS.2.2.2.1.1 (by simp [List.map_append, List.map_reverse, w_cv]) (lv_room ?_) hd hcc
  rw [List.map_map]
  have : ((fun v : Value => v.category) ∘ w_cv ad) = fun v => v.category := funext (fun v => w_cv_cat ad v)
  rw [this]; exact hW
theorem Rn.callS (hd : decode K.2.1 pc = .ok (.invokestatic index, 3)) (hs : w_site K K' n) (hl : Cond.methodLink K.1.cls index K'.1 ∈ lw_g) (hi : Cond.static K'.1 ∈ lw_g) (hE' : Ev K' As sh M Q') (hst : st = As.reverse ++ rest) (hn : As.length = n) (hW : (rest.map fun v => v.category).sum ≤ 8)
    (hcc : cs.1 + K'.2.2.2.2.cells ≤ K.2.2.2.2.cells ∧ cs.2 + K'.2.2.2.2.slots ≤ K.2.2.2.2.slots) (hok : (w_in sh.length rest ∧ w_inL sh.length lv) ∨ ∀ v sh' M', Q' v sh' M' → sh'.length = sh.length)
    (k : ∀ v sh' M', Q' v sh' M' → sh.length ≤ sh'.length → Rn K sx (cs.1 + K'.2.2.2.2.cells, cs.2 + K'.2.2.2.2.slots) (pc + 3) lv (v.toList ++ rest) sh' M' Q) : Rn K sx cs pc lv st sh M Q := by
  subst hst
  intro p l e s m args below meth c A D3 D Qf ad H locs ls hC hS hE
  have hts := hC.2.2.2.2.1
  refine w_back (a := (As.map (w_cv ad)).toArray) hC hS hE ?_ hcc hok k
  refine va_runS (y := K'.1) (bytes := K'.2.1) (maxL := K'.2.2.1) (ret := K'.2.2.2.1) (ws := w_ws K') (rm := K'.2.2.2.2) (n := n) (Ts := lw_g) (own := K.1.cls) (index := index) (As := As.map (w_cv ad)) (cc := K.2.1) (nL := K.2.2.1)
    ⟨hC.1, hC.2.1, hC.2.2.1, hC.2.2.2.1, hts⟩ (hE' hS.2.2.2.2.2.1 l D3 D ad H.size)
    ⟨callB_of n hts (w_good hs.1) rfl rfl rfl (hts _ hs.2.1) (hts _ hl) hs.2.2.1 hs.2.2.2, hts _ hi⟩
    ⟨w_fb, fun U hU hW2 => ⟨rfl, by rw [hU], by rw [hU]; exact hS.1, va_K.moved hW2.alike hC.2.2.2.2.2.1, hS.2.1.weaken (fun _ _ _ _ => trivial), hC.2.2.2.2.2.2.2.1.warm hW2⟩⟩
    rfl (by simp [hn]) hS.2.2.2.1.1 (by simp [List.map_append, List.map_reverse]) (lv_room ?_) hd hcc
  rw [List.map_map]
  have : ((fun v : Value => v.category) ∘ w_cv ad) = fun v => v.category := funext (fun v => w_cv_cat ad v)
  rw [this]; exact hW
theorem Rn.callSN {host : String} {j : Nat} (hd : decode K.2.1 pc = .ok (.invokestatic index, 3)) (hs : w_site K K' n) (hl : w_nest[j]? = some (K.1.cls, index, K'.1, host)) (hi : Cond.static K'.1 ∈ lw_g) (hE' : Ev K' As sh M Q') (hst : st = As.reverse ++ rest) (hn : As.length = n) (hW : (rest.map fun v => v.category).sum ≤ 8)
    (hcc : cs.1 + K'.2.2.2.2.cells ≤ K.2.2.2.2.cells ∧ cs.2 + K'.2.2.2.2.slots ≤ K.2.2.2.2.slots) (hok : (w_in sh.length rest ∧ w_inL sh.length lv) ∨ ∀ v sh' M', Q' v sh' M' → sh'.length = sh.length)
    (k : ∀ v sh' M', Q' v sh' M' → sh.length ≤ sh'.length → Rn K sx (cs.1 + K'.2.2.2.2.cells, cs.2 + K'.2.2.2.2.slots) (pc + 3) lv (v.toList ++ rest) sh' M' Q) : Rn K sx cs pc lv st sh M Q := by
  subst hst
  intro p l e s m args below meth c A D3 D Qf ad H locs ls hC hS hE
  have hts := hC.2.2.2.2.1
  refine w_back (a := (As.map (w_cv ad)).toArray) hC hS hE ?_ hcc hok k
  refine va_runSN (y := K'.1) (bytes := K'.2.1) (maxL := K'.2.2.1) (ret := K'.2.2.2.1) (ws := w_ws K') (rm := K'.2.2.2.2) (n := n) (Ts := lw_g) (own := K.1.cls) (host := host) (index := index) (As := As.map (w_cv ad)) (cc := K.2.1) (nL := K.2.2.1)
    ⟨hC.1, hC.2.1, hC.2.2.1, hC.2.2.2.1, hts⟩ (hE' hS.2.2.2.2.2.1 l D3 D ad H.size)
    ⟨va_cnB n hts (w_good hs.1) rfl rfl rfl (hC.2.2.2.2.2.2.2.1 _ (List.mem_of_getElem? hl)) (hts _ hs.2.1) hs.2.2.1 hs.2.2.2, hts _ hi, trivial⟩
    ⟨w_fb, fun U hU hW2 => ⟨rfl, by rw [hU], by rw [hU]; exact hS.1, va_K.moved hW2.alike hC.2.2.2.2.2.1, hS.2.1.weaken (fun _ _ _ _ => trivial), hC.2.2.2.2.2.2.2.1.warm hW2⟩⟩
    rfl (by simp [hn]) hS.2.2.2.1.1 (by simp [List.map_append, List.map_reverse]) (lv_room ?_) hd hcc
  rw [List.map_map]
  have : ((fun v : Value => v.category) ∘ w_cv ad) = fun v => v.category := funext (fun v => w_cv_cat ad v)
  rw [this]; exact hW
/-- a constructor -/
theorem Rn.callI (hret : K'.2.2.2.1 = none) (hd : decode K.2.1 pc = .ok (.invokespecial index, 3)) (hs : w_site K K' n) (hl : Cond.methodLink K.1.cls index K'.1 ∈ lw_g) (hi : Cond.instanceMethod K'.1 ∈ lw_g) (hnm : K'.1.name = "<init>") (hE' : Ev K' (.ref b :: As) sh M Q') (hst : st = As.reverse ++ .ref b :: rest) (hn : As.length = n) (hW : (rest.map fun v => v.category).sum ≤ 8)
    (hcc : cs.1 + K'.2.2.2.2.cells ≤ K.2.2.2.2.cells ∧ cs.2 + K'.2.2.2.2.slots ≤ K.2.2.2.2.slots) (hok : (w_in sh.length rest ∧ w_inL sh.length lv) ∨ ∀ v sh' M', Q' v sh' M' → sh'.length = sh.length)
    (k : ∀ v sh' M', Q' v sh' M' → sh.length ≤ sh'.length → Rn K sx (cs.1 + K'.2.2.2.2.cells, cs.2 + K'.2.2.2.2.slots) (pc + 3) lv (v.toList ++ rest) sh' M' Q) : Rn K sx cs pc lv st sh M Q := by
  subst hst
  intro p l e s m args below meth c A D3 D Qf ad H locs ls hC hS hE
  have hts := hC.2.2.2.2.1
  refine w_back (a := (Value.ref (ad b) :: As.map (w_cv ad)).toArray) hC hS hE ?_ hcc hok k
  have hs1 := hs.1
  have hM := hE' hS.2.2.2.2.2.1 l D3 D ad H.size
  refine va_runI (y := K'.1) (bytes := K'.2.1) (maxL := K'.2.2.1) (ws := w_ws K') (rm := K'.2.2.2.2) (n := n) (Ts := lw_g) (own := K.1.cls) (index := index) (b := ad b) (As := As.map (w_cv ad)) (cc := K.2.1) (nL := K.2.2.1)
    ⟨hC.1, hC.2.1, hC.2.2.1, hC.2.2.2.1, hts⟩ hM
    ⟨by rw [← hret]; exact callB_of n hts (w_good hs1) rfl rfl rfl (hts _ hs.2.1) (hts _ hl) hs.2.2.1 hs.2.2.2, hnm, hts _ hi⟩
    ⟨w_fb, fun U hU hW2 => ⟨rfl, by rw [hU], by rw [hU]; exact hS.1, va_K.moved hW2.alike hC.2.2.2.2.2.1, hS.2.1.weaken (fun _ _ _ _ => trivial), hC.2.2.2.2.2.2.2.1.warm hW2⟩⟩
    rfl (by simp [hn]) hS.2.2.2.1.1 (by simp [List.map_append, List.map_reverse, w_cv]) (lv_room ?_) hd hcc
  rw [List.map_map]
  have : ((fun v : Value => v.category) ∘ w_cv ad) = fun v => v.category := funext (fun v => w_cv_cat ad v)
  rw [this]; exact hW
theorem Rn.callIN {host : String} {j : Nat} (hret : K'.2.2.2.1 = none) (hd : decode K.2.1 pc = .ok (.invokespecial index, 3)) (hs : w_site K K' n) (hl : w_nest[j]? = some (K.1.cls, index, K'.1, host)) (hi : Cond.instanceMethod K'.1 ∈ lw_g) (hnm : K'.1.name = "<init>") (hE' : Ev K' (.ref b :: As) sh M Q') (hst : st = As.reverse ++ .ref b :: rest) (hn : As.length = n) (hW : (rest.map fun v => v.category).sum ≤ 8)
    (hcc : cs.1 + K'.2.2.2.2.cells ≤ K.2.2.2.2.cells ∧ cs.2 + K'.2.2.2.2.slots ≤ K.2.2.2.2.slots) (hok : (w_in sh.length rest ∧ w_inL sh.length lv) ∨ ∀ v sh' M', Q' v sh' M' → sh'.length = sh.length)
    (k : ∀ v sh' M', Q' v sh' M' → sh.length ≤ sh'.length → Rn K sx (cs.1 + K'.2.2.2.2.cells, cs.2 + K'.2.2.2.2.slots) (pc + 3) lv (v.toList ++ rest) sh' M' Q) : Rn K sx cs pc lv st sh M Q := by
  subst hst
  intro p l e s m args below meth c A D3 D Qf ad H locs ls hC hS hE
  have hts := hC.2.2.2.2.1
  refine w_back (a := (Value.ref (ad b) :: As.map (w_cv ad)).toArray) hC hS hE ?_ hcc hok k
  have hs1 := hs.1
  refine va_runIN (y := K'.1) (bytes := K'.2.1) (maxL := K'.2.2.1) (ws := w_ws K') (rm := K'.2.2.2.2) (n := n) (Ts := lw_g) (own := K.1.cls) (host := host) (index := index) (b := ad b) (As := As.map (w_cv ad)) (cc := K.2.1) (nL := K.2.2.1)
    ⟨hC.1, hC.2.1, hC.2.2.1, hC.2.2.2.1, hts⟩ (hE' hS.2.2.2.2.2.1 l D3 D ad H.size)
    ⟨by rw [← hret]; exact va_cnB n hts (w_good hs1) rfl rfl rfl (hC.2.2.2.2.2.2.2.1 _ (List.mem_of_getElem? hl)) (hts _ hs.2.1) hs.2.2.1 hs.2.2.2, hnm, hts _ hi⟩
    ⟨w_fb, fun U hU hW2 => ⟨rfl, by rw [hU], by rw [hU]; exact hS.1, va_K.moved hW2.alike hC.2.2.2.2.2.1, hS.2.1.weaken (fun _ _ _ _ => trivial), hC.2.2.2.2.2.2.2.1.warm hW2⟩⟩
    rfl (by simp [hn]) hS.2.2.2.1.1 (by simp [List.map_append, List.map_reverse, w_cv]) (lv_room ?_) hd hcc
  rw [List.map_map]
  have : ((fun v : Value => v.category) ∘ w_cv ad) = fun v => v.category := funext (fun v => w_cv_cat ad v)
  rw [this]; exact hW
end CALLS
