/-! A world by numbers: the cells of the system have numbers 0, 1, ..; what they hold is a memory of ints, longs and references by number and place. -/
abbrev wM : Type := (Nat → Nat → Int32) × (Nat → Nat → Int64) × (Nat → Nat → Option Nat)
/-- kind (0 to 11 a class of vwCl, 12 int[], 13 long[], 14 boolean[]) and length, by number -/
abbrev wSh : Type := List (Nat × Nat)
abbrev wD : Type := ClassId × ClassId × ClassId
def w_cv (ad : Nat → Nat) : Value → Value
  | .ref k => .ref (ad k)
  | v => v
theorem w_cv_cat (ad : Nat → Nat) (v : Value) : (w_cv ad v).category = v.category := by cases v <;> rfl
def w_fs (ad : Nat → Nat) (M : wM) (k : Nat) : Nat → List Bool → List Value
  | _, [] => []
  | i, true :: t => va_rf ((M.2.2 k i).map ad) :: w_fs ad M k (i + 1) t
  | i, false :: t => .int (M.1 k i) :: w_fs ad M k (i + 1) t
def w_cell (D3 : wD) (ad : Nat → Nat) (M : wM) (k : Nat) (s : Nat × Nat) : va_E :=
  if s.1 = 12 then .inl (D3.1, s.2, .inl (M.1 k)) else if s.1 = 13 then .inl (D3.2.1, s.2, .inr (.inl (M.2.1 k))) else if s.1 = 14 then .inl (D3.2.2, s.2, .inl (M.1 k)) else .inr (s.1, w_fs ad M k 0 (w_fk s.1))
def w_W (D3 : wD) (ad : Nat → Nat) (sh : wSh) (M : wM) : va_W := sh.mapIdx (fun k s => (ad k, w_cell D3 ad M k s))
def w_ty (D3 : wD) : List (ClassId × FieldType) := [(D3.1, .int), (D3.2.1, .long), (D3.2.2, .boolean)]
def w_ui (M : wM) (k j : Nat) (x : Int32) : wM := (va_up M.1 k (upd (M.1 k) j x), M.2)
def w_ul (M : wM) (k j : Nat) (x : Int64) : wM := (M.1, va_up M.2.1 k (vp_updL (M.2.1 k) j x), M.2.2)
def w_ur (M : wM) (k j : Nat) (x : Option Nat) : wM := (M.1, M.2.1, va_up M.2.2 k (fun i => if i = j then x else M.2.2 k i))
theorem w_ui_2 (M : wM) (k j : Nat) (x : Int32) : (w_ui M k j x).2 = M.2 := rfl
theorem w_ui_at (M : wM) (k j : Nat) (x : Int32) : (w_ui M k j x).1 k j = x := by simp [w_ui, va_up, upd]
theorem w_ui_row (M : wM) (k j i : Nat) (x : Int32) (h : i ≠ j) : (w_ui M k j x).1 k i = M.1 k i := by simp [w_ui, va_up, upd, h]
theorem w_ui_off (M : wM) (k j a : Nat) (x : Int32) (h : a ≠ k) : (w_ui M k j x).1 a = M.1 a := by simp [w_ui, va_up, h]
theorem w_ui_if (M : wM) (k j a i : Nat) (x : Int32) : (w_ui M k j x).1 a i = if a = k ∧ i = j then x else M.1 a i := by
  by_cases h : a = k
  · subst h
    by_cases h2 : i = j
    · subst h2; simp [w_ui_at]
    · simp [w_ui_row _ _ _ _ _ h2, h2]
  · rw [w_ui_off _ _ _ _ _ h]; simp [h]
theorem w_ul_1 (M : wM) (k j : Nat) (x : Int64) : (w_ul M k j x).1 = M.1 := rfl
theorem w_ul_22 (M : wM) (k j : Nat) (x : Int64) : (w_ul M k j x).2.2 = M.2.2 := rfl
theorem w_ul_if (M : wM) (k j a i : Nat) (x : Int64) : (w_ul M k j x).2.1 a i = if a = k ∧ i = j then x else M.2.1 a i := by
  by_cases h : a = k
  · subst h
    by_cases h2 : i = j
    · subst h2; simp [w_ul, va_up, vp_updL]
    · simp [w_ul, va_up, vp_updL, h2]
  · simp [w_ul, va_up, h]
theorem w_ur_1 (M : wM) (k j : Nat) (x : Option Nat) : (w_ur M k j x).1 = M.1 := rfl
theorem w_ur_21 (M : wM) (k j : Nat) (x : Option Nat) : (w_ur M k j x).2.1 = M.2.1 := rfl
theorem w_ur_if (M : wM) (k j a i : Nat) (x : Option Nat) : (w_ur M k j x).2.2 a i = if a = k ∧ i = j then x else M.2.2 a i := by
  by_cases h : a = k
  · subst h; simp [w_ur, va_up]
  · simp [w_ur, va_up, h]
theorem w_get {D3 : wD} {ad : Nat → Nat} {sh : wSh} {M : wM} {k : Nat} {s : Nat × Nat} (h : sh[k]? = some s) : (w_W D3 ad sh M)[k]? = some (ad k, w_cell D3 ad M k s) := by
  simp [w_W, List.getElem?_mapIdx, h]
theorem w_len (D3 : wD) (ad : Nat → Nat) (sh : wSh) (M : wM) : (w_W D3 ad sh M).length = sh.length := by simp [w_W]
theorem w_fs_len (ad : Nat → Nat) (M : wM) (k : Nat) : ∀ (t : List Bool) (i : Nat), (w_fs ad M k i t).length = t.length
  | [], _ => rfl
  | true :: t, i => by simp [w_fs, w_fs_len ad M k t (i + 1)]
  | false :: t, i => by simp [w_fs, w_fs_len ad M k t (i + 1)]
def w_fv (ad : Nat → Nat) (M : wM) (k : Nat) (i : Nat) : Bool → Value
  | true => va_rf ((M.2.2 k i).map ad)
  | false => .int (M.1 k i)
theorem w_fs_get (ad : Nat → Nat) (M : wM) (k : Nat) : ∀ (t : List Bool) (i j : Nat) (b : Bool), t[j]? = some b → (w_fs ad M k i t)[j]? = some (w_fv ad M k (i + j) b)
  | [], _, _, _, h => by simp at h
  | c :: t, i, 0, b, h => by
    simp at h
    subst h
    cases c <;> simp [w_fs, w_fv]
  | c :: t, i, j + 1, b, h => by
    simp at h
    have h2 := w_fs_get ad M k t (i + 1) j b h
    cases c <;> simp [w_fs, h2, Nat.add_assoc, Nat.add_comm 1 j]
theorem w_fs_congr (ad ad' : Nat → Nat) (M M' : wM) (k : Nat) (h1 : M'.1 k = M.1 k) (h2 : ∀ i, (M'.2.2 k i).map ad' = (M.2.2 k i).map ad) : ∀ (t : List Bool) (i : Nat), w_fs ad' M' k i t = w_fs ad M k i t
  | [], _ => rfl
  | true :: t, i => by simp only [w_fs, h2, w_fs_congr ad ad' M M' k h1 h2 t (i + 1)]
  | false :: t, i => by simp only [w_fs, h1, w_fs_congr ad ad' M M' k h1 h2 t (i + 1)]
theorem w_fs_set {ad : Nat → Nat} {M M' : wM} {k : Nat} {t : List Bool} {j : Nat} {v : Value} {b : Bool} (hj : t[j]? = some b) (hv : w_fv ad M' k j b = v) (h1 : ∀ i, i ≠ j → M'.1 k i = M.1 k i) (h2 : ∀ i, i ≠ j → M'.2.2 k i = M.2.2 k i) : (w_fs ad M k 0 t).set j v = w_fs ad M' k 0 t := by
  apply List.ext_getElem?
  intro i
  have hl : j < (w_fs ad M k 0 t).length := by rw [w_fs_len]; exact (List.getElem?_eq_some_iff.mp hj).1
  by_cases hi : i = j
  · subst hi
    rw [List.getElem?_set_self hl, w_fs_get ad M' k t 0 i b hj, Nat.zero_add, hv]
  · rw [List.getElem?_set_ne (Ne.symm hi)]
    cases hc : t[i]? with
    | none =>
      have hl2 : t.length ≤ i := by simpa using hc
      rw [List.getElem?_eq_none (by rw [w_fs_len]; exact hl2), List.getElem?_eq_none (by rw [w_fs_len]; exact hl2)]
    | some c =>
      rw [w_fs_get ad M k t 0 i c hc, w_fs_get ad M' k t 0 i c hc]
      cases c <;> simp [w_fv, h1 i hi, h2 i hi]
theorem w_cell_congr {D3 : wD} {ad ad' : Nat → Nat} {M M' : wM} {k : Nat} {s : Nat × Nat} (h1 : M'.1 k = M.1 k) (h2 : M'.2.1 k = M.2.1 k) (h3 : ∀ i, (M'.2.2 k i).map ad' = (M.2.2 k i).map ad) : w_cell D3 ad' M' k s = w_cell D3 ad M k s := by
  simp only [w_cell, h1, h2, w_fs_congr ad ad' M M' k h1 h3]
theorem w_set {D3 : wD} {ad : Nat → Nat} {sh : wSh} {M M' : wM} {k : Nat} {s : Nat × Nat} {e : va_E} (h : sh[k]? = some s) (he : e = w_cell D3 ad M' k s) (ho : ∀ j, j ≠ k → M'.1 j = M.1 j ∧ M'.2.1 j = M.2.1 j ∧ M'.2.2 j = M.2.2 j) : (w_W D3 ad sh M).set k (ad k, e) = w_W D3 ad sh M' := by
  apply List.ext_getElem?
  intro i
  have hl : k < (w_W D3 ad sh M).length := by rw [w_len]; exact (List.getElem?_eq_some_iff.mp h).1
  by_cases hi : i = k
  · subst hi
    rw [List.getElem?_set_self hl, w_get h, he]
  · rw [List.getElem?_set_ne (Ne.symm hi)]
    cases hc : sh[i]? with
    | none =>
      have hl2 : sh.length ≤ i := by simpa using hc
      rw [List.getElem?_eq_none (by rw [w_len]; exact hl2), List.getElem?_eq_none (by rw [w_len]; exact hl2)]
    | some c =>
      obtain ⟨o1, o2, o3⟩ := ho i hi
      rw [w_get hc, w_get hc, w_cell_congr o1 o2 (fun j => by rw [o3])]
/-- references lie within -/
def w_wf (sh : wSh) (M : wM) : Prop := ∀ k i j, M.2.2 k i = some j → j < sh.length
theorem w_push {D3 : wD} {ad : Nat → Nat} {sh : wSh} {M M' : wM} {s : Nat × Nat} {q : Nat} {e : va_E} (hw : w_wf sh M) (ho : ∀ j, j < sh.length → M'.1 j = M.1 j ∧ M'.2.1 j = M.2.1 j ∧ M'.2.2 j = M.2.2 j) (he : e = w_cell D3 (va_up ad sh.length q) M' sh.length s) : w_W D3 ad sh M ++ [(q, e)] = w_W D3 (va_up ad sh.length q) (sh ++ [s]) M' := by
  apply List.ext_getElem?
  intro i
  by_cases hi : i < sh.length
  · rw [List.getElem?_append_left (by rw [w_len]; exact hi)]
    cases hc : sh[i]? with
    | none => rw [List.getElem?_eq_none_iff] at hc; omega
    | some c =>
      rw [w_get hc, w_get (sh := sh ++ [s]) (by rw [List.getElem?_append_left hi]; exact hc)]
      obtain ⟨o1, o2, o3⟩ := ho i hi
      have e1 : va_up ad sh.length q i = ad i := by simp [va_up, Nat.ne_of_lt hi]
      rw [e1, w_cell_congr (ad := ad) o1 o2 (fun j => by
        rw [o3]
        cases hr : M.2.2 i j with
        | none => rfl
        | some x =>
          have hx : x < sh.length := hw i j x hr
          simp [va_up, Nat.ne_of_lt hx])]
  · by_cases h2 : i = sh.length
    · subst h2
      rw [w_get (sh := sh ++ [s]) (s := s) (by simp), List.getElem?_append_right (by rw [w_len]; exact Nat.le_refl _), w_len, Nat.sub_self]
      simp [va_up, he]
    · rw [List.getElem?_eq_none (by simp [w_len]; omega), List.getElem?_eq_none (by rw [w_len]; simp; omega)]
theorem w_addr {D3 : wD} {ad : Nat → Nat} {sh : wSh} {M : wM} {k : Nat} {q : Nat × va_E} (h : (w_W D3 ad sh M)[k]? = some q) : k < sh.length ∧ q.1 = ad k := by
  have hl : k < sh.length := by
    have h1 := (List.getElem?_eq_some_iff.mp h).1
    rw [w_len] at h1
    exact h1
  rw [w_get (List.getElem?_eq_getElem hl)] at h
  cases h
  exact ⟨hl, rfl⟩
/-- the words of calls of a nest mate's private methods hold -/
def w_nw (U : State) : Prop := ∀ q ∈ w_nest, va_Nw (.methodLinkNest q.1 q.2.1 q.2.2.1 q.2.2.2) U
theorem w_nw.warm {s U : State} (hW : s.WarmedH U.vm) (h : w_nw s) : w_nw U := fun q hq => va_Nw.warmM hW (h q hq)
theorem w_nw.same {u U : State} (hv : u.vm = U.vm) (h : w_nw u) : w_nw U := fun q hq => va_Nw.same rfl hv (h q hq)
