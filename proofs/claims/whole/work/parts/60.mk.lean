/-! What is made: constructors, over the first cells of the shape. -/
set_option maxRecDepth 20000
set_option maxHeartbeats 400000
theorem tk_len {n : Nat} (h : n ≤ 58) : (SH.take n).length = n := by
  rw [List.length_take]
  have : SH.length = 58 := rfl
  omega
theorem tk_get {k n : Nat} {x : Nat × Nat} (h : SH[k]? = some x) (hk : k < n) : (SH.take n)[k]? = some x := by
  rw [List.getElem?_take, if_pos hk]; exact h
theorem tk_new {n : Nat} {x : Nat × Nat} (h : SH[n]? = some x) : SH.take n ++ [x] = SH.take (n + 1) := by
  rw [List.take_add_one, h]; rfl
theorem tk_all : SH.take 58 = SH := rfl
theorem wi0 {n : Nat} : w_in n [] := fun k hk => by simp at hk
theorem wir {n k : Nat} {l : List Value} (h : k < n) (t : w_in n l) : w_in n (.ref k :: l) := fun j hj => by
  rcases List.mem_cons.mp hj with e | e
  · cases e; exact Or.inl h
  · exact t j e
theorem wii {n : Nat} {x : Int32} {l : List Value} (t : w_in n l) : w_in n (.int x :: l) := fun j hj => by
  rcases List.mem_cons.mp hj with e | e
  · cases e
  · exact t j e
theorem wL0 {n : Nat} : w_inL n [] := fun k hk => by simp at hk
theorem wLr {n k : Nat} {l : List (Option Value)} (h : k < n) (t : w_inL n l) : w_inL n (some (.ref k) :: l) := fun j hj => by
  rcases List.mem_cons.mp hj with e | e
  · cases e; exact Or.inl h
  · exact t j e
theorem wLs {n : Nat} {l : List (Option Value)} (t : w_inL n l) : w_inL n (some (.ref w_scr) :: l) := fun j hj => by
  rcases List.mem_cons.mp hj with e | e
  · cases e; exact Or.inr rfl
  · exact t j e
theorem wLi {n : Nat} {x : Int32} {l : List (Option Value)} (t : w_inL n l) : w_inL n (some (.int x) :: l) := fun j hj => by
  rcases List.mem_cons.mp hj with e | e
  · cases e
  · exact t j e
theorem wLn {n : Nat} {l : List (Option Value)} (t : w_inL n l) : w_inL n (none :: l) := fun j hj => by
  rcases List.mem_cons.mp hj with e | e
  · cases e
  · exact t j e
section RM
variable {K : wK} {sx : Option (Nat × (Nat → Int32) × Nat)} {cs : Nat × Nat} {pc : Nat} {lv : List (Option Value)} {st : List Value} {M : wM} {Q : Option Value → wSh → wM → Nat × Nat → Prop} {index n ci : Nat}
theorem Rn.mk {C : String} {N : Nat} (hd : decode K.2.1 pc = .ok (.new index, 3)) (hm : w_mk ci C N) (hl : Cond.classLink K.1.cls index C ∈ lw_g) (hcc : cs.1 + 1 ≤ K.2.2.2.2.cells ∧ cs.2 + N ≤ K.2.2.2.2.slots) (hz : SH[n]? = some (ci, 0)) (hn : n < 58) (hok : w_in n st ∧ w_inL n lv)
    (k : Rn K sx (cs.1 + 1, cs.2 + N) (pc + 3) lv (.ref n :: st) (SH.take (n + 1)) (w_z M n) Q) : Rn K sx cs pc lv st (SH.take n) M Q := by
  have e := tk_len (show n ≤ 58 by omega)
  refine Rn.new hd hm hl hcc (by rw [e]; unfold w_scr; omega) (by rw [e]; exact hok) ?_
  rw [e, tk_new hz]; exact k
theorem Rn.mkI {x : Int32} {z : Nat} (hd : decode K.2.1 pc = .ok (.newarray .int, 2)) (hx : ¬ x < 0) (hxz : x.toNatClampNeg = z) (hzb : z ≤ 10000) (hcc : cs.1 + 1 ≤ K.2.2.2.2.cells ∧ cs.2 + z ≤ K.2.2.2.2.slots) (hz : SH[n]? = some (12, z)) (hn : n < 58) (hok : w_in n st ∧ w_inL n lv)
    (k : Rn K sx (cs.1 + 1, cs.2 + z) (pc + 2) lv (.ref n :: st) (SH.take (n + 1)) (w_z M n) Q) : Rn K sx cs pc lv (.int x :: st) (SH.take n) M Q := by
  have e := tk_len (show n ≤ 58 by omega)
  refine Rn.newI hd hx hxz hzb hcc (by rw [e]; unfold w_scr; omega) (by rw [e]; exact hok) ?_
  rw [e, tk_new hz]; exact k
theorem Rn.mkL {x : Int32} {z : Nat} (hd : decode K.2.1 pc = .ok (.newarray .long, 2)) (hx : ¬ x < 0) (hxz : x.toNatClampNeg = z) (hzb : z ≤ 10000) (hcc : cs.1 + 1 ≤ K.2.2.2.2.cells ∧ cs.2 + z ≤ K.2.2.2.2.slots) (hz : SH[n]? = some (13, z)) (hn : n < 58) (hok : w_in n st ∧ w_inL n lv)
    (k : Rn K sx (cs.1 + 1, cs.2 + z) (pc + 2) lv (.ref n :: st) (SH.take (n + 1)) (w_z M n) Q) : Rn K sx cs pc lv (.int x :: st) (SH.take n) M Q := by
  have e := tk_len (show n ≤ 58 by omega)
  refine Rn.newL hd hx hxz hzb hcc (by rw [e]; unfold w_scr; omega) (by rw [e]; exact hok) ?_
  rw [e, tk_new hz]; exact k
theorem Rn.mkZ {x : Int32} {z : Nat} (hd : decode K.2.1 pc = .ok (.newarray .boolean, 2)) (hx : ¬ x < 0) (hxz : x.toNatClampNeg = z) (hzb : z ≤ 10000) (hcc : cs.1 + 1 ≤ K.2.2.2.2.cells ∧ cs.2 + z ≤ K.2.2.2.2.slots) (hz : SH[n]? = some (14, z)) (hn : n < 58) (hok : w_in n st ∧ w_inL n lv)
    (k : Rn K sx (cs.1 + 1, cs.2 + z) (pc + 2) lv (.ref n :: st) (SH.take (n + 1)) (w_z M n) Q) : Rn K sx cs pc lv (.int x :: st) (SH.take n) M Q := by
  have e := tk_len (show n ≤ 58 by omega)
  refine Rn.newZ hd hx hxz hzb hcc (by rw [e]; unfold w_scr; omega) (by rw [e]; exact hok) ?_
  rw [e, tk_new hz]; exact k
theorem Rn.nret {P : wM → Prop} {n' : Nat} (hd : decode K.2.1 pc = .ok (.return_, 1)) (hr : K.2.2.2.1 = none) (hq : P M) (hc : cs.1 ≤ K.2.2.2.2.cells) (hs : cs.2 ≤ K.2.2.2.2.slots) : Rn K sx cs pc lv [] (SH.take n') M (fun v sh' M' cs' => (v = none ∧ sh' = SH.take n' ∧ P M') ∧ cs'.1 ≤ K.2.2.2.2.cells ∧ cs'.2 ≤ K.2.2.2.2.slots) :=
  Rn.ret (v := none) ⟨hd, hr⟩ rfl ⟨⟨rfl, rfl, hq⟩, hc, hs⟩
end RM
/-- the contract of a constructor of the cells from h to n -/
def EvN (K : wK) (h n : Nat) (M : wM) (P : wM → Prop) : Prop := Ev K [.ref h] (SH.take (h + 1)) M (fun v sh' M' => v = none ∧ sh' = SH.take n ∧ P M')
/-- made: the cells from h to e, and no other -/
def Mkd (M M' : wM) (h e : Nat) : Prop := (∀ k, (k < h ∨ e ≤ k) → M'.1 k = M.1 k ∧ M'.2.2 k = M.2.2 k) ∧ (∀ k, h ≤ k → k < e → M'.2.2 k = RG k)
theorem Mkd.i {M M' : wM} {h e : Nat} (k : Mkd M M' h e) : Off M (M'.1, M.2) h e := ⟨fun j hj => (k.1 j hj).1, rfl⟩
theorem zi (M : wM) (n k : Nat) : (w_z M n).1 k = if k = n then (fun _ => 0) else M.1 k := by simp only [w_z, va_up]
theorem zr (M : wM) (n k : Nat) : (w_z M n).2.2 k = if k = n then (fun _ => none) else M.2.2 k := by simp only [w_z, va_up]
theorem ur (M : wM) (a j k : Nat) (x : Option Nat) : (w_ur M a j x).2.2 k = if k = a then (fun i => if i = j then x else M.2.2 a i) else M.2.2 k := by simp only [w_ur, va_up]
def be0 : Nat → Int := fun k => if k = 0 then -6 else if k < 12 then ((k : Int) - 1) / 2 else if k < 18 then -6 else 0
theorem m_Act_init {M : wM} {h : Nat} (hh : isAct h) (hr : M.2.2 h = fun _ => none) : EvN k_Act_init h (h + 1) M (fun M' => Mkd M M' h (h + 1)) := by
  have hb : h < 50 := by rcases hh with rfl | rfl <;> decide
  have hR : RG h = fun _ => none := by rcases hh with rfl | rfl <;> (funext i; rcases i with _ | _ | _ | i <;> rfl)
  refine Ev.of 0 (by decide) (Nat.le_of_ble_eq_true rfl) rfl ?_
  refine Rn.aload_n d_Act_init_0 rfl ?_
  refine Rn.objInit d_Act_init_1 g_99 g_22 g_23 (Nat.le_of_ble_eq_true rfl) (Nat.le_of_ble_eq_true rfl) ?_
  refine Rn.aload_n d_Act_init_4 rfl ?_
  refine Rn.iconst (v := iI 5) d_Act_init_5 rfl ?_
  refine In.putI d_Act_init_6 f_Act_kind g_100 (tk_get (z_Act (by first | assumption | exact i_Telling_act | exact i_Year_act)) (by omega)) ?_
  refine Rn.aload_n d_Act_init_9 rfl ?_
  refine Rn.iconst (v := iI 0) d_Act_init_10 rfl ?_
  refine In.putI d_Act_init_11 f_Act_one g_101 (tk_get (z_Act (by first | assumption | exact i_Telling_act | exact i_Year_act)) (by omega)) ?_
  refine Rn.aload_n d_Act_init_14 rfl ?_
  refine Rn.iconst (v := iI 0) d_Act_init_15 rfl ?_
  refine In.putI d_Act_init_16 f_Act_other g_102 (tk_get (z_Act (by first | assumption | exact i_Telling_act | exact i_Year_act)) (by omega)) ?_
  refine Rn.nret d_Act_init_19 rfl ⟨fun k hk => ⟨by simp [w_ui, va_up, show k ≠ h by omega], rfl⟩, fun k h1 h2 => ?_⟩ (by decide) (by decide)
  have : k = h := by omega
  subst this
  rw [hR]; exact hr
theorem m_Tree_init {M : wM} {h : Nat} (hh : isTree h) (hr : M.2.2 h = fun _ => none) : EvN k_Tree_init h (h + 2) M (fun M' => Mkd M M' h (h + 2) ∧ treeAt M' h be0) := by
  have hb : h < 50 := by rcases hh with rfl | rfl | rfl | rfl | rfl <;> decide
  have hR : RG h = fun i => if i = 0 then some (h + 1) else none := by rcases hh with rfl | rfl | rfl | rfl | rfl <;> (funext i; rcases i with _ | i <;> rfl)
  have hR1 : RG (h + 1) = fun _ => none := by rcases hh with rfl | rfl | rfl | rfl | rfl <;> (funext i; rfl)
  refine Ev.of 1 (by decide) (Nat.le_of_ble_eq_true rfl) rfl ?_
  refine Rn.aload_n d_Tree_init_0 rfl ?_
  refine Rn.objInit d_Tree_init_1 g_35 g_22 g_23 (Nat.le_of_ble_eq_true rfl) (Nat.le_of_ble_eq_true rfl) ?_
  refine Rn.aload_n d_Tree_init_4 rfl ?_
  refine Rn.bipush (v := iI 12) d_Tree_init_5 (by decide +kernel) ?_
  refine Rn.mkI d_Tree_init_7 (by decide +kernel) (by decide +kernel) (by decide) ⟨by decide, by decide⟩ (z_Tree_parents (by first | assumption | exact i_Hill_tree (by assumption) | exact i_Hill_tree i_BH_hill)) (by omega) ⟨by repeat first | exact wi0 | refine wir (by omega) ?_ | refine wii ?_, by repeat first | exact wL0 | refine wLr (by omega) ?_ | refine wLi ?_ | refine wLn ?_⟩ ?_
  refine Rn.putR d_Tree_init_9 f_Tree_parents g_36 (tk_get (z_Tree (by first | assumption | exact i_Hill_tree (by assumption) | exact i_Hill_tree i_BH_hill)) (by omega)) rfl (fun _ => rfl) (fun _ => rfl) rfl rfl (by rw [tk_len (by omega)]; omega) ?_
  refine Rn.iconst (v := iI 1) d_Tree_init_12 rfl ?_
  refine Rn.istore_n (lv1 := [_, _]) d_Tree_init_13 (by decide) (w_pv rfl) rfl ?_
  have loop : ∀ (d k : Nat) (Mc : wM), k + d = 12 → 1 ≤ k → Mkd M Mc h (h + 2) → (∀ j, 1 ≤ j → j < k → Mc.1 (h + 1) j = iI (be0 j)) → Rn k_Tree_init none (0 + 1, 0 + 12) 14 [some (.ref h), some (.int (iI k))] [] (SH.take (h + 1 + 1)) Mc (fun v sh' M' cs' => (v = none ∧ sh' = SH.take (h + 2) ∧ Mkd M M' h (h + 2) ∧ treeAt M' h be0) ∧ cs'.1 ≤ (k_Tree_init).2.2.2.2.cells ∧ cs'.2 ≤ (k_Tree_init).2.2.2.2.slots) := by
    intro d
    induction d with
    | zero =>
      intro k Mc h1 h2 h3 h4
      have hg : Mc.2.2 h 0 = some (h + 1) := by rw [h3.2 h (Nat.le_refl _) (by omega), hR]; rfl
      refine Rn.iload_n d_Tree_init_14 rfl ?_
      refine Rn.aload_n d_Tree_init_15 rfl ?_
      refine Rn.getR d_Tree_init_16 f_Tree_parents g_36 (tk_get (z_Tree (by first | assumption | exact i_Hill_tree (by assumption) | exact i_Hill_tree i_BH_hill)) (by omega)) hg ?_
      refine In.alen d_Tree_init_19 (tk_get (z_Tree_parents (by first | assumption | exact i_Hill_tree (by assumption) | exact i_Hill_tree i_BH_hill)) (by omega)) (by decide) ?_
      refine In.icmp_ge (tgt := 40) d_Tree_init_20 (by decide) ⟨by omega, by omega⟩ ⟨by omega, by omega⟩ (fun c20 => ?_) (fun c20 => ?_)
      · exact Rn.nret d_Tree_init_40 rfl ⟨h3, fun j j1 j2 => h4 j j1 (by omega)⟩ (by decide) (by decide)
      · omega
    | succ d ih =>
      intro k Mc h1 h2 h3 h4
      have hg : Mc.2.2 h 0 = some (h + 1) := by rw [h3.2 h (Nat.le_refl _) (by omega), hR]; rfl
      refine Rn.iload_n d_Tree_init_14 rfl ?_
      refine Rn.aload_n d_Tree_init_15 rfl ?_
      refine Rn.getR d_Tree_init_16 f_Tree_parents g_36 (tk_get (z_Tree (by first | assumption | exact i_Hill_tree (by assumption) | exact i_Hill_tree i_BH_hill)) (by omega)) hg ?_
      refine In.alen d_Tree_init_19 (tk_get (z_Tree_parents (by first | assumption | exact i_Hill_tree (by assumption) | exact i_Hill_tree i_BH_hill)) (by omega)) (by decide) ?_
      refine In.icmp_ge (tgt := 40) d_Tree_init_20 (by decide) ⟨by omega, by omega⟩ ⟨by omega, by omega⟩ (fun c20 => ?_) (fun c20 => ?_)
      · omega
      · refine Rn.aload_n d_Tree_init_23 rfl ?_
        refine Rn.getR d_Tree_init_24 f_Tree_parents g_36 (tk_get (z_Tree (by first | assumption | exact i_Hill_tree (by assumption) | exact i_Hill_tree i_BH_hill)) (by omega)) hg ?_
        refine Rn.iload_n d_Tree_init_27 rfl ?_
        refine Rn.iload_n d_Tree_init_28 rfl ?_
        refine Rn.iconst (v := iI 1) d_Tree_init_29 rfl ?_
        refine In.sub d_Tree_init_30 ?_
        refine Rn.iconst (v := iI 2) d_Tree_init_31 rfl ?_
        refine In.div d_Tree_init_32 ⟨by omega, by omega⟩ ⟨by decide, by decide⟩ ?_
        refine In.ast d_Tree_init_33 (tk_get (z_Tree_parents (by first | assumption | exact i_Hill_tree (by assumption) | exact i_Hill_tree i_BH_hill)) (by omega)) rfl (by omega) (by decide) ?_
        refine In.inc (lv1 := [_, _]) d_Tree_init_34 rfl (by decide) (w_pv rfl) rfl ?_
        refine Rn.goto (tgt := 14) d_Tree_init_37 (by decide) ?_
        refine ih (k + 1) _ (by omega) (by omega) ⟨fun j hj => ⟨by rw [w_ui_off _ _ _ _ _ (by omega)]; exact (h3.1 j hj).1, (h3.1 j hj).2⟩, h3.2⟩ (fun j j1 j2 => ?_)
        rw [w_ui_if]
        by_cases e : j = k
        · subst e
          rw [if_pos ⟨rfl, rfl⟩]
          unfold be0; rw [if_neg (by omega), if_pos (by omega)]
        · rw [if_neg (by omega)]; exact h4 j j1 (by omega)
  refine loop 11 1 _ rfl (Nat.le_refl _) ⟨fun k hk => ⟨?_, ?_⟩, fun k h1 h2 => ?_⟩ (fun j j1 j2 => by omega)
  · rw [w_ur_1, zi, if_neg (by omega)]
  · rw [ur, if_neg (by omega), zr, if_neg (by omega)]
  · rw [ur]
    by_cases e : k = h
    · subst e
      rw [if_pos rfl, hR, zr, if_neg (by omega), hr]
    · have : k = h + 1 := by omega
      subst this
      rw [if_neg e, zr, if_pos rfl, hR1]
