/-! The rows of Rn: one an instruction. -/
section RN
variable {K : wK} {sx : Option (Nat × (Nat → Int32) × Nat)} {cs : Nat × Nat} {pc : Nat} {lv : List (Option Value)} {st : List Value} {sh : wSh} {M : wM} {Q : Option Value → wSh → wM → Nat × Nat → Prop}
theorem Rn.iconst {n : Int} {v : Int32} (hd : decode K.2.1 pc = .ok (.iconst n, 1)) (hv : Int32.ofInt n = v)
    (k : Rn K sx cs (pc + 1) lv (.int v :: st) sh M Q) : Rn K sx cs pc lv (st) sh M Q := by
  intro p l e s m args below meth c A D3 D Qf ad H locs ls hC hS hE
  exact lv_iconst hC.1 hC.2.1 hd hv (k p l e s m args below meth c A D3 D Qf ad H locs ls hC hS hE)
theorem Rn.bipush {n : Int} {v : Int32} (hd : decode K.2.1 pc = .ok (.bipush n, 2)) (hv : (Int8.ofInt n).toInt32 = v)
    (k : Rn K sx cs (pc + 2) lv (.int v :: st) sh M Q) : Rn K sx cs pc lv (st) sh M Q := by
  intro p l e s m args below meth c A D3 D Qf ad H locs ls hC hS hE
  exact lv_bipush hC.1 hC.2.1 hd hv (k p l e s m args below meth c A D3 D Qf ad H locs ls hC hS hE)
theorem Rn.sipush {n : Int} {v : Int32} (hd : decode K.2.1 pc = .ok (.sipush n, 3)) (hv : (Int16.ofInt n).toInt32 = v)
    (k : Rn K sx cs (pc + 3) lv (.int v :: st) sh M Q) : Rn K sx cs pc lv (st) sh M Q := by
  intro p l e s m args below meth c A D3 D Qf ad H locs ls hC hS hE
  exact lv_sipush hC.1 hC.2.1 hd hv (k p l e s m args below meth c A D3 D Qf ad H locs ls hC hS hE)
theorem Rn.lconst {n : Fin 2} {v : Int64} (hd : decode K.2.1 pc = .ok (.lconst n, 1)) (hv : Int64.ofNat (n : Nat) = v)
    (k : Rn K sx cs (pc + 1) lv (.long v :: st) sh M Q) : Rn K sx cs pc lv (st) sh M Q := by
  intro p l e s m args below meth c A D3 D Qf ad H locs ls hC hS hE
  exact lv_lconst hC.1 hC.2.1 hd hv (k p l e s m args below meth c A D3 D Qf ad H locs ls hC hS hE)
theorem Rn.ldc {index : Nat} {v : Int32} (hd : decode K.2.1 pc = .ok (.ldc index, 2)) (hw : Cond.constant K.1.cls index v ∈ lw_g)
    (k : Rn K sx cs (pc + 2) lv (.int v :: st) sh M Q) : Rn K sx cs pc lv (st) sh M Q := by
  intro p l e s m args below meth c A D3 D Qf ad H locs ls hC hS hE
  exact lv_ldc hC.1 hC.2.1 hC.2.2.2.1 (hC.2.2.2.2.1 _ hw) hd (k p l e s m args below meth c A D3 D Qf ad H locs ls hC hS hE)
theorem Rn.ldcw {index : Nat} {v : Int32} (hd : decode K.2.1 pc = .ok (.ldc_w index, 3)) (hw : Cond.constant K.1.cls index v ∈ lw_g)
    (k : Rn K sx cs (pc + 3) lv (.int v :: st) sh M Q) : Rn K sx cs pc lv (st) sh M Q := by
  intro p l e s m args below meth c A D3 D Qf ad H locs ls hC hS hE
  exact lv_ldcw hC.1 hC.2.1 hC.2.2.2.1 (hC.2.2.2.2.1 _ hw) hd (k p l e s m args below meth c A D3 D Qf ad H locs ls hC hS hE)
theorem Rn.ldc2 {index : Nat} {v : Int64} (hd : decode K.2.1 pc = .ok (.ldc2_w index, 3)) (hw : Cond.constantLong K.1.cls index v ∈ lw_g)
    (k : Rn K sx cs (pc + 3) lv (.long v :: st) sh M Q) : Rn K sx cs pc lv (st) sh M Q := by
  intro p l e s m args below meth c A D3 D Qf ad H locs ls hC hS hE
  exact lv_ldc2 hC.1 hC.2.1 hC.2.2.2.1 (hC.2.2.2.2.1 _ hw) hd (k p l e s m args below meth c A D3 D Qf ad H locs ls hC hS hE)
theorem Rn.iload_n {i : Fin 4} {x : Int32} (hd : decode K.2.1 pc = .ok (.iload_n i, 1)) (hl : lv[(i : Nat)]? = some (some (.int x)))
    (k : Rn K sx cs (pc + 1) lv (.int x :: st) sh M Q) : Rn K sx cs pc lv (st) sh M Q := by
  intro p l e s m args below meth c A D3 D Qf ad H locs ls hC hS hE
  exact lv_iload_n hC.1 hC.2.1 hd rfl (hS.2.2.2.1.2.2 _ _ hl) (k p l e s m args below meth c A D3 D Qf ad H locs ls hC hS hE)
theorem Rn.iload {i : Nat} {x : Int32} (hd : decode K.2.1 pc = .ok (.iload i, 2)) (hl : lv[i]? = some (some (.int x)))
    (k : Rn K sx cs (pc + 2) lv (.int x :: st) sh M Q) : Rn K sx cs pc lv (st) sh M Q := by
  intro p l e s m args below meth c A D3 D Qf ad H locs ls hC hS hE
  exact lv_iload hC.1 hC.2.1 hd (hS.2.2.2.1.2.2 _ _ hl) (k p l e s m args below meth c A D3 D Qf ad H locs ls hC hS hE)
theorem Rn.lload_n {i : Fin 4} {x : Int64} (hd : decode K.2.1 pc = .ok (.lload_n i, 1)) (hl : lv[(i : Nat)]? = some (some (.long x)))
    (k : Rn K sx cs (pc + 1) lv (.long x :: st) sh M Q) : Rn K sx cs pc lv (st) sh M Q := by
  intro p l e s m args below meth c A D3 D Qf ad H locs ls hC hS hE
  exact lv_lload_n hC.1 hC.2.1 hd rfl (hS.2.2.2.1.2.2 _ _ hl) (k p l e s m args below meth c A D3 D Qf ad H locs ls hC hS hE)
theorem Rn.lload {i : Nat} {x : Int64} (hd : decode K.2.1 pc = .ok (.lload i, 2)) (hl : lv[i]? = some (some (.long x)))
    (k : Rn K sx cs (pc + 2) lv (.long x :: st) sh M Q) : Rn K sx cs pc lv (st) sh M Q := by
  intro p l e s m args below meth c A D3 D Qf ad H locs ls hC hS hE
  exact lv_lload hC.1 hC.2.1 hd (hS.2.2.2.1.2.2 _ _ hl) (k p l e s m args below meth c A D3 D Qf ad H locs ls hC hS hE)
theorem Rn.aload_n {i : Fin 4} {x : Nat} (hd : decode K.2.1 pc = .ok (.aload_n i, 1)) (hl : lv[(i : Nat)]? = some (some (.ref x)))
    (k : Rn K sx cs (pc + 1) lv (.ref x :: st) sh M Q) : Rn K sx cs pc lv (st) sh M Q := by
  intro p l e s m args below meth c A D3 D Qf ad H locs ls hC hS hE
  exact lv_aload_n hC.1 hC.2.1 hd rfl (hS.2.2.2.1.2.2 _ _ hl) (k p l e s m args below meth c A D3 D Qf ad H locs ls hC hS hE)
theorem Rn.aload {i : Nat} {x : Nat} (hd : decode K.2.1 pc = .ok (.aload i, 2)) (hl : lv[i]? = some (some (.ref x)))
    (k : Rn K sx cs (pc + 2) lv (.ref x :: st) sh M Q) : Rn K sx cs pc lv (st) sh M Q := by
  intro p l e s m args below meth c A D3 D Qf ad H locs ls hC hS hE
  exact lv_aload hC.1 hC.2.1 hd (hS.2.2.2.1.2.2 _ _ hl) (k p l e s m args below meth c A D3 D Qf ad H locs ls hC hS hE)
theorem Rn.istore_n {i : Fin 4} {x : Int32} {lv1 : List (Option Value)} (hd : decode K.2.1 pc = .ok (.istore_n i, 1)) (hn : (i : Nat) < K.2.2.1) (hp : (i : Nat) = 0 ∨ ∀ x, lv[(i : Nat) - 1]? = some x → w_n2 x = true) (he : lv.set (i : Nat) (some (.int x)) = lv1)
    (k : Rn K sx cs (pc + 1) lv1 (st) sh M Q) : Rn K sx cs pc lv (.int x :: st) sh M Q := by
  intro p l e s m args below meth c A D3 D Qf ad H locs ls hC hS hE
  have hn : (i : Nat) < K.2.2.1 := hn
  refine lv_istore_n (lv' := _) hC.1 hC.2.1 hd rfl hS.2.2.2.1.has hn rfl (fun ls' hl => ?_)
  exact k p l e s m args below meth c A D3 D Qf ad H locs ls' hC ⟨hS.1, hS.2.1, hS.2.2.1, w_L.st1 (v := .int x) hl (fun j w hj => by subst he; exact w_set1 hp j w hj), hS.2.2.2.2⟩ hE
theorem Rn.istore {i : Nat} {x : Int32} {lv1 : List (Option Value)} (hd : decode K.2.1 pc = .ok (.istore i, 2)) (hn : i < K.2.2.1) (hp : i = 0 ∨ ∀ x, lv[i - 1]? = some x → w_n2 x = true) (he : lv.set i (some (.int x)) = lv1)
    (k : Rn K sx cs (pc + 2) lv1 (st) sh M Q) : Rn K sx cs pc lv (.int x :: st) sh M Q := by
  intro p l e s m args below meth c A D3 D Qf ad H locs ls hC hS hE
  have hn : i < K.2.2.1 := hn
  refine lv_istore (lv' := _) hC.1 hC.2.1 hd hS.2.2.2.1.has hn rfl (fun ls' hl => ?_)
  exact k p l e s m args below meth c A D3 D Qf ad H locs ls' hC ⟨hS.1, hS.2.1, hS.2.2.1, w_L.st1 (v := .int x) hl (fun j w hj => by subst he; exact w_set1 hp j w hj), hS.2.2.2.2⟩ hE
theorem Rn.astore_n {i : Fin 4} {x : Nat} {lv1 : List (Option Value)} (hd : decode K.2.1 pc = .ok (.astore_n i, 1)) (hn : (i : Nat) < K.2.2.1) (hp : (i : Nat) = 0 ∨ ∀ x, lv[(i : Nat) - 1]? = some x → w_n2 x = true) (he : lv.set (i : Nat) (some (.ref x)) = lv1)
    (k : Rn K sx cs (pc + 1) lv1 (st) sh M Q) : Rn K sx cs pc lv (.ref x :: st) sh M Q := by
  intro p l e s m args below meth c A D3 D Qf ad H locs ls hC hS hE
  have hn : (i : Nat) < K.2.2.1 := hn
  refine lv_astore_n (lv' := _) hC.1 hC.2.1 hd rfl hS.2.2.2.1.has hn rfl (fun ls' hl => ?_)
  exact k p l e s m args below meth c A D3 D Qf ad H locs ls' hC ⟨hS.1, hS.2.1, hS.2.2.1, w_L.st1 (v := .ref x) hl (fun j w hj => by subst he; exact w_set1 hp j w hj), hS.2.2.2.2⟩ hE
theorem Rn.astore {i : Nat} {x : Nat} {lv1 : List (Option Value)} (hd : decode K.2.1 pc = .ok (.astore i, 2)) (hn : i < K.2.2.1) (hp : i = 0 ∨ ∀ x, lv[i - 1]? = some x → w_n2 x = true) (he : lv.set i (some (.ref x)) = lv1)
    (k : Rn K sx cs (pc + 2) lv1 (st) sh M Q) : Rn K sx cs pc lv (.ref x :: st) sh M Q := by
  intro p l e s m args below meth c A D3 D Qf ad H locs ls hC hS hE
  have hn : i < K.2.2.1 := hn
  refine lv_astore (lv' := _) hC.1 hC.2.1 hd hS.2.2.2.1.has hn rfl (fun ls' hl => ?_)
  exact k p l e s m args below meth c A D3 D Qf ad H locs ls' hC ⟨hS.1, hS.2.1, hS.2.2.1, w_L.st1 (v := .ref x) hl (fun j w hj => by subst he; exact w_set1 hp j w hj), hS.2.2.2.2⟩ hE
theorem Rn.lstore_n {i : Fin 4} {x : Int64} {lv1 : List (Option Value)} (hd : decode K.2.1 pc = .ok (.lstore_n i, 1)) (hn : (i : Nat) + 1 < K.2.2.1) (hp : (i : Nat) = 0 ∨ ∀ x, lv[(i : Nat) - 1]? = some x → w_n2 x = true) (he : (lv.set (i : Nat) (some (.long x))).set ((i : Nat) + 1) none = lv1)
    (k : Rn K sx cs (pc + 1) lv1 (st) sh M Q) : Rn K sx cs pc lv (.long x :: st) sh M Q := by
  intro p l e s m args below meth c A D3 D Qf ad H locs ls hC hS hE
  have hn : (i : Nat) + 1 < K.2.2.1 := hn
  refine lv_lstore_n (lv' := _) hC.1 hC.2.1 hd rfl hS.2.2.2.1.has hn rfl (fun ls' hl => ?_)
  exact k p l e s m args below meth c A D3 D Qf ad H locs ls' hC ⟨hS.1, hS.2.1, hS.2.2.1, w_L.st2 (v := .long x) hl (fun j w hj => by subst he; exact w_set2 hp j w hj), hS.2.2.2.2⟩ hE
theorem Rn.lstore {i : Nat} {x : Int64} {lv1 : List (Option Value)} (hd : decode K.2.1 pc = .ok (.lstore i, 2)) (hn : i + 1 < K.2.2.1) (hp : i = 0 ∨ ∀ x, lv[i - 1]? = some x → w_n2 x = true) (he : (lv.set i (some (.long x))).set (i + 1) none = lv1)
    (k : Rn K sx cs (pc + 2) lv1 (st) sh M Q) : Rn K sx cs pc lv (.long x :: st) sh M Q := by
  intro p l e s m args below meth c A D3 D Qf ad H locs ls hC hS hE
  have hn : i + 1 < K.2.2.1 := hn
  refine lv_lstore (lv' := _) hC.1 hC.2.1 hd hS.2.2.2.1.has hn rfl (fun ls' hl => ?_)
  exact k p l e s m args below meth c A D3 D Qf ad H locs ls' hC ⟨hS.1, hS.2.1, hS.2.2.1, w_L.st2 (v := .long x) hl (fun j w hj => by subst he; exact w_set2 hp j w hj), hS.2.2.2.2⟩ hE
theorem Rn.iinc {i : Nat} {n : Int} {x v : Int32} {lv1 : List (Option Value)} (hd : decode K.2.1 pc = .ok (.iinc i n, 3)) (hx : lv[i]? = some (some (.int x))) (hv : x + Int32.ofInt n = v) (hn : i < K.2.2.1) (hp : i = 0 ∨ ∀ x, lv[i - 1]? = some x → w_n2 x = true) (he : lv.set i (some (.int v)) = lv1)
    (k : Rn K sx cs (pc + 3) lv1 (st) sh M Q) : Rn K sx cs pc lv (st) sh M Q := by
  intro p l e s m args below meth c A D3 D Qf ad H locs ls hC hS hE
  have hh := hS.2.2.2.1.has
  have hm : (i, Value.int x) ∈ w_pr ad 0 lv := (w_pr_mem ad lv 0 _).mpr ⟨i, .int x, hx, by simp [w_cv]⟩
  obtain ⟨kx, hk⟩ := List.getElem?_of_mem hm
  have hn : i < K.2.2.1 := hn
  refine lv_iinc (lv' := _) hC.1 hC.2.1 hd hh hk hv hn rfl (fun ls' hl => ?_)
  exact k p l e s m args below meth c A D3 D Qf ad H locs ls' hC ⟨hS.1, hS.2.1, hS.2.2.1, w_L.st1 (v := .int v) hl (fun j w hj => by subst he; exact w_set1 hp j w hj), hS.2.2.2.2⟩ hE
theorem Rn.iadd {x y : Int32} (hd : decode K.2.1 pc = .ok (.iadd, 1))
    (k : Rn K sx cs (pc + 1) lv (.int (x + y) :: st) sh M Q) : Rn K sx cs pc lv (.int y :: .int x :: st) sh M Q := by
  intro p l e s m args below meth c A D3 D Qf ad H locs ls hC hS hE
  exact lv_iadd hC.1 hC.2.1 hd (k p l e s m args below meth c A D3 D Qf ad H locs ls hC hS hE)
theorem Rn.isub {x y : Int32} (hd : decode K.2.1 pc = .ok (.isub, 1))
    (k : Rn K sx cs (pc + 1) lv (.int (x - y) :: st) sh M Q) : Rn K sx cs pc lv (.int y :: .int x :: st) sh M Q := by
  intro p l e s m args below meth c A D3 D Qf ad H locs ls hC hS hE
  exact lv_isub hC.1 hC.2.1 hd (k p l e s m args below meth c A D3 D Qf ad H locs ls hC hS hE)
theorem Rn.imul {x y : Int32} (hd : decode K.2.1 pc = .ok (.imul, 1))
    (k : Rn K sx cs (pc + 1) lv (.int (x * y) :: st) sh M Q) : Rn K sx cs pc lv (.int y :: .int x :: st) sh M Q := by
  intro p l e s m args below meth c A D3 D Qf ad H locs ls hC hS hE
  exact lv_imul hC.1 hC.2.1 hd (k p l e s m args below meth c A D3 D Qf ad H locs ls hC hS hE)
theorem Rn.iand {x y : Int32} (hd : decode K.2.1 pc = .ok (.iand, 1))
    (k : Rn K sx cs (pc + 1) lv (.int (x &&& y) :: st) sh M Q) : Rn K sx cs pc lv (.int y :: .int x :: st) sh M Q := by
  intro p l e s m args below meth c A D3 D Qf ad H locs ls hC hS hE
  exact lv_iand hC.1 hC.2.1 hd (k p l e s m args below meth c A D3 D Qf ad H locs ls hC hS hE)
theorem Rn.ior {x y : Int32} (hd : decode K.2.1 pc = .ok (.ior, 1))
    (k : Rn K sx cs (pc + 1) lv (.int (x ||| y) :: st) sh M Q) : Rn K sx cs pc lv (.int y :: .int x :: st) sh M Q := by
  intro p l e s m args below meth c A D3 D Qf ad H locs ls hC hS hE
  exact lv_ior hC.1 hC.2.1 hd (k p l e s m args below meth c A D3 D Qf ad H locs ls hC hS hE)
theorem Rn.ixor {x y : Int32} (hd : decode K.2.1 pc = .ok (.ixor, 1))
    (k : Rn K sx cs (pc + 1) lv (.int (x ^^^ y) :: st) sh M Q) : Rn K sx cs pc lv (.int y :: .int x :: st) sh M Q := by
  intro p l e s m args below meth c A D3 D Qf ad H locs ls hC hS hE
  exact lv_ixor hC.1 hC.2.1 hd (k p l e s m args below meth c A D3 D Qf ad H locs ls hC hS hE)
theorem Rn.ishl {x y : Int32} (hd : decode K.2.1 pc = .ok (.ishl, 1))
    (k : Rn K sx cs (pc + 1) lv (.int (x <<< (y &&& 31)) :: st) sh M Q) : Rn K sx cs pc lv (.int y :: .int x :: st) sh M Q := by
  intro p l e s m args below meth c A D3 D Qf ad H locs ls hC hS hE
  exact lv_ishl hC.1 hC.2.1 hd (k p l e s m args below meth c A D3 D Qf ad H locs ls hC hS hE)
theorem Rn.ishr {x y : Int32} (hd : decode K.2.1 pc = .ok (.ishr, 1))
    (k : Rn K sx cs (pc + 1) lv (.int (x >>> (y &&& 31)) :: st) sh M Q) : Rn K sx cs pc lv (.int y :: .int x :: st) sh M Q := by
  intro p l e s m args below meth c A D3 D Qf ad H locs ls hC hS hE
  exact lv_ishr hC.1 hC.2.1 hd (k p l e s m args below meth c A D3 D Qf ad H locs ls hC hS hE)
theorem Rn.iushr {x y v : Int32} (hd : decode K.2.1 pc = .ok (.iushr, 1)) (hv : (x.toUInt32 >>> (y.toUInt32 &&& Int32.toUInt32 31)).toInt32 = v)
    (k : Rn K sx cs (pc + 1) lv (.int v :: st) sh M Q) : Rn K sx cs pc lv (.int y :: .int x :: st) sh M Q := by
  intro p l e s m args below meth c A D3 D Qf ad H locs ls hC hS hE
  exact lv_iushr hC.1 hC.2.1 hd hv (k p l e s m args below meth c A D3 D Qf ad H locs ls hC hS hE)
theorem Rn.idiv {x y : Int32} (hd : decode K.2.1 pc = .ok (.idiv, 1)) (hne : ¬ y = 0)
    (k : Rn K sx cs (pc + 1) lv (.int (x / y) :: st) sh M Q) : Rn K sx cs pc lv (.int y :: .int x :: st) sh M Q := by
  intro p l e s m args below meth c A D3 D Qf ad H locs ls hC hS hE
  exact lv_idiv hC.1 hC.2.1 hd hne (k p l e s m args below meth c A D3 D Qf ad H locs ls hC hS hE)
theorem Rn.irem {x y : Int32} (hd : decode K.2.1 pc = .ok (.irem, 1)) (hne : ¬ y = 0)
    (k : Rn K sx cs (pc + 1) lv (.int (x - x / y * y) :: st) sh M Q) : Rn K sx cs pc lv (.int y :: .int x :: st) sh M Q := by
  intro p l e s m args below meth c A D3 D Qf ad H locs ls hC hS hE
  exact lv_irem hC.1 hC.2.1 hd hne (k p l e s m args below meth c A D3 D Qf ad H locs ls hC hS hE)
theorem Rn.ladd {x y : Int64} (hd : decode K.2.1 pc = .ok (.ladd, 1))
    (k : Rn K sx cs (pc + 1) lv (.long (x + y) :: st) sh M Q) : Rn K sx cs pc lv (.long y :: .long x :: st) sh M Q := by
  intro p l e s m args below meth c A D3 D Qf ad H locs ls hC hS hE
  exact lv_ladd hC.1 hC.2.1 hd (k p l e s m args below meth c A D3 D Qf ad H locs ls hC hS hE)
theorem Rn.lsub {x y : Int64} (hd : decode K.2.1 pc = .ok (.lsub, 1))
    (k : Rn K sx cs (pc + 1) lv (.long (x - y) :: st) sh M Q) : Rn K sx cs pc lv (.long y :: .long x :: st) sh M Q := by
  intro p l e s m args below meth c A D3 D Qf ad H locs ls hC hS hE
  exact lv_lsub hC.1 hC.2.1 hd (k p l e s m args below meth c A D3 D Qf ad H locs ls hC hS hE)
theorem Rn.lmul {x y : Int64} (hd : decode K.2.1 pc = .ok (.lmul, 1))
    (k : Rn K sx cs (pc + 1) lv (.long (x * y) :: st) sh M Q) : Rn K sx cs pc lv (.long y :: .long x :: st) sh M Q := by
  intro p l e s m args below meth c A D3 D Qf ad H locs ls hC hS hE
  exact lv_lmul hC.1 hC.2.1 hd (k p l e s m args below meth c A D3 D Qf ad H locs ls hC hS hE)
theorem Rn.ldiv {x y : Int64} (hd : decode K.2.1 pc = .ok (.ldiv, 1)) (hne : ¬ y = 0)
    (k : Rn K sx cs (pc + 1) lv (.long (x / y) :: st) sh M Q) : Rn K sx cs pc lv (.long y :: .long x :: st) sh M Q := by
  intro p l e s m args below meth c A D3 D Qf ad H locs ls hC hS hE
  exact lv_ldiv hC.1 hC.2.1 hd hne (k p l e s m args below meth c A D3 D Qf ad H locs ls hC hS hE)
theorem Rn.lrem {x y : Int64} (hd : decode K.2.1 pc = .ok (.lrem, 1)) (hne : ¬ y = 0)
    (k : Rn K sx cs (pc + 1) lv (.long (x - x / y * y) :: st) sh M Q) : Rn K sx cs pc lv (.long y :: .long x :: st) sh M Q := by
  intro p l e s m args below meth c A D3 D Qf ad H locs ls hC hS hE
  exact lv_lrem hC.1 hC.2.1 hd hne (k p l e s m args below meth c A D3 D Qf ad H locs ls hC hS hE)
theorem Rn.i2l {x : Int32} (hd : decode K.2.1 pc = .ok (.i2l, 1))
    (k : Rn K sx cs (pc + 1) lv (.long x.toInt64 :: st) sh M Q) : Rn K sx cs pc lv (.int x :: st) sh M Q := by
  intro p l e s m args below meth c A D3 D Qf ad H locs ls hC hS hE
  exact lv_i2l hC.1 hC.2.1 hd rfl (k p l e s m args below meth c A D3 D Qf ad H locs ls hC hS hE)
theorem Rn.lcmp {x y : Int64} (hd : decode K.2.1 pc = .ok (.lcmp, 1))
    (k : Rn K sx cs (pc + 1) lv (.int (lg_cmp x y) :: st) sh M Q) : Rn K sx cs pc lv (.long y :: .long x :: st) sh M Q := by
  intro p l e s m args below meth c A D3 D Qf ad H locs ls hC hS hE
  exact W.lcmp hC.1 hC.2.1 hd (k p l e s m args below meth c A D3 D Qf ad H locs ls hC hS hE)
theorem Rn.dup {a : Value} (hd : decode K.2.1 pc = .ok (.dup, 1)) (ha : a.category = 1)
    (k : Rn K sx cs (pc + 1) lv (a :: a :: st) sh M Q) : Rn K sx cs pc lv (a :: st) sh M Q := by
  intro p l e s m args below meth c A D3 D Qf ad H locs ls hC hS hE
  exact lv_dup hC.1 hC.2.1 hd ((w_cv_cat ad a).trans ha) (k p l e s m args below meth c A D3 D Qf ad H locs ls hC hS hE)
theorem Rn.dup2 {a b : Value} (hd : decode K.2.1 pc = .ok (.dup2, 1)) (ha : a.category = 1) (hb : b.category = 1)
    (k : Rn K sx cs (pc + 1) lv (a :: b :: a :: b :: st) sh M Q) : Rn K sx cs pc lv (a :: b :: st) sh M Q := by
  intro p l e s m args below meth c A D3 D Qf ad H locs ls hC hS hE
  exact lv_dup2_11 hC.1 hC.2.1 hd ((w_cv_cat ad a).trans ha) ((w_cv_cat ad b).trans hb) (k p l e s m args below meth c A D3 D Qf ad H locs ls hC hS hE)
theorem Rn.pop {a : Value} (hd : decode K.2.1 pc = .ok (.pop, 1)) (ha : a.category = 1)
    (k : Rn K sx cs (pc + 1) lv (st) sh M Q) : Rn K sx cs pc lv (a :: st) sh M Q := by
  intro p l e s m args below meth c A D3 D Qf ad H locs ls hC hS hE
  exact lv_pop hC.1 hC.2.1 hd ((w_cv_cat ad a).trans ha) (k p l e s m args below meth c A D3 D Qf ad H locs ls hC hS hE)
theorem Rn.goto {off : Int} {tgt : Nat} (hd : decode K.2.1 pc = .ok (.goto off, 3)) (ht : (pc : Int) + off = (tgt : Int))
    (k : Rn K sx cs tgt lv (st) sh M Q) : Rn K sx cs pc lv (st) sh M Q := by
  intro p l e s m args below meth c A D3 D Qf ad H locs ls hC hS hE
  exact lv_goto hC.1 hC.2.1 hd ht (k p l e s m args below meth c A D3 D Qf ad H locs ls hC hS hE)
theorem Rn.if_eq {x : Int32} {off : Int} {tgt : Nat} (hd : decode K.2.1 pc = .ok (.ifCond .eq off, 3)) (ht : (pc : Int) + off = (tgt : Int))
    (kt : x = 0 → Rn K sx cs tgt lv st sh M Q) (kf : ¬ x = 0 → Rn K sx cs (pc + 3) lv st sh M Q) : Rn K sx cs pc lv (.int x :: st) sh M Q := by
  intro p l e s m args below meth c A D3 D Qf ad H locs ls hC hS hE
  exact lv_if_eq hC.1 hC.2.1 hd ht (fun h => kt h p l e s m args below meth c A D3 D Qf ad H locs ls hC hS hE) (fun h => kf h p l e s m args below meth c A D3 D Qf ad H locs ls hC hS hE)
theorem Rn.if_ne {x : Int32} {off : Int} {tgt : Nat} (hd : decode K.2.1 pc = .ok (.ifCond .ne off, 3)) (ht : (pc : Int) + off = (tgt : Int))
    (kt : ¬ x = 0 → Rn K sx cs tgt lv st sh M Q) (kf : x = 0 → Rn K sx cs (pc + 3) lv st sh M Q) : Rn K sx cs pc lv (.int x :: st) sh M Q := by
  intro p l e s m args below meth c A D3 D Qf ad H locs ls hC hS hE
  exact lv_if_ne hC.1 hC.2.1 hd ht (fun h => kt h p l e s m args below meth c A D3 D Qf ad H locs ls hC hS hE) (fun h => kf h p l e s m args below meth c A D3 D Qf ad H locs ls hC hS hE)
theorem Rn.if_lt {x : Int32} {off : Int} {tgt : Nat} (hd : decode K.2.1 pc = .ok (.ifCond .lt off, 3)) (ht : (pc : Int) + off = (tgt : Int))
    (kt : x < 0 → Rn K sx cs tgt lv st sh M Q) (kf : ¬ x < 0 → Rn K sx cs (pc + 3) lv st sh M Q) : Rn K sx cs pc lv (.int x :: st) sh M Q := by
  intro p l e s m args below meth c A D3 D Qf ad H locs ls hC hS hE
  exact lv_if_lt hC.1 hC.2.1 hd ht (fun h => kt h p l e s m args below meth c A D3 D Qf ad H locs ls hC hS hE) (fun h => kf h p l e s m args below meth c A D3 D Qf ad H locs ls hC hS hE)
theorem Rn.if_ge {x : Int32} {off : Int} {tgt : Nat} (hd : decode K.2.1 pc = .ok (.ifCond .ge off, 3)) (ht : (pc : Int) + off = (tgt : Int))
    (kt : 0 ≤ x → Rn K sx cs tgt lv st sh M Q) (kf : ¬ 0 ≤ x → Rn K sx cs (pc + 3) lv st sh M Q) : Rn K sx cs pc lv (.int x :: st) sh M Q := by
  intro p l e s m args below meth c A D3 D Qf ad H locs ls hC hS hE
  exact lv_if_ge hC.1 hC.2.1 hd ht (fun h => kt h p l e s m args below meth c A D3 D Qf ad H locs ls hC hS hE) (fun h => kf h p l e s m args below meth c A D3 D Qf ad H locs ls hC hS hE)
theorem Rn.if_gt {x : Int32} {off : Int} {tgt : Nat} (hd : decode K.2.1 pc = .ok (.ifCond .gt off, 3)) (ht : (pc : Int) + off = (tgt : Int))
    (kt : 0 < x → Rn K sx cs tgt lv st sh M Q) (kf : ¬ 0 < x → Rn K sx cs (pc + 3) lv st sh M Q) : Rn K sx cs pc lv (.int x :: st) sh M Q := by
  intro p l e s m args below meth c A D3 D Qf ad H locs ls hC hS hE
  exact lv_if_gt hC.1 hC.2.1 hd ht (fun h => kt h p l e s m args below meth c A D3 D Qf ad H locs ls hC hS hE) (fun h => kf h p l e s m args below meth c A D3 D Qf ad H locs ls hC hS hE)
theorem Rn.if_le {x : Int32} {off : Int} {tgt : Nat} (hd : decode K.2.1 pc = .ok (.ifCond .le off, 3)) (ht : (pc : Int) + off = (tgt : Int))
    (kt : x ≤ 0 → Rn K sx cs tgt lv st sh M Q) (kf : ¬ x ≤ 0 → Rn K sx cs (pc + 3) lv st sh M Q) : Rn K sx cs pc lv (.int x :: st) sh M Q := by
  intro p l e s m args below meth c A D3 D Qf ad H locs ls hC hS hE
  exact lv_if_le hC.1 hC.2.1 hd ht (fun h => kt h p l e s m args below meth c A D3 D Qf ad H locs ls hC hS hE) (fun h => kf h p l e s m args below meth c A D3 D Qf ad H locs ls hC hS hE)
theorem Rn.icmp_eq {x y : Int32} {off : Int} {tgt : Nat} (hd : decode K.2.1 pc = .ok (.if_icmp .eq off, 3)) (ht : (pc : Int) + off = (tgt : Int))
    (kt : x = y → Rn K sx cs tgt lv st sh M Q) (kf : ¬ x = y → Rn K sx cs (pc + 3) lv st sh M Q) : Rn K sx cs pc lv (.int y :: .int x :: st) sh M Q := by
  intro p l e s m args below meth c A D3 D Qf ad H locs ls hC hS hE
  exact lv_icmp_eq hC.1 hC.2.1 hd ht (fun h => kt h p l e s m args below meth c A D3 D Qf ad H locs ls hC hS hE) (fun h => kf h p l e s m args below meth c A D3 D Qf ad H locs ls hC hS hE)
theorem Rn.icmp_ne {x y : Int32} {off : Int} {tgt : Nat} (hd : decode K.2.1 pc = .ok (.if_icmp .ne off, 3)) (ht : (pc : Int) + off = (tgt : Int))
    (kt : ¬ x = y → Rn K sx cs tgt lv st sh M Q) (kf : x = y → Rn K sx cs (pc + 3) lv st sh M Q) : Rn K sx cs pc lv (.int y :: .int x :: st) sh M Q := by
  intro p l e s m args below meth c A D3 D Qf ad H locs ls hC hS hE
  exact lv_icmp_ne hC.1 hC.2.1 hd ht (fun h => kt h p l e s m args below meth c A D3 D Qf ad H locs ls hC hS hE) (fun h => kf h p l e s m args below meth c A D3 D Qf ad H locs ls hC hS hE)
theorem Rn.icmp_lt {x y : Int32} {off : Int} {tgt : Nat} (hd : decode K.2.1 pc = .ok (.if_icmp .lt off, 3)) (ht : (pc : Int) + off = (tgt : Int))
    (kt : x < y → Rn K sx cs tgt lv st sh M Q) (kf : ¬ x < y → Rn K sx cs (pc + 3) lv st sh M Q) : Rn K sx cs pc lv (.int y :: .int x :: st) sh M Q := by
  intro p l e s m args below meth c A D3 D Qf ad H locs ls hC hS hE
  exact lv_icmp_lt hC.1 hC.2.1 hd ht (fun h => kt h p l e s m args below meth c A D3 D Qf ad H locs ls hC hS hE) (fun h => kf h p l e s m args below meth c A D3 D Qf ad H locs ls hC hS hE)
theorem Rn.icmp_ge {x y : Int32} {off : Int} {tgt : Nat} (hd : decode K.2.1 pc = .ok (.if_icmp .ge off, 3)) (ht : (pc : Int) + off = (tgt : Int))
    (kt : y ≤ x → Rn K sx cs tgt lv st sh M Q) (kf : ¬ y ≤ x → Rn K sx cs (pc + 3) lv st sh M Q) : Rn K sx cs pc lv (.int y :: .int x :: st) sh M Q := by
  intro p l e s m args below meth c A D3 D Qf ad H locs ls hC hS hE
  exact lv_icmp_ge hC.1 hC.2.1 hd ht (fun h => kt h p l e s m args below meth c A D3 D Qf ad H locs ls hC hS hE) (fun h => kf h p l e s m args below meth c A D3 D Qf ad H locs ls hC hS hE)
theorem Rn.icmp_gt {x y : Int32} {off : Int} {tgt : Nat} (hd : decode K.2.1 pc = .ok (.if_icmp .gt off, 3)) (ht : (pc : Int) + off = (tgt : Int))
    (kt : y < x → Rn K sx cs tgt lv st sh M Q) (kf : ¬ y < x → Rn K sx cs (pc + 3) lv st sh M Q) : Rn K sx cs pc lv (.int y :: .int x :: st) sh M Q := by
  intro p l e s m args below meth c A D3 D Qf ad H locs ls hC hS hE
  exact lv_icmp_gt hC.1 hC.2.1 hd ht (fun h => kt h p l e s m args below meth c A D3 D Qf ad H locs ls hC hS hE) (fun h => kf h p l e s m args below meth c A D3 D Qf ad H locs ls hC hS hE)
theorem Rn.icmp_le {x y : Int32} {off : Int} {tgt : Nat} (hd : decode K.2.1 pc = .ok (.if_icmp .le off, 3)) (ht : (pc : Int) + off = (tgt : Int))
    (kt : x ≤ y → Rn K sx cs tgt lv st sh M Q) (kf : ¬ x ≤ y → Rn K sx cs (pc + 3) lv st sh M Q) : Rn K sx cs pc lv (.int y :: .int x :: st) sh M Q := by
  intro p l e s m args below meth c A D3 D Qf ad H locs ls hC hS hE
  exact lv_icmp_le hC.1 hC.2.1 hd ht (fun h => kt h p l e s m args below meth c A D3 D Qf ad H locs ls hC hS hE) (fun h => kf h p l e s m args below meth c A D3 D Qf ad H locs ls hC hS hE)
theorem Rn.tableOut {dflt lo hi : Int} {offs : Array Int} {len : Nat} {x : Int32} {tgt : Nat} (hd : decode K.2.1 pc = .ok (.tableswitch dflt lo hi offs, len)) (h : x.toInt < lo ∨ hi < x.toInt) (ht : (pc : Int) + dflt = (tgt : Int))
    (k : Rn K sx cs tgt lv st sh M Q) : Rn K sx cs pc lv (.int x :: st) sh M Q := by
  intro p l e s m args below meth c A D3 D Qf ad H locs ls hC hS hE
  exact lv_tableOut hC.1 hC.2.1 hd h ht (k p l e s m args below meth c A D3 D Qf ad H locs ls hC hS hE)
theorem Rn.tableIn {dflt lo hi : Int} {offs : Array Int} {len : Nat} {x : Int32} {off : Int} {tgt : Nat} (hd : decode K.2.1 pc = .ok (.tableswitch dflt lo hi offs, len)) (h1 : ¬ x.toInt < lo) (h2 : ¬ hi < x.toInt) (ho : offs[(x.toInt - lo).toNat]? = some off) (ht : (pc : Int) + off = (tgt : Int))
    (k : Rn K sx cs tgt lv st sh M Q) : Rn K sx cs pc lv (.int x :: st) sh M Q := by
  intro p l e s m args below meth c A D3 D Qf ad H locs ls hC hS hE
  exact lv_tableIn hC.1 hC.2.1 hd h1 h2 ho ht (k p l e s m args below meth c A D3 D Qf ad H locs ls hC hS hE)
theorem Rn.lookup {dflt : Int} {ps : Array (Int × Int)} {len : Nat} {x : Int32} {off : Int} {tgt : Nat} (hd : decode K.2.1 pc = .ok (.lookupswitch dflt ps, len)) (hp : (ps.toList.zip (ps.toList.drop 1)).all (fun (a, next) => a.1 < next.1) = true) (ho : Op.lookupswitch.offset ps.toList dflt x.toInt = off) (ht : (pc : Int) + off = (tgt : Int))
    (k : Rn K sx cs tgt lv st sh M Q) : Rn K sx cs pc lv (.int x :: st) sh M Q := by
  intro p l e s m args below meth c A D3 D Qf ad H locs ls hC hS hE
  exact lv_lookup hC.1 hC.2.1 hd hp ho ht (k p l e s m args below meth c A D3 D Qf ad H locs ls hC hS hE)
theorem Rn.mono {Q' : Option Value → wSh → wM → Nat × Nat → Prop} (h : ∀ v sh' M' cs', Q' v sh' M' cs' → Q v sh' M' cs') (k : Rn K sx cs pc lv st sh M Q') : Rn K sx cs pc lv st sh M Q := by
  intro p l e s m args below meth c A D3 D Qf ad H locs ls hC hS hE
  exact k p l e s m args below meth c A D3 D Qf ad H locs ls hC hS (fun v sh' M' cs' ad' H' locs' pc' ls' hq hx hP hD hS2 hw hr => hE v sh' M' cs' ad' H' locs' pc' ls' (h v sh' M' cs' hq) hx hP hD hS2 hw hr)
theorem Rn.locals {lv1 : List (Option Value)} (h : ∀ (i : Nat) (v : Value), lv1[i]? = some (some v) → lv[i]? = some (some v)) (k : Rn K sx cs pc lv1 st sh M Q) : Rn K sx cs pc lv st sh M Q := by
  intro p l e s m args below meth c A D3 D Qf ad H locs ls hC hS hE
  exact k p l e s m args below meth c A D3 D Qf ad H locs ls hC ⟨hS.1, hS.2.1, hS.2.2.1, ⟨hS.2.2.2.1.1, hS.2.2.2.1.2.1, fun i v hv => hS.2.2.2.1.2.2 i v (h i v hv)⟩, hS.2.2.2.2⟩ hE
theorem Rn.ret {v : Option Value} (hr : w_rt K v pc) (hst : st = v.toList) (hq : Q v sh M cs) : Rn K sx cs pc lv st sh M Q := by
  intro p l e s m args below meth c A D3 D Qf ad H locs ls hC hS hE
  have h := hE v sh M cs ad H locs pc ls hq w_X.rf hS.1 hS.2.1 hS.2.2.1 hS.2.2.2.2.2.1 hr
  subst hst
  cases v with
  | none => exact h
  | some x => exact h
/-- a field: its class's number, its place, its names, whether it is final, whether a reference -/
def w_fld (ci i : Nat) (C nm ds : String) (fin rf : Bool) : Prop := ∃ (T : u_T) (N : Nat) (ty : Nat → FieldType), vwCl[ci]? = some (C, T, N) ∧ (∀ w ∈ u_ws C T N, w ∈ lw_g) ∧ i < N ∧ T i = (C, nm, ds, fin) ∧ (w_fk ci)[i]? = some rf ∧ (w_fk ci).length = N ∧ (∀ k, k < N → parseFieldDescriptor (T k).2.2.1 = some (ty k)) ∧ (∀ a, a < N → ∀ b, b < N → a ≠ b → (T a).2.1 ≠ (T b).2.1) ∧ ci ≠ 12 ∧ ci ≠ 13 ∧ ci ≠ 14
theorem w_cellO {D3 : wD} {ad : Nat → Nat} {M : wM} {k ci z : Nat} (h1 : ci ≠ 12) (h2 : ci ≠ 13) (h3 : ci ≠ 14) : w_cell D3 ad M k (ci, z) = .inr (ci, w_fs ad M k 0 (w_fk ci)) := by simp [w_cell, h1, h2, h3]
theorem w_cellI {D3 : wD} {ad : Nat → Nat} {M : wM} {k z : Nat} : w_cell D3 ad M k (12, z) = .inl (D3.1, z, .inl (M.1 k)) := by simp [w_cell]
theorem w_cellJ {D3 : wD} {ad : Nat → Nat} {M : wM} {k z : Nat} : w_cell D3 ad M k (13, z) = .inl (D3.2.1, z, .inr (.inl (M.2.1 k))) := by simp [w_cell]
theorem w_cellZ {D3 : wD} {ad : Nat → Nat} {M : wM} {k z : Nat} : w_cell D3 ad M k (14, z) = .inl (D3.2.2, z, .inl (M.1 k)) := by simp [w_cell]
theorem Rn.getI {index b ci i z : Nat} {C nm ds : String} {fin : Bool} (hd : decode K.2.1 pc = .ok (.getfield index, 3)) (hf : w_fld ci i C nm ds fin false) (hw : Cond.fieldLink K.1.cls index C nm ds ∈ lw_g) (hsh : sh[b]? = some (ci, z))
    (k : Rn K sx cs (pc + 3) lv (.int (M.1 b i) :: st) sh M Q) : Rn K sx cs pc lv (.ref b :: st) sh M Q := by
  intro p l e s m args below meth c A D3 D Qf ad H locs ls hC hS hE
  obtain ⟨T, N, ty, h1, h2, h3, h4, h5, h6, h7, h8, h9, h10, h11⟩ := hf
  have hg : (w_W D3 ad sh M)[b]? = some (ad b, .inr (ci, w_fs ad M b 0 (w_fk ci))) := by rw [w_get hsh, w_cellO h9 h10 h11]
  refine va_get (ref := C) (T := T) (N := N) hC.1 hC.2.1 hC.2.2.2.2.1 h2 hC.2.2.2.1 hC.2.2.2.2.2.1 hS.1 b hg h1 i h3 (by rw [h4]; exact hC.2.2.2.2.1 _ hw) (fun x hx => by rw [h4] at hx ⊢; exact hx) (w_fs_get ad M b (w_fk ci) 0 i false h5) hd ?_
  rw [Nat.zero_add]
  exact (k p l e s m args below meth c A D3 D Qf ad H locs ls hC hS hE)
theorem Rn.getR {index b ci i z r : Nat} {C nm ds : String} {fin : Bool} (hd : decode K.2.1 pc = .ok (.getfield index, 3)) (hf : w_fld ci i C nm ds fin true) (hw : Cond.fieldLink K.1.cls index C nm ds ∈ lw_g) (hsh : sh[b]? = some (ci, z)) (hr : M.2.2 b i = some r)
    (k : Rn K sx cs (pc + 3) lv (.ref r :: st) sh M Q) : Rn K sx cs pc lv (.ref b :: st) sh M Q := by
  intro p l e s m args below meth c A D3 D Qf ad H locs ls hC hS hE
  obtain ⟨T, N, ty, h1, h2, h3, h4, h5, h6, h7, h8, h9, h10, h11⟩ := hf
  have hg : (w_W D3 ad sh M)[b]? = some (ad b, .inr (ci, w_fs ad M b 0 (w_fk ci))) := by rw [w_get hsh, w_cellO h9 h10 h11]
  refine va_get (ref := C) (T := T) (N := N) hC.1 hC.2.1 hC.2.2.2.2.1 h2 hC.2.2.2.1 hC.2.2.2.2.2.1 hS.1 b hg h1 i h3 (by rw [h4]; exact hC.2.2.2.2.1 _ hw) (fun x hx => by rw [h4] at hx ⊢; exact hx) (w_fs_get ad M b (w_fk ci) 0 i true h5) hd ?_
  rw [Nat.zero_add]
  have e9 : w_fv ad M b i true = .ref (ad r) := by simp [w_fv, hr, va_rf]
  rw [e9]
  exact (k p l e s m args below meth c A D3 D Qf ad H locs ls hC hS hE)
theorem w_uiO {D3 : wD} {ad : Nat → Nat} {b ci i z : Nat} {x : Int32} (hsh : sh[b]? = some (ci, z)) (h5 : (w_fk ci)[i]? = some false) (h9 : ci ≠ 12) (h10 : ci ≠ 13) (h11 : ci ≠ 14) : (w_W D3 ad sh M).set b (ad b, .inr (ci, (w_fs ad M b 0 (w_fk ci)).set i (.int x))) = w_W D3 ad sh (w_ui M b i x) := by
  refine w_set hsh ?_ (fun j hj => ⟨w_ui_off _ _ _ _ _ hj, rfl, rfl⟩)
  rw [w_cellO h9 h10 h11, w_fs_set (M := M) (M' := w_ui M b i x) h5 (by simp [w_fv, w_ui_at]) (fun j hj => w_ui_row _ _ _ _ _ hj) (fun j hj => rfl)]
theorem Rn.putI {index b ci i z : Nat} {C nm ds : String} {x : Int32} {ty0 : FieldType} (hd : decode K.2.1 pc = .ok (.putfield index, 3)) (hf : w_fld ci i C nm ds false false) (hw : Cond.fieldLink K.1.cls index C nm ds ∈ lw_g) (hsh : sh[b]? = some (ci, z)) (hds : parseFieldDescriptor ds = some ty0) (hn : narrow ty0 (.int x) = .int x) (hfit : fits ty0 (.int x) = true)
    (k : Rn K sx cs (pc + 3) lv st sh (w_ui M b i x) Q) : Rn K sx cs pc lv (.int x :: .ref b :: st) sh M Q := by
  intro p l e s m args below meth c A D3 D Qf ad H locs ls hC hS hE
  obtain ⟨T, N, ty, h1, h2, h3, h4, h5, h6, h7, h8, h9, h10, h11⟩ := hf
  have hg : (w_W D3 ad sh M)[b]? = some (ad b, .inr (ci, w_fs ad M b 0 (w_fk ci))) := by rw [w_get hsh, w_cellO h9 h10 h11]
  refine va_put (v := .int x) (ref := C) (T := T) (N := N) (ty := ty0) hC.1 hC.2.1 hC.2.2.2.2.1 h2 ty h7 h8 hC.2.2.2.1 hC.2.2.2.2.2.1 hS.1 hS.2.1 hS.2.2.1 b hg h1 i h3 (by rw [h4]; exact hC.2.2.2.2.1 _ hw) (fun y hy => by rw [h4] at hy ⊢; exact hy) (by rw [h4]) (by rw [h4]; exact hds) hn hfit (by rw [w_fs_len, h6]; exact h3) hd (fun H1 locs1 hP hD hSS => ?_)
  rw [w_uiO hsh h5 h9 h10 h11] at hP hD
  exact k p l e s m args below meth c A D3 D Qf ad H1 locs1 ls hC ⟨hP, hD, hSS, hS.2.2.2.1, hS.2.2.2.2.1, hS.2.2.2.2.2⟩ hE
theorem w_urO {D3 : wD} {ad : Nat → Nat} {b ci i z r : Nat} (hsh : sh[b]? = some (ci, z)) (h5 : (w_fk ci)[i]? = some true) (h9 : ci ≠ 12) (h10 : ci ≠ 13) (h11 : ci ≠ 14) : (w_W D3 ad sh M).set b (ad b, .inr (ci, (w_fs ad M b 0 (w_fk ci)).set i (.ref (ad r)))) = w_W D3 ad sh (w_ur M b i (some r)) := by
  refine w_set hsh ?_ (fun j hj => ⟨rfl, rfl, by simp [w_ur, va_up, hj]⟩)
  rw [w_cellO h9 h10 h11, w_fs_set (M := M) (M' := w_ur M b i (some r)) h5 (by simp [w_fv, w_ur_if, va_rf]) (fun j hj => rfl) (fun j hj => by simp [w_ur_if, hj])]
/-- a final reference field, in a constructor -/
theorem Rn.putR {index b ci i z r : Nat} {C nm ds : String} {ty0 : FieldType} (hd : decode K.2.1 pc = .ok (.putfield index, 3)) (hf : w_fld ci i C nm ds true true) (hw : Cond.fieldLink K.1.cls index C nm ds ∈ lw_g) (hsh : sh[b]? = some (ci, z)) (hds : parseFieldDescriptor ds = some ty0) (hn : ∀ a, narrow ty0 (.ref a) = .ref a) (hfit : ∀ a, fits ty0 (.ref a) = true) (hin : K.1.name = "<init>") (hcls : C = K.1.cls) (hrl : r < sh.length)
    (k : Rn K sx cs (pc + 3) lv st sh (w_ur M b i (some r)) Q) : Rn K sx cs pc lv (.ref r :: .ref b :: st) sh M Q := by
  intro p l e s m args below meth c A D3 D Qf ad H locs ls hC hS hE
  obtain ⟨T, N, ty, h1, h2, h3, h4, h5, h6, h7, h8, h9, h10, h11⟩ := hf
  have hg : (w_W D3 ad sh M)[b]? = some (ad b, .inr (ci, w_fs ad M b 0 (w_fk ci))) := by rw [w_get hsh, w_cellO h9 h10 h11]
  refine va_putF (v := .ref (ad r)) (ref := C) (T := T) (N := N) (ty := ty0) hC.1 hC.2.1 hC.2.2.2.2.1 h2 ty h7 h8 hC.2.2.2.1 hC.2.2.2.2.2.1 hS.1 hS.2.1 hS.2.2.1 b hg h1 i h3 (by rw [h4]; exact hC.2.2.2.2.1 _ hw) (fun y hy => by rw [h4] at hy ⊢; exact hy) (by rw [h4]) ((hC.2.2.2.2.2.2.2.2.1 hin).trans hin) (by rw [h4]; exact hcls) (by rw [h4]; exact hds) (hn _) (hfit _) (by rw [w_fs_len, h6]; exact h3) hd (fun H1 locs1 hP hD hSS => ?_)
  rw [w_urO hsh h5 h9 h10 h11] at hP hD
  refine k p l e s m args below meth c A D3 D Qf ad H1 locs1 ls hC ⟨hP, hD, hSS, hS.2.2.2.1, hS.2.2.2.2.1, fun a j x hx => ?_, hS.2.2.2.2.2.2⟩ hE
  rw [w_ur_if] at hx
  split at hx
  · cases hx; exact hrl
  · exact hS.2.2.2.2.2.1 a j x hx
/-! arrays -/
theorem Rn.alen {b z t : Nat} (hd : decode K.2.1 pc = .ok (.arraylength, 1)) (hsh : sh[b]? = some (t, z)) (ht : t = 12 ∨ t = 13 ∨ t = 14)
    (k : Rn K sx cs (pc + 1) lv (.int (nI z) :: st) sh M Q) : Rn K sx cs pc lv (.ref b :: st) sh M Q := by
  intro p l e s m args below meth c A D3 D Qf ad H locs ls hC hS hE
  have hK := hC.2.2.2.2.2.1
  rcases ht with rfl | rfl | rfl
  · exact va_alen (tys := w_ty D3) (ty := .int) hC.1 hC.2.1 hK hS.1 b 0 (x := (z, .inl (M.1 b))) (by rw [w_get hsh, w_cellI]) rfl rfl hd (k p l e s m args below meth c A D3 D Qf ad H locs ls hC hS hE)
  · exact va_alen (tys := w_ty D3) (ty := .long) hC.1 hC.2.1 hK hS.1 b 1 (x := (z, .inr (.inl (M.2.1 b)))) (by rw [w_get hsh, w_cellJ]) rfl rfl hd (k p l e s m args below meth c A D3 D Qf ad H locs ls hC hS hE)
  · exact va_alen (tys := w_ty D3) (ty := .boolean) hC.1 hC.2.1 hK hS.1 b 2 (x := (z, .inl (M.1 b))) (by rw [w_get hsh, w_cellZ]) rfl rfl hd (k p l e s m args below meth c A D3 D Qf ad H locs ls hC hS hE)
theorem Rn.iald {b z : Nat} {i : Int32} (hd : decode K.2.1 pc = .ok (.iaload, 1)) (hsh : sh[b]? = some (12, z)) (hin : vp_in i z)
    (k : Rn K sx cs (pc + 1) lv (.int (M.1 b i.toNatClampNeg) :: st) sh M Q) : Rn K sx cs pc lv (.int i :: .ref b :: st) sh M Q := by
  intro p l e s m args below meth c A D3 D Qf ad H locs ls hC hS hE
  exact va_iald (tys := w_ty D3) hC.1 hC.2.1 hC.2.2.2.2.2.1 hS.1 b 0 (by rw [w_get hsh, w_cellI]) rfl hin hd (k p l e s m args below meth c A D3 D Qf ad H locs ls hC hS hE)
theorem Rn.lald {b z : Nat} {i : Int32} (hd : decode K.2.1 pc = .ok (.laload, 1)) (hsh : sh[b]? = some (13, z)) (hin : vp_in i z)
    (k : Rn K sx cs (pc + 1) lv (.long (M.2.1 b i.toNatClampNeg) :: st) sh M Q) : Rn K sx cs pc lv (.int i :: .ref b :: st) sh M Q := by
  intro p l e s m args below meth c A D3 D Qf ad H locs ls hC hS hE
  exact va_lald (tys := w_ty D3) hC.1 hC.2.1 hC.2.2.2.2.2.1 hS.1 b 1 (by rw [w_get hsh, w_cellJ]) rfl hin hd (k p l e s m args below meth c A D3 D Qf ad H locs ls hC hS hE)
theorem Rn.zald {b z : Nat} {i : Int32} (hd : decode K.2.1 pc = .ok (.baload, 1)) (hsh : sh[b]? = some (14, z)) (hin : vp_in i z)
    (k : Rn K sx cs (pc + 1) lv (.int (M.1 b i.toNatClampNeg) :: st) sh M Q) : Rn K sx cs pc lv (.int i :: .ref b :: st) sh M Q := by
  intro p l e s m args below meth c A D3 D Qf ad H locs ls hC hS hE
  exact va_zald (tys := w_ty D3) hC.1 hC.2.1 hC.2.2.2.2.2.1 hS.1 b 2 (by rw [w_get hsh, w_cellZ]) rfl hin hd (k p l e s m args below meth c A D3 D Qf ad H locs ls hC hS hE)
theorem w_ui_row' (M : wM) (k j : Nat) (x : Int32) : (w_ui M k j x).1 k = upd (M.1 k) j x := by simp [w_ui, va_up]
theorem w_ul_row' (M : wM) (k j : Nat) (x : Int64) : (w_ul M k j x).2.1 k = vp_updL (M.2.1 k) j x := by simp [w_ul, va_up]
theorem Rn.iast {b z : Nat} {i x : Int32} (hd : decode K.2.1 pc = .ok (.iastore, 1)) (hsh : sh[b]? = some (12, z)) (hin : vp_in i z)
    (k : Rn K sx cs (pc + 1) lv st sh (w_ui M b i.toNatClampNeg x) Q) : Rn K sx cs pc lv (.int x :: .int i :: .ref b :: st) sh M Q := by
  intro p l e s m args below meth c A D3 D Qf ad H locs ls hC hS hE
  refine va_iast (tys := w_ty D3) hC.1 hC.2.1 hC.2.2.2.2.2.1 hS.1 hS.2.1 hS.2.2.1 b 0 (by rw [w_get hsh, w_cellI]) rfl hin hd (fun H1 locs1 hP hD hSS => ?_)
  rw [w_set (M := M) (M' := w_ui M b i.toNatClampNeg x) hsh (by rw [w_cellI, w_ui_row']) (fun j hj => ⟨w_ui_off _ _ _ _ _ hj, rfl, rfl⟩)] at hP hD
  exact k p l e s m args below meth c A D3 D Qf ad H1 locs1 ls hC ⟨hP, hD, hSS, hS.2.2.2.1, hS.2.2.2.2.1, hS.2.2.2.2.2⟩ hE
theorem Rn.last {b z : Nat} {i : Int32} {x : Int64} (hd : decode K.2.1 pc = .ok (.lastore, 1)) (hsh : sh[b]? = some (13, z)) (hin : vp_in i z)
    (k : Rn K sx cs (pc + 1) lv st sh (w_ul M b i.toNatClampNeg x) Q) : Rn K sx cs pc lv (.long x :: .int i :: .ref b :: st) sh M Q := by
  intro p l e s m args below meth c A D3 D Qf ad H locs ls hC hS hE
  refine va_last (tys := w_ty D3) hC.1 hC.2.1 hC.2.2.2.2.2.1 hS.1 hS.2.1 hS.2.2.1 b 1 (by rw [w_get hsh, w_cellJ]) rfl hin hd (fun H1 locs1 hP hD hSS => ?_)
  rw [w_set (M := M) (M' := w_ul M b i.toNatClampNeg x) hsh (by rw [w_cellJ, w_ul_row']) (fun j hj => ⟨rfl, by simp [w_ul, va_up, hj], rfl⟩)] at hP hD
  exact k p l e s m args below meth c A D3 D Qf ad H1 locs1 ls hC ⟨hP, hD, hSS, hS.2.2.2.1, hS.2.2.2.2.1, hS.2.2.2.2.2⟩ hE
theorem Rn.zast {b z : Nat} {i x y : Int32} (hd : decode K.2.1 pc = .ok (.bastore, 1)) (hsh : sh[b]? = some (14, z)) (hin : vp_in i z) (hx : vp_nar .boolean x = y)
    (k : Rn K sx cs (pc + 1) lv st sh (w_ui M b i.toNatClampNeg y) Q) : Rn K sx cs pc lv (.int x :: .int i :: .ref b :: st) sh M Q := by
  intro p l e s m args below meth c A D3 D Qf ad H locs ls hC hS hE
  subst hx
  refine va_zast (tys := w_ty D3) hC.1 hC.2.1 hC.2.2.2.2.2.1 hS.1 hS.2.1 hS.2.2.1 b 2 (by rw [w_get hsh, w_cellZ]) rfl hin hd (fun H1 locs1 hP hD hSS => ?_)
  rw [w_set (M := M) (M' := w_ui M b i.toNatClampNeg (vp_nar .boolean x)) hsh (by rw [w_cellZ, w_ui_row']) (fun j hj => ⟨w_ui_off _ _ _ _ _ hj, rfl, rfl⟩)] at hP hD
  exact k p l e s m args below meth c A D3 D Qf ad H1 locs1 ls hC ⟨hP, hD, hSS, hS.2.2.2.1, hS.2.2.2.2.1, hS.2.2.2.2.2⟩ hE
/-! the law's own script -/
theorem Rn.sld {L b0 : Nat} {xs : Nat → Int32} {i : Int32} (hs : sx = some (L, xs, b0)) (hd : decode K.2.1 pc = .ok (.iaload, 1)) (hin : vp_in i L)
    (k : Rn K sx cs (pc + 1) lv (.int (xs i.toNatClampNeg) :: st) sh M Q) : Rn K sx cs pc lv (.int i :: .ref w_scr :: st) sh M Q := by
  intro p l e s m args below meth c A D3 D Qf ad H locs ls hC hS hE
  subst hs
  obtain ⟨h1, h2, h3⟩ : va_X b0 L xs s s.heap ∧ b0 < s.heap.size ∧ ¬ A b0 := hC.2.2.2.2.2.2.2.2.2
  have h4 : ad w_scr = b0 := hS.2.2.2.2.2.2
  show W p l e _ s m args below meth c H locs _ _ Qf (F0 m pc ls (.int i :: .ref (ad w_scr) :: st.map (w_cv ad)))
  rw [h4]
  exact va_sld hC.1 hC.2.1 h1 h2 h3 hS.2.2.1 hin hd (k p l e s m args below meth c A D3 D Qf ad H locs ls hC hS hE)
theorem Rn.slen {L b0 : Nat} {xs : Nat → Int32} (hs : sx = some (L, xs, b0)) (hd : decode K.2.1 pc = .ok (.arraylength, 1))
    (k : Rn K sx cs (pc + 1) lv (.int (nI L) :: st) sh M Q) : Rn K sx cs pc lv (.ref w_scr :: st) sh M Q := by
  intro p l e s m args below meth c A D3 D Qf ad H locs ls hC hS hE
  subst hs
  obtain ⟨h1, h2, h3⟩ : va_X b0 L xs s s.heap ∧ b0 < s.heap.size ∧ ¬ A b0 := hC.2.2.2.2.2.2.2.2.2
  have h4 : ad w_scr = b0 := hS.2.2.2.2.2.2
  show W p l e _ s m args below meth c H locs _ _ Qf (F0 m pc ls (.ref (ad w_scr) :: st.map (w_cv ad)))
  rw [h4]
  exact va_slen hC.1 hC.2.1 h1 h2 h3 hS.2.2.1 hd (k p l e s m args below meth c A D3 D Qf ad H locs ls hC hS hE)
end RN
