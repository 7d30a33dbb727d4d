section
-- ===== PART A: goes FIRST, ahead of the names: the tables' words, and 'selects' of the private methods out of them =====
/-- a private method of a class that the tables say can be made, by its rows of tables_1 -/
def lw_okq (q : MethodName × Nat) : Prop := (q.1.cls ≠ "java/lang/invoke/MethodHandle" ∧ q.1.cls ≠ "java/lang/invoke/VarHandle") ∧ Cond.instantiable q.1.cls q.2 ∈ tables_1 ∧ Cond.privateMethod q.1 ∈ tables_1 ∧ Cond.instanceMethod q.1 ∈ tables_1
theorem lw_p0 : lw_okq (⟨"BaubleHill$Pad", "signAt", "(I)I"⟩, 2) := ⟨⟨by decide +kernel, by decide +kernel⟩, List.mem_of_getElem? (i := 74) (by decide +kernel), List.mem_of_getElem? (i := 329) (by decide +kernel), List.mem_of_getElem? (i := 330) (by decide +kernel)⟩
theorem lw_p1 : lw_okq (⟨"BaubleHill$Hill", "blow", "(I)V"⟩, 5) := ⟨⟨by decide +kernel, by decide +kernel⟩, List.mem_of_getElem? (i := 25) (by decide +kernel), List.mem_of_getElem? (i := 378) (by decide +kernel), List.mem_of_getElem? (i := 379) (by decide +kernel)⟩
theorem lw_p2 : lw_okq (⟨"BaubleHill$Hill", "chip", "(II)V"⟩, 5) := ⟨⟨by decide +kernel, by decide +kernel⟩, List.mem_of_getElem? (i := 25) (by decide +kernel), List.mem_of_getElem? (i := 397) (by decide +kernel), List.mem_of_getElem? (i := 398) (by decide +kernel)⟩
theorem lw_p3 : lw_okq (⟨"BaubleHill$Hill", "packAll", "()V"⟩, 5) := ⟨⟨by decide +kernel, by decide +kernel⟩, List.mem_of_getElem? (i := 25) (by decide +kernel), List.mem_of_getElem? (i := 403) (by decide +kernel), List.mem_of_getElem? (i := 404) (by decide +kernel)⟩
theorem lw_p4 : lw_okq (⟨"BaubleHill$Telling", "noteBroken", "(I)V"⟩, 6) := ⟨⟨by decide +kernel, by decide +kernel⟩, List.mem_of_getElem? (i := 87) (by decide +kernel), List.mem_of_getElem? (i := 407) (by decide +kernel), List.mem_of_getElem? (i := 408) (by decide +kernel)⟩
theorem lw_p5 : lw_okq (⟨"BaubleHill$Choice", "lookAround", "(LBaubleHill$Tree;I)V"⟩, 1) := ⟨⟨by decide +kernel, by decide +kernel⟩, List.mem_of_getElem? (i := 130) (by decide +kernel), List.mem_of_getElem? (i := 500) (by decide +kernel), List.mem_of_getElem? (i := 501) (by decide +kernel)⟩
theorem lw_p6 : lw_okq (⟨"BaubleHill$Choice", "standsApart", "(I)Z"⟩, 1) := ⟨⟨by decide +kernel, by decide +kernel⟩, List.mem_of_getElem? (i := 130) (by decide +kernel), List.mem_of_getElem? (i := 506) (by decide +kernel), List.mem_of_getElem? (i := 507) (by decide +kernel)⟩
theorem lw_p7 : lw_okq (⟨"BaubleHill$Choice", "lightsAll", "(I)Z"⟩, 1) := ⟨⟨by decide +kernel, by decide +kernel⟩, List.mem_of_getElem? (i := 130) (by decide +kernel), List.mem_of_getElem? (i := 520) (by decide +kernel), List.mem_of_getElem? (i := 521) (by decide +kernel)⟩
theorem lw_p8 : lw_okq (⟨"BaubleHill$Year", "draw", "(I)V"⟩, 2) := ⟨⟨by decide +kernel, by decide +kernel⟩, List.mem_of_getElem? (i := 150) (by decide +kernel), List.mem_of_getElem? (i := 604) (by decide +kernel), List.mem_of_getElem? (i := 605) (by decide +kernel)⟩
theorem lw_p9 : lw_okq (⟨"BaubleHill", "imageOf", "(I)LBaubleHill$Image;"⟩, 9) := ⟨⟨by decide +kernel, by decide +kernel⟩, List.mem_of_getElem? (i := 17) (by decide +kernel), List.mem_of_getElem? (i := 615) (by decide +kernel), List.mem_of_getElem? (i := 616) (by decide +kernel)⟩
theorem lw_p10 : lw_okq (⟨"BaubleHillModel", "asNow", "()V"⟩, 17) := ⟨⟨by decide +kernel, by decide +kernel⟩, List.mem_of_getElem? (i := 645) (by decide +kernel), List.mem_of_getElem? (i := 716) (by decide +kernel), List.mem_of_getElem? (i := 717) (by decide +kernel)⟩
theorem lw_p11 : lw_okq (⟨"BaubleHillModel", "ballOn", "(I)I"⟩, 17) := ⟨⟨by decide +kernel, by decide +kernel⟩, List.mem_of_getElem? (i := 645) (by decide +kernel), List.mem_of_getElem? (i := 720) (by decide +kernel), List.mem_of_getElem? (i := 721) (by decide +kernel)⟩
theorem lw_p12 : lw_okq (⟨"BaubleHillModel", "faultOf", "()I"⟩, 17) := ⟨⟨by decide +kernel, by decide +kernel⟩, List.mem_of_getElem? (i := 645) (by decide +kernel), List.mem_of_getElem? (i := 736) (by decide +kernel), List.mem_of_getElem? (i := 737) (by decide +kernel)⟩
theorem lw_p13 : lw_okq (⟨"BaubleHillModel", "goWinters", "()I"⟩, 17) := ⟨⟨by decide +kernel, by decide +kernel⟩, List.mem_of_getElem? (i := 645) (by decide +kernel), List.mem_of_getElem? (i := 747) (by decide +kernel), List.mem_of_getElem? (i := 748) (by decide +kernel)⟩
theorem lw_p14 : lw_okq (⟨"BaubleHillModel", "endWinter", "()I"⟩, 17) := ⟨⟨by decide +kernel, by decide +kernel⟩, List.mem_of_getElem? (i := 645) (by decide +kernel), List.mem_of_getElem? (i := 751) (by decide +kernel), List.mem_of_getElem? (i := 752) (by decide +kernel)⟩
theorem lw_p15 : lw_okq (⟨"BaubleHillModel", "bend", "(II)I"⟩, 17) := ⟨⟨by decide +kernel, by decide +kernel⟩, List.mem_of_getElem? (i := 645) (by decide +kernel), List.mem_of_getElem? (i := 755) (by decide +kernel), List.mem_of_getElem? (i := 756) (by decide +kernel)⟩
def lw_privs_1 : List (MethodName × Nat) := [(⟨"BaubleHill$Pad", "signAt", "(I)I"⟩, 2), (⟨"BaubleHill$Hill", "blow", "(I)V"⟩, 5), (⟨"BaubleHill$Hill", "chip", "(II)V"⟩, 5), (⟨"BaubleHill$Hill", "packAll", "()V"⟩, 5), (⟨"BaubleHill$Telling", "noteBroken", "(I)V"⟩, 6), (⟨"BaubleHill$Choice", "lookAround", "(LBaubleHill$Tree;I)V"⟩, 1), (⟨"BaubleHill$Choice", "standsApart", "(I)Z"⟩, 1), (⟨"BaubleHill$Choice", "lightsAll", "(I)Z"⟩, 1), (⟨"BaubleHill$Year", "draw", "(I)V"⟩, 2), (⟨"BaubleHill", "imageOf", "(I)LBaubleHill$Image;"⟩, 9), (⟨"BaubleHillModel", "asNow", "()V"⟩, 17), (⟨"BaubleHillModel", "ballOn", "(I)I"⟩, 17), (⟨"BaubleHillModel", "faultOf", "()I"⟩, 17), (⟨"BaubleHillModel", "goWinters", "()I"⟩, 17), (⟨"BaubleHillModel", "endWinter", "()I"⟩, 17), (⟨"BaubleHillModel", "bend", "(II)I"⟩, 17)]
theorem lw_r1 : ∀ q ∈ lw_privs_1, lw_okq q := List.forall_mem_cons.mpr ⟨lw_p0, List.forall_mem_cons.mpr ⟨lw_p1, List.forall_mem_cons.mpr ⟨lw_p2, List.forall_mem_cons.mpr ⟨lw_p3, List.forall_mem_cons.mpr ⟨lw_p4, List.forall_mem_cons.mpr ⟨lw_p5, List.forall_mem_cons.mpr ⟨lw_p6, List.forall_mem_cons.mpr ⟨lw_p7, List.forall_mem_cons.mpr ⟨lw_p8, List.forall_mem_cons.mpr ⟨lw_p9, List.forall_mem_cons.mpr ⟨lw_p10, List.forall_mem_cons.mpr ⟨lw_p11, List.forall_mem_cons.mpr ⟨lw_p12, List.forall_mem_cons.mpr ⟨lw_p13, List.forall_mem_cons.mpr ⟨lw_p14, List.forall_mem_cons.mpr ⟨lw_p15, fun _ h => absurd h List.not_mem_nil⟩⟩⟩⟩⟩⟩⟩⟩⟩⟩⟩⟩⟩⟩⟩⟩
theorem lw_p16 : lw_okq (⟨"BaubleHillModel", "blow", "(I)I"⟩, 17) := ⟨⟨by decide +kernel, by decide +kernel⟩, List.mem_of_getElem? (i := 645) (by decide +kernel), List.mem_of_getElem? (i := 759) (by decide +kernel), List.mem_of_getElem? (i := 760) (by decide +kernel)⟩
theorem lw_p17 : lw_okq (⟨"BaubleHillModel", "hanging", "()I"⟩, 17) := ⟨⟨by decide +kernel, by decide +kernel⟩, List.mem_of_getElem? (i := 645) (by decide +kernel), List.mem_of_getElem? (i := 763) (by decide +kernel), List.mem_of_getElem? (i := 764) (by decide +kernel)⟩
theorem lw_p18 : lw_okq (⟨"BaubleHillModel", "apartOf", "(II)I"⟩, 17) := ⟨⟨by decide +kernel, by decide +kernel⟩, List.mem_of_getElem? (i := 645) (by decide +kernel), List.mem_of_getElem? (i := 770) (by decide +kernel), List.mem_of_getElem? (i := 771) (by decide +kernel)⟩
theorem lw_p19 : lw_okq (⟨"BaubleHillModel", "pack", "(I)I"⟩, 17) := ⟨⟨by decide +kernel, by decide +kernel⟩, List.mem_of_getElem? (i := 645) (by decide +kernel), List.mem_of_getElem? (i := 774) (by decide +kernel), List.mem_of_getElem? (i := 775) (by decide +kernel)⟩
theorem lw_p20 : lw_okq (⟨"BaubleHillModel", "hang", "(II)I"⟩, 17) := ⟨⟨by decide +kernel, by decide +kernel⟩, List.mem_of_getElem? (i := 645) (by decide +kernel), List.mem_of_getElem? (i := 781) (by decide +kernel), List.mem_of_getElem? (i := 782) (by decide +kernel)⟩
theorem lw_p21 : lw_okq (⟨"BaubleHillModel", "barOfWinters", "()I"⟩, 17) := ⟨⟨by decide +kernel, by decide +kernel⟩, List.mem_of_getElem? (i := 645) (by decide +kernel), List.mem_of_getElem? (i := 789) (by decide +kernel), List.mem_of_getElem? (i := 790) (by decide +kernel)⟩
theorem lw_p22 : lw_okq (⟨"BaubleHillModel", "meetOf", "(II)I"⟩, 17) := ⟨⟨by decide +kernel, by decide +kernel⟩, List.mem_of_getElem? (i := 645) (by decide +kernel), List.mem_of_getElem? (i := 812) (by decide +kernel), List.mem_of_getElem? (i := 813) (by decide +kernel)⟩
theorem lw_p23 : lw_okq (⟨"BaubleHillModel", "isFit", "(I)Z"⟩, 17) := ⟨⟨by decide +kernel, by decide +kernel⟩, List.mem_of_getElem? (i := 645) (by decide +kernel), List.mem_of_getElem? (i := 845) (by decide +kernel), List.mem_of_getElem? (i := 846) (by decide +kernel)⟩
theorem lw_p24 : lw_okq (⟨"BaubleHillModel", "worthOf", "(I)I"⟩, 17) := ⟨⟨by decide +kernel, by decide +kernel⟩, List.mem_of_getElem? (i := 645) (by decide +kernel), List.mem_of_getElem? (i := 857) (by decide +kernel), List.mem_of_getElem? (i := 858) (by decide +kernel)⟩
theorem lw_p25 : lw_okq (⟨"BaubleHillModel", "layChoices", "()V"⟩, 17) := ⟨⟨by decide +kernel, by decide +kernel⟩, List.mem_of_getElem? (i := 645) (by decide +kernel), List.mem_of_getElem? (i := 869) (by decide +kernel), List.mem_of_getElem? (i := 870) (by decide +kernel)⟩
def lw_privs_2 : List (MethodName × Nat) := [(⟨"BaubleHillModel", "blow", "(I)I"⟩, 17), (⟨"BaubleHillModel", "hanging", "()I"⟩, 17), (⟨"BaubleHillModel", "apartOf", "(II)I"⟩, 17), (⟨"BaubleHillModel", "pack", "(I)I"⟩, 17), (⟨"BaubleHillModel", "hang", "(II)I"⟩, 17), (⟨"BaubleHillModel", "barOfWinters", "()I"⟩, 17), (⟨"BaubleHillModel", "meetOf", "(II)I"⟩, 17), (⟨"BaubleHillModel", "isFit", "(I)Z"⟩, 17), (⟨"BaubleHillModel", "worthOf", "(I)I"⟩, 17), (⟨"BaubleHillModel", "layChoices", "()V"⟩, 17)]
theorem lw_r2 : ∀ q ∈ lw_privs_2, lw_okq q := List.forall_mem_cons.mpr ⟨lw_p16, List.forall_mem_cons.mpr ⟨lw_p17, List.forall_mem_cons.mpr ⟨lw_p18, List.forall_mem_cons.mpr ⟨lw_p19, List.forall_mem_cons.mpr ⟨lw_p20, List.forall_mem_cons.mpr ⟨lw_p21, List.forall_mem_cons.mpr ⟨lw_p22, List.forall_mem_cons.mpr ⟨lw_p23, List.forall_mem_cons.mpr ⟨lw_p24, List.forall_mem_cons.mpr ⟨lw_p25, fun _ h => absurd h List.not_mem_nil⟩⟩⟩⟩⟩⟩⟩⟩⟩⟩
def lw_privs : List (MethodName × Nat) := lw_privs_1 ++ (lw_privs_2)
def lw_tbl : List Cond := k2_sels lw_privs ++ tables_1
theorem lw_privs_ok : ∀ q ∈ lw_privs, lw_okq q := by
  show ∀ q ∈ lw_privs_1 ++ (lw_privs_2), lw_okq q
  exact List.forall_mem_append.mpr ⟨lw_r1, lw_r2⟩

/-- the words of the tables that a method may ask of its caller -/
def lw_g : List Cond := lw_tbl.filter goodWord
theorem g_mem {w : Cond} {i : Nat} (h : lw_tbl[i]? = some w) (hg : goodWord w = true) : w ∈ lw_g := List.mem_filter.mpr ⟨List.mem_of_getElem? h, hg⟩
theorem g_good : ∀ w ∈ lw_g, w ∈ lw_tbl ∧ goodWord w = true := fun _ h => List.mem_filter.mp h
theorem g_app (a b : List Cond) {w : Cond} {i : Nat} (h : b[i]? = some w) : w ∈ a ++ b := List.mem_append_right _ (List.mem_of_getElem? h)
theorem g_s1 {w : Cond} {i : Nat} (h : tables_1_1[i]? = some w) (hg : goodWord w = true) : w ∈ lw_g := List.mem_filter.mpr ⟨List.mem_append_right _ (List.mem_append_left _ (List.mem_of_getElem? h)), hg⟩
theorem g_s2 {w : Cond} {i : Nat} (h : tables_1_2[i]? = some w) (hg : goodWord w = true) : w ∈ lw_g := List.mem_filter.mpr ⟨List.mem_append_right _ (List.mem_append_right _ (List.mem_append_left _ (List.mem_of_getElem? h))), hg⟩
theorem g_s3 {w : Cond} {i : Nat} (h : tables_1_3[i]? = some w) (hg : goodWord w = true) : w ∈ lw_g := List.mem_filter.mpr ⟨List.mem_append_right _ (List.mem_append_right _ (List.mem_append_right _ (List.mem_append_left _ (List.mem_of_getElem? h)))), hg⟩
theorem g_s4 {w : Cond} {i : Nat} (h : tables_1_4[i]? = some w) (hg : goodWord w = true) : w ∈ lw_g := List.mem_filter.mpr ⟨List.mem_append_right _ (List.mem_append_right _ (List.mem_append_right _ (List.mem_append_right _ (List.mem_of_getElem? h)))), hg⟩
theorem g_n1 {w : Cond} {i : Nat} (h : tables_1_1[i]? = some w) : w ∈ lw_tbl := List.mem_append_right _ (List.mem_append_left _ (List.mem_of_getElem? h))
theorem g_n2 {w : Cond} {i : Nat} (h : tables_1_2[i]? = some w) : w ∈ lw_tbl := List.mem_append_right _ (List.mem_append_right _ (List.mem_append_left _ (List.mem_of_getElem? h)))
theorem g_n3 {w : Cond} {i : Nat} (h : tables_1_3[i]? = some w) : w ∈ lw_tbl := List.mem_append_right _ (List.mem_append_right _ (List.mem_append_right _ (List.mem_append_left _ (List.mem_of_getElem? h))))
theorem g_n4 {w : Cond} {i : Nat} (h : tables_1_4[i]? = some w) : w ∈ lw_tbl := List.mem_append_right _ (List.mem_append_right _ (List.mem_append_right _ (List.mem_append_right _ (List.mem_of_getElem? h))))
theorem g_all {ws : List Cond} (ps : List Nat) (hp : ws = ps.filterMap (fun i => lw_tbl[i]?)) (h : ws.all goodWord = true) : ∀ w ∈ ws, w ∈ lw_g := by
  intro w hw
  have h1 := List.all_eq_true.mp h w hw
  rw [hp] at hw
  obtain ⟨i, -, hi⟩ := List.mem_filterMap.mp hw
  exact g_mem hi h1
def T_Act : u_T := fun k => match k with
  | 0 => ("BaubleHill$Act", "kind", "I", false)
  | 1 => ("BaubleHill$Act", "one", "I", false)
  | _ => ("BaubleHill$Act", "other", "I", false)
def ty_Act : Nat → FieldType := fun k => match k with
  | 0 => .int
  | 1 => .int
  | _ => .int
theorem nm_Act : ∀ a, a < 3 → ∀ b, b < 3 → a ≠ b → (T_Act a).2.1 ≠ (T_Act b).2.1 := by decide +kernel
theorem ty_Act_ok : ∀ k, k < 3 → parseFieldDescriptor (T_Act k).2.2.1 = some (ty_Act k) := by decide +kernel
theorem in_Act : ∀ w ∈ u_ws "BaubleHill$Act" T_Act 3, w ∈ lw_g := g_all [129, 131, 133] (by decide +kernel) (by decide +kernel)
def T_Choice : u_T := fun k => match k with
  | _ => ("BaubleHill$Choice", "around", "[I", true)
def ty_Choice : Nat → FieldType := fun k => match k with
  | _ => .array .int
theorem nm_Choice : ∀ a, a < 1 → ∀ b, b < 1 → a ≠ b → (T_Choice a).2.1 ≠ (T_Choice b).2.1 := by decide +kernel
theorem ty_Choice_ok : ∀ k, k < 1 → parseFieldDescriptor (T_Choice k).2.2.1 = some (ty_Choice k) := by decide +kernel
theorem in_Choice : ∀ w ∈ u_ws "BaubleHill$Choice" T_Choice 1, w ∈ lw_g := g_all [162] (by decide +kernel) (by decide +kernel)
def T_Cutting : u_T := fun k => match k with
  | _ => ("BaubleHill$Cutting", "worths", "[I", true)
def ty_Cutting : Nat → FieldType := fun k => match k with
  | _ => .array .int
theorem nm_Cutting : ∀ a, a < 1 → ∀ b, b < 1 → a ≠ b → (T_Cutting a).2.1 ≠ (T_Cutting b).2.1 := by decide +kernel
theorem ty_Cutting_ok : ∀ k, k < 1 → parseFieldDescriptor (T_Cutting k).2.2.1 = some (ty_Cutting k) := by decide +kernel
theorem in_Cutting : ∀ w ∈ u_ws "BaubleHill$Cutting" T_Cutting 1, w ∈ lw_g := g_all [172] (by decide +kernel) (by decide +kernel)
def T_Hill : u_T := fun k => match k with
  | 0 => ("BaubleHill$Hill", "tree", "LBaubleHill$Tree;", true)
  | 1 => ("BaubleHill$Hill", "loops", "[I", true)
  | 2 => ("BaubleHill$Hill", "chips", "[I", true)
  | 3 => ("BaubleHill$Hill", "broken", "I", false)
  | _ => ("BaubleHill$Hill", "winter", "I", false)
def ty_Hill : Nat → FieldType := fun k => match k with
  | 0 => .object "BaubleHill$Tree"
  | 1 => .array .int
  | 2 => .array .int
  | 3 => .int
  | _ => .int
theorem nm_Hill : ∀ a, a < 5 → ∀ b, b < 5 → a ≠ b → (T_Hill a).2.1 ≠ (T_Hill b).2.1 := by decide +kernel
theorem ty_Hill_ok : ∀ k, k < 5 → parseFieldDescriptor (T_Hill k).2.2.1 = some (ty_Hill k) := by decide +kernel
theorem in_Hill : ∀ w ∈ u_ws "BaubleHill$Hill" T_Hill 5, w ∈ lw_g := g_all [72, 74, 76, 78, 80] (by decide +kernel) (by decide +kernel)
def T_Image : u_T := fun k => match k with
  | 0 => ("BaubleHill$Image", "hill", "LBaubleHill$Hill;", true)
  | 1 => ("BaubleHill$Image", "sights", "LBaubleHill$Sights;", true)
  | _ => ("BaubleHill$Image", "kept", "Z", false)
def ty_Image : Nat → FieldType := fun k => match k with
  | 0 => .object "BaubleHill$Hill"
  | 1 => .object "BaubleHill$Sights"
  | _ => .boolean
theorem nm_Image : ∀ a, a < 3 → ∀ b, b < 3 → a ≠ b → (T_Image a).2.1 ≠ (T_Image b).2.1 := by decide +kernel
theorem ty_Image_ok : ∀ k, k < 3 → parseFieldDescriptor (T_Image k).2.2.1 = some (ty_Image k) := by decide +kernel
theorem in_Image : ∀ w ∈ u_ws "BaubleHill$Image" T_Image 3, w ∈ lw_g := g_all [205, 207, 209] (by decide +kernel) (by decide +kernel)
def T_Pad : u_T := fun k => match k with
  | 0 => ("BaubleHill$Pad", "signs", "[I", true)
  | _ => ("BaubleHill$Pad", "count", "I", false)
def ty_Pad : Nat → FieldType := fun k => match k with
  | 0 => .array .int
  | _ => .int
theorem nm_Pad : ∀ a, a < 2 → ∀ b, b < 2 → a ≠ b → (T_Pad a).2.1 ≠ (T_Pad b).2.1 := by decide +kernel
theorem ty_Pad_ok : ∀ k, k < 2 → parseFieldDescriptor (T_Pad k).2.2.1 = some (ty_Pad k) := by decide +kernel
theorem in_Pad : ∀ w ∈ u_ws "BaubleHill$Pad" T_Pad 2, w ∈ lw_g := g_all [107, 109] (by decide +kernel) (by decide +kernel)
def T_Sights : u_T := fun k => match k with
  | 0 => ("BaubleHill$Sights", "loops", "[I", true)
  | 1 => ("BaubleHill$Sights", "fars", "[I", true)
  | _ => ("BaubleHill$Sights", "count", "I", false)
def ty_Sights : Nat → FieldType := fun k => match k with
  | 0 => .array .int
  | 1 => .array .int
  | _ => .int
theorem nm_Sights : ∀ a, a < 3 → ∀ b, b < 3 → a ≠ b → (T_Sights a).2.1 ≠ (T_Sights b).2.1 := by decide +kernel
theorem ty_Sights_ok : ∀ k, k < 3 → parseFieldDescriptor (T_Sights k).2.2.1 = some (ty_Sights k) := by decide +kernel
theorem in_Sights : ∀ w ∈ u_ws "BaubleHill$Sights" T_Sights 3, w ∈ lw_g := g_all [92, 94, 96] (by decide +kernel) (by decide +kernel)
def T_Telling : u_T := fun k => match k with
  | 0 => ("BaubleHill$Telling", "hill", "LBaubleHill$Hill;", true)
  | 1 => ("BaubleHill$Telling", "act", "LBaubleHill$Act;", true)
  | 2 => ("BaubleHill$Telling", "acts", "I", false)
  | 3 => ("BaubleHill$Telling", "why", "I", false)
  | 4 => ("BaubleHill$Telling", "actThatBroke", "I", false)
  | _ => ("BaubleHill$Telling", "ballThatBroke", "I", false)
def ty_Telling : Nat → FieldType := fun k => match k with
  | 0 => .object "BaubleHill$Hill"
  | 1 => .object "BaubleHill$Act"
  | 2 => .int
  | 3 => .int
  | 4 => .int
  | _ => .int
theorem nm_Telling : ∀ a, a < 6 → ∀ b, b < 6 → a ≠ b → (T_Telling a).2.1 ≠ (T_Telling b).2.1 := by decide +kernel
theorem ty_Telling_ok : ∀ k, k < 6 → parseFieldDescriptor (T_Telling k).2.2.1 = some (ty_Telling k) := by decide +kernel
theorem in_Telling : ∀ w ∈ u_ws "BaubleHill$Telling" T_Telling 6, w ∈ lw_g := g_all [142, 144, 146, 148, 150, 152] (by decide +kernel) (by decide +kernel)
def T_Tree : u_T := fun k => match k with
  | _ => ("BaubleHill$Tree", "parents", "[I", true)
def ty_Tree : Nat → FieldType := fun k => match k with
  | _ => .array .int
theorem nm_Tree : ∀ a, a < 1 → ∀ b, b < 1 → a ≠ b → (T_Tree a).2.1 ≠ (T_Tree b).2.1 := by decide +kernel
theorem ty_Tree_ok : ∀ k, k < 1 → parseFieldDescriptor (T_Tree k).2.2.1 = some (ty_Tree k) := by decide +kernel
theorem in_Tree : ∀ w ∈ u_ws "BaubleHill$Tree" T_Tree 1, w ∈ lw_g := g_all [63] (by decide +kernel) (by decide +kernel)
def T_Year : u_T := fun k => match k with
  | 0 => ("BaubleHill$Year", "hill", "LBaubleHill$Hill;", true)
  | _ => ("BaubleHill$Year", "act", "LBaubleHill$Act;", true)
def ty_Year : Nat → FieldType := fun k => match k with
  | 0 => .object "BaubleHill$Hill"
  | _ => .object "BaubleHill$Act"
theorem nm_Year : ∀ a, a < 2 → ∀ b, b < 2 → a ≠ b → (T_Year a).2.1 ≠ (T_Year b).2.1 := by decide +kernel
theorem ty_Year_ok : ∀ k, k < 2 → parseFieldDescriptor (T_Year k).2.2.1 = some (ty_Year k) := by decide +kernel
theorem in_Year : ∀ w ∈ u_ws "BaubleHill$Year" T_Year 2, w ∈ lw_g := g_all [187, 189] (by decide +kernel) (by decide +kernel)
def T_BH : u_T := fun k => match k with
  | 0 => ("BaubleHill", "hill", "LBaubleHill$Hill;", true)
  | 1 => ("BaubleHill", "sights", "LBaubleHill$Sights;", true)
  | 2 => ("BaubleHill", "pad", "LBaubleHill$Pad;", true)
  | 3 => ("BaubleHill", "telling", "LBaubleHill$Telling;", true)
  | 4 => ("BaubleHill", "choice", "LBaubleHill$Choice;", true)
  | 5 => ("BaubleHill", "cutting", "LBaubleHill$Cutting;", true)
  | 6 => ("BaubleHill", "years", "LBaubleHill$Year;", true)
  | 7 => ("BaubleHill", "firstImage", "LBaubleHill$Image;", true)
  | _ => ("BaubleHill", "secondImage", "LBaubleHill$Image;", true)
def ty_BH : Nat → FieldType := fun k => match k with
  | 0 => .object "BaubleHill$Hill"
  | 1 => .object "BaubleHill$Sights"
  | 2 => .object "BaubleHill$Pad"
  | 3 => .object "BaubleHill$Telling"
  | 4 => .object "BaubleHill$Choice"
  | 5 => .object "BaubleHill$Cutting"
  | 6 => .object "BaubleHill$Year"
  | 7 => .object "BaubleHill$Image"
  | _ => .object "BaubleHill$Image"
theorem nm_BH : ∀ a, a < 9 → ∀ b, b < 9 → a ≠ b → (T_BH a).2.1 ≠ (T_BH b).2.1 := by decide +kernel
theorem ty_BH_ok : ∀ k, k < 9 → parseFieldDescriptor (T_BH k).2.2.1 = some (ty_BH k) := by decide +kernel
theorem in_BH : ∀ w ∈ u_ws "BaubleHill" T_BH 9, w ∈ lw_g := g_all [221, 223, 225, 227, 229, 231, 233, 235, 237] (by decide +kernel) (by decide +kernel)
def T_Md : u_T := fun k => match k with
  | 0 => ("BaubleHillModel", "book", "[I", true)
  | 1 => ("BaubleHillModel", "now", "[I", true)
  | 2 => ("BaubleHillModel", "sights", "I", false)
  | 3 => ("BaubleHillModel", "sight", "[I", true)
  | 4 => ("BaubleHillModel", "signs", "I", false)
  | 5 => ("BaubleHillModel", "pad", "[I", true)
  | 6 => ("BaubleHillModel", "came", "I", false)
  | 7 => ("BaubleHillModel", "brokenAt", "I", false)
  | 8 => ("BaubleHillModel", "brokenWhich", "I", false)
  | 9 => ("BaubleHillModel", "more", "[I", true)
  | 10 => ("BaubleHillModel", "reason", "I", false)
  | 11 => ("BaubleHillModel", "acts", "I", false)
  | 12 => ("BaubleHillModel", "counts", "[I", true)
  | 13 => ("BaubleHillModel", "worth", "[I", true)
  | 14 => ("BaubleHillModel", "choices", "[J", true)
  | 15 => ("BaubleHillModel", "image", "[I", true)
  | _ => ("BaubleHillModel", "isKept", "[Z", true)
def ty_Md : Nat → FieldType := fun k => match k with
  | 0 => .array .int
  | 1 => .array .int
  | 2 => .int
  | 3 => .array .int
  | 4 => .int
  | 5 => .array .int
  | 6 => .int
  | 7 => .int
  | 8 => .int
  | 9 => .array .int
  | 10 => .int
  | 11 => .int
  | 12 => .array .int
  | 13 => .array .int
  | 14 => .array .long
  | 15 => .array .int
  | _ => .array .boolean
theorem nm_Md : ∀ a, a < 17 → ∀ b, b < 17 → a ≠ b → (T_Md a).2.1 ≠ (T_Md b).2.1 := by decide +kernel
theorem ty_Md_ok : ∀ k, k < 17 → parseFieldDescriptor (T_Md k).2.2.1 = some (ty_Md k) := by decide +kernel
theorem in_Md : ∀ w ∈ u_ws "BaubleHillModel" T_Md 17, w ∈ lw_g := g_all [693, 695, 697, 699, 701, 703, 705, 707, 709, 711, 713, 715, 717, 719, 721, 723, 725] (by decide +kernel) (by decide +kernel)
abbrev vwCl : List vw_C := [("BaubleHill$Act", T_Act, 3), ("BaubleHill$Choice", T_Choice, 1), ("BaubleHill$Cutting", T_Cutting, 1), ("BaubleHill$Hill", T_Hill, 5), ("BaubleHill$Image", T_Image, 3), ("BaubleHill$Pad", T_Pad, 2), ("BaubleHill$Sights", T_Sights, 3), ("BaubleHill$Telling", T_Telling, 6), ("BaubleHill$Tree", T_Tree, 1), ("BaubleHill$Year", T_Year, 2), ("BaubleHill", T_BH, 9), ("BaubleHillModel", T_Md, 17)]
/-- which fields of a class are references -/
def w_fk : Nat → List Bool := fun c => match c with
  | 0 => [false, false, false]
  | 1 => [true]
  | 2 => [true]
  | 3 => [true, true, true, false, false]
  | 4 => [true, true, false]
  | 5 => [true, false]
  | 6 => [true, true, false]
  | 7 => [true, true, false, false, false, false]
  | 8 => [true]
  | 9 => [true, true]
  | 10 => [true, true, true, true, true, true, true, true, true]
  | 11 => [true, true, false, true, false, true, false, false, false, true, false, false, true, true, true, true, true]
  | _ => []
abbrev wK : Type := MethodName × ByteArray × Nat × Option FieldType × Room
abbrev y_Act_init : MethodName := ⟨"BaubleHill$Act", "<init>", "()V"⟩
abbrev k_Act_init : wK := (y_Act_init, prog_2_method_1_code, 1, none, { frames := 1, cells := 0, slots := 0, locals := 12 })
abbrev y_Act_set : MethodName := ⟨"BaubleHill$Act", "set", "(III)V"⟩
abbrev k_Act_set : wK := (y_Act_set, prog_2_method_2_code, 4, none, { frames := 0, cells := 0, slots := 0, locals := 0 })
abbrev y_Act_kind : MethodName := ⟨"BaubleHill$Act", "kind", "()I"⟩
abbrev k_Act_kind : wK := (y_Act_kind, prog_2_method_3_code, 1, (Option.some FieldType.int), { frames := 0, cells := 0, slots := 0, locals := 0 })
abbrev y_Act_one : MethodName := ⟨"BaubleHill$Act", "one", "()I"⟩
abbrev k_Act_one : wK := (y_Act_one, prog_2_method_4_code, 1, (Option.some FieldType.int), { frames := 0, cells := 0, slots := 0, locals := 0 })
abbrev y_Act_other : MethodName := ⟨"BaubleHill$Act", "other", "()I"⟩
abbrev k_Act_other : wK := (y_Act_other, prog_2_method_5_code, 1, (Option.some FieldType.int), { frames := 0, cells := 0, slots := 0, locals := 0 })
abbrev y_Chance_ways : MethodName := ⟨"BaubleHill$Chance", "ways", "(II)J"⟩
abbrev k_Chance_ways : wK := (y_Chance_ways, prog_3_method_2_code, 5, (Option.some FieldType.long), { frames := 0, cells := 0, slots := 0, locals := 0 })
abbrev y_Chance_waysAtLeast : MethodName := ⟨"BaubleHill$Chance", "waysAtLeast", "(IIII)J"⟩
abbrev k_Chance_waysAtLeast : wK := (y_Chance_waysAtLeast, prog_3_method_3_code, 7, (Option.some FieldType.long), { frames := 1, cells := 0, slots := 0, locals := 24 })
abbrev y_Chance_lowest : MethodName := ⟨"BaubleHill$Chance", "lowest", "(JJI)J"⟩
abbrev k_Chance_lowest : wK := (y_Chance_lowest, prog_3_method_4_code, 7, (Option.some FieldType.long), { frames := 1, cells := 0, slots := 0, locals := 26 })
abbrev y_Chance_commonDivisor : MethodName := ⟨"BaubleHill$Chance", "commonDivisor", "(JJ)J"⟩
abbrev k_Chance_commonDivisor : wK := (y_Chance_commonDivisor, prog_3_method_5_code, 7, (Option.some FieldType.long), { frames := 0, cells := 0, slots := 0, locals := 0 })
abbrev y_Choice_init : MethodName := ⟨"BaubleHill$Choice", "<init>", "()V"⟩
abbrev k_Choice_init : wK := (y_Choice_init, prog_4_method_1_code, 1, none, { frames := 1, cells := 1, slots := 12, locals := 12 })
abbrev y_Choice_mostApart : MethodName := ⟨"BaubleHill$Choice", "mostApart", "(LBaubleHill$Tree;I)I"⟩
abbrev k_Choice_mostApart : wK := (y_Choice_mostApart, prog_4_method_2_code, 7, (Option.some FieldType.int), { frames := 4, cells := 0, slots := 0, locals := 97 })
abbrev y_Choice_fewestLighting : MethodName := ⟨"BaubleHill$Choice", "fewestLighting", "(LBaubleHill$Tree;I)I"⟩
abbrev k_Choice_fewestLighting : wK := (y_Choice_fewestLighting, prog_4_method_3_code, 7, (Option.some FieldType.int), { frames := 4, cells := 0, slots := 0, locals := 97 })
abbrev y_Choice_lookAround : MethodName := ⟨"BaubleHill$Choice", "lookAround", "(LBaubleHill$Tree;I)V"⟩
abbrev k_Choice_lookAround : wK := (y_Choice_lookAround, prog_4_method_4_code, 4, none, { frames := 3, cells := 0, slots := 0, locals := 74 })
abbrev y_Choice_standsApart : MethodName := ⟨"BaubleHill$Choice", "standsApart", "(I)Z"⟩
abbrev k_Choice_standsApart : wK := (y_Choice_standsApart, prog_4_method_5_code, 3, (Option.some FieldType.boolean), { frames := 1, cells := 0, slots := 0, locals := 21 })
abbrev y_Choice_lightsAll : MethodName := ⟨"BaubleHill$Choice", "lightsAll", "(I)Z"⟩
abbrev k_Choice_lightsAll : wK := (y_Choice_lightsAll, prog_4_method_6_code, 4, (Option.some FieldType.boolean), { frames := 1, cells := 0, slots := 0, locals := 21 })
abbrev y_Cutting_init : MethodName := ⟨"BaubleHill$Cutting", "<init>", "()V"⟩
abbrev k_Cutting_init : wK := (y_Cutting_init, prog_5_method_1_code, 1, none, { frames := 1, cells := 1, slots := 12, locals := 12 })
abbrev y_Cutting_worth : MethodName := ⟨"BaubleHill$Cutting", "worth", "(LBaubleHill$Tree;I)I"⟩
abbrev k_Cutting_worth : wK := (y_Cutting_worth, prog_5_method_2_code, 5, (Option.some FieldType.int), { frames := 1, cells := 0, slots := 0, locals := 21 })
abbrev y_Hill_init : MethodName := ⟨"BaubleHill$Hill", "<init>", "()V"⟩
abbrev k_Hill_init : wK := (y_Hill_init, prog_6_method_1_code, 2, none, { frames := 2, cells := 4, slots := 25, locals := 33 })
abbrev y_Hill_tree : MethodName := ⟨"BaubleHill$Hill", "tree", "()LBaubleHill$Tree;"⟩
abbrev k_Hill_tree : wK := (y_Hill_tree, prog_6_method_2_code, 1, (Option.some (FieldType.object "BaubleHill$Tree")), { frames := 0, cells := 0, slots := 0, locals := 0 })
abbrev y_Hill_loopOf : MethodName := ⟨"BaubleHill$Hill", "loopOf", "(I)I"⟩
abbrev k_Hill_loopOf : wK := (y_Hill_loopOf, prog_6_method_3_code, 2, (Option.some FieldType.int), { frames := 0, cells := 0, slots := 0, locals := 0 })
abbrev y_Hill_chipsOf : MethodName := ⟨"BaubleHill$Hill", "chipsOf", "(I)I"⟩
abbrev k_Hill_chipsOf : wK := (y_Hill_chipsOf, prog_6_method_4_code, 2, (Option.some FieldType.int), { frames := 0, cells := 0, slots := 0, locals := 0 })
abbrev y_Hill_isBroken : MethodName := ⟨"BaubleHill$Hill", "isBroken", "(I)Z"⟩
abbrev k_Hill_isBroken : wK := (y_Hill_isBroken, prog_6_method_5_code, 2, (Option.some FieldType.boolean), { frames := 1, cells := 0, slots := 0, locals := 21 })
abbrev y_Hill_brokenBalls : MethodName := ⟨"BaubleHill$Hill", "brokenBalls", "()I"⟩
abbrev k_Hill_brokenBalls : wK := (y_Hill_brokenBalls, prog_6_method_6_code, 1, (Option.some FieldType.int), { frames := 0, cells := 0, slots := 0, locals := 0 })
abbrev y_Hill_winter : MethodName := ⟨"BaubleHill$Hill", "winter", "()I"⟩
abbrev k_Hill_winter : wK := (y_Hill_winter, prog_6_method_7_code, 1, (Option.some FieldType.int), { frames := 0, cells := 0, slots := 0, locals := 0 })
abbrev y_Hill_hungLoops : MethodName := ⟨"BaubleHill$Hill", "hungLoops", "()I"⟩
abbrev k_Hill_hungLoops : wK := (y_Hill_hungLoops, prog_6_method_8_code, 3, (Option.some FieldType.int), { frames := 0, cells := 0, slots := 0, locals := 0 })
abbrev y_Hill_allChips : MethodName := ⟨"BaubleHill$Hill", "allChips", "()I"⟩
abbrev k_Hill_allChips : wK := (y_Hill_allChips, prog_6_method_9_code, 3, (Option.some FieldType.int), { frames := 0, cells := 0, slots := 0, locals := 0 })
abbrev y_Hill_anotherHangs : MethodName := ⟨"BaubleHill$Hill", "anotherHangs", "(II)Z"⟩
abbrev k_Hill_anotherHangs : wK := (y_Hill_anotherHangs, prog_6_method_10_code, 3, (Option.some FieldType.boolean), { frames := 1, cells := 0, slots := 0, locals := 22 })
abbrev y_Hill_put : MethodName := ⟨"BaubleHill$Hill", "put", "(III)V"⟩
abbrev k_Hill_put : wK := (y_Hill_put, prog_6_method_11_code, 4, none, { frames := 0, cells := 0, slots := 0, locals := 0 })
abbrev y_Hill_copyFrom : MethodName := ⟨"BaubleHill$Hill", "copyFrom", "(LBaubleHill$Hill;)V"⟩
abbrev k_Hill_copyFrom : wK := (y_Hill_copyFrom, prog_6_method_12_code, 2, none, { frames := 2, cells := 0, slots := 0, locals := 43 })
abbrev y_Hill_seenFrom : MethodName := ⟨"BaubleHill$Hill", "seenFrom", "(I)I"⟩
abbrev k_Hill_seenFrom : wK := (y_Hill_seenFrom, prog_6_method_13_code, 8, (Option.some FieldType.int), { frames := 3, cells := 0, slots := 0, locals := 73 })
abbrev y_Hill_whyNot : MethodName := ⟨"BaubleHill$Hill", "whyNot", "(LBaubleHill$Act;)I"⟩
abbrev k_Hill_whyNot : wK := (y_Hill_whyNot, prog_6_method_14_code, 2, (Option.some FieldType.int), { frames := 2, cells := 0, slots := 0, locals := 44 })
abbrev y_Hill_follow : MethodName := ⟨"BaubleHill$Hill", "follow", "(LBaubleHill$Act;)V"⟩
abbrev k_Hill_follow : wK := (y_Hill_follow, prog_6_method_15_code, 2, none, { frames := 4, cells := 0, slots := 0, locals := 98 })
abbrev y_Hill_blow : MethodName := ⟨"BaubleHill$Hill", "blow", "(I)V"⟩
abbrev k_Hill_blow : wK := (y_Hill_blow, prog_6_method_16_code, 5, none, { frames := 3, cells := 0, slots := 0, locals := 74 })
abbrev y_Hill_chip : MethodName := ⟨"BaubleHill$Hill", "chip", "(II)V"⟩
abbrev k_Hill_chip : wK := (y_Hill_chip, prog_6_method_17_code, 4, none, { frames := 1, cells := 0, slots := 0, locals := 23 })
abbrev y_Hill_packAll : MethodName := ⟨"BaubleHill$Hill", "packAll", "()V"⟩
abbrev k_Hill_packAll : wK := (y_Hill_packAll, prog_6_method_18_code, 2, none, { frames := 0, cells := 0, slots := 0, locals := 0 })
abbrev y_Image_init : MethodName := ⟨"BaubleHill$Image", "<init>", "()V"⟩
abbrev k_Image_init : wK := (y_Image_init, prog_7_method_1_code, 1, none, { frames := 3, cells := 8, slots := 49, locals := 54 })
abbrev y_Image_isKept : MethodName := ⟨"BaubleHill$Image", "isKept", "()Z"⟩
abbrev k_Image_isKept : wK := (y_Image_isKept, prog_7_method_2_code, 1, (Option.some FieldType.boolean), { frames := 0, cells := 0, slots := 0, locals := 0 })
abbrev y_Image_keep : MethodName := ⟨"BaubleHill$Image", "keep", "(LBaubleHill$Hill;LBaubleHill$Sights;)V"⟩
abbrev k_Image_keep : wK := (y_Image_keep, prog_7_method_3_code, 3, none, { frames := 3, cells := 0, slots := 0, locals := 64 })
abbrev y_Image_bringBack : MethodName := ⟨"BaubleHill$Image", "bringBack", "(LBaubleHill$Hill;LBaubleHill$Sights;)V"⟩
abbrev k_Image_bringBack : wK := (y_Image_bringBack, prog_7_method_4_code, 3, none, { frames := 3, cells := 0, slots := 0, locals := 64 })
abbrev y_Pad_init : MethodName := ⟨"BaubleHill$Pad", "<init>", "()V"⟩
abbrev k_Pad_init : wK := (y_Pad_init, prog_8_method_1_code, 1, none, { frames := 1, cells := 1, slots := 60, locals := 12 })
abbrev y_Pad_size : MethodName := ⟨"BaubleHill$Pad", "size", "()I"⟩
abbrev k_Pad_size : wK := (y_Pad_size, prog_8_method_2_code, 1, (Option.some FieldType.int), { frames := 0, cells := 0, slots := 0, locals := 0 })
abbrev y_Pad_add : MethodName := ⟨"BaubleHill$Pad", "add", "(I)V"⟩
abbrev k_Pad_add : wK := (y_Pad_add, prog_8_method_3_code, 2, none, { frames := 0, cells := 0, slots := 0, locals := 0 })
abbrev y_Pad_clear : MethodName := ⟨"BaubleHill$Pad", "clear", "()V"⟩
abbrev k_Pad_clear : wK := (y_Pad_clear, prog_8_method_4_code, 1, none, { frames := 0, cells := 0, slots := 0, locals := 0 })
abbrev y_Pad_firstWrong : MethodName := ⟨"BaubleHill$Pad", "firstWrong", "()I"⟩
abbrev k_Pad_firstWrong : wK := (y_Pad_firstWrong, prog_8_method_5_code, 5, (Option.some FieldType.int), { frames := 3, cells := 0, slots := 0, locals := 61 })
abbrev y_Pad_read : MethodName := ⟨"BaubleHill$Pad", "read", "(ILBaubleHill$Act;)I"⟩
abbrev k_Pad_read : wK := (y_Pad_read, prog_8_method_6_code, 5, (Option.some FieldType.int), { frames := 2, cells := 0, slots := 0, locals := 40 })
abbrev y_Pad_signAt : MethodName := ⟨"BaubleHill$Pad", "signAt", "(I)I"⟩
abbrev k_Pad_signAt : wK := (y_Pad_signAt, prog_8_method_7_code, 2, (Option.some FieldType.int), { frames := 0, cells := 0, slots := 0, locals := 0 })
abbrev y_Pad_isHead : MethodName := ⟨"BaubleHill$Pad", "isHead", "(I)Z"⟩
abbrev k_Pad_isHead : wK := (y_Pad_isHead, prog_8_method_8_code, 1, (Option.some FieldType.boolean), { frames := 2, cells := 0, slots := 0, locals := 40 })
abbrev y_Pad_signsAfter : MethodName := ⟨"BaubleHill$Pad", "signsAfter", "(I)I"⟩
abbrev k_Pad_signsAfter : wK := (y_Pad_signsAfter, prog_8_method_9_code, 1, (Option.some FieldType.int), { frames := 0, cells := 0, slots := 0, locals := 0 })
abbrev y_Pad_mayFollow : MethodName := ⟨"BaubleHill$Pad", "mayFollow", "(II)Z"⟩
abbrev k_Pad_mayFollow : wK := (y_Pad_mayFollow, prog_8_method_10_code, 2, (Option.some FieldType.boolean), { frames := 2, cells := 0, slots := 0, locals := 40 })
abbrev y_Pad_isBallLetter : MethodName := ⟨"BaubleHill$Pad", "isBallLetter", "(I)Z"⟩
abbrev k_Pad_isBallLetter : wK := (y_Pad_isBallLetter, prog_8_method_11_code, 1, (Option.some FieldType.boolean), { frames := 1, cells := 0, slots := 0, locals := 20 })
abbrev y_Sights_init : MethodName := ⟨"BaubleHill$Sights", "<init>", "()V"⟩
abbrev k_Sights_init : wK := (y_Sights_init, prog_9_method_1_code, 1, none, { frames := 1, cells := 2, slots := 16, locals := 12 })
abbrev y_Sights_size : MethodName := ⟨"BaubleHill$Sights", "size", "()I"⟩
abbrev k_Sights_size : wK := (y_Sights_size, prog_9_method_2_code, 1, (Option.some FieldType.int), { frames := 0, cells := 0, slots := 0, locals := 0 })
abbrev y_Sights_add : MethodName := ⟨"BaubleHill$Sights", "add", "(II)V"⟩
abbrev k_Sights_add : wK := (y_Sights_add, prog_9_method_3_code, 3, none, { frames := 0, cells := 0, slots := 0, locals := 0 })
abbrev y_Sights_clear : MethodName := ⟨"BaubleHill$Sights", "clear", "()V"⟩
abbrev k_Sights_clear : wK := (y_Sights_clear, prog_9_method_4_code, 1, none, { frames := 0, cells := 0, slots := 0, locals := 0 })
abbrev y_Sights_copyFrom : MethodName := ⟨"BaubleHill$Sights", "copyFrom", "(LBaubleHill$Sights;)V"⟩
abbrev k_Sights_copyFrom : wK := (y_Sights_copyFrom, prog_9_method_5_code, 2, none, { frames := 1, cells := 0, slots := 0, locals := 22 })
abbrev y_Sights_fitting : MethodName := ⟨"BaubleHill$Sights", "fitting", "(LBaubleHill$Tree;)I"⟩
abbrev k_Sights_fitting : wK := (y_Sights_fitting, prog_9_method_6_code, 4, (Option.some FieldType.int), { frames := 3, cells := 0, slots := 0, locals := 74 })
abbrev y_Telling_init : MethodName := ⟨"BaubleHill$Telling", "<init>", "()V"⟩
abbrev k_Telling_init : wK := (y_Telling_init, prog_10_method_1_code, 1, none, { frames := 3, cells := 6, slots := 33, locals := 54 })
abbrev y_Telling_tell : MethodName := ⟨"BaubleHill$Telling", "tell", "(LBaubleHill$Pad;LBaubleHill$Hill;)Z"⟩
abbrev k_Telling_tell : wK := (y_Telling_tell, prog_10_method_2_code, 6, (Option.some FieldType.boolean), { frames := 5, cells := 0, slots := 0, locals := 119 })
abbrev y_Telling_noteBroken : MethodName := ⟨"BaubleHill$Telling", "noteBroken", "(I)V"⟩
abbrev k_Telling_noteBroken : wK := (y_Telling_noteBroken, prog_10_method_3_code, 2, none, { frames := 2, cells := 0, slots := 0, locals := 44 })
abbrev y_Telling_hill : MethodName := ⟨"BaubleHill$Telling", "hill", "()LBaubleHill$Hill;"⟩
abbrev k_Telling_hill : wK := (y_Telling_hill, prog_10_method_4_code, 1, (Option.some (FieldType.object "BaubleHill$Hill")), { frames := 0, cells := 0, slots := 0, locals := 0 })
abbrev y_Telling_acts : MethodName := ⟨"BaubleHill$Telling", "acts", "()I"⟩
abbrev k_Telling_acts : wK := (y_Telling_acts, prog_10_method_5_code, 1, (Option.some FieldType.int), { frames := 0, cells := 0, slots := 0, locals := 0 })
abbrev y_Telling_why : MethodName := ⟨"BaubleHill$Telling", "why", "()I"⟩
abbrev k_Telling_why : wK := (y_Telling_why, prog_10_method_6_code, 1, (Option.some FieldType.int), { frames := 0, cells := 0, slots := 0, locals := 0 })
abbrev y_Telling_actThatBroke : MethodName := ⟨"BaubleHill$Telling", "actThatBroke", "()I"⟩
abbrev k_Telling_actThatBroke : wK := (y_Telling_actThatBroke, prog_10_method_7_code, 1, (Option.some FieldType.int), { frames := 0, cells := 0, slots := 0, locals := 0 })
abbrev y_Telling_ballThatBroke : MethodName := ⟨"BaubleHill$Telling", "ballThatBroke", "()I"⟩
abbrev k_Telling_ballThatBroke : wK := (y_Telling_ballThatBroke, prog_10_method_8_code, 1, (Option.some FieldType.int), { frames := 0, cells := 0, slots := 0, locals := 0 })
abbrev y_Tree_init : MethodName := ⟨"BaubleHill$Tree", "<init>", "()V"⟩
abbrev k_Tree_init : wK := (y_Tree_init, prog_11_method_1_code, 2, none, { frames := 1, cells := 1, slots := 12, locals := 12 })
abbrev y_Tree_parentOf : MethodName := ⟨"BaubleHill$Tree", "parentOf", "(I)I"⟩
abbrev k_Tree_parentOf : wK := (y_Tree_parentOf, prog_11_method_2_code, 2, (Option.some FieldType.int), { frames := 0, cells := 0, slots := 0, locals := 0 })
abbrev y_Tree_bend : MethodName := ⟨"BaubleHill$Tree", "bend", "(II)V"⟩
abbrev k_Tree_bend : wK := (y_Tree_bend, prog_11_method_3_code, 3, none, { frames := 0, cells := 0, slots := 0, locals := 0 })
abbrev y_Tree_copyFrom : MethodName := ⟨"BaubleHill$Tree", "copyFrom", "(LBaubleHill$Tree;)V"⟩
abbrev k_Tree_copyFrom : wK := (y_Tree_copyFrom, prog_11_method_4_code, 2, none, { frames := 1, cells := 0, slots := 0, locals := 22 })
abbrev y_Tree_distance : MethodName := ⟨"BaubleHill$Tree", "distance", "(II)I"⟩
abbrev k_Tree_distance : wK := (y_Tree_distance, prog_11_method_5_code, 8, (Option.some FieldType.int), { frames := 1, cells := 0, slots := 0, locals := 21 })
abbrev y_Tree_way : MethodName := ⟨"BaubleHill$Tree", "way", "(II)I"⟩
abbrev k_Tree_way : wK := (y_Tree_way, prog_11_method_6_code, 6, (Option.some FieldType.int), { frames := 2, cells := 0, slots := 0, locals := 48 })
abbrev y_Tree_ring : MethodName := ⟨"BaubleHill$Tree", "ring", "(III)I"⟩
abbrev k_Tree_ring : wK := (y_Tree_ring, prog_11_method_7_code, 7, (Option.some FieldType.int), { frames := 2, cells := 0, slots := 0, locals := 48 })
abbrev y_Tree_howFar : MethodName := ⟨"BaubleHill$Tree", "howFar", "(IIZ)I"⟩
abbrev k_Tree_howFar : wK := (y_Tree_howFar, prog_11_method_8_code, 7, (Option.some FieldType.int), { frames := 2, cells := 0, slots := 0, locals := 48 })
abbrev y_Tree_mostLeft : MethodName := ⟨"BaubleHill$Tree", "mostLeft", "(II)I"⟩
abbrev k_Tree_mostLeft : wK := (y_Tree_mostLeft, prog_11_method_9_code, 5, (Option.some FieldType.int), { frames := 3, cells := 0, slots := 0, locals := 74 })
abbrev y_Year_init : MethodName := ⟨"BaubleHill$Year", "<init>", "()V"⟩
abbrev k_Year_init : wK := (y_Year_init, prog_12_method_1_code, 1, none, { frames := 3, cells := 6, slots := 33, locals := 54 })
abbrev y_Year_pass : MethodName := ⟨"BaubleHill$Year", "pass", "(LBaubleHill$Hill;II)LBaubleHill$Hill;"⟩
abbrev k_Year_pass : wK := (y_Year_pass, prog_12_method_2_code, 6, (Option.some (FieldType.object "BaubleHill$Hill")), { frames := 5, cells := 0, slots := 0, locals := 119 })
abbrev y_Year_draw : MethodName := ⟨"BaubleHill$Year", "draw", "(I)V"⟩
abbrev k_Year_draw : wK := (y_Year_draw, prog_12_method_3_code, 4, none, { frames := 1, cells := 0, slots := 0, locals := 23 })
abbrev y_BH_init : MethodName := ⟨"BaubleHill", "<init>", "()V"⟩
abbrev k_BH_init : wK := (y_BH_init, prog_1_method_1_code, 1, none, { frames := 4, cells := 46, slots := 315, locals := 74 })
abbrev y_BH_branch : MethodName := ⟨"BaubleHill", "branch", "(II)I"⟩
abbrev k_BH_branch : wK := (y_BH_branch, prog_1_method_2_code, 4, (Option.some FieldType.int), { frames := 1, cells := 0, slots := 0, locals := 22 })
abbrev y_BH_ball : MethodName := ⟨"BaubleHill", "ball", "(III)I"⟩
abbrev k_BH_ball : wK := (y_BH_ball, prog_1_method_3_code, 5, (Option.some FieldType.int), { frames := 2, cells := 0, slots := 0, locals := 44 })
abbrev y_BH_say : MethodName := ⟨"BaubleHill", "say", "(I)I"⟩
abbrev k_BH_say : wK := (y_BH_say, prog_1_method_4_code, 2, (Option.some FieldType.int), { frames := 1, cells := 0, slots := 0, locals := 21 })
abbrev y_BH_wipe : MethodName := ⟨"BaubleHill", "wipe", "()I"⟩
abbrev k_BH_wipe : wK := (y_BH_wipe, prog_1_method_5_code, 2, (Option.some FieldType.int), { frames := 1, cells := 0, slots := 0, locals := 20 })
abbrev y_BH_fault : MethodName := ⟨"BaubleHill", "fault", "()I"⟩
abbrev k_BH_fault : wK := (y_BH_fault, prog_1_method_6_code, 1, (Option.some FieldType.int), { frames := 4, cells := 0, slots := 0, locals := 85 })
abbrev y_BH_judge : MethodName := ⟨"BaubleHill", "judge", "(I)I"⟩
abbrev k_BH_judge : wK := (y_BH_judge, prog_1_method_7_code, 2, (Option.some FieldType.int), { frames := 6, cells := 0, slots := 0, locals := 144 })
abbrev y_BH_done : MethodName := ⟨"BaubleHill", "done", "()I"⟩
abbrev k_BH_done : wK := (y_BH_done, prog_1_method_8_code, 1, (Option.some FieldType.int), { frames := 6, cells := 0, slots := 0, locals := 144 })
abbrev y_BH_behind : MethodName := ⟨"BaubleHill", "behind", "(II)I"⟩
abbrev k_BH_behind : wK := (y_BH_behind, prog_1_method_9_code, 3, (Option.some FieldType.int), { frames := 6, cells := 0, slots := 0, locals := 144 })
abbrev y_BH_then : MethodName := ⟨"BaubleHill", "then", "(I)I"⟩
abbrev k_BH_then : wK := (y_BH_then, prog_1_method_10_code, 2, (Option.some FieldType.int), { frames := 6, cells := 0, slots := 0, locals := 144 })
abbrev y_BH_apart : MethodName := ⟨"BaubleHill", "apart", "(II)I"⟩
abbrev k_BH_apart : wK := (y_BH_apart, prog_1_method_11_code, 3, (Option.some FieldType.int), { frames := 2, cells := 0, slots := 0, locals := 48 })
abbrev y_BH_meets : MethodName := ⟨"BaubleHill", "meets", "(II)I"⟩
abbrev k_BH_meets : wK := (y_BH_meets, prog_1_method_12_code, 3, (Option.some FieldType.int), { frames := 3, cells := 0, slots := 0, locals := 73 })
abbrev y_BH_sees : MethodName := ⟨"BaubleHill", "sees", "(I)I"⟩
abbrev k_BH_sees : wK := (y_BH_sees, prog_1_method_13_code, 2, (Option.some FieldType.int), { frames := 4, cells := 0, slots := 0, locals := 100 })
abbrev y_BH_near : MethodName := ⟨"BaubleHill", "near", "(I)I"⟩
abbrev k_BH_near : wK := (y_BH_near, prog_1_method_14_code, 8, (Option.some FieldType.int), { frames := 3, cells := 0, slots := 0, locals := 74 })
abbrev y_BH_room : MethodName := ⟨"BaubleHill", "room", "(II)I"⟩
abbrev k_BH_room : wK := (y_BH_room, prog_1_method_15_code, 4, (Option.some FieldType.int), { frames := 5, cells := 0, slots := 0, locals := 123 })
abbrev y_BH_candles : MethodName := ⟨"BaubleHill", "candles", "(II)I"⟩
abbrev k_BH_candles : wK := (y_BH_candles, prog_1_method_16_code, 4, (Option.some FieldType.int), { frames := 5, cells := 0, slots := 0, locals := 123 })
abbrev y_BH_seen : MethodName := ⟨"BaubleHill", "seen", "(II)I"⟩
abbrev k_BH_seen : wK := (y_BH_seen, prog_1_method_17_code, 3, (Option.some FieldType.int), { frames := 1, cells := 0, slots := 0, locals := 22 })
abbrev y_BH_forget : MethodName := ⟨"BaubleHill", "forget", "()I"⟩
abbrev k_BH_forget : wK := (y_BH_forget, prog_1_method_18_code, 2, (Option.some FieldType.int), { frames := 1, cells := 0, slots := 0, locals := 20 })
abbrev y_BH_where : MethodName := ⟨"BaubleHill", "where", "(I)I"⟩
abbrev k_BH_where : wK := (y_BH_where, prog_1_method_19_code, 3, (Option.some FieldType.int), { frames := 4, cells := 0, slots := 0, locals := 97 })
abbrev y_BH_ask : MethodName := ⟨"BaubleHill", "ask", "(I)I"⟩
abbrev k_BH_ask : wK := (y_BH_ask, prog_1_method_20_code, 7, (Option.some FieldType.int), { frames := 4, cells := 0, slots := 0, locals := 98 })
abbrev y_BH_cut : MethodName := ⟨"BaubleHill", "cut", "(I)I"⟩
abbrev k_BH_cut : wK := (y_BH_cut, prog_1_method_21_code, 3, (Option.some FieldType.int), { frames := 2, cells := 0, slots := 0, locals := 45 })
abbrev y_BH_tissue : MethodName := ⟨"BaubleHill", "tissue", "(IIIIII)J"⟩
abbrev k_BH_tissue : wK := (y_BH_tissue, prog_1_method_22_code, 8, (Option.some FieldType.long), { frames := 2, cells := 0, slots := 0, locals := 52 })
abbrev y_BH_year : MethodName := ⟨"BaubleHill", "year", "(III)I"⟩
abbrev k_BH_year : wK := (y_BH_year, prog_1_method_23_code, 5, (Option.some FieldType.int), { frames := 6, cells := 0, slots := 0, locals := 144 })
abbrev y_BH_image : MethodName := ⟨"BaubleHill", "image", "(I)I"⟩
abbrev k_BH_image : wK := (y_BH_image, prog_1_method_24_code, 2, (Option.some FieldType.int), { frames := 4, cells := 0, slots := 0, locals := 86 })
abbrev y_BH_restore : MethodName := ⟨"BaubleHill", "restore", "(I)I"⟩
abbrev k_BH_restore : wK := (y_BH_restore, prog_1_method_25_code, 2, (Option.some FieldType.int), { frames := 4, cells := 0, slots := 0, locals := 86 })
abbrev y_BH_told : MethodName := ⟨"BaubleHill", "told", "(I)I"⟩
abbrev k_BH_told : wK := (y_BH_told, prog_1_method_26_code, 2, (Option.some FieldType.int), { frames := 1, cells := 0, slots := 0, locals := 22 })
abbrev y_BH_imageOf : MethodName := ⟨"BaubleHill", "imageOf", "(I)LBaubleHill$Image;"⟩
abbrev k_BH_imageOf : wK := (y_BH_imageOf, prog_1_method_27_code, 2, (Option.some (FieldType.object "BaubleHill$Image")), { frames := 0, cells := 0, slots := 0, locals := 0 })
abbrev y_BH_isLoop : MethodName := ⟨"BaubleHill", "isLoop", "(I)Z"⟩
abbrev k_BH_isLoop : wK := (y_BH_isLoop, prog_1_method_28_code, 1, (Option.some FieldType.boolean), { frames := 0, cells := 0, slots := 0, locals := 0 })
abbrev y_BH_isBall : MethodName := ⟨"BaubleHill", "isBall", "(I)Z"⟩
abbrev k_BH_isBall : wK := (y_BH_isBall, prog_1_method_29_code, 1, (Option.some FieldType.boolean), { frames := 0, cells := 0, slots := 0, locals := 0 })
abbrev y_BH_holds : MethodName := ⟨"BaubleHill", "holds", "(II)Z"⟩
abbrev k_BH_holds : wK := (y_BH_holds, prog_1_method_30_code, 2, (Option.some FieldType.boolean), { frames := 0, cells := 0, slots := 0, locals := 0 })
abbrev y_BH_memberAt : MethodName := ⟨"BaubleHill", "memberAt", "(II)I"⟩
abbrev k_BH_memberAt : wK := (y_BH_memberAt, prog_1_method_31_code, 4, (Option.some FieldType.int), { frames := 1, cells := 0, slots := 0, locals := 21 })
abbrev y_BH_copyRow : MethodName := ⟨"BaubleHill", "copyRow", "([I[I)V"⟩
abbrev k_BH_copyRow : wK := (y_BH_copyRow, prog_1_method_32_code, 3, none, { frames := 0, cells := 0, slots := 0, locals := 0 })
abbrev y_Md_init : MethodName := ⟨"BaubleHillModel", "<init>", "()V"⟩
abbrev k_Md_init : wK := (y_Md_init, prog_14_method_1_code, 2, none, { frames := 1, cells := 10, slots := 1941, locals := 12 })
abbrev y_Md_in : MethodName := ⟨"BaubleHillModel", "in", "(III)Z"⟩
abbrev k_Md_in : wK := (y_Md_in, prog_14_method_2_code, 3, (Option.some FieldType.boolean), { frames := 0, cells := 0, slots := 0, locals := 0 })
abbrev y_Md_has : MethodName := ⟨"BaubleHillModel", "has", "(II)Z"⟩
abbrev k_Md_has : wK := (y_Md_has, prog_14_method_3_code, 2, (Option.some FieldType.boolean), { frames := 0, cells := 0, slots := 0, locals := 0 })
abbrev y_Md_bits : MethodName := ⟨"BaubleHillModel", "bits", "(I)I"⟩
abbrev k_Md_bits : wK := (y_Md_bits, prog_14_method_4_code, 3, (Option.some FieldType.int), { frames := 0, cells := 0, slots := 0, locals := 0 })
abbrev y_Md_branch : MethodName := ⟨"BaubleHillModel", "branch", "(II)I"⟩
abbrev k_Md_branch : wK := (y_Md_branch, prog_14_method_5_code, 4, (Option.some FieldType.int), { frames := 1, cells := 0, slots := 0, locals := 22 })
abbrev y_Md_ball : MethodName := ⟨"BaubleHillModel", "ball", "(III)I"⟩
abbrev k_Md_ball : wK := (y_Md_ball, prog_14_method_6_code, 6, (Option.some FieldType.int), { frames := 1, cells := 0, slots := 0, locals := 22 })
abbrev y_Md_say : MethodName := ⟨"BaubleHillModel", "say", "(I)I"⟩
abbrev k_Md_say : wK := (y_Md_say, prog_14_method_7_code, 2, (Option.some FieldType.int), { frames := 1, cells := 0, slots := 0, locals := 22 })
abbrev y_Md_wipe : MethodName := ⟨"BaubleHillModel", "wipe", "()I"⟩
abbrev k_Md_wipe : wK := (y_Md_wipe, prog_14_method_8_code, 2, (Option.some FieldType.int), { frames := 0, cells := 0, slots := 0, locals := 0 })
abbrev y_Md_step : MethodName := ⟨"BaubleHillModel", "step", "(II)I"⟩
abbrev k_Md_step : wK := (y_Md_step, prog_14_method_9_code, 3, (Option.some FieldType.int), { frames := 1, cells := 0, slots := 0, locals := 22 })
abbrev y_Md_faultOf : MethodName := ⟨"BaubleHillModel", "faultOf", "()I"⟩
abbrev k_Md_faultOf : wK := (y_Md_faultOf, prog_14_method_10_code, 3, (Option.some FieldType.int), { frames := 2, cells := 0, slots := 0, locals := 44 })
abbrev y_Md_fault : MethodName := ⟨"BaubleHillModel", "fault", "()I"⟩
abbrev k_Md_fault : wK := (y_Md_fault, prog_14_method_11_code, 1, (Option.some FieldType.int), { frames := 3, cells := 0, slots := 0, locals := 66 })
abbrev y_Md_asNow : MethodName := ⟨"BaubleHillModel", "asNow", "()V"⟩
abbrev k_Md_asNow : wK := (y_Md_asNow, prog_14_method_12_code, 2, none, { frames := 0, cells := 0, slots := 0, locals := 0 })
abbrev y_Md_ballOn : MethodName := ⟨"BaubleHillModel", "ballOn", "(I)I"⟩
abbrev k_Md_ballOn : wK := (y_Md_ballOn, prog_14_method_13_code, 3, (Option.some FieldType.int), { frames := 0, cells := 0, slots := 0, locals := 0 })
abbrev y_Md_hanging : MethodName := ⟨"BaubleHillModel", "hanging", "()I"⟩
abbrev k_Md_hanging : wK := (y_Md_hanging, prog_14_method_14_code, 3, (Option.some FieldType.int), { frames := 0, cells := 0, slots := 0, locals := 0 })
abbrev y_Md_apartOf : MethodName := ⟨"BaubleHillModel", "apartOf", "(II)I"⟩
abbrev k_Md_apartOf : wK := (y_Md_apartOf, prog_14_method_15_code, 6, (Option.some FieldType.int), { frames := 0, cells := 0, slots := 0, locals := 0 })
abbrev y_Md_meetOf : MethodName := ⟨"BaubleHillModel", "meetOf", "(II)I"⟩
abbrev k_Md_meetOf : wK := (y_Md_meetOf, prog_14_method_16_code, 5, (Option.some FieldType.int), { frames := 0, cells := 0, slots := 0, locals := 0 })
abbrev y_Md_hang : MethodName := ⟨"BaubleHillModel", "hang", "(II)I"⟩
abbrev k_Md_hang : wK := (y_Md_hang, prog_14_method_17_code, 4, (Option.some FieldType.int), { frames := 1, cells := 0, slots := 0, locals := 22 })
abbrev y_Md_pack : MethodName := ⟨"BaubleHillModel", "pack", "(I)I"⟩
abbrev k_Md_pack : wK := (y_Md_pack, prog_14_method_18_code, 2, (Option.some FieldType.int), { frames := 1, cells := 0, slots := 0, locals := 21 })
abbrev y_Md_blow : MethodName := ⟨"BaubleHillModel", "blow", "(I)I"⟩
abbrev k_Md_blow : wK := (y_Md_blow, prog_14_method_19_code, 5, (Option.some FieldType.int), { frames := 1, cells := 0, slots := 0, locals := 25 })
abbrev y_Md_bend : MethodName := ⟨"BaubleHillModel", "bend", "(II)I"⟩
abbrev k_Md_bend : wK := (y_Md_bend, prog_14_method_20_code, 3, (Option.some FieldType.int), { frames := 0, cells := 0, slots := 0, locals := 0 })
abbrev y_Md_endWinter : MethodName := ⟨"BaubleHillModel", "endWinter", "()I"⟩
abbrev k_Md_endWinter : wK := (y_Md_endWinter, prog_14_method_21_code, 2, (Option.some FieldType.int), { frames := 0, cells := 0, slots := 0, locals := 0 })
abbrev y_Md_goWinters : MethodName := ⟨"BaubleHillModel", "goWinters", "()I"⟩
abbrev k_Md_goWinters : wK := (y_Md_goWinters, prog_14_method_22_code, 6, (Option.some FieldType.int), { frames := 2, cells := 0, slots := 0, locals := 49 })
abbrev y_Md_judge : MethodName := ⟨"BaubleHillModel", "judge", "(I)I"⟩
abbrev k_Md_judge : wK := (y_Md_judge, prog_14_method_23_code, 3, (Option.some FieldType.int), { frames := 3, cells := 0, slots := 0, locals := 74 })
abbrev y_Md_barOfWinters : MethodName := ⟨"BaubleHillModel", "barOfWinters", "()I"⟩
abbrev k_Md_barOfWinters : wK := (y_Md_barOfWinters, prog_14_method_24_code, 1, (Option.some FieldType.int), { frames := 3, cells := 0, slots := 0, locals := 74 })
abbrev y_Md_done : MethodName := ⟨"BaubleHillModel", "done", "()I"⟩
abbrev k_Md_done : wK := (y_Md_done, prog_14_method_25_code, 2, (Option.some FieldType.int), { frames := 4, cells := 0, slots := 0, locals := 94 })
abbrev y_Md_behind : MethodName := ⟨"BaubleHillModel", "behind", "(II)I"⟩
abbrev k_Md_behind : wK := (y_Md_behind, prog_14_method_26_code, 3, (Option.some FieldType.int), { frames := 4, cells := 0, slots := 0, locals := 94 })
abbrev y_Md_then : MethodName := ⟨"BaubleHillModel", "then", "(I)I"⟩
abbrev k_Md_then : wK := (y_Md_then, prog_14_method_27_code, 2, (Option.some FieldType.int), { frames := 4, cells := 0, slots := 0, locals := 94 })
abbrev y_Md_areLoops : MethodName := ⟨"BaubleHillModel", "areLoops", "(II)Z"⟩
abbrev k_Md_areLoops : wK := (y_Md_areLoops, prog_14_method_28_code, 2, (Option.some FieldType.boolean), { frames := 1, cells := 0, slots := 0, locals := 22 })
abbrev y_Md_apart : MethodName := ⟨"BaubleHillModel", "apart", "(II)I"⟩
abbrev k_Md_apart : wK := (y_Md_apart, prog_14_method_29_code, 3, (Option.some FieldType.int), { frames := 2, cells := 0, slots := 0, locals := 43 })
abbrev y_Md_meets : MethodName := ⟨"BaubleHillModel", "meets", "(II)I"⟩
abbrev k_Md_meets : wK := (y_Md_meets, prog_14_method_30_code, 3, (Option.some FieldType.int), { frames := 2, cells := 0, slots := 0, locals := 43 })
abbrev y_Md_sees : MethodName := ⟨"BaubleHillModel", "sees", "(I)I"⟩
abbrev k_Md_sees : wK := (y_Md_sees, prog_14_method_31_code, 9, (Option.some FieldType.int), { frames := 1, cells := 0, slots := 0, locals := 25 })
abbrev y_Md_near : MethodName := ⟨"BaubleHillModel", "near", "(I)I"⟩
abbrev k_Md_near : wK := (y_Md_near, prog_14_method_32_code, 9, (Option.some FieldType.int), { frames := 1, cells := 0, slots := 0, locals := 25 })
abbrev y_Md_room : MethodName := ⟨"BaubleHillModel", "room", "(II)I"⟩
abbrev k_Md_room : wK := (y_Md_room, prog_14_method_33_code, 8, (Option.some FieldType.int), { frames := 1, cells := 0, slots := 0, locals := 25 })
abbrev y_Md_candles : MethodName := ⟨"BaubleHillModel", "candles", "(II)I"⟩
abbrev k_Md_candles : wK := (y_Md_candles, prog_14_method_34_code, 9, (Option.some FieldType.int), { frames := 1, cells := 0, slots := 0, locals := 25 })
abbrev y_Md_seen : MethodName := ⟨"BaubleHillModel", "seen", "(II)I"⟩
abbrev k_Md_seen : wK := (y_Md_seen, prog_14_method_35_code, 3, (Option.some FieldType.int), { frames := 1, cells := 0, slots := 0, locals := 22 })
abbrev y_Md_forget : MethodName := ⟨"BaubleHillModel", "forget", "()I"⟩
abbrev k_Md_forget : wK := (y_Md_forget, prog_14_method_36_code, 2, (Option.some FieldType.int), { frames := 0, cells := 0, slots := 0, locals := 0 })
abbrev y_Md_isFit : MethodName := ⟨"BaubleHillModel", "isFit", "(I)Z"⟩
abbrev k_Md_isFit : wK := (y_Md_isFit, prog_14_method_37_code, 4, (Option.some FieldType.boolean), { frames := 1, cells := 0, slots := 0, locals := 25 })
abbrev y_Md_where : MethodName := ⟨"BaubleHillModel", "where", "(I)I"⟩
abbrev k_Md_where : wK := (y_Md_where, prog_14_method_38_code, 4, (Option.some FieldType.int), { frames := 2, cells := 0, slots := 0, locals := 48 })
abbrev y_Md_ask : MethodName := ⟨"BaubleHillModel", "ask", "(I)I"⟩
abbrev k_Md_ask : wK := (y_Md_ask, prog_14_method_39_code, 8, (Option.some FieldType.int), { frames := 2, cells := 0, slots := 0, locals := 48 })
abbrev y_Md_worthOf : MethodName := ⟨"BaubleHillModel", "worthOf", "(I)I"⟩
abbrev k_Md_worthOf : wK := (y_Md_worthOf, prog_14_method_40_code, 3, (Option.some FieldType.int), { frames := 0, cells := 0, slots := 0, locals := 0 })
abbrev y_Md_cut : MethodName := ⟨"BaubleHillModel", "cut", "(I)I"⟩
abbrev k_Md_cut : wK := (y_Md_cut, prog_14_method_41_code, 4, (Option.some FieldType.int), { frames := 1, cells := 0, slots := 0, locals := 22 })
abbrev y_Md_layChoices : MethodName := ⟨"BaubleHillModel", "layChoices", "()V"⟩
abbrev k_Md_layChoices : wK := (y_Md_layChoices, prog_14_method_42_code, 3, none, { frames := 0, cells := 0, slots := 0, locals := 0 })
abbrev y_Md_lowest : MethodName := ⟨"BaubleHillModel", "lowest", "(JJI)J"⟩
abbrev k_Md_lowest : wK := (y_Md_lowest, prog_14_method_43_code, 11, (Option.some FieldType.long), { frames := 0, cells := 0, slots := 0, locals := 0 })
abbrev y_Md_tissue : MethodName := ⟨"BaubleHillModel", "tissue", "(IIIIII)J"⟩
abbrev k_Md_tissue : wK := (y_Md_tissue, prog_14_method_44_code, 10, (Option.some FieldType.long), { frames := 1, cells := 0, slots := 0, locals := 30 })
abbrev y_Md_year : MethodName := ⟨"BaubleHillModel", "year", "(III)I"⟩
abbrev k_Md_year : wK := (y_Md_year, prog_14_method_45_code, 8, (Option.some FieldType.int), { frames := 2, cells := 0, slots := 0, locals := 49 })
abbrev y_Md_image : MethodName := ⟨"BaubleHillModel", "image", "(I)I"⟩
abbrev k_Md_image : wK := (y_Md_image, prog_14_method_46_code, 4, (Option.some FieldType.int), { frames := 1, cells := 0, slots := 0, locals := 22 })
abbrev y_Md_restore : MethodName := ⟨"BaubleHillModel", "restore", "(I)I"⟩
abbrev k_Md_restore : wK := (y_Md_restore, prog_14_method_47_code, 4, (Option.some FieldType.int), { frames := 1, cells := 0, slots := 0, locals := 22 })
abbrev y_Md_told : MethodName := ⟨"BaubleHillModel", "told", "(I)I"⟩
abbrev k_Md_told : wK := (y_Md_told, prog_14_method_48_code, 2, (Option.some FieldType.int), { frames := 1, cells := 0, slots := 0, locals := 22 })
abbrev y_Int_bitCount : MethodName := ⟨"java/lang/Integer", "bitCount", "(I)I"⟩
abbrev k_Int_bitCount : wK := (y_Int_bitCount, prog_15_method_49_code, 1, (Option.some FieldType.int), { frames := 0, cells := 0, slots := 0, locals := 0 })
abbrev y_Law_law : MethodName := ⟨"BaubleHillLaw", "law", "([I)Z"⟩
abbrev k_Law_law : wK := (y_Law_law, code, 4, (Option.some FieldType.boolean), room_1)
theorem g_0 : Cond.initialized "BaubleHillLaw" ∈ lw_g := g_s1 (i := 0) rfl rfl
theorem g_1 : Cond.initialized "BaubleHill" ∈ lw_g := g_s1 (i := 1) rfl rfl
theorem g_2 : Cond.initialized "BaubleHill$Hill" ∈ lw_g := g_s1 (i := 2) rfl rfl
theorem g_3 : Cond.initialized "BaubleHill$Tree" ∈ lw_g := g_s1 (i := 3) rfl rfl
theorem g_4 : Cond.initialized "BaubleHill$Sights" ∈ lw_g := g_s1 (i := 4) rfl rfl
theorem g_5 : Cond.initialized "BaubleHill$Pad" ∈ lw_g := g_s1 (i := 5) rfl rfl
theorem g_6 : Cond.initialized "BaubleHill$Telling" ∈ lw_g := g_s1 (i := 6) rfl rfl
theorem g_7 : Cond.initialized "BaubleHill$Act" ∈ lw_g := g_s1 (i := 7) rfl rfl
theorem g_8 : Cond.initialized "BaubleHill$Choice" ∈ lw_g := g_s1 (i := 8) rfl rfl
theorem g_9 : Cond.initialized "BaubleHill$Cutting" ∈ lw_g := g_s1 (i := 9) rfl rfl
theorem g_10 : Cond.initialized "BaubleHill$Year" ∈ lw_g := g_s1 (i := 10) rfl rfl
theorem g_11 : Cond.initialized "BaubleHill$Image" ∈ lw_g := g_s1 (i := 11) rfl rfl
theorem g_12 : Cond.initialized "BaubleHillModel" ∈ lw_g := g_s1 (i := 12) rfl rfl
theorem g_13 : Cond.initialized "java/lang/Integer" ∈ lw_g := g_s1 (i := 13) rfl rfl
theorem g_14 : Cond.initialized "java/lang/Math" ∈ lw_g := g_s1 (i := 14) rfl rfl
theorem g_15 : Cond.initialized "BaubleHill$Chance" ∈ lw_g := g_s1 (i := 15) rfl rfl
theorem g_16 : Cond.classLink "BaubleHillLaw" 7 "BaubleHill" ∈ lw_g := g_s1 (i := 16) rfl rfl
theorem g_17 : Cond.instantiable "BaubleHill" 9 ∈ lw_g := g_s1 (i := 17) rfl rfl
theorem g_18 : Cond.methodLink "BaubleHillLaw" 9 ⟨"BaubleHill", "<init>", "()V"⟩ ∈ lw_g := g_s1 (i := 18) rfl rfl
theorem g_19 : Cond.instanceMethod ⟨"BaubleHill", "<init>", "()V"⟩ ∈ lw_g := g_s1 (i := 19) rfl rfl
theorem g_20 : Cond.code ⟨"BaubleHill", "<init>", "()V"⟩ prog_1_method_1_code 1 none ∈ lw_g := g_s1 (i := 20) rfl rfl
theorem g_21 : Cond.methodLink "BaubleHill" 3 ⟨"java/lang/Object", "<init>", "()V"⟩ ∈ lw_g := g_s1 (i := 21) rfl rfl
theorem g_22 : Cond.instanceMethod ⟨"java/lang/Object", "<init>", "()V"⟩ ∈ lw_g := g_s1 (i := 22) rfl rfl
theorem g_23 : Cond.code ⟨"java/lang/Object", "<init>", "()V"⟩ object_method_1_code 1 none ∈ lw_g := g_s1 (i := 23) rfl rfl
theorem g_24 : Cond.classLink "BaubleHill" 9 "BaubleHill$Hill" ∈ lw_g := g_s1 (i := 24) rfl rfl
theorem g_25 : Cond.instantiable "BaubleHill$Hill" 5 ∈ lw_g := g_s1 (i := 25) rfl rfl
theorem g_26 : Cond.methodLink "BaubleHill" 11 ⟨"BaubleHill$Hill", "<init>", "()V"⟩ ∈ lw_g := g_s1 (i := 26) rfl rfl
theorem g_27 : Cond.instanceMethod ⟨"BaubleHill$Hill", "<init>", "()V"⟩ ∈ lw_g := g_s1 (i := 27) rfl rfl
theorem g_28 : Cond.code ⟨"BaubleHill$Hill", "<init>", "()V"⟩ prog_6_method_1_code 2 none ∈ lw_g := g_s1 (i := 28) rfl rfl
theorem g_29 : Cond.methodLink "BaubleHill$Hill" 3 ⟨"java/lang/Object", "<init>", "()V"⟩ ∈ lw_g := g_s1 (i := 29) rfl rfl
theorem g_30 : Cond.classLink "BaubleHill$Hill" 9 "BaubleHill$Tree" ∈ lw_g := g_s1 (i := 30) rfl rfl
theorem g_31 : Cond.instantiable "BaubleHill$Tree" 1 ∈ lw_g := g_s1 (i := 31) rfl rfl
theorem g_32 : Cond.methodLink "BaubleHill$Hill" 11 ⟨"BaubleHill$Tree", "<init>", "()V"⟩ ∈ lw_g := g_s1 (i := 32) rfl rfl
theorem g_33 : Cond.instanceMethod ⟨"BaubleHill$Tree", "<init>", "()V"⟩ ∈ lw_g := g_s1 (i := 33) rfl rfl
theorem g_34 : Cond.code ⟨"BaubleHill$Tree", "<init>", "()V"⟩ prog_11_method_1_code 2 none ∈ lw_g := g_s1 (i := 34) rfl rfl
theorem g_35 : Cond.methodLink "BaubleHill$Tree" 3 ⟨"java/lang/Object", "<init>", "()V"⟩ ∈ lw_g := g_s1 (i := 35) rfl rfl
theorem g_36 : Cond.fieldLink "BaubleHill$Tree" 9 "BaubleHill$Tree" "parents" "[I" ∈ lw_g := g_s1 (i := 36) rfl rfl
theorem g_40 : Cond.arrayClass FieldType.int ∈ lw_g := g_s1 (i := 40) rfl rfl
theorem g_41 : Cond.fieldLink "BaubleHill$Hill" 12 "BaubleHill$Hill" "tree" "LBaubleHill$Tree;" ∈ lw_g := g_s1 (i := 41) rfl rfl
theorem g_42 : Cond.fieldLink "BaubleHill$Hill" 18 "BaubleHill$Hill" "loops" "[I" ∈ lw_g := g_s1 (i := 42) rfl rfl
theorem g_43 : Cond.fieldLink "BaubleHill$Hill" 22 "BaubleHill$Hill" "chips" "[I" ∈ lw_g := g_s1 (i := 43) rfl rfl
theorem g_44 : Cond.fieldLink "BaubleHill$Hill" 25 "BaubleHill$Hill" "broken" "I" ∈ lw_g := g_s1 (i := 44) rfl rfl
theorem g_45 : Cond.fieldLink "BaubleHill$Hill" 29 "BaubleHill$Hill" "winter" "I" ∈ lw_g := g_s1 (i := 45) rfl rfl
theorem g_57 : Cond.classLink "BaubleHill" 16 "BaubleHill$Sights" ∈ lw_g := g_s1 (i := 57) rfl rfl
theorem g_58 : Cond.instantiable "BaubleHill$Sights" 3 ∈ lw_g := g_s1 (i := 58) rfl rfl
theorem g_60 : Cond.instanceMethod ⟨"BaubleHill$Sights", "<init>", "()V"⟩ ∈ lw_g := g_s1 (i := 60) rfl rfl
theorem g_61 : Cond.code ⟨"BaubleHill$Sights", "<init>", "()V"⟩ prog_9_method_1_code 1 none ∈ lw_g := g_s1 (i := 61) rfl rfl
theorem g_62 : Cond.methodLink "BaubleHill$Sights" 3 ⟨"java/lang/Object", "<init>", "()V"⟩ ∈ lw_g := g_s1 (i := 62) rfl rfl
theorem g_63 : Cond.fieldLink "BaubleHill$Sights" 9 "BaubleHill$Sights" "loops" "[I" ∈ lw_g := g_s1 (i := 63) rfl rfl
theorem g_64 : Cond.fieldLink "BaubleHill$Sights" 15 "BaubleHill$Sights" "fars" "[I" ∈ lw_g := g_s1 (i := 64) rfl rfl
theorem g_65 : Cond.fieldLink "BaubleHill$Sights" 18 "BaubleHill$Sights" "count" "I" ∈ lw_g := g_s1 (i := 65) rfl rfl
theorem g_73 : Cond.classLink "BaubleHill" 23 "BaubleHill$Pad" ∈ lw_g := g_s1 (i := 73) rfl rfl
theorem g_74 : Cond.instantiable "BaubleHill$Pad" 2 ∈ lw_g := g_s1 (i := 74) rfl rfl
theorem g_76 : Cond.instanceMethod ⟨"BaubleHill$Pad", "<init>", "()V"⟩ ∈ lw_g := g_s1 (i := 76) rfl rfl
theorem g_77 : Cond.code ⟨"BaubleHill$Pad", "<init>", "()V"⟩ prog_8_method_1_code 1 none ∈ lw_g := g_s1 (i := 77) rfl rfl
theorem g_78 : Cond.methodLink "BaubleHill$Pad" 3 ⟨"java/lang/Object", "<init>", "()V"⟩ ∈ lw_g := g_s1 (i := 78) rfl rfl
theorem g_79 : Cond.fieldLink "BaubleHill$Pad" 9 "BaubleHill$Pad" "signs" "[I" ∈ lw_g := g_s1 (i := 79) rfl rfl
theorem g_80 : Cond.fieldLink "BaubleHill$Pad" 15 "BaubleHill$Pad" "count" "I" ∈ lw_g := g_s1 (i := 80) rfl rfl
theorem g_86 : Cond.classLink "BaubleHill" 30 "BaubleHill$Telling" ∈ lw_g := g_s1 (i := 86) rfl rfl
theorem g_87 : Cond.instantiable "BaubleHill$Telling" 6 ∈ lw_g := g_s1 (i := 87) rfl rfl
theorem g_89 : Cond.instanceMethod ⟨"BaubleHill$Telling", "<init>", "()V"⟩ ∈ lw_g := g_s1 (i := 89) rfl rfl
theorem g_90 : Cond.code ⟨"BaubleHill$Telling", "<init>", "()V"⟩ prog_10_method_1_code 1 none ∈ lw_g := g_s1 (i := 90) rfl rfl
theorem g_91 : Cond.methodLink "BaubleHill$Telling" 3 ⟨"java/lang/Object", "<init>", "()V"⟩ ∈ lw_g := g_s1 (i := 91) rfl rfl
theorem g_92 : Cond.classLink "BaubleHill$Telling" 9 "BaubleHill$Hill" ∈ lw_g := g_s1 (i := 92) rfl rfl
theorem g_93 : Cond.methodLink "BaubleHill$Telling" 11 ⟨"BaubleHill$Hill", "<init>", "()V"⟩ ∈ lw_g := g_s1 (i := 93) rfl rfl
theorem g_94 : Cond.classLink "BaubleHill$Telling" 18 "BaubleHill$Act" ∈ lw_g := g_s1 (i := 94) rfl rfl
theorem g_95 : Cond.instantiable "BaubleHill$Act" 3 ∈ lw_g := g_s1 (i := 95) rfl rfl
theorem g_97 : Cond.instanceMethod ⟨"BaubleHill$Act", "<init>", "()V"⟩ ∈ lw_g := g_s1 (i := 97) rfl rfl
theorem g_98 : Cond.code ⟨"BaubleHill$Act", "<init>", "()V"⟩ prog_2_method_1_code 1 none ∈ lw_g := g_s1 (i := 98) rfl rfl
theorem g_99 : Cond.methodLink "BaubleHill$Act" 1 ⟨"java/lang/Object", "<init>", "()V"⟩ ∈ lw_g := g_s1 (i := 99) rfl rfl
theorem g_100 : Cond.fieldLink "BaubleHill$Act" 9 "BaubleHill$Act" "kind" "I" ∈ lw_g := g_s1 (i := 100) rfl rfl
theorem g_101 : Cond.fieldLink "BaubleHill$Act" 13 "BaubleHill$Act" "one" "I" ∈ lw_g := g_s1 (i := 101) rfl rfl
theorem g_102 : Cond.fieldLink "BaubleHill$Act" 16 "BaubleHill$Act" "other" "I" ∈ lw_g := g_s1 (i := 102) rfl rfl
theorem g_110 : Cond.fieldLink "BaubleHill$Telling" 12 "BaubleHill$Telling" "hill" "LBaubleHill$Hill;" ∈ lw_g := g_s1 (i := 110) rfl rfl
theorem g_111 : Cond.fieldLink "BaubleHill$Telling" 21 "BaubleHill$Telling" "act" "LBaubleHill$Act;" ∈ lw_g := g_s1 (i := 111) rfl rfl
theorem g_112 : Cond.fieldLink "BaubleHill$Telling" 25 "BaubleHill$Telling" "acts" "I" ∈ lw_g := g_s1 (i := 112) rfl rfl
theorem g_113 : Cond.fieldLink "BaubleHill$Telling" 29 "BaubleHill$Telling" "why" "I" ∈ lw_g := g_s1 (i := 113) rfl rfl
theorem g_114 : Cond.fieldLink "BaubleHill$Telling" 32 "BaubleHill$Telling" "actThatBroke" "I" ∈ lw_g := g_s1 (i := 114) rfl rfl
theorem g_115 : Cond.fieldLink "BaubleHill$Telling" 35 "BaubleHill$Telling" "ballThatBroke" "I" ∈ lw_g := g_s1 (i := 115) rfl rfl
theorem g_129 : Cond.classLink "BaubleHill" 37 "BaubleHill$Choice" ∈ lw_g := g_s1 (i := 129) rfl rfl
theorem g_130 : Cond.instantiable "BaubleHill$Choice" 1 ∈ lw_g := g_s1 (i := 130) rfl rfl
theorem g_132 : Cond.instanceMethod ⟨"BaubleHill$Choice", "<init>", "()V"⟩ ∈ lw_g := g_s1 (i := 132) rfl rfl
theorem g_133 : Cond.code ⟨"BaubleHill$Choice", "<init>", "()V"⟩ prog_4_method_1_code 1 none ∈ lw_g := g_s1 (i := 133) rfl rfl
theorem g_134 : Cond.methodLink "BaubleHill$Choice" 3 ⟨"java/lang/Object", "<init>", "()V"⟩ ∈ lw_g := g_s1 (i := 134) rfl rfl
theorem g_135 : Cond.fieldLink "BaubleHill$Choice" 9 "BaubleHill$Choice" "around" "[I" ∈ lw_g := g_s1 (i := 135) rfl rfl
theorem g_139 : Cond.classLink "BaubleHill" 44 "BaubleHill$Cutting" ∈ lw_g := g_s1 (i := 139) rfl rfl
theorem g_140 : Cond.instantiable "BaubleHill$Cutting" 1 ∈ lw_g := g_s1 (i := 140) rfl rfl
theorem g_142 : Cond.instanceMethod ⟨"BaubleHill$Cutting", "<init>", "()V"⟩ ∈ lw_g := g_s1 (i := 142) rfl rfl
theorem g_143 : Cond.code ⟨"BaubleHill$Cutting", "<init>", "()V"⟩ prog_5_method_1_code 1 none ∈ lw_g := g_s1 (i := 143) rfl rfl
theorem g_144 : Cond.methodLink "BaubleHill$Cutting" 3 ⟨"java/lang/Object", "<init>", "()V"⟩ ∈ lw_g := g_s1 (i := 144) rfl rfl
theorem g_145 : Cond.fieldLink "BaubleHill$Cutting" 9 "BaubleHill$Cutting" "worths" "[I" ∈ lw_g := g_s1 (i := 145) rfl rfl
theorem g_149 : Cond.classLink "BaubleHill" 51 "BaubleHill$Year" ∈ lw_g := g_s1 (i := 149) rfl rfl
theorem g_150 : Cond.instantiable "BaubleHill$Year" 2 ∈ lw_g := g_s1 (i := 150) rfl rfl
theorem g_152 : Cond.instanceMethod ⟨"BaubleHill$Year", "<init>", "()V"⟩ ∈ lw_g := g_s1 (i := 152) rfl rfl
theorem g_153 : Cond.code ⟨"BaubleHill$Year", "<init>", "()V"⟩ prog_12_method_1_code 1 none ∈ lw_g := g_s1 (i := 153) rfl rfl
theorem g_154 : Cond.methodLink "BaubleHill$Year" 1 ⟨"java/lang/Object", "<init>", "()V"⟩ ∈ lw_g := g_s1 (i := 154) rfl rfl
theorem g_155 : Cond.classLink "BaubleHill$Year" 7 "BaubleHill$Hill" ∈ lw_g := g_s1 (i := 155) rfl rfl
theorem g_156 : Cond.methodLink "BaubleHill$Year" 9 ⟨"BaubleHill$Hill", "<init>", "()V"⟩ ∈ lw_g := g_s1 (i := 156) rfl rfl
theorem g_157 : Cond.classLink "BaubleHill$Year" 16 "BaubleHill$Act" ∈ lw_g := g_s1 (i := 157) rfl rfl
theorem g_159 : Cond.fieldLink "BaubleHill$Year" 10 "BaubleHill$Year" "hill" "LBaubleHill$Hill;" ∈ lw_g := g_s1 (i := 159) rfl rfl
theorem g_160 : Cond.fieldLink "BaubleHill$Year" 19 "BaubleHill$Year" "act" "LBaubleHill$Act;" ∈ lw_g := g_s1 (i := 160) rfl rfl
theorem g_166 : Cond.classLink "BaubleHill" 58 "BaubleHill$Image" ∈ lw_g := g_s1 (i := 166) rfl rfl
theorem g_167 : Cond.instantiable "BaubleHill$Image" 3 ∈ lw_g := g_s1 (i := 167) rfl rfl
theorem g_169 : Cond.instanceMethod ⟨"BaubleHill$Image", "<init>", "()V"⟩ ∈ lw_g := g_s1 (i := 169) rfl rfl
theorem g_170 : Cond.code ⟨"BaubleHill$Image", "<init>", "()V"⟩ prog_7_method_1_code 1 none ∈ lw_g := g_s1 (i := 170) rfl rfl
theorem g_171 : Cond.methodLink "BaubleHill$Image" 1 ⟨"java/lang/Object", "<init>", "()V"⟩ ∈ lw_g := g_s1 (i := 171) rfl rfl
theorem g_172 : Cond.classLink "BaubleHill$Image" 7 "BaubleHill$Hill" ∈ lw_g := g_s1 (i := 172) rfl rfl
theorem g_173 : Cond.methodLink "BaubleHill$Image" 9 ⟨"BaubleHill$Hill", "<init>", "()V"⟩ ∈ lw_g := g_s1 (i := 173) rfl rfl
theorem g_174 : Cond.classLink "BaubleHill$Image" 16 "BaubleHill$Sights" ∈ lw_g := g_s1 (i := 174) rfl rfl
theorem g_176 : Cond.fieldLink "BaubleHill$Image" 10 "BaubleHill$Image" "hill" "LBaubleHill$Hill;" ∈ lw_g := g_s1 (i := 176) rfl rfl
theorem g_177 : Cond.fieldLink "BaubleHill$Image" 19 "BaubleHill$Image" "sights" "LBaubleHill$Sights;" ∈ lw_g := g_s1 (i := 177) rfl rfl
theorem g_178 : Cond.fieldLink "BaubleHill$Image" 23 "BaubleHill$Image" "kept" "Z" ∈ lw_g := g_s1 (i := 178) rfl rfl
theorem g_186 : Cond.fieldLink "BaubleHill" 12 "BaubleHill" "hill" "LBaubleHill$Hill;" ∈ lw_g := g_s1 (i := 186) rfl rfl
theorem g_187 : Cond.fieldLink "BaubleHill" 19 "BaubleHill" "sights" "LBaubleHill$Sights;" ∈ lw_g := g_s1 (i := 187) rfl rfl
theorem g_188 : Cond.fieldLink "BaubleHill" 26 "BaubleHill" "pad" "LBaubleHill$Pad;" ∈ lw_g := g_s1 (i := 188) rfl rfl
theorem g_189 : Cond.fieldLink "BaubleHill" 33 "BaubleHill" "telling" "LBaubleHill$Telling;" ∈ lw_g := g_s1 (i := 189) rfl rfl
theorem g_190 : Cond.fieldLink "BaubleHill" 40 "BaubleHill" "choice" "LBaubleHill$Choice;" ∈ lw_g := g_s1 (i := 190) rfl rfl
theorem g_191 : Cond.fieldLink "BaubleHill" 47 "BaubleHill" "cutting" "LBaubleHill$Cutting;" ∈ lw_g := g_s1 (i := 191) rfl rfl
theorem g_192 : Cond.fieldLink "BaubleHill" 54 "BaubleHill" "years" "LBaubleHill$Year;" ∈ lw_g := g_s1 (i := 192) rfl rfl
theorem g_193 : Cond.fieldLink "BaubleHill" 61 "BaubleHill" "firstImage" "LBaubleHill$Image;" ∈ lw_g := g_s1 (i := 193) rfl rfl
theorem g_194 : Cond.fieldLink "BaubleHill" 65 "BaubleHill" "secondImage" "LBaubleHill$Image;" ∈ lw_g := g_s1 (i := 194) rfl rfl
theorem g_214 : Cond.methodLink "BaubleHillLaw" 13 ⟨"BaubleHill", "branch", "(II)I"⟩ ∈ lw_g := g_s1 (i := 214) rfl rfl
theorem g_215 : Cond.instanceMethod ⟨"BaubleHill", "branch", "(II)I"⟩ ∈ lw_g := g_s1 (i := 215) rfl rfl
theorem g_216 : Cond.selects "BaubleHill" ⟨"BaubleHill", "branch", "(II)I"⟩ ⟨"BaubleHill", "branch", "(II)I"⟩ ∈ lw_g := g_s1 (i := 216) rfl rfl
theorem g_217 : Cond.code ⟨"BaubleHill", "branch", "(II)I"⟩ prog_1_method_2_code 4 (Option.some FieldType.int) ∈ lw_g := g_s1 (i := 217) rfl rfl
theorem g_218 : Cond.methodLink "BaubleHill" 68 ⟨"BaubleHill", "isLoop", "(I)Z"⟩ ∈ lw_g := g_s1 (i := 218) rfl rfl
theorem g_219 : Cond.static ⟨"BaubleHill", "isLoop", "(I)Z"⟩ ∈ lw_g := g_s1 (i := 219) rfl rfl
theorem g_220 : Cond.code ⟨"BaubleHill", "isLoop", "(I)Z"⟩ prog_1_method_28_code 1 (Option.some FieldType.boolean) ∈ lw_g := g_s1 (i := 220) rfl rfl
theorem g_221 : Cond.methodLink "BaubleHill" 72 ⟨"BaubleHill$Hill", "tree", "()LBaubleHill$Tree;"⟩ ∈ lw_g := g_s1 (i := 221) rfl rfl
theorem g_222 : Cond.instanceMethod ⟨"BaubleHill$Hill", "tree", "()LBaubleHill$Tree;"⟩ ∈ lw_g := g_s1 (i := 222) rfl rfl
theorem g_223 : Cond.selects "BaubleHill$Hill" ⟨"BaubleHill$Hill", "tree", "()LBaubleHill$Tree;"⟩ ⟨"BaubleHill$Hill", "tree", "()LBaubleHill$Tree;"⟩ ∈ lw_g := g_s1 (i := 223) rfl rfl
theorem g_224 : Cond.code ⟨"BaubleHill$Hill", "tree", "()LBaubleHill$Tree;"⟩ prog_6_method_2_code 1 (Option.some (FieldType.object "BaubleHill$Tree")) ∈ lw_g := g_s1 (i := 224) rfl rfl
theorem g_225 : Cond.methodLink "BaubleHill" 76 ⟨"BaubleHill$Tree", "parentOf", "(I)I"⟩ ∈ lw_g := g_s1 (i := 225) rfl rfl
theorem g_226 : Cond.instanceMethod ⟨"BaubleHill$Tree", "parentOf", "(I)I"⟩ ∈ lw_g := g_s1 (i := 226) rfl rfl
theorem g_227 : Cond.selects "BaubleHill$Tree" ⟨"BaubleHill$Tree", "parentOf", "(I)I"⟩ ⟨"BaubleHill$Tree", "parentOf", "(I)I"⟩ ∈ lw_g := g_s1 (i := 227) rfl rfl
theorem g_228 : Cond.code ⟨"BaubleHill$Tree", "parentOf", "(I)I"⟩ prog_11_method_2_code 2 (Option.some FieldType.int) ∈ lw_g := g_s1 (i := 228) rfl rfl
theorem g_229 : Cond.methodLink "BaubleHill" 82 ⟨"BaubleHill$Tree", "bend", "(II)V"⟩ ∈ lw_g := g_s1 (i := 229) rfl rfl
theorem g_230 : Cond.instanceMethod ⟨"BaubleHill$Tree", "bend", "(II)V"⟩ ∈ lw_g := g_s1 (i := 230) rfl rfl
theorem g_231 : Cond.selects "BaubleHill$Tree" ⟨"BaubleHill$Tree", "bend", "(II)V"⟩ ⟨"BaubleHill$Tree", "bend", "(II)V"⟩ ∈ lw_g := g_s1 (i := 231) rfl rfl
theorem g_232 : Cond.code ⟨"BaubleHill$Tree", "bend", "(II)V"⟩ prog_11_method_3_code 3 none ∈ lw_g := g_s1 (i := 232) rfl rfl
theorem g_233 : Cond.methodLink "BaubleHillLaw" 18 ⟨"BaubleHill", "ball", "(III)I"⟩ ∈ lw_g := g_s1 (i := 233) rfl rfl
theorem g_234 : Cond.instanceMethod ⟨"BaubleHill", "ball", "(III)I"⟩ ∈ lw_g := g_s1 (i := 234) rfl rfl
theorem g_235 : Cond.selects "BaubleHill" ⟨"BaubleHill", "ball", "(III)I"⟩ ⟨"BaubleHill", "ball", "(III)I"⟩ ∈ lw_g := g_s1 (i := 235) rfl rfl
theorem g_236 : Cond.code ⟨"BaubleHill", "ball", "(III)I"⟩ prog_1_method_3_code 5 (Option.some FieldType.int) ∈ lw_g := g_s1 (i := 236) rfl rfl
theorem g_237 : Cond.methodLink "BaubleHill" 86 ⟨"BaubleHill", "isBall", "(I)Z"⟩ ∈ lw_g := g_s1 (i := 237) rfl rfl
theorem g_238 : Cond.static ⟨"BaubleHill", "isBall", "(I)Z"⟩ ∈ lw_g := g_s1 (i := 238) rfl rfl
theorem g_239 : Cond.code ⟨"BaubleHill", "isBall", "(I)Z"⟩ prog_1_method_29_code 1 (Option.some FieldType.boolean) ∈ lw_g := g_s1 (i := 239) rfl rfl
theorem g_240 : Cond.methodLink "BaubleHill" 89 ⟨"BaubleHill$Hill", "anotherHangs", "(II)Z"⟩ ∈ lw_g := g_s2 (i := 0) rfl rfl
theorem g_241 : Cond.instanceMethod ⟨"BaubleHill$Hill", "anotherHangs", "(II)Z"⟩ ∈ lw_g := g_s2 (i := 1) rfl rfl
theorem g_242 : Cond.selects "BaubleHill$Hill" ⟨"BaubleHill$Hill", "anotherHangs", "(II)Z"⟩ ⟨"BaubleHill$Hill", "anotherHangs", "(II)Z"⟩ ∈ lw_g := g_s2 (i := 2) rfl rfl
theorem g_243 : Cond.code ⟨"BaubleHill$Hill", "anotherHangs", "(II)Z"⟩ prog_6_method_10_code 3 (Option.some FieldType.boolean) ∈ lw_g := g_s2 (i := 3) rfl rfl
theorem g_244 : Cond.methodLink "BaubleHill$Hill" 36 ⟨"BaubleHill$Hill", "loopOf", "(I)I"⟩ ∈ lw_g := g_s2 (i := 4) rfl rfl
theorem g_245 : Cond.instanceMethod ⟨"BaubleHill$Hill", "loopOf", "(I)I"⟩ ∈ lw_g := g_s2 (i := 5) rfl rfl
theorem g_246 : Cond.selects "BaubleHill$Hill" ⟨"BaubleHill$Hill", "loopOf", "(I)I"⟩ ⟨"BaubleHill$Hill", "loopOf", "(I)I"⟩ ∈ lw_g := g_s2 (i := 6) rfl rfl
theorem g_247 : Cond.code ⟨"BaubleHill$Hill", "loopOf", "(I)I"⟩ prog_6_method_3_code 2 (Option.some FieldType.int) ∈ lw_g := g_s2 (i := 7) rfl rfl
theorem g_248 : Cond.methodLink "BaubleHill$Hill" 40 ⟨"BaubleHill$Hill", "hungLoops", "()I"⟩ ∈ lw_g := g_s2 (i := 8) rfl rfl
theorem g_249 : Cond.instanceMethod ⟨"BaubleHill$Hill", "hungLoops", "()I"⟩ ∈ lw_g := g_s2 (i := 9) rfl rfl
theorem g_250 : Cond.selects "BaubleHill$Hill" ⟨"BaubleHill$Hill", "hungLoops", "()I"⟩ ⟨"BaubleHill$Hill", "hungLoops", "()I"⟩ ∈ lw_g := g_s2 (i := 10) rfl rfl
theorem g_251 : Cond.code ⟨"BaubleHill$Hill", "hungLoops", "()I"⟩ prog_6_method_8_code 3 (Option.some FieldType.int) ∈ lw_g := g_s2 (i := 11) rfl rfl
theorem g_253 : Cond.static ⟨"BaubleHill", "holds", "(II)Z"⟩ ∈ lw_g := g_s2 (i := 13) rfl rfl
theorem g_254 : Cond.code ⟨"BaubleHill", "holds", "(II)Z"⟩ prog_1_method_30_code 2 (Option.some FieldType.boolean) ∈ lw_g := g_s2 (i := 14) rfl rfl
theorem g_255 : Cond.methodLink "BaubleHill" 93 ⟨"BaubleHill$Hill", "loopOf", "(I)I"⟩ ∈ lw_g := g_s2 (i := 15) rfl rfl
theorem g_256 : Cond.methodLink "BaubleHill" 96 ⟨"BaubleHill$Hill", "put", "(III)V"⟩ ∈ lw_g := g_s2 (i := 16) rfl rfl
theorem g_257 : Cond.instanceMethod ⟨"BaubleHill$Hill", "put", "(III)V"⟩ ∈ lw_g := g_s2 (i := 17) rfl rfl
theorem g_258 : Cond.selects "BaubleHill$Hill" ⟨"BaubleHill$Hill", "put", "(III)V"⟩ ⟨"BaubleHill$Hill", "put", "(III)V"⟩ ∈ lw_g := g_s2 (i := 18) rfl rfl
theorem g_259 : Cond.code ⟨"BaubleHill$Hill", "put", "(III)V"⟩ prog_6_method_11_code 4 none ∈ lw_g := g_s2 (i := 19) rfl rfl
theorem g_260 : Cond.methodLink "BaubleHillLaw" 23 ⟨"BaubleHill", "say", "(I)I"⟩ ∈ lw_g := g_s2 (i := 20) rfl rfl
theorem g_261 : Cond.instanceMethod ⟨"BaubleHill", "say", "(I)I"⟩ ∈ lw_g := g_s2 (i := 21) rfl rfl
theorem g_262 : Cond.selects "BaubleHill" ⟨"BaubleHill", "say", "(I)I"⟩ ⟨"BaubleHill", "say", "(I)I"⟩ ∈ lw_g := g_s2 (i := 22) rfl rfl
theorem g_263 : Cond.code ⟨"BaubleHill", "say", "(I)I"⟩ prog_1_method_4_code 2 (Option.some FieldType.int) ∈ lw_g := g_s2 (i := 23) rfl rfl
theorem g_264 : Cond.methodLink "BaubleHill" 100 ⟨"BaubleHill$Pad", "size", "()I"⟩ ∈ lw_g := g_s2 (i := 24) rfl rfl
theorem g_265 : Cond.instanceMethod ⟨"BaubleHill$Pad", "size", "()I"⟩ ∈ lw_g := g_s2 (i := 25) rfl rfl
theorem g_266 : Cond.selects "BaubleHill$Pad" ⟨"BaubleHill$Pad", "size", "()I"⟩ ⟨"BaubleHill$Pad", "size", "()I"⟩ ∈ lw_g := g_s2 (i := 26) rfl rfl
theorem g_267 : Cond.code ⟨"BaubleHill$Pad", "size", "()I"⟩ prog_8_method_2_code 1 (Option.some FieldType.int) ∈ lw_g := g_s2 (i := 27) rfl rfl
theorem g_268 : Cond.methodLink "BaubleHill" 104 ⟨"BaubleHill$Pad", "add", "(I)V"⟩ ∈ lw_g := g_s2 (i := 28) rfl rfl
theorem g_269 : Cond.instanceMethod ⟨"BaubleHill$Pad", "add", "(I)V"⟩ ∈ lw_g := g_s2 (i := 29) rfl rfl
theorem g_270 : Cond.selects "BaubleHill$Pad" ⟨"BaubleHill$Pad", "add", "(I)V"⟩ ⟨"BaubleHill$Pad", "add", "(I)V"⟩ ∈ lw_g := g_s2 (i := 30) rfl rfl
theorem g_271 : Cond.code ⟨"BaubleHill$Pad", "add", "(I)V"⟩ prog_8_method_3_code 2 none ∈ lw_g := g_s2 (i := 31) rfl rfl
theorem g_272 : Cond.methodLink "BaubleHillLaw" 28 ⟨"BaubleHill", "wipe", "()I"⟩ ∈ lw_g := g_s2 (i := 32) rfl rfl
theorem g_273 : Cond.instanceMethod ⟨"BaubleHill", "wipe", "()I"⟩ ∈ lw_g := g_s2 (i := 33) rfl rfl
theorem g_274 : Cond.selects "BaubleHill" ⟨"BaubleHill", "wipe", "()I"⟩ ⟨"BaubleHill", "wipe", "()I"⟩ ∈ lw_g := g_s2 (i := 34) rfl rfl
theorem g_275 : Cond.code ⟨"BaubleHill", "wipe", "()I"⟩ prog_1_method_5_code 2 (Option.some FieldType.int) ∈ lw_g := g_s2 (i := 35) rfl rfl
theorem g_276 : Cond.methodLink "BaubleHill" 108 ⟨"BaubleHill$Pad", "clear", "()V"⟩ ∈ lw_g := g_s2 (i := 36) rfl rfl
theorem g_277 : Cond.instanceMethod ⟨"BaubleHill$Pad", "clear", "()V"⟩ ∈ lw_g := g_s2 (i := 37) rfl rfl
theorem g_278 : Cond.selects "BaubleHill$Pad" ⟨"BaubleHill$Pad", "clear", "()V"⟩ ⟨"BaubleHill$Pad", "clear", "()V"⟩ ∈ lw_g := g_s2 (i := 38) rfl rfl
theorem g_279 : Cond.code ⟨"BaubleHill$Pad", "clear", "()V"⟩ prog_8_method_4_code 1 none ∈ lw_g := g_s2 (i := 39) rfl rfl
theorem g_280 : Cond.methodLink "BaubleHillLaw" 33 ⟨"BaubleHill", "fault", "()I"⟩ ∈ lw_g := g_s2 (i := 40) rfl rfl
theorem g_281 : Cond.instanceMethod ⟨"BaubleHill", "fault", "()I"⟩ ∈ lw_g := g_s2 (i := 41) rfl rfl
theorem g_282 : Cond.selects "BaubleHill" ⟨"BaubleHill", "fault", "()I"⟩ ⟨"BaubleHill", "fault", "()I"⟩ ∈ lw_g := g_s2 (i := 42) rfl rfl
theorem g_283 : Cond.code ⟨"BaubleHill", "fault", "()I"⟩ prog_1_method_6_code 1 (Option.some FieldType.int) ∈ lw_g := g_s2 (i := 43) rfl rfl
theorem g_284 : Cond.methodLink "BaubleHill" 111 ⟨"BaubleHill$Pad", "firstWrong", "()I"⟩ ∈ lw_g := g_s2 (i := 44) rfl rfl
theorem g_285 : Cond.instanceMethod ⟨"BaubleHill$Pad", "firstWrong", "()I"⟩ ∈ lw_g := g_s2 (i := 45) rfl rfl
theorem g_286 : Cond.selects "BaubleHill$Pad" ⟨"BaubleHill$Pad", "firstWrong", "()I"⟩ ⟨"BaubleHill$Pad", "firstWrong", "()I"⟩ ∈ lw_g := g_s2 (i := 46) rfl rfl
theorem g_287 : Cond.code ⟨"BaubleHill$Pad", "firstWrong", "()I"⟩ prog_8_method_5_code 5 (Option.some FieldType.int) ∈ lw_g := g_s2 (i := 47) rfl rfl
theorem g_288 : Cond.methodLink "BaubleHill$Pad" 19 ⟨"BaubleHill$Pad", "mayFollow", "(II)Z"⟩ ∈ lw_g := g_s2 (i := 48) rfl rfl
theorem g_289 : Cond.static ⟨"BaubleHill$Pad", "mayFollow", "(II)Z"⟩ ∈ lw_g := g_s2 (i := 49) rfl rfl
theorem g_290 : Cond.code ⟨"BaubleHill$Pad", "mayFollow", "(II)Z"⟩ prog_8_method_10_code 2 (Option.some FieldType.boolean) ∈ lw_g := g_s2 (i := 50) rfl rfl
theorem g_292 : Cond.methodLink "BaubleHill$Pad" 34 ⟨"BaubleHill$Pad", "isBallLetter", "(I)Z"⟩ ∈ lw_g := g_s2 (i := 52) rfl rfl
theorem g_293 : Cond.static ⟨"BaubleHill$Pad", "isBallLetter", "(I)Z"⟩ ∈ lw_g := g_s2 (i := 53) rfl rfl
theorem g_294 : Cond.code ⟨"BaubleHill$Pad", "isBallLetter", "(I)Z"⟩ prog_8_method_11_code 1 (Option.some FieldType.boolean) ∈ lw_g := g_s2 (i := 54) rfl rfl
theorem g_296 : Cond.methodLink "BaubleHill$Pad" 23 ⟨"BaubleHill$Pad", "isHead", "(I)Z"⟩ ∈ lw_g := g_s2 (i := 56) rfl rfl
theorem g_297 : Cond.static ⟨"BaubleHill$Pad", "isHead", "(I)Z"⟩ ∈ lw_g := g_s2 (i := 57) rfl rfl
theorem g_298 : Cond.code ⟨"BaubleHill$Pad", "isHead", "(I)Z"⟩ prog_8_method_8_code 1 (Option.some FieldType.boolean) ∈ lw_g := g_s2 (i := 58) rfl rfl
theorem g_299 : Cond.methodLink "BaubleHill$Pad" 27 ⟨"BaubleHill$Pad", "signsAfter", "(I)I"⟩ ∈ lw_g := g_s2 (i := 59) rfl rfl
theorem g_300 : Cond.static ⟨"BaubleHill$Pad", "signsAfter", "(I)I"⟩ ∈ lw_g := g_s2 (i := 60) rfl rfl
theorem g_301 : Cond.code ⟨"BaubleHill$Pad", "signsAfter", "(I)I"⟩ prog_8_method_9_code 1 (Option.some FieldType.int) ∈ lw_g := g_s2 (i := 61) rfl rfl
theorem g_302 : Cond.methodLink "BaubleHillLaw" 37 ⟨"BaubleHill", "judge", "(I)I"⟩ ∈ lw_g := g_s2 (i := 62) rfl rfl
theorem g_303 : Cond.instanceMethod ⟨"BaubleHill", "judge", "(I)I"⟩ ∈ lw_g := g_s2 (i := 63) rfl rfl
theorem g_304 : Cond.selects "BaubleHill" ⟨"BaubleHill", "judge", "(I)I"⟩ ⟨"BaubleHill", "judge", "(I)I"⟩ ∈ lw_g := g_s2 (i := 64) rfl rfl
theorem g_305 : Cond.code ⟨"BaubleHill", "judge", "(I)I"⟩ prog_1_method_7_code 2 (Option.some FieldType.int) ∈ lw_g := g_s2 (i := 65) rfl rfl
theorem g_306 : Cond.methodLink "BaubleHill" 114 ⟨"BaubleHill$Telling", "tell", "(LBaubleHill$Pad;LBaubleHill$Hill;)Z"⟩ ∈ lw_g := g_s2 (i := 66) rfl rfl
theorem g_307 : Cond.instanceMethod ⟨"BaubleHill$Telling", "tell", "(LBaubleHill$Pad;LBaubleHill$Hill;)Z"⟩ ∈ lw_g := g_s2 (i := 67) rfl rfl
theorem g_308 : Cond.selects "BaubleHill$Telling" ⟨"BaubleHill$Telling", "tell", "(LBaubleHill$Pad;LBaubleHill$Hill;)Z"⟩ ⟨"BaubleHill$Telling", "tell", "(LBaubleHill$Pad;LBaubleHill$Hill;)Z"⟩ ∈ lw_g := g_s2 (i := 68) rfl rfl
theorem g_309 : Cond.code ⟨"BaubleHill$Telling", "tell", "(LBaubleHill$Pad;LBaubleHill$Hill;)Z"⟩ prog_10_method_2_code 6 (Option.some FieldType.boolean) ∈ lw_g := g_s2 (i := 69) rfl rfl
theorem g_310 : Cond.methodLink "BaubleHill$Telling" 38 ⟨"BaubleHill$Hill", "copyFrom", "(LBaubleHill$Hill;)V"⟩ ∈ lw_g := g_s2 (i := 70) rfl rfl
theorem g_311 : Cond.instanceMethod ⟨"BaubleHill$Hill", "copyFrom", "(LBaubleHill$Hill;)V"⟩ ∈ lw_g := g_s2 (i := 71) rfl rfl
theorem g_312 : Cond.selects "BaubleHill$Hill" ⟨"BaubleHill$Hill", "copyFrom", "(LBaubleHill$Hill;)V"⟩ ⟨"BaubleHill$Hill", "copyFrom", "(LBaubleHill$Hill;)V"⟩ ∈ lw_g := g_s2 (i := 72) rfl rfl
theorem g_313 : Cond.code ⟨"BaubleHill$Hill", "copyFrom", "(LBaubleHill$Hill;)V"⟩ prog_6_method_12_code 2 none ∈ lw_g := g_s2 (i := 73) rfl rfl
theorem g_314 : Cond.methodLink "BaubleHill$Hill" 44 ⟨"BaubleHill$Tree", "copyFrom", "(LBaubleHill$Tree;)V"⟩ ∈ lw_g := g_s2 (i := 74) rfl rfl
theorem g_315 : Cond.instanceMethod ⟨"BaubleHill$Tree", "copyFrom", "(LBaubleHill$Tree;)V"⟩ ∈ lw_g := g_s2 (i := 75) rfl rfl
theorem g_316 : Cond.selects "BaubleHill$Tree" ⟨"BaubleHill$Tree", "copyFrom", "(LBaubleHill$Tree;)V"⟩ ⟨"BaubleHill$Tree", "copyFrom", "(LBaubleHill$Tree;)V"⟩ ∈ lw_g := g_s2 (i := 76) rfl rfl
theorem g_317 : Cond.code ⟨"BaubleHill$Tree", "copyFrom", "(LBaubleHill$Tree;)V"⟩ prog_11_method_4_code 2 none ∈ lw_g := g_s2 (i := 77) rfl rfl
theorem g_319 : Cond.static ⟨"BaubleHill", "copyRow", "([I[I)V"⟩ ∈ lw_g := g_s2 (i := 79) rfl rfl
theorem g_320 : Cond.code ⟨"BaubleHill", "copyRow", "([I[I)V"⟩ prog_1_method_32_code 3 none ∈ lw_g := g_s2 (i := 80) rfl rfl
theorem g_322 : Cond.methodLink "BaubleHill$Telling" 42 ⟨"BaubleHill$Pad", "firstWrong", "()I"⟩ ∈ lw_g := g_s2 (i := 82) rfl rfl
theorem g_323 : Cond.methodLink "BaubleHill$Telling" 48 ⟨"BaubleHill$Pad", "size", "()I"⟩ ∈ lw_g := g_s2 (i := 83) rfl rfl
theorem g_324 : Cond.methodLink "BaubleHill$Telling" 51 ⟨"BaubleHill$Pad", "read", "(ILBaubleHill$Act;)I"⟩ ∈ lw_g := g_s2 (i := 84) rfl rfl
theorem g_325 : Cond.instanceMethod ⟨"BaubleHill$Pad", "read", "(ILBaubleHill$Act;)I"⟩ ∈ lw_g := g_s2 (i := 85) rfl rfl
theorem g_326 : Cond.selects "BaubleHill$Pad" ⟨"BaubleHill$Pad", "read", "(ILBaubleHill$Act;)I"⟩ ⟨"BaubleHill$Pad", "read", "(ILBaubleHill$Act;)I"⟩ ∈ lw_g := g_s2 (i := 86) rfl rfl
theorem g_327 : Cond.code ⟨"BaubleHill$Pad", "read", "(ILBaubleHill$Act;)I"⟩ prog_8_method_6_code 5 (Option.some FieldType.int) ∈ lw_g := g_s2 (i := 87) rfl rfl
theorem g_328 : Cond.methodLink "BaubleHill$Pad" 31 ⟨"BaubleHill$Pad", "signAt", "(I)I"⟩ ∈ lw_g := g_s2 (i := 88) rfl rfl
theorem g_330 : Cond.instanceMethod ⟨"BaubleHill$Pad", "signAt", "(I)I"⟩ ∈ lw_g := g_s2 (i := 90) rfl rfl
theorem g_331 : Cond.code ⟨"BaubleHill$Pad", "signAt", "(I)I"⟩ prog_8_method_7_code 2 (Option.some FieldType.int) ∈ lw_g := g_s2 (i := 91) rfl rfl
theorem g_332 : Cond.methodLink "BaubleHill$Pad" 39 ⟨"BaubleHill$Act", "set", "(III)V"⟩ ∈ lw_g := g_s2 (i := 92) rfl rfl
theorem g_333 : Cond.instanceMethod ⟨"BaubleHill$Act", "set", "(III)V"⟩ ∈ lw_g := g_s2 (i := 93) rfl rfl
theorem g_334 : Cond.selects "BaubleHill$Act" ⟨"BaubleHill$Act", "set", "(III)V"⟩ ⟨"BaubleHill$Act", "set", "(III)V"⟩ ∈ lw_g := g_s2 (i := 94) rfl rfl
theorem g_335 : Cond.code ⟨"BaubleHill$Act", "set", "(III)V"⟩ prog_2_method_2_code 4 none ∈ lw_g := g_s2 (i := 95) rfl rfl
theorem g_336 : Cond.methodLink "BaubleHill$Telling" 55 ⟨"BaubleHill$Hill", "whyNot", "(LBaubleHill$Act;)I"⟩ ∈ lw_g := g_s2 (i := 96) rfl rfl
theorem g_337 : Cond.instanceMethod ⟨"BaubleHill$Hill", "whyNot", "(LBaubleHill$Act;)I"⟩ ∈ lw_g := g_s2 (i := 97) rfl rfl
theorem g_338 : Cond.selects "BaubleHill$Hill" ⟨"BaubleHill$Hill", "whyNot", "(LBaubleHill$Act;)I"⟩ ⟨"BaubleHill$Hill", "whyNot", "(LBaubleHill$Act;)I"⟩ ∈ lw_g := g_s2 (i := 98) rfl rfl
theorem g_339 : Cond.code ⟨"BaubleHill$Hill", "whyNot", "(LBaubleHill$Act;)I"⟩ prog_6_method_14_code 2 (Option.some FieldType.int) ∈ lw_g := g_s2 (i := 99) rfl rfl
theorem g_340 : Cond.methodLink "BaubleHill$Hill" 56 ⟨"BaubleHill$Act", "kind", "()I"⟩ ∈ lw_g := g_s2 (i := 100) rfl rfl
theorem g_341 : Cond.instanceMethod ⟨"BaubleHill$Act", "kind", "()I"⟩ ∈ lw_g := g_s2 (i := 101) rfl rfl
theorem g_342 : Cond.selects "BaubleHill$Act" ⟨"BaubleHill$Act", "kind", "()I"⟩ ⟨"BaubleHill$Act", "kind", "()I"⟩ ∈ lw_g := g_s2 (i := 102) rfl rfl
theorem g_343 : Cond.code ⟨"BaubleHill$Act", "kind", "()I"⟩ prog_2_method_3_code 1 (Option.some FieldType.int) ∈ lw_g := g_s2 (i := 103) rfl rfl
theorem g_344 : Cond.methodLink "BaubleHill$Hill" 61 ⟨"BaubleHill$Act", "one", "()I"⟩ ∈ lw_g := g_s2 (i := 104) rfl rfl
theorem g_345 : Cond.instanceMethod ⟨"BaubleHill$Act", "one", "()I"⟩ ∈ lw_g := g_s2 (i := 105) rfl rfl
theorem g_346 : Cond.selects "BaubleHill$Act" ⟨"BaubleHill$Act", "one", "()I"⟩ ⟨"BaubleHill$Act", "one", "()I"⟩ ∈ lw_g := g_s2 (i := 106) rfl rfl
theorem g_347 : Cond.code ⟨"BaubleHill$Act", "one", "()I"⟩ prog_2_method_4_code 1 (Option.some FieldType.int) ∈ lw_g := g_s2 (i := 107) rfl rfl
theorem g_348 : Cond.methodLink "BaubleHill$Hill" 64 ⟨"BaubleHill$Hill", "isBroken", "(I)Z"⟩ ∈ lw_g := g_s2 (i := 108) rfl rfl
theorem g_349 : Cond.instanceMethod ⟨"BaubleHill$Hill", "isBroken", "(I)Z"⟩ ∈ lw_g := g_s2 (i := 109) rfl rfl
theorem g_350 : Cond.selects "BaubleHill$Hill" ⟨"BaubleHill$Hill", "isBroken", "(I)Z"⟩ ⟨"BaubleHill$Hill", "isBroken", "(I)Z"⟩ ∈ lw_g := g_s2 (i := 110) rfl rfl
theorem g_351 : Cond.code ⟨"BaubleHill$Hill", "isBroken", "(I)Z"⟩ prog_6_method_5_code 2 (Option.some FieldType.boolean) ∈ lw_g := g_s2 (i := 111) rfl rfl
theorem g_352 : Cond.methodLink "BaubleHill$Hill" 68 ⟨"BaubleHill$Act", "other", "()I"⟩ ∈ lw_g := g_s2 (i := 112) rfl rfl
theorem g_353 : Cond.instanceMethod ⟨"BaubleHill$Act", "other", "()I"⟩ ∈ lw_g := g_s2 (i := 113) rfl rfl
theorem g_354 : Cond.selects "BaubleHill$Act" ⟨"BaubleHill$Act", "other", "()I"⟩ ⟨"BaubleHill$Act", "other", "()I"⟩ ∈ lw_g := g_s2 (i := 114) rfl rfl
theorem g_355 : Cond.code ⟨"BaubleHill$Act", "other", "()I"⟩ prog_2_method_5_code 1 (Option.some FieldType.int) ∈ lw_g := g_s2 (i := 115) rfl rfl
theorem g_356 : Cond.methodLink "BaubleHill$Hill" 71 ⟨"BaubleHill$Hill", "anotherHangs", "(II)Z"⟩ ∈ lw_g := g_s2 (i := 116) rfl rfl
theorem g_357 : Cond.methodLink "BaubleHill$Hill" 74 ⟨"java/lang/Integer", "bitCount", "(I)I"⟩ ∈ lw_g := g_s2 (i := 117) rfl rfl
theorem g_358 : Cond.static ⟨"java/lang/Integer", "bitCount", "(I)I"⟩ ∈ lw_g := g_s2 (i := 118) rfl rfl
theorem g_359 : Cond.code ⟨"java/lang/Integer", "bitCount", "(I)I"⟩ prog_15_method_49_code 1 (Option.some FieldType.int) ∈ lw_g := g_s2 (i := 119) rfl rfl
theorem g_360 : Cond.constant "java/lang/Integer" 265 (1431655765) ∈ lw_g := g_s2 (i := 120) rfl rfl
theorem g_361 : Cond.constant "java/lang/Integer" 266 (858993459) ∈ lw_g := g_s2 (i := 121) rfl rfl
theorem g_362 : Cond.constant "java/lang/Integer" 267 (252645135) ∈ lw_g := g_s2 (i := 122) rfl rfl
theorem g_363 : Cond.methodLink "BaubleHill$Hill" 79 ⟨"BaubleHill$Tree", "parentOf", "(I)I"⟩ ∈ lw_g := g_s2 (i := 123) rfl rfl
theorem g_364 : Cond.methodLink "BaubleHill$Telling" 59 ⟨"BaubleHill$Hill", "brokenBalls", "()I"⟩ ∈ lw_g := g_s2 (i := 124) rfl rfl
theorem g_365 : Cond.instanceMethod ⟨"BaubleHill$Hill", "brokenBalls", "()I"⟩ ∈ lw_g := g_s2 (i := 125) rfl rfl
theorem g_366 : Cond.selects "BaubleHill$Hill" ⟨"BaubleHill$Hill", "brokenBalls", "()I"⟩ ⟨"BaubleHill$Hill", "brokenBalls", "()I"⟩ ∈ lw_g := g_s2 (i := 126) rfl rfl
theorem g_367 : Cond.code ⟨"BaubleHill$Hill", "brokenBalls", "()I"⟩ prog_6_method_6_code 1 (Option.some FieldType.int) ∈ lw_g := g_s2 (i := 127) rfl rfl
theorem g_368 : Cond.methodLink "BaubleHill$Telling" 62 ⟨"BaubleHill$Hill", "follow", "(LBaubleHill$Act;)V"⟩ ∈ lw_g := g_s2 (i := 128) rfl rfl
theorem g_369 : Cond.instanceMethod ⟨"BaubleHill$Hill", "follow", "(LBaubleHill$Act;)V"⟩ ∈ lw_g := g_s2 (i := 129) rfl rfl
theorem g_370 : Cond.selects "BaubleHill$Hill" ⟨"BaubleHill$Hill", "follow", "(LBaubleHill$Act;)V"⟩ ⟨"BaubleHill$Hill", "follow", "(LBaubleHill$Act;)V"⟩ ∈ lw_g := g_s2 (i := 130) rfl rfl
theorem g_371 : Cond.code ⟨"BaubleHill$Hill", "follow", "(LBaubleHill$Act;)V"⟩ prog_6_method_15_code 2 none ∈ lw_g := g_s2 (i := 131) rfl rfl
theorem g_372 : Cond.methodLink "BaubleHill$Hill" 82 ⟨"BaubleHill$Hill", "chipsOf", "(I)I"⟩ ∈ lw_g := g_s2 (i := 132) rfl rfl
theorem g_373 : Cond.instanceMethod ⟨"BaubleHill$Hill", "chipsOf", "(I)I"⟩ ∈ lw_g := g_s2 (i := 133) rfl rfl
theorem g_374 : Cond.selects "BaubleHill$Hill" ⟨"BaubleHill$Hill", "chipsOf", "(I)I"⟩ ⟨"BaubleHill$Hill", "chipsOf", "(I)I"⟩ ∈ lw_g := g_s2 (i := 134) rfl rfl
theorem g_375 : Cond.code ⟨"BaubleHill$Hill", "chipsOf", "(I)I"⟩ prog_6_method_4_code 2 (Option.some FieldType.int) ∈ lw_g := g_s2 (i := 135) rfl rfl
theorem g_376 : Cond.methodLink "BaubleHill$Hill" 85 ⟨"BaubleHill$Hill", "put", "(III)V"⟩ ∈ lw_g := g_s2 (i := 136) rfl rfl
theorem g_377 : Cond.methodLink "BaubleHill$Hill" 89 ⟨"BaubleHill$Hill", "blow", "(I)V"⟩ ∈ lw_g := g_s2 (i := 137) rfl rfl
theorem g_379 : Cond.instanceMethod ⟨"BaubleHill$Hill", "blow", "(I)V"⟩ ∈ lw_g := g_s2 (i := 139) rfl rfl
theorem g_380 : Cond.code ⟨"BaubleHill$Hill", "blow", "(I)V"⟩ prog_6_method_16_code 5 none ∈ lw_g := g_s2 (i := 140) rfl rfl
theorem g_381 : Cond.methodLink "BaubleHill$Hill" 100 ⟨"BaubleHill$Tree", "ring", "(III)I"⟩ ∈ lw_g := g_s2 (i := 141) rfl rfl
theorem g_382 : Cond.instanceMethod ⟨"BaubleHill$Tree", "ring", "(III)I"⟩ ∈ lw_g := g_s2 (i := 142) rfl rfl
theorem g_383 : Cond.selects "BaubleHill$Tree" ⟨"BaubleHill$Tree", "ring", "(III)I"⟩ ⟨"BaubleHill$Tree", "ring", "(III)I"⟩ ∈ lw_g := g_s2 (i := 143) rfl rfl
theorem g_384 : Cond.code ⟨"BaubleHill$Tree", "ring", "(III)I"⟩ prog_11_method_7_code 7 (Option.some FieldType.int) ∈ lw_g := g_s2 (i := 144) rfl rfl
theorem g_385 : Cond.methodLink "BaubleHill$Tree" 32 ⟨"BaubleHill$Tree", "distance", "(II)I"⟩ ∈ lw_g := g_s2 (i := 145) rfl rfl
theorem g_386 : Cond.instanceMethod ⟨"BaubleHill$Tree", "distance", "(II)I"⟩ ∈ lw_g := g_s2 (i := 146) rfl rfl
theorem g_387 : Cond.selects "BaubleHill$Tree" ⟨"BaubleHill$Tree", "distance", "(II)I"⟩ ⟨"BaubleHill$Tree", "distance", "(II)I"⟩ ∈ lw_g := g_s2 (i := 147) rfl rfl
theorem g_388 : Cond.code ⟨"BaubleHill$Tree", "distance", "(II)I"⟩ prog_11_method_5_code 8 (Option.some FieldType.int) ∈ lw_g := g_s2 (i := 148) rfl rfl
theorem g_389 : Cond.methodLink "BaubleHill$Tree" 19 ⟨"java/lang/Math", "min", "(II)I"⟩ ∈ lw_g := g_s2 (i := 149) rfl rfl
theorem g_390 : Cond.static ⟨"java/lang/Math", "min", "(II)I"⟩ ∈ lw_g := g_s2 (i := 150) rfl rfl
theorem g_391 : Cond.code ⟨"java/lang/Math", "min", "(II)I"⟩ prog_16_method_69_code 2 (Option.some FieldType.int) ∈ lw_g := g_s2 (i := 151) rfl rfl
theorem g_392 : Cond.methodLink "BaubleHill$Tree" 25 ⟨"java/lang/Math", "max", "(II)I"⟩ ∈ lw_g := g_s2 (i := 152) rfl rfl
theorem g_393 : Cond.static ⟨"java/lang/Math", "max", "(II)I"⟩ ∈ lw_g := g_s2 (i := 153) rfl rfl
theorem g_394 : Cond.code ⟨"java/lang/Math", "max", "(II)I"⟩ prog_16_method_65_code 2 (Option.some FieldType.int) ∈ lw_g := g_s2 (i := 154) rfl rfl
theorem g_395 : Cond.methodLink "BaubleHill$Tree" 28 ⟨"BaubleHill$Tree", "parentOf", "(I)I"⟩ ∈ lw_g := g_s2 (i := 155) rfl rfl
theorem g_396 : Cond.methodLink "BaubleHill$Hill" 104 ⟨"BaubleHill$Hill", "chip", "(II)V"⟩ ∈ lw_g := g_s2 (i := 156) rfl rfl
theorem g_398 : Cond.instanceMethod ⟨"BaubleHill$Hill", "chip", "(II)V"⟩ ∈ lw_g := g_s2 (i := 158) rfl rfl
theorem g_399 : Cond.code ⟨"BaubleHill$Hill", "chip", "(II)V"⟩ prog_6_method_17_code 4 none ∈ lw_g := g_s2 (i := 159) rfl rfl
theorem g_400 : Cond.methodLink "BaubleHill$Hill" 107 ⟨"java/lang/Math", "min", "(II)I"⟩ ∈ lw_g := g_s2 (i := 160) rfl rfl
theorem g_401 : Cond.methodLink "BaubleHill$Hill" 93 ⟨"BaubleHill$Tree", "bend", "(II)V"⟩ ∈ lw_g := g_s2 (i := 161) rfl rfl
theorem g_402 : Cond.methodLink "BaubleHill$Hill" 97 ⟨"BaubleHill$Hill", "packAll", "()V"⟩ ∈ lw_g := g_s2 (i := 162) rfl rfl
theorem g_404 : Cond.instanceMethod ⟨"BaubleHill$Hill", "packAll", "()V"⟩ ∈ lw_g := g_s2 (i := 164) rfl rfl
theorem g_405 : Cond.code ⟨"BaubleHill$Hill", "packAll", "()V"⟩ prog_6_method_18_code 2 none ∈ lw_g := g_s2 (i := 165) rfl rfl
theorem g_406 : Cond.methodLink "BaubleHill$Telling" 66 ⟨"BaubleHill$Telling", "noteBroken", "(I)V"⟩ ∈ lw_g := g_s2 (i := 166) rfl rfl
theorem g_408 : Cond.instanceMethod ⟨"BaubleHill$Telling", "noteBroken", "(I)V"⟩ ∈ lw_g := g_s2 (i := 168) rfl rfl
theorem g_409 : Cond.code ⟨"BaubleHill$Telling", "noteBroken", "(I)V"⟩ prog_10_method_3_code 2 none ∈ lw_g := g_s2 (i := 169) rfl rfl
theorem g_411 : Cond.static ⟨"BaubleHill", "memberAt", "(II)I"⟩ ∈ lw_g := g_s2 (i := 171) rfl rfl
theorem g_412 : Cond.code ⟨"BaubleHill", "memberAt", "(II)I"⟩ prog_1_method_31_code 4 (Option.some FieldType.int) ∈ lw_g := g_s2 (i := 172) rfl rfl
theorem g_413 : Cond.methodLink "BaubleHill" 238 ⟨"BaubleHill", "holds", "(II)Z"⟩ ∈ lw_g := g_s2 (i := 173) rfl rfl
theorem g_414 : Cond.methodLink "BaubleHill" 118 ⟨"BaubleHill$Telling", "acts", "()I"⟩ ∈ lw_g := g_s2 (i := 174) rfl rfl
theorem g_415 : Cond.instanceMethod ⟨"BaubleHill$Telling", "acts", "()I"⟩ ∈ lw_g := g_s2 (i := 175) rfl rfl
theorem g_416 : Cond.selects "BaubleHill$Telling" ⟨"BaubleHill$Telling", "acts", "()I"⟩ ⟨"BaubleHill$Telling", "acts", "()I"⟩ ∈ lw_g := g_s2 (i := 176) rfl rfl
theorem g_417 : Cond.code ⟨"BaubleHill$Telling", "acts", "()I"⟩ prog_10_method_5_code 1 (Option.some FieldType.int) ∈ lw_g := g_s2 (i := 177) rfl rfl
theorem g_418 : Cond.methodLink "BaubleHill" 121 ⟨"BaubleHill$Telling", "why", "()I"⟩ ∈ lw_g := g_s2 (i := 178) rfl rfl
theorem g_419 : Cond.instanceMethod ⟨"BaubleHill$Telling", "why", "()I"⟩ ∈ lw_g := g_s2 (i := 179) rfl rfl
theorem g_420 : Cond.selects "BaubleHill$Telling" ⟨"BaubleHill$Telling", "why", "()I"⟩ ⟨"BaubleHill$Telling", "why", "()I"⟩ ∈ lw_g := g_s2 (i := 180) rfl rfl
theorem g_421 : Cond.code ⟨"BaubleHill$Telling", "why", "()I"⟩ prog_10_method_6_code 1 (Option.some FieldType.int) ∈ lw_g := g_s2 (i := 181) rfl rfl
theorem g_422 : Cond.methodLink "BaubleHillLaw" 41 ⟨"BaubleHill", "done", "()I"⟩ ∈ lw_g := g_s2 (i := 182) rfl rfl
theorem g_423 : Cond.instanceMethod ⟨"BaubleHill", "done", "()I"⟩ ∈ lw_g := g_s2 (i := 183) rfl rfl
theorem g_424 : Cond.selects "BaubleHill" ⟨"BaubleHill", "done", "()I"⟩ ⟨"BaubleHill", "done", "()I"⟩ ∈ lw_g := g_s2 (i := 184) rfl rfl
theorem g_425 : Cond.code ⟨"BaubleHill", "done", "()I"⟩ prog_1_method_8_code 1 (Option.some FieldType.int) ∈ lw_g := g_s2 (i := 185) rfl rfl
theorem g_426 : Cond.methodLink "BaubleHill" 124 ⟨"BaubleHill$Telling", "hill", "()LBaubleHill$Hill;"⟩ ∈ lw_g := g_s2 (i := 186) rfl rfl
theorem g_427 : Cond.instanceMethod ⟨"BaubleHill$Telling", "hill", "()LBaubleHill$Hill;"⟩ ∈ lw_g := g_s2 (i := 187) rfl rfl
theorem g_428 : Cond.selects "BaubleHill$Telling" ⟨"BaubleHill$Telling", "hill", "()LBaubleHill$Hill;"⟩ ⟨"BaubleHill$Telling", "hill", "()LBaubleHill$Hill;"⟩ ∈ lw_g := g_s2 (i := 188) rfl rfl
theorem g_429 : Cond.code ⟨"BaubleHill$Telling", "hill", "()LBaubleHill$Hill;"⟩ prog_10_method_4_code 1 (Option.some (FieldType.object "BaubleHill$Hill")) ∈ lw_g := g_s2 (i := 189) rfl rfl
theorem g_430 : Cond.methodLink "BaubleHill" 127 ⟨"BaubleHill$Hill", "copyFrom", "(LBaubleHill$Hill;)V"⟩ ∈ lw_g := g_s2 (i := 190) rfl rfl
theorem g_431 : Cond.methodLink "BaubleHillLaw" 45 ⟨"BaubleHill", "behind", "(II)I"⟩ ∈ lw_g := g_s2 (i := 191) rfl rfl
theorem g_432 : Cond.instanceMethod ⟨"BaubleHill", "behind", "(II)I"⟩ ∈ lw_g := g_s2 (i := 192) rfl rfl
theorem g_433 : Cond.selects "BaubleHill" ⟨"BaubleHill", "behind", "(II)I"⟩ ⟨"BaubleHill", "behind", "(II)I"⟩ ∈ lw_g := g_s2 (i := 193) rfl rfl
theorem g_434 : Cond.code ⟨"BaubleHill", "behind", "(II)I"⟩ prog_1_method_9_code 3 (Option.some FieldType.int) ∈ lw_g := g_s2 (i := 194) rfl rfl
theorem g_435 : Cond.methodLink "BaubleHill" 131 ⟨"BaubleHill$Hill", "chipsOf", "(I)I"⟩ ∈ lw_g := g_s2 (i := 195) rfl rfl
theorem g_436 : Cond.methodLink "BaubleHill" 134 ⟨"BaubleHill$Hill", "isBroken", "(I)Z"⟩ ∈ lw_g := g_s2 (i := 196) rfl rfl
theorem g_437 : Cond.methodLink "BaubleHillLaw" 49 ⟨"BaubleHill", "then", "(I)I"⟩ ∈ lw_g := g_s2 (i := 197) rfl rfl
theorem g_438 : Cond.instanceMethod ⟨"BaubleHill", "then", "(I)I"⟩ ∈ lw_g := g_s2 (i := 198) rfl rfl
theorem g_439 : Cond.selects "BaubleHill" ⟨"BaubleHill", "then", "(I)I"⟩ ⟨"BaubleHill", "then", "(I)I"⟩ ∈ lw_g := g_s2 (i := 199) rfl rfl
theorem g_440 : Cond.code ⟨"BaubleHill", "then", "(I)I"⟩ prog_1_method_10_code 2 (Option.some FieldType.int) ∈ lw_g := g_s2 (i := 200) rfl rfl
theorem g_441 : Cond.methodLink "BaubleHill" 137 ⟨"BaubleHill$Hill", "hungLoops", "()I"⟩ ∈ lw_g := g_s2 (i := 201) rfl rfl
theorem g_442 : Cond.methodLink "BaubleHill" 140 ⟨"BaubleHill$Hill", "brokenBalls", "()I"⟩ ∈ lw_g := g_s2 (i := 202) rfl rfl
theorem g_443 : Cond.methodLink "BaubleHill" 143 ⟨"BaubleHill$Hill", "allChips", "()I"⟩ ∈ lw_g := g_s2 (i := 203) rfl rfl
theorem g_444 : Cond.instanceMethod ⟨"BaubleHill$Hill", "allChips", "()I"⟩ ∈ lw_g := g_s2 (i := 204) rfl rfl
theorem g_445 : Cond.selects "BaubleHill$Hill" ⟨"BaubleHill$Hill", "allChips", "()I"⟩ ⟨"BaubleHill$Hill", "allChips", "()I"⟩ ∈ lw_g := g_s2 (i := 205) rfl rfl
theorem g_446 : Cond.code ⟨"BaubleHill$Hill", "allChips", "()I"⟩ prog_6_method_9_code 3 (Option.some FieldType.int) ∈ lw_g := g_s2 (i := 206) rfl rfl
theorem g_447 : Cond.methodLink "BaubleHill" 146 ⟨"BaubleHill$Hill", "winter", "()I"⟩ ∈ lw_g := g_s2 (i := 207) rfl rfl
theorem g_448 : Cond.instanceMethod ⟨"BaubleHill$Hill", "winter", "()I"⟩ ∈ lw_g := g_s2 (i := 208) rfl rfl
theorem g_449 : Cond.selects "BaubleHill$Hill" ⟨"BaubleHill$Hill", "winter", "()I"⟩ ⟨"BaubleHill$Hill", "winter", "()I"⟩ ∈ lw_g := g_s2 (i := 209) rfl rfl
theorem g_450 : Cond.code ⟨"BaubleHill$Hill", "winter", "()I"⟩ prog_6_method_7_code 1 (Option.some FieldType.int) ∈ lw_g := g_s2 (i := 210) rfl rfl
theorem g_451 : Cond.methodLink "BaubleHill" 149 ⟨"BaubleHill$Telling", "actThatBroke", "()I"⟩ ∈ lw_g := g_s2 (i := 211) rfl rfl
theorem g_452 : Cond.instanceMethod ⟨"BaubleHill$Telling", "actThatBroke", "()I"⟩ ∈ lw_g := g_s2 (i := 212) rfl rfl
theorem g_453 : Cond.selects "BaubleHill$Telling" ⟨"BaubleHill$Telling", "actThatBroke", "()I"⟩ ⟨"BaubleHill$Telling", "actThatBroke", "()I"⟩ ∈ lw_g := g_s2 (i := 213) rfl rfl
theorem g_454 : Cond.code ⟨"BaubleHill$Telling", "actThatBroke", "()I"⟩ prog_10_method_7_code 1 (Option.some FieldType.int) ∈ lw_g := g_s2 (i := 214) rfl rfl
theorem g_455 : Cond.methodLink "BaubleHill" 152 ⟨"BaubleHill$Telling", "ballThatBroke", "()I"⟩ ∈ lw_g := g_s2 (i := 215) rfl rfl
theorem g_456 : Cond.instanceMethod ⟨"BaubleHill$Telling", "ballThatBroke", "()I"⟩ ∈ lw_g := g_s2 (i := 216) rfl rfl
theorem g_457 : Cond.selects "BaubleHill$Telling" ⟨"BaubleHill$Telling", "ballThatBroke", "()I"⟩ ⟨"BaubleHill$Telling", "ballThatBroke", "()I"⟩ ∈ lw_g := g_s2 (i := 217) rfl rfl
theorem g_458 : Cond.code ⟨"BaubleHill$Telling", "ballThatBroke", "()I"⟩ prog_10_method_8_code 1 (Option.some FieldType.int) ∈ lw_g := g_s2 (i := 218) rfl rfl
theorem g_459 : Cond.methodLink "BaubleHillLaw" 53 ⟨"BaubleHill", "apart", "(II)I"⟩ ∈ lw_g := g_s2 (i := 219) rfl rfl
theorem g_460 : Cond.instanceMethod ⟨"BaubleHill", "apart", "(II)I"⟩ ∈ lw_g := g_s2 (i := 220) rfl rfl
theorem g_461 : Cond.selects "BaubleHill" ⟨"BaubleHill", "apart", "(II)I"⟩ ⟨"BaubleHill", "apart", "(II)I"⟩ ∈ lw_g := g_s2 (i := 221) rfl rfl
theorem g_462 : Cond.code ⟨"BaubleHill", "apart", "(II)I"⟩ prog_1_method_11_code 3 (Option.some FieldType.int) ∈ lw_g := g_s2 (i := 222) rfl rfl
theorem g_463 : Cond.methodLink "BaubleHill" 155 ⟨"BaubleHill$Tree", "distance", "(II)I"⟩ ∈ lw_g := g_s2 (i := 223) rfl rfl
theorem g_464 : Cond.methodLink "BaubleHillLaw" 57 ⟨"BaubleHill", "meets", "(II)I"⟩ ∈ lw_g := g_s2 (i := 224) rfl rfl
theorem g_465 : Cond.instanceMethod ⟨"BaubleHill", "meets", "(II)I"⟩ ∈ lw_g := g_s2 (i := 225) rfl rfl
theorem g_466 : Cond.selects "BaubleHill" ⟨"BaubleHill", "meets", "(II)I"⟩ ⟨"BaubleHill", "meets", "(II)I"⟩ ∈ lw_g := g_s2 (i := 226) rfl rfl
theorem g_467 : Cond.code ⟨"BaubleHill", "meets", "(II)I"⟩ prog_1_method_12_code 3 (Option.some FieldType.int) ∈ lw_g := g_s2 (i := 227) rfl rfl
theorem g_468 : Cond.methodLink "BaubleHill" 159 ⟨"BaubleHill$Tree", "way", "(II)I"⟩ ∈ lw_g := g_s2 (i := 228) rfl rfl
theorem g_469 : Cond.instanceMethod ⟨"BaubleHill$Tree", "way", "(II)I"⟩ ∈ lw_g := g_s2 (i := 229) rfl rfl
theorem g_470 : Cond.selects "BaubleHill$Tree" ⟨"BaubleHill$Tree", "way", "(II)I"⟩ ⟨"BaubleHill$Tree", "way", "(II)I"⟩ ∈ lw_g := g_s2 (i := 230) rfl rfl
theorem g_471 : Cond.code ⟨"BaubleHill$Tree", "way", "(II)I"⟩ prog_11_method_6_code 6 (Option.some FieldType.int) ∈ lw_g := g_s2 (i := 231) rfl rfl
theorem g_472 : Cond.methodLink "BaubleHill" 162 ⟨"BaubleHill", "memberAt", "(II)I"⟩ ∈ lw_g := g_s2 (i := 232) rfl rfl
theorem g_473 : Cond.methodLink "BaubleHillLaw" 61 ⟨"BaubleHill", "sees", "(I)I"⟩ ∈ lw_g := g_s2 (i := 233) rfl rfl
theorem g_474 : Cond.instanceMethod ⟨"BaubleHill", "sees", "(I)I"⟩ ∈ lw_g := g_s2 (i := 234) rfl rfl
theorem g_475 : Cond.selects "BaubleHill" ⟨"BaubleHill", "sees", "(I)I"⟩ ⟨"BaubleHill", "sees", "(I)I"⟩ ∈ lw_g := g_s2 (i := 235) rfl rfl
theorem g_476 : Cond.code ⟨"BaubleHill", "sees", "(I)I"⟩ prog_1_method_13_code 2 (Option.some FieldType.int) ∈ lw_g := g_s2 (i := 236) rfl rfl
theorem g_477 : Cond.methodLink "BaubleHill" 165 ⟨"BaubleHill$Hill", "seenFrom", "(I)I"⟩ ∈ lw_g := g_s2 (i := 237) rfl rfl
theorem g_478 : Cond.instanceMethod ⟨"BaubleHill$Hill", "seenFrom", "(I)I"⟩ ∈ lw_g := g_s2 (i := 238) rfl rfl
theorem g_479 : Cond.selects "BaubleHill$Hill" ⟨"BaubleHill$Hill", "seenFrom", "(I)I"⟩ ⟨"BaubleHill$Hill", "seenFrom", "(I)I"⟩ ∈ lw_g := g_s2 (i := 239) rfl rfl
theorem g_480 : Cond.code ⟨"BaubleHill$Hill", "seenFrom", "(I)I"⟩ prog_6_method_13_code 8 (Option.some FieldType.int) ∈ lw_g := g_s3 (i := 0) rfl rfl
theorem g_481 : Cond.methodLink "BaubleHill$Hill" 52 ⟨"BaubleHill$Tree", "way", "(II)I"⟩ ∈ lw_g := g_s3 (i := 1) rfl rfl
theorem g_482 : Cond.methodLink "BaubleHillLaw" 65 ⟨"BaubleHill", "near", "(I)I"⟩ ∈ lw_g := g_s3 (i := 2) rfl rfl
theorem g_483 : Cond.instanceMethod ⟨"BaubleHill", "near", "(I)I"⟩ ∈ lw_g := g_s3 (i := 3) rfl rfl
theorem g_484 : Cond.selects "BaubleHill" ⟨"BaubleHill", "near", "(I)I"⟩ ⟨"BaubleHill", "near", "(I)I"⟩ ∈ lw_g := g_s3 (i := 4) rfl rfl
theorem g_485 : Cond.code ⟨"BaubleHill", "near", "(I)I"⟩ prog_1_method_14_code 8 (Option.some FieldType.int) ∈ lw_g := g_s3 (i := 5) rfl rfl
theorem g_486 : Cond.methodLink "BaubleHill" 168 ⟨"BaubleHill$Tree", "howFar", "(IIZ)I"⟩ ∈ lw_g := g_s3 (i := 6) rfl rfl
theorem g_487 : Cond.instanceMethod ⟨"BaubleHill$Tree", "howFar", "(IIZ)I"⟩ ∈ lw_g := g_s3 (i := 7) rfl rfl
theorem g_488 : Cond.selects "BaubleHill$Tree" ⟨"BaubleHill$Tree", "howFar", "(IIZ)I"⟩ ⟨"BaubleHill$Tree", "howFar", "(IIZ)I"⟩ ∈ lw_g := g_s3 (i := 8) rfl rfl
theorem g_489 : Cond.code ⟨"BaubleHill$Tree", "howFar", "(IIZ)I"⟩ prog_11_method_8_code 7 (Option.some FieldType.int) ∈ lw_g := g_s3 (i := 9) rfl rfl
theorem g_491 : Cond.methodLink "BaubleHillLaw" 69 ⟨"BaubleHill", "room", "(II)I"⟩ ∈ lw_g := g_s3 (i := 11) rfl rfl
theorem g_492 : Cond.instanceMethod ⟨"BaubleHill", "room", "(II)I"⟩ ∈ lw_g := g_s3 (i := 12) rfl rfl
theorem g_493 : Cond.selects "BaubleHill" ⟨"BaubleHill", "room", "(II)I"⟩ ⟨"BaubleHill", "room", "(II)I"⟩ ∈ lw_g := g_s3 (i := 13) rfl rfl
theorem g_494 : Cond.code ⟨"BaubleHill", "room", "(II)I"⟩ prog_1_method_15_code 4 (Option.some FieldType.int) ∈ lw_g := g_s3 (i := 14) rfl rfl
theorem g_495 : Cond.methodLink "BaubleHill" 172 ⟨"BaubleHill$Choice", "mostApart", "(LBaubleHill$Tree;I)I"⟩ ∈ lw_g := g_s3 (i := 15) rfl rfl
theorem g_496 : Cond.instanceMethod ⟨"BaubleHill$Choice", "mostApart", "(LBaubleHill$Tree;I)I"⟩ ∈ lw_g := g_s3 (i := 16) rfl rfl
theorem g_497 : Cond.selects "BaubleHill$Choice" ⟨"BaubleHill$Choice", "mostApart", "(LBaubleHill$Tree;I)I"⟩ ⟨"BaubleHill$Choice", "mostApart", "(LBaubleHill$Tree;I)I"⟩ ∈ lw_g := g_s3 (i := 17) rfl rfl
theorem g_498 : Cond.code ⟨"BaubleHill$Choice", "mostApart", "(LBaubleHill$Tree;I)I"⟩ prog_4_method_2_code 7 (Option.some FieldType.int) ∈ lw_g := g_s3 (i := 18) rfl rfl
theorem g_499 : Cond.methodLink "BaubleHill$Choice" 15 ⟨"BaubleHill$Choice", "lookAround", "(LBaubleHill$Tree;I)V"⟩ ∈ lw_g := g_s3 (i := 19) rfl rfl
theorem g_501 : Cond.instanceMethod ⟨"BaubleHill$Choice", "lookAround", "(LBaubleHill$Tree;I)V"⟩ ∈ lw_g := g_s3 (i := 21) rfl rfl
theorem g_502 : Cond.code ⟨"BaubleHill$Choice", "lookAround", "(LBaubleHill$Tree;I)V"⟩ prog_4_method_4_code 4 none ∈ lw_g := g_s3 (i := 22) rfl rfl
theorem g_503 : Cond.methodLink "BaubleHill$Choice" 32 ⟨"BaubleHill$Tree", "ring", "(III)I"⟩ ∈ lw_g := g_s3 (i := 23) rfl rfl
theorem g_504 : Cond.methodLink "BaubleHill$Choice" 19 ⟨"java/lang/Integer", "bitCount", "(I)I"⟩ ∈ lw_g := g_s3 (i := 24) rfl rfl
theorem g_505 : Cond.methodLink "BaubleHill$Choice" 25 ⟨"BaubleHill$Choice", "standsApart", "(I)Z"⟩ ∈ lw_g := g_s3 (i := 25) rfl rfl
theorem g_507 : Cond.instanceMethod ⟨"BaubleHill$Choice", "standsApart", "(I)Z"⟩ ∈ lw_g := g_s3 (i := 27) rfl rfl
theorem g_508 : Cond.code ⟨"BaubleHill$Choice", "standsApart", "(I)Z"⟩ prog_4_method_5_code 3 (Option.some FieldType.boolean) ∈ lw_g := g_s3 (i := 28) rfl rfl
theorem g_510 : Cond.methodLink "BaubleHill" 176 ⟨"java/lang/Integer", "bitCount", "(I)I"⟩ ∈ lw_g := g_s3 (i := 30) rfl rfl
theorem g_511 : Cond.methodLink "BaubleHillLaw" 73 ⟨"BaubleHill", "candles", "(II)I"⟩ ∈ lw_g := g_s3 (i := 31) rfl rfl
theorem g_512 : Cond.instanceMethod ⟨"BaubleHill", "candles", "(II)I"⟩ ∈ lw_g := g_s3 (i := 32) rfl rfl
theorem g_513 : Cond.selects "BaubleHill" ⟨"BaubleHill", "candles", "(II)I"⟩ ⟨"BaubleHill", "candles", "(II)I"⟩ ∈ lw_g := g_s3 (i := 33) rfl rfl
theorem g_514 : Cond.code ⟨"BaubleHill", "candles", "(II)I"⟩ prog_1_method_16_code 4 (Option.some FieldType.int) ∈ lw_g := g_s3 (i := 34) rfl rfl
theorem g_515 : Cond.methodLink "BaubleHill" 181 ⟨"BaubleHill$Choice", "fewestLighting", "(LBaubleHill$Tree;I)I"⟩ ∈ lw_g := g_s3 (i := 35) rfl rfl
theorem g_516 : Cond.instanceMethod ⟨"BaubleHill$Choice", "fewestLighting", "(LBaubleHill$Tree;I)I"⟩ ∈ lw_g := g_s3 (i := 36) rfl rfl
theorem g_517 : Cond.selects "BaubleHill$Choice" ⟨"BaubleHill$Choice", "fewestLighting", "(LBaubleHill$Tree;I)I"⟩ ⟨"BaubleHill$Choice", "fewestLighting", "(LBaubleHill$Tree;I)I"⟩ ∈ lw_g := g_s3 (i := 37) rfl rfl
theorem g_518 : Cond.code ⟨"BaubleHill$Choice", "fewestLighting", "(LBaubleHill$Tree;I)I"⟩ prog_4_method_3_code 7 (Option.some FieldType.int) ∈ lw_g := g_s3 (i := 38) rfl rfl
theorem g_519 : Cond.methodLink "BaubleHill$Choice" 29 ⟨"BaubleHill$Choice", "lightsAll", "(I)Z"⟩ ∈ lw_g := g_s3 (i := 39) rfl rfl
theorem g_521 : Cond.instanceMethod ⟨"BaubleHill$Choice", "lightsAll", "(I)Z"⟩ ∈ lw_g := g_s3 (i := 41) rfl rfl
theorem g_522 : Cond.code ⟨"BaubleHill$Choice", "lightsAll", "(I)Z"⟩ prog_4_method_6_code 4 (Option.some FieldType.boolean) ∈ lw_g := g_s3 (i := 42) rfl rfl
theorem g_523 : Cond.methodLink "BaubleHillLaw" 77 ⟨"BaubleHill", "seen", "(II)I"⟩ ∈ lw_g := g_s3 (i := 43) rfl rfl
theorem g_524 : Cond.instanceMethod ⟨"BaubleHill", "seen", "(II)I"⟩ ∈ lw_g := g_s3 (i := 44) rfl rfl
theorem g_525 : Cond.selects "BaubleHill" ⟨"BaubleHill", "seen", "(II)I"⟩ ⟨"BaubleHill", "seen", "(II)I"⟩ ∈ lw_g := g_s3 (i := 45) rfl rfl
theorem g_526 : Cond.code ⟨"BaubleHill", "seen", "(II)I"⟩ prog_1_method_17_code 3 (Option.some FieldType.int) ∈ lw_g := g_s3 (i := 46) rfl rfl
theorem g_527 : Cond.methodLink "BaubleHill" 184 ⟨"BaubleHill$Sights", "size", "()I"⟩ ∈ lw_g := g_s3 (i := 47) rfl rfl
theorem g_528 : Cond.instanceMethod ⟨"BaubleHill$Sights", "size", "()I"⟩ ∈ lw_g := g_s3 (i := 48) rfl rfl
theorem g_529 : Cond.selects "BaubleHill$Sights" ⟨"BaubleHill$Sights", "size", "()I"⟩ ⟨"BaubleHill$Sights", "size", "()I"⟩ ∈ lw_g := g_s3 (i := 49) rfl rfl
theorem g_530 : Cond.code ⟨"BaubleHill$Sights", "size", "()I"⟩ prog_9_method_2_code 1 (Option.some FieldType.int) ∈ lw_g := g_s3 (i := 50) rfl rfl
theorem g_531 : Cond.methodLink "BaubleHill" 185 ⟨"BaubleHill$Sights", "add", "(II)V"⟩ ∈ lw_g := g_s3 (i := 51) rfl rfl
theorem g_532 : Cond.instanceMethod ⟨"BaubleHill$Sights", "add", "(II)V"⟩ ∈ lw_g := g_s3 (i := 52) rfl rfl
theorem g_533 : Cond.selects "BaubleHill$Sights" ⟨"BaubleHill$Sights", "add", "(II)V"⟩ ⟨"BaubleHill$Sights", "add", "(II)V"⟩ ∈ lw_g := g_s3 (i := 53) rfl rfl
theorem g_534 : Cond.code ⟨"BaubleHill$Sights", "add", "(II)V"⟩ prog_9_method_3_code 3 none ∈ lw_g := g_s3 (i := 54) rfl rfl
theorem g_535 : Cond.methodLink "BaubleHillLaw" 81 ⟨"BaubleHill", "forget", "()I"⟩ ∈ lw_g := g_s3 (i := 55) rfl rfl
theorem g_536 : Cond.instanceMethod ⟨"BaubleHill", "forget", "()I"⟩ ∈ lw_g := g_s3 (i := 56) rfl rfl
theorem g_537 : Cond.selects "BaubleHill" ⟨"BaubleHill", "forget", "()I"⟩ ⟨"BaubleHill", "forget", "()I"⟩ ∈ lw_g := g_s3 (i := 57) rfl rfl
theorem g_538 : Cond.code ⟨"BaubleHill", "forget", "()I"⟩ prog_1_method_18_code 2 (Option.some FieldType.int) ∈ lw_g := g_s3 (i := 58) rfl rfl
theorem g_539 : Cond.methodLink "BaubleHill" 187 ⟨"BaubleHill$Sights", "clear", "()V"⟩ ∈ lw_g := g_s3 (i := 59) rfl rfl
theorem g_540 : Cond.instanceMethod ⟨"BaubleHill$Sights", "clear", "()V"⟩ ∈ lw_g := g_s3 (i := 60) rfl rfl
theorem g_541 : Cond.selects "BaubleHill$Sights" ⟨"BaubleHill$Sights", "clear", "()V"⟩ ⟨"BaubleHill$Sights", "clear", "()V"⟩ ∈ lw_g := g_s3 (i := 61) rfl rfl
theorem g_542 : Cond.code ⟨"BaubleHill$Sights", "clear", "()V"⟩ prog_9_method_4_code 1 none ∈ lw_g := g_s3 (i := 62) rfl rfl
theorem g_543 : Cond.methodLink "BaubleHillLaw" 85 ⟨"BaubleHill", "where", "(I)I"⟩ ∈ lw_g := g_s3 (i := 63) rfl rfl
theorem g_544 : Cond.instanceMethod ⟨"BaubleHill", "where", "(I)I"⟩ ∈ lw_g := g_s3 (i := 64) rfl rfl
theorem g_545 : Cond.selects "BaubleHill" ⟨"BaubleHill", "where", "(I)I"⟩ ⟨"BaubleHill", "where", "(I)I"⟩ ∈ lw_g := g_s3 (i := 65) rfl rfl
theorem g_546 : Cond.code ⟨"BaubleHill", "where", "(I)I"⟩ prog_1_method_19_code 3 (Option.some FieldType.int) ∈ lw_g := g_s3 (i := 66) rfl rfl
theorem g_547 : Cond.methodLink "BaubleHill" 188 ⟨"BaubleHill$Sights", "fitting", "(LBaubleHill$Tree;)I"⟩ ∈ lw_g := g_s3 (i := 67) rfl rfl
theorem g_548 : Cond.instanceMethod ⟨"BaubleHill$Sights", "fitting", "(LBaubleHill$Tree;)I"⟩ ∈ lw_g := g_s3 (i := 68) rfl rfl
theorem g_549 : Cond.selects "BaubleHill$Sights" ⟨"BaubleHill$Sights", "fitting", "(LBaubleHill$Tree;)I"⟩ ⟨"BaubleHill$Sights", "fitting", "(LBaubleHill$Tree;)I"⟩ ∈ lw_g := g_s3 (i := 69) rfl rfl
theorem g_550 : Cond.code ⟨"BaubleHill$Sights", "fitting", "(LBaubleHill$Tree;)I"⟩ prog_9_method_6_code 4 (Option.some FieldType.int) ∈ lw_g := g_s3 (i := 70) rfl rfl
theorem g_551 : Cond.methodLink "BaubleHill$Sights" 26 ⟨"BaubleHill$Tree", "ring", "(III)I"⟩ ∈ lw_g := g_s3 (i := 71) rfl rfl
theorem g_552 : Cond.methodLink "BaubleHillLaw" 89 ⟨"BaubleHill", "ask", "(I)I"⟩ ∈ lw_g := g_s3 (i := 72) rfl rfl
theorem g_553 : Cond.instanceMethod ⟨"BaubleHill", "ask", "(I)I"⟩ ∈ lw_g := g_s3 (i := 73) rfl rfl
theorem g_554 : Cond.selects "BaubleHill" ⟨"BaubleHill", "ask", "(I)I"⟩ ⟨"BaubleHill", "ask", "(I)I"⟩ ∈ lw_g := g_s3 (i := 74) rfl rfl
theorem g_555 : Cond.code ⟨"BaubleHill", "ask", "(I)I"⟩ prog_1_method_20_code 7 (Option.some FieldType.int) ∈ lw_g := g_s3 (i := 75) rfl rfl
theorem g_556 : Cond.methodLink "BaubleHill" 192 ⟨"BaubleHill$Tree", "mostLeft", "(II)I"⟩ ∈ lw_g := g_s3 (i := 76) rfl rfl
theorem g_557 : Cond.instanceMethod ⟨"BaubleHill$Tree", "mostLeft", "(II)I"⟩ ∈ lw_g := g_s3 (i := 77) rfl rfl
theorem g_558 : Cond.selects "BaubleHill$Tree" ⟨"BaubleHill$Tree", "mostLeft", "(II)I"⟩ ⟨"BaubleHill$Tree", "mostLeft", "(II)I"⟩ ∈ lw_g := g_s3 (i := 78) rfl rfl
theorem g_559 : Cond.code ⟨"BaubleHill$Tree", "mostLeft", "(II)I"⟩ prog_11_method_9_code 5 (Option.some FieldType.int) ∈ lw_g := g_s3 (i := 79) rfl rfl
theorem g_560 : Cond.methodLink "BaubleHill$Tree" 39 ⟨"BaubleHill$Tree", "ring", "(III)I"⟩ ∈ lw_g := g_s3 (i := 80) rfl rfl
theorem g_561 : Cond.methodLink "BaubleHill$Tree" 43 ⟨"java/lang/Integer", "bitCount", "(I)I"⟩ ∈ lw_g := g_s3 (i := 81) rfl rfl
theorem g_562 : Cond.methodLink "BaubleHillLaw" 93 ⟨"BaubleHill", "cut", "(I)I"⟩ ∈ lw_g := g_s3 (i := 82) rfl rfl
theorem g_563 : Cond.instanceMethod ⟨"BaubleHill", "cut", "(I)I"⟩ ∈ lw_g := g_s3 (i := 83) rfl rfl
theorem g_564 : Cond.selects "BaubleHill" ⟨"BaubleHill", "cut", "(I)I"⟩ ⟨"BaubleHill", "cut", "(I)I"⟩ ∈ lw_g := g_s3 (i := 84) rfl rfl
theorem g_565 : Cond.code ⟨"BaubleHill", "cut", "(I)I"⟩ prog_1_method_21_code 3 (Option.some FieldType.int) ∈ lw_g := g_s3 (i := 85) rfl rfl
theorem g_566 : Cond.methodLink "BaubleHill" 195 ⟨"BaubleHill$Cutting", "worth", "(LBaubleHill$Tree;I)I"⟩ ∈ lw_g := g_s3 (i := 86) rfl rfl
theorem g_567 : Cond.instanceMethod ⟨"BaubleHill$Cutting", "worth", "(LBaubleHill$Tree;I)I"⟩ ∈ lw_g := g_s3 (i := 87) rfl rfl
theorem g_568 : Cond.selects "BaubleHill$Cutting" ⟨"BaubleHill$Cutting", "worth", "(LBaubleHill$Tree;I)I"⟩ ⟨"BaubleHill$Cutting", "worth", "(LBaubleHill$Tree;I)I"⟩ ∈ lw_g := g_s3 (i := 88) rfl rfl
theorem g_569 : Cond.code ⟨"BaubleHill$Cutting", "worth", "(LBaubleHill$Tree;I)I"⟩ prog_5_method_2_code 5 (Option.some FieldType.int) ∈ lw_g := g_s3 (i := 89) rfl rfl
theorem g_570 : Cond.methodLink "BaubleHill$Cutting" 15 ⟨"BaubleHill$Tree", "parentOf", "(I)I"⟩ ∈ lw_g := g_s3 (i := 90) rfl rfl
theorem g_571 : Cond.methodLink "BaubleHillLaw" 97 ⟨"BaubleHill", "tissue", "(IIIIII)J"⟩ ∈ lw_g := g_s3 (i := 91) rfl rfl
theorem g_572 : Cond.instanceMethod ⟨"BaubleHill", "tissue", "(IIIIII)J"⟩ ∈ lw_g := g_s3 (i := 92) rfl rfl
theorem g_573 : Cond.selects "BaubleHill" ⟨"BaubleHill", "tissue", "(IIIIII)J"⟩ ⟨"BaubleHill", "tissue", "(IIIIII)J"⟩ ∈ lw_g := g_s3 (i := 93) rfl rfl
theorem g_574 : Cond.code ⟨"BaubleHill", "tissue", "(IIIIII)J"⟩ prog_1_method_22_code 8 (Option.some FieldType.long) ∈ lw_g := g_s3 (i := 94) rfl rfl
theorem g_575 : Cond.constantLong "BaubleHill" 198 (-1000000000000000002) ∈ lw_g := g_s3 (i := 95) rfl rfl
theorem g_576 : Cond.methodLink "BaubleHill" 200 ⟨"BaubleHill$Chance", "waysAtLeast", "(IIII)J"⟩ ∈ lw_g := g_s3 (i := 96) rfl rfl
theorem g_577 : Cond.static ⟨"BaubleHill$Chance", "waysAtLeast", "(IIII)J"⟩ ∈ lw_g := g_s3 (i := 97) rfl rfl
theorem g_578 : Cond.code ⟨"BaubleHill$Chance", "waysAtLeast", "(IIII)J"⟩ prog_3_method_3_code 7 (Option.some FieldType.long) ∈ lw_g := g_s3 (i := 98) rfl rfl
theorem g_579 : Cond.methodLink "BaubleHill$Chance" 7 ⟨"BaubleHill$Chance", "ways", "(II)J"⟩ ∈ lw_g := g_s3 (i := 99) rfl rfl
theorem g_580 : Cond.static ⟨"BaubleHill$Chance", "ways", "(II)J"⟩ ∈ lw_g := g_s3 (i := 100) rfl rfl
theorem g_581 : Cond.code ⟨"BaubleHill$Chance", "ways", "(II)J"⟩ prog_3_method_2_code 5 (Option.some FieldType.long) ∈ lw_g := g_s3 (i := 101) rfl rfl
theorem g_582 : Cond.methodLink "BaubleHill" 206 ⟨"BaubleHill$Chance", "ways", "(II)J"⟩ ∈ lw_g := g_s3 (i := 102) rfl rfl
theorem g_583 : Cond.methodLink "BaubleHill" 210 ⟨"BaubleHill$Chance", "lowest", "(JJI)J"⟩ ∈ lw_g := g_s3 (i := 103) rfl rfl
theorem g_584 : Cond.static ⟨"BaubleHill$Chance", "lowest", "(JJI)J"⟩ ∈ lw_g := g_s3 (i := 104) rfl rfl
theorem g_585 : Cond.code ⟨"BaubleHill$Chance", "lowest", "(JJI)J"⟩ prog_3_method_4_code 7 (Option.some FieldType.long) ∈ lw_g := g_s3 (i := 105) rfl rfl
theorem g_586 : Cond.methodLink "BaubleHill$Chance" 13 ⟨"BaubleHill$Chance", "commonDivisor", "(JJ)J"⟩ ∈ lw_g := g_s3 (i := 106) rfl rfl
theorem g_587 : Cond.static ⟨"BaubleHill$Chance", "commonDivisor", "(JJ)J"⟩ ∈ lw_g := g_s3 (i := 107) rfl rfl
theorem g_588 : Cond.code ⟨"BaubleHill$Chance", "commonDivisor", "(JJ)J"⟩ prog_3_method_5_code 7 (Option.some FieldType.long) ∈ lw_g := g_s3 (i := 108) rfl rfl
theorem g_589 : Cond.methodLink "BaubleHill$Chance" 17 ⟨"java/lang/Math", "max", "(JJ)J"⟩ ∈ lw_g := g_s3 (i := 109) rfl rfl
theorem g_590 : Cond.static ⟨"java/lang/Math", "max", "(JJ)J"⟩ ∈ lw_g := g_s3 (i := 110) rfl rfl
theorem g_591 : Cond.code ⟨"java/lang/Math", "max", "(JJ)J"⟩ prog_16_method_66_code 4 (Option.some FieldType.long) ∈ lw_g := g_s3 (i := 111) rfl rfl
theorem g_592 : Cond.methodLink "BaubleHill" 214 ⟨"java/lang/Math", "max", "(II)I"⟩ ∈ lw_g := g_s3 (i := 112) rfl rfl
theorem g_593 : Cond.methodLink "BaubleHillLaw" 102 ⟨"BaubleHill", "year", "(III)I"⟩ ∈ lw_g := g_s3 (i := 113) rfl rfl
theorem g_594 : Cond.instanceMethod ⟨"BaubleHill", "year", "(III)I"⟩ ∈ lw_g := g_s3 (i := 114) rfl rfl
theorem g_595 : Cond.selects "BaubleHill" ⟨"BaubleHill", "year", "(III)I"⟩ ⟨"BaubleHill", "year", "(III)I"⟩ ∈ lw_g := g_s3 (i := 115) rfl rfl
theorem g_596 : Cond.code ⟨"BaubleHill", "year", "(III)I"⟩ prog_1_method_23_code 5 (Option.some FieldType.int) ∈ lw_g := g_s3 (i := 116) rfl rfl
theorem g_597 : Cond.methodLink "BaubleHill" 219 ⟨"BaubleHill$Year", "pass", "(LBaubleHill$Hill;II)LBaubleHill$Hill;"⟩ ∈ lw_g := g_s3 (i := 117) rfl rfl
theorem g_598 : Cond.instanceMethod ⟨"BaubleHill$Year", "pass", "(LBaubleHill$Hill;II)LBaubleHill$Hill;"⟩ ∈ lw_g := g_s3 (i := 118) rfl rfl
theorem g_599 : Cond.selects "BaubleHill$Year" ⟨"BaubleHill$Year", "pass", "(LBaubleHill$Hill;II)LBaubleHill$Hill;"⟩ ⟨"BaubleHill$Year", "pass", "(LBaubleHill$Hill;II)LBaubleHill$Hill;"⟩ ∈ lw_g := g_s3 (i := 119) rfl rfl
theorem g_600 : Cond.code ⟨"BaubleHill$Year", "pass", "(LBaubleHill$Hill;II)LBaubleHill$Hill;"⟩ prog_12_method_2_code 6 (Option.some (FieldType.object "BaubleHill$Hill")) ∈ lw_g := g_s3 (i := 120) rfl rfl
theorem g_601 : Cond.methodLink "BaubleHill$Year" 23 ⟨"BaubleHill$Hill", "copyFrom", "(LBaubleHill$Hill;)V"⟩ ∈ lw_g := g_s3 (i := 121) rfl rfl
theorem g_602 : Cond.constant "BaubleHill$Year" 27 (65537) ∈ lw_g := g_s3 (i := 122) rfl rfl
theorem g_603 : Cond.methodLink "BaubleHill$Year" 28 ⟨"BaubleHill$Year", "draw", "(I)V"⟩ ∈ lw_g := g_s3 (i := 123) rfl rfl
theorem g_605 : Cond.instanceMethod ⟨"BaubleHill$Year", "draw", "(I)V"⟩ ∈ lw_g := g_s3 (i := 125) rfl rfl
theorem g_606 : Cond.code ⟨"BaubleHill$Year", "draw", "(I)V"⟩ prog_12_method_3_code 4 none ∈ lw_g := g_s3 (i := 126) rfl rfl
theorem g_607 : Cond.methodLink "BaubleHill$Year" 40 ⟨"BaubleHill$Act", "set", "(III)V"⟩ ∈ lw_g := g_s3 (i := 127) rfl rfl
theorem g_608 : Cond.methodLink "BaubleHill$Year" 32 ⟨"BaubleHill$Hill", "whyNot", "(LBaubleHill$Act;)I"⟩ ∈ lw_g := g_s3 (i := 128) rfl rfl
theorem g_609 : Cond.methodLink "BaubleHill$Year" 36 ⟨"BaubleHill$Hill", "follow", "(LBaubleHill$Act;)V"⟩ ∈ lw_g := g_s3 (i := 129) rfl rfl
theorem g_610 : Cond.methodLink "BaubleHillLaw" 106 ⟨"BaubleHill", "image", "(I)I"⟩ ∈ lw_g := g_s3 (i := 130) rfl rfl
theorem g_611 : Cond.instanceMethod ⟨"BaubleHill", "image", "(I)I"⟩ ∈ lw_g := g_s3 (i := 131) rfl rfl
theorem g_612 : Cond.selects "BaubleHill" ⟨"BaubleHill", "image", "(I)I"⟩ ⟨"BaubleHill", "image", "(I)I"⟩ ∈ lw_g := g_s3 (i := 132) rfl rfl
theorem g_613 : Cond.code ⟨"BaubleHill", "image", "(I)I"⟩ prog_1_method_24_code 2 (Option.some FieldType.int) ∈ lw_g := g_s3 (i := 133) rfl rfl
theorem g_614 : Cond.methodLink "BaubleHill" 223 ⟨"BaubleHill", "imageOf", "(I)LBaubleHill$Image;"⟩ ∈ lw_g := g_s3 (i := 134) rfl rfl
theorem g_616 : Cond.instanceMethod ⟨"BaubleHill", "imageOf", "(I)LBaubleHill$Image;"⟩ ∈ lw_g := g_s3 (i := 136) rfl rfl
theorem g_617 : Cond.code ⟨"BaubleHill", "imageOf", "(I)LBaubleHill$Image;"⟩ prog_1_method_27_code 2 (Option.some (FieldType.object "BaubleHill$Image")) ∈ lw_g := g_s3 (i := 137) rfl rfl
theorem g_618 : Cond.methodLink "BaubleHill" 227 ⟨"BaubleHill$Image", "keep", "(LBaubleHill$Hill;LBaubleHill$Sights;)V"⟩ ∈ lw_g := g_s3 (i := 138) rfl rfl
theorem g_619 : Cond.instanceMethod ⟨"BaubleHill$Image", "keep", "(LBaubleHill$Hill;LBaubleHill$Sights;)V"⟩ ∈ lw_g := g_s3 (i := 139) rfl rfl
theorem g_620 : Cond.selects "BaubleHill$Image" ⟨"BaubleHill$Image", "keep", "(LBaubleHill$Hill;LBaubleHill$Sights;)V"⟩ ⟨"BaubleHill$Image", "keep", "(LBaubleHill$Hill;LBaubleHill$Sights;)V"⟩ ∈ lw_g := g_s3 (i := 140) rfl rfl
theorem g_621 : Cond.code ⟨"BaubleHill$Image", "keep", "(LBaubleHill$Hill;LBaubleHill$Sights;)V"⟩ prog_7_method_3_code 3 none ∈ lw_g := g_s3 (i := 141) rfl rfl
theorem g_622 : Cond.methodLink "BaubleHill$Image" 27 ⟨"BaubleHill$Hill", "copyFrom", "(LBaubleHill$Hill;)V"⟩ ∈ lw_g := g_s3 (i := 142) rfl rfl
theorem g_623 : Cond.methodLink "BaubleHill$Image" 31 ⟨"BaubleHill$Sights", "copyFrom", "(LBaubleHill$Sights;)V"⟩ ∈ lw_g := g_s3 (i := 143) rfl rfl
theorem g_624 : Cond.instanceMethod ⟨"BaubleHill$Sights", "copyFrom", "(LBaubleHill$Sights;)V"⟩ ∈ lw_g := g_s3 (i := 144) rfl rfl
theorem g_625 : Cond.selects "BaubleHill$Sights" ⟨"BaubleHill$Sights", "copyFrom", "(LBaubleHill$Sights;)V"⟩ ⟨"BaubleHill$Sights", "copyFrom", "(LBaubleHill$Sights;)V"⟩ ∈ lw_g := g_s3 (i := 145) rfl rfl
theorem g_626 : Cond.code ⟨"BaubleHill$Sights", "copyFrom", "(LBaubleHill$Sights;)V"⟩ prog_9_method_5_code 2 none ∈ lw_g := g_s3 (i := 146) rfl rfl
theorem g_628 : Cond.methodLink "BaubleHillLaw" 110 ⟨"BaubleHill", "restore", "(I)I"⟩ ∈ lw_g := g_s3 (i := 148) rfl rfl
theorem g_629 : Cond.instanceMethod ⟨"BaubleHill", "restore", "(I)I"⟩ ∈ lw_g := g_s3 (i := 149) rfl rfl
theorem g_630 : Cond.selects "BaubleHill" ⟨"BaubleHill", "restore", "(I)I"⟩ ⟨"BaubleHill", "restore", "(I)I"⟩ ∈ lw_g := g_s3 (i := 150) rfl rfl
theorem g_631 : Cond.code ⟨"BaubleHill", "restore", "(I)I"⟩ prog_1_method_25_code 2 (Option.some FieldType.int) ∈ lw_g := g_s3 (i := 151) rfl rfl
theorem g_632 : Cond.methodLink "BaubleHill" 231 ⟨"BaubleHill$Image", "isKept", "()Z"⟩ ∈ lw_g := g_s3 (i := 152) rfl rfl
theorem g_633 : Cond.instanceMethod ⟨"BaubleHill$Image", "isKept", "()Z"⟩ ∈ lw_g := g_s3 (i := 153) rfl rfl
theorem g_634 : Cond.selects "BaubleHill$Image" ⟨"BaubleHill$Image", "isKept", "()Z"⟩ ⟨"BaubleHill$Image", "isKept", "()Z"⟩ ∈ lw_g := g_s3 (i := 154) rfl rfl
theorem g_635 : Cond.code ⟨"BaubleHill$Image", "isKept", "()Z"⟩ prog_7_method_2_code 1 (Option.some FieldType.boolean) ∈ lw_g := g_s3 (i := 155) rfl rfl
theorem g_636 : Cond.methodLink "BaubleHill" 235 ⟨"BaubleHill$Image", "bringBack", "(LBaubleHill$Hill;LBaubleHill$Sights;)V"⟩ ∈ lw_g := g_s3 (i := 156) rfl rfl
theorem g_637 : Cond.instanceMethod ⟨"BaubleHill$Image", "bringBack", "(LBaubleHill$Hill;LBaubleHill$Sights;)V"⟩ ∈ lw_g := g_s3 (i := 157) rfl rfl
theorem g_638 : Cond.selects "BaubleHill$Image" ⟨"BaubleHill$Image", "bringBack", "(LBaubleHill$Hill;LBaubleHill$Sights;)V"⟩ ⟨"BaubleHill$Image", "bringBack", "(LBaubleHill$Hill;LBaubleHill$Sights;)V"⟩ ∈ lw_g := g_s3 (i := 158) rfl rfl
theorem g_639 : Cond.code ⟨"BaubleHill$Image", "bringBack", "(LBaubleHill$Hill;LBaubleHill$Sights;)V"⟩ prog_7_method_4_code 3 none ∈ lw_g := g_s3 (i := 159) rfl rfl
theorem g_640 : Cond.methodLink "BaubleHillLaw" 114 ⟨"BaubleHill", "told", "(I)I"⟩ ∈ lw_g := g_s3 (i := 160) rfl rfl
theorem g_641 : Cond.instanceMethod ⟨"BaubleHill", "told", "(I)I"⟩ ∈ lw_g := g_s3 (i := 161) rfl rfl
theorem g_642 : Cond.selects "BaubleHill" ⟨"BaubleHill", "told", "(I)I"⟩ ⟨"BaubleHill", "told", "(I)I"⟩ ∈ lw_g := g_s3 (i := 162) rfl rfl
theorem g_643 : Cond.code ⟨"BaubleHill", "told", "(I)I"⟩ prog_1_method_26_code 2 (Option.some FieldType.int) ∈ lw_g := g_s3 (i := 163) rfl rfl
theorem g_644 : Cond.classLink "BaubleHillLaw" 10 "BaubleHillModel" ∈ lw_g := g_s3 (i := 164) rfl rfl
theorem g_645 : Cond.instantiable "BaubleHillModel" 17 ∈ lw_g := g_s3 (i := 165) rfl rfl
theorem g_646 : Cond.methodLink "BaubleHillLaw" 12 ⟨"BaubleHillModel", "<init>", "()V"⟩ ∈ lw_g := g_s3 (i := 166) rfl rfl
theorem g_647 : Cond.instanceMethod ⟨"BaubleHillModel", "<init>", "()V"⟩ ∈ lw_g := g_s3 (i := 167) rfl rfl
theorem g_648 : Cond.code ⟨"BaubleHillModel", "<init>", "()V"⟩ prog_14_method_1_code 2 none ∈ lw_g := g_s3 (i := 168) rfl rfl
theorem g_649 : Cond.methodLink "BaubleHillModel" 1 ⟨"java/lang/Object", "<init>", "()V"⟩ ∈ lw_g := g_s3 (i := 169) rfl rfl
theorem g_650 : Cond.fieldLink "BaubleHillModel" 7 "BaubleHillModel" "book" "[I" ∈ lw_g := g_s3 (i := 170) rfl rfl
theorem g_651 : Cond.fieldLink "BaubleHillModel" 13 "BaubleHillModel" "now" "[I" ∈ lw_g := g_s3 (i := 171) rfl rfl
theorem g_652 : Cond.fieldLink "BaubleHillModel" 121 "BaubleHillModel" "sights" "I" ∈ lw_g := g_s3 (i := 172) rfl rfl
theorem g_653 : Cond.fieldLink "BaubleHillModel" 16 "BaubleHillModel" "sight" "[I" ∈ lw_g := g_s3 (i := 173) rfl rfl
theorem g_654 : Cond.fieldLink "BaubleHillModel" 53 "BaubleHillModel" "signs" "I" ∈ lw_g := g_s3 (i := 174) rfl rfl
theorem g_655 : Cond.fieldLink "BaubleHillModel" 19 "BaubleHillModel" "pad" "[I" ∈ lw_g := g_s3 (i := 175) rfl rfl
theorem g_656 : Cond.fieldLink "BaubleHillModel" 65 "BaubleHillModel" "came" "I" ∈ lw_g := g_s3 (i := 176) rfl rfl
theorem g_657 : Cond.fieldLink "BaubleHillModel" 68 "BaubleHillModel" "brokenAt" "I" ∈ lw_g := g_s3 (i := 177) rfl rfl
theorem g_658 : Cond.fieldLink "BaubleHillModel" 71 "BaubleHillModel" "brokenWhich" "I" ∈ lw_g := g_s3 (i := 178) rfl rfl
theorem g_659 : Cond.fieldLink "BaubleHillModel" 22 "BaubleHillModel" "more" "[I" ∈ lw_g := g_s3 (i := 179) rfl rfl
theorem g_660 : Cond.fieldLink "BaubleHillModel" 93 "BaubleHillModel" "reason" "I" ∈ lw_g := g_s3 (i := 180) rfl rfl
theorem g_661 : Cond.fieldLink "BaubleHillModel" 87 "BaubleHillModel" "acts" "I" ∈ lw_g := g_s3 (i := 181) rfl rfl
theorem g_662 : Cond.fieldLink "BaubleHillModel" 25 "BaubleHillModel" "counts" "[I" ∈ lw_g := g_s3 (i := 182) rfl rfl
theorem g_663 : Cond.fieldLink "BaubleHillModel" 28 "BaubleHillModel" "worth" "[I" ∈ lw_g := g_s3 (i := 183) rfl rfl
theorem g_664 : Cond.fieldLink "BaubleHillModel" 31 "BaubleHillModel" "choices" "[J" ∈ lw_g := g_s3 (i := 184) rfl rfl
theorem g_665 : Cond.fieldLink "BaubleHillModel" 35 "BaubleHillModel" "image" "[I" ∈ lw_g := g_s3 (i := 185) rfl rfl
theorem g_666 : Cond.fieldLink "BaubleHillModel" 38 "BaubleHillModel" "isKept" "[Z" ∈ lw_g := g_s3 (i := 186) rfl rfl
theorem g_702 : Cond.arrayClass FieldType.long ∈ lw_g := g_s3 (i := 222) rfl rfl
theorem g_703 : Cond.arrayClass FieldType.boolean ∈ lw_g := g_s3 (i := 223) rfl rfl
theorem g_704 : Cond.methodLink "BaubleHillLaw" 17 ⟨"BaubleHillModel", "branch", "(II)I"⟩ ∈ lw_g := g_s3 (i := 224) rfl rfl
theorem g_705 : Cond.instanceMethod ⟨"BaubleHillModel", "branch", "(II)I"⟩ ∈ lw_g := g_s3 (i := 225) rfl rfl
theorem g_706 : Cond.selects "BaubleHillModel" ⟨"BaubleHillModel", "branch", "(II)I"⟩ ⟨"BaubleHillModel", "branch", "(II)I"⟩ ∈ lw_g := g_s3 (i := 226) rfl rfl
theorem g_707 : Cond.code ⟨"BaubleHillModel", "branch", "(II)I"⟩ prog_14_method_5_code 4 (Option.some FieldType.int) ∈ lw_g := g_s3 (i := 227) rfl rfl
theorem g_708 : Cond.methodLink "BaubleHillModel" 42 ⟨"BaubleHillModel", "in", "(III)Z"⟩ ∈ lw_g := g_s3 (i := 228) rfl rfl
theorem g_709 : Cond.static ⟨"BaubleHillModel", "in", "(III)Z"⟩ ∈ lw_g := g_s3 (i := 229) rfl rfl
theorem g_710 : Cond.code ⟨"BaubleHillModel", "in", "(III)Z"⟩ prog_14_method_2_code 3 (Option.some FieldType.boolean) ∈ lw_g := g_s3 (i := 230) rfl rfl
theorem g_711 : Cond.methodLink "BaubleHillLaw" 22 ⟨"BaubleHillModel", "ball", "(III)I"⟩ ∈ lw_g := g_s3 (i := 231) rfl rfl
theorem g_712 : Cond.instanceMethod ⟨"BaubleHillModel", "ball", "(III)I"⟩ ∈ lw_g := g_s3 (i := 232) rfl rfl
theorem g_713 : Cond.selects "BaubleHillModel" ⟨"BaubleHillModel", "ball", "(III)I"⟩ ⟨"BaubleHillModel", "ball", "(III)I"⟩ ∈ lw_g := g_s3 (i := 233) rfl rfl
theorem g_714 : Cond.code ⟨"BaubleHillModel", "ball", "(III)I"⟩ prog_14_method_6_code 6 (Option.some FieldType.int) ∈ lw_g := g_s3 (i := 234) rfl rfl
theorem g_715 : Cond.methodLink "BaubleHillModel" 46 ⟨"BaubleHillModel", "asNow", "()V"⟩ ∈ lw_g := g_s3 (i := 235) rfl rfl
theorem g_717 : Cond.instanceMethod ⟨"BaubleHillModel", "asNow", "()V"⟩ ∈ lw_g := g_s3 (i := 237) rfl rfl
theorem g_718 : Cond.code ⟨"BaubleHillModel", "asNow", "()V"⟩ prog_14_method_12_code 2 none ∈ lw_g := g_s3 (i := 238) rfl rfl
theorem g_719 : Cond.methodLink "BaubleHillModel" 49 ⟨"BaubleHillModel", "ballOn", "(I)I"⟩ ∈ lw_g := g_s3 (i := 239) rfl rfl
theorem g_721 : Cond.instanceMethod ⟨"BaubleHillModel", "ballOn", "(I)I"⟩ ∈ lw_g := g_s4 (i := 1) rfl rfl
theorem g_722 : Cond.code ⟨"BaubleHillModel", "ballOn", "(I)I"⟩ prog_14_method_13_code 3 (Option.some FieldType.int) ∈ lw_g := g_s4 (i := 2) rfl rfl
theorem g_723 : Cond.methodLink "BaubleHillLaw" 27 ⟨"BaubleHillModel", "say", "(I)I"⟩ ∈ lw_g := g_s4 (i := 3) rfl rfl
theorem g_724 : Cond.instanceMethod ⟨"BaubleHillModel", "say", "(I)I"⟩ ∈ lw_g := g_s4 (i := 4) rfl rfl
theorem g_725 : Cond.selects "BaubleHillModel" ⟨"BaubleHillModel", "say", "(I)I"⟩ ⟨"BaubleHillModel", "say", "(I)I"⟩ ∈ lw_g := g_s4 (i := 5) rfl rfl
theorem g_726 : Cond.code ⟨"BaubleHillModel", "say", "(I)I"⟩ prog_14_method_7_code 2 (Option.some FieldType.int) ∈ lw_g := g_s4 (i := 6) rfl rfl
theorem g_727 : Cond.methodLink "BaubleHillLaw" 32 ⟨"BaubleHillModel", "wipe", "()I"⟩ ∈ lw_g := g_s4 (i := 7) rfl rfl
theorem g_728 : Cond.instanceMethod ⟨"BaubleHillModel", "wipe", "()I"⟩ ∈ lw_g := g_s4 (i := 8) rfl rfl
theorem g_729 : Cond.selects "BaubleHillModel" ⟨"BaubleHillModel", "wipe", "()I"⟩ ⟨"BaubleHillModel", "wipe", "()I"⟩ ∈ lw_g := g_s4 (i := 9) rfl rfl
theorem g_730 : Cond.code ⟨"BaubleHillModel", "wipe", "()I"⟩ prog_14_method_8_code 2 (Option.some FieldType.int) ∈ lw_g := g_s4 (i := 10) rfl rfl
theorem g_731 : Cond.methodLink "BaubleHillLaw" 36 ⟨"BaubleHillModel", "fault", "()I"⟩ ∈ lw_g := g_s4 (i := 11) rfl rfl
theorem g_732 : Cond.instanceMethod ⟨"BaubleHillModel", "fault", "()I"⟩ ∈ lw_g := g_s4 (i := 12) rfl rfl
theorem g_733 : Cond.selects "BaubleHillModel" ⟨"BaubleHillModel", "fault", "()I"⟩ ⟨"BaubleHillModel", "fault", "()I"⟩ ∈ lw_g := g_s4 (i := 13) rfl rfl
theorem g_734 : Cond.code ⟨"BaubleHillModel", "fault", "()I"⟩ prog_14_method_11_code 1 (Option.some FieldType.int) ∈ lw_g := g_s4 (i := 14) rfl rfl
theorem g_735 : Cond.methodLink "BaubleHillModel" 61 ⟨"BaubleHillModel", "faultOf", "()I"⟩ ∈ lw_g := g_s4 (i := 15) rfl rfl
theorem g_737 : Cond.instanceMethod ⟨"BaubleHillModel", "faultOf", "()I"⟩ ∈ lw_g := g_s4 (i := 17) rfl rfl
theorem g_738 : Cond.code ⟨"BaubleHillModel", "faultOf", "()I"⟩ prog_14_method_10_code 3 (Option.some FieldType.int) ∈ lw_g := g_s4 (i := 18) rfl rfl
theorem g_739 : Cond.methodLink "BaubleHillModel" 57 ⟨"BaubleHillModel", "step", "(II)I"⟩ ∈ lw_g := g_s4 (i := 19) rfl rfl
theorem g_740 : Cond.static ⟨"BaubleHillModel", "step", "(II)I"⟩ ∈ lw_g := g_s4 (i := 20) rfl rfl
theorem g_741 : Cond.code ⟨"BaubleHillModel", "step", "(II)I"⟩ prog_14_method_9_code 3 (Option.some FieldType.int) ∈ lw_g := g_s4 (i := 21) rfl rfl
theorem g_742 : Cond.methodLink "BaubleHillLaw" 40 ⟨"BaubleHillModel", "judge", "(I)I"⟩ ∈ lw_g := g_s4 (i := 22) rfl rfl
theorem g_743 : Cond.instanceMethod ⟨"BaubleHillModel", "judge", "(I)I"⟩ ∈ lw_g := g_s4 (i := 23) rfl rfl
theorem g_744 : Cond.selects "BaubleHillModel" ⟨"BaubleHillModel", "judge", "(I)I"⟩ ⟨"BaubleHillModel", "judge", "(I)I"⟩ ∈ lw_g := g_s4 (i := 24) rfl rfl
theorem g_745 : Cond.code ⟨"BaubleHillModel", "judge", "(I)I"⟩ prog_14_method_23_code 3 (Option.some FieldType.int) ∈ lw_g := g_s4 (i := 25) rfl rfl
theorem g_746 : Cond.methodLink "BaubleHillModel" 108 ⟨"BaubleHillModel", "goWinters", "()I"⟩ ∈ lw_g := g_s4 (i := 26) rfl rfl
theorem g_748 : Cond.instanceMethod ⟨"BaubleHillModel", "goWinters", "()I"⟩ ∈ lw_g := g_s4 (i := 28) rfl rfl
theorem g_749 : Cond.code ⟨"BaubleHillModel", "goWinters", "()I"⟩ prog_14_method_22_code 6 (Option.some FieldType.int) ∈ lw_g := g_s4 (i := 29) rfl rfl
theorem g_750 : Cond.methodLink "BaubleHillModel" 90 ⟨"BaubleHillModel", "endWinter", "()I"⟩ ∈ lw_g := g_s4 (i := 30) rfl rfl
theorem g_752 : Cond.instanceMethod ⟨"BaubleHillModel", "endWinter", "()I"⟩ ∈ lw_g := g_s4 (i := 32) rfl rfl
theorem g_753 : Cond.code ⟨"BaubleHillModel", "endWinter", "()I"⟩ prog_14_method_21_code 2 (Option.some FieldType.int) ∈ lw_g := g_s4 (i := 33) rfl rfl
theorem g_754 : Cond.methodLink "BaubleHillModel" 96 ⟨"BaubleHillModel", "bend", "(II)I"⟩ ∈ lw_g := g_s4 (i := 34) rfl rfl
theorem g_756 : Cond.instanceMethod ⟨"BaubleHillModel", "bend", "(II)I"⟩ ∈ lw_g := g_s4 (i := 36) rfl rfl
theorem g_757 : Cond.code ⟨"BaubleHillModel", "bend", "(II)I"⟩ prog_14_method_20_code 3 (Option.some FieldType.int) ∈ lw_g := g_s4 (i := 37) rfl rfl
theorem g_758 : Cond.methodLink "BaubleHillModel" 99 ⟨"BaubleHillModel", "blow", "(I)I"⟩ ∈ lw_g := g_s4 (i := 38) rfl rfl
theorem g_760 : Cond.instanceMethod ⟨"BaubleHillModel", "blow", "(I)I"⟩ ∈ lw_g := g_s4 (i := 40) rfl rfl
theorem g_761 : Cond.code ⟨"BaubleHillModel", "blow", "(I)I"⟩ prog_14_method_19_code 5 (Option.some FieldType.int) ∈ lw_g := g_s4 (i := 41) rfl rfl
theorem g_762 : Cond.methodLink "BaubleHillModel" 78 ⟨"BaubleHillModel", "hanging", "()I"⟩ ∈ lw_g := g_s4 (i := 42) rfl rfl
theorem g_764 : Cond.instanceMethod ⟨"BaubleHillModel", "hanging", "()I"⟩ ∈ lw_g := g_s4 (i := 44) rfl rfl
theorem g_765 : Cond.code ⟨"BaubleHillModel", "hanging", "()I"⟩ prog_14_method_14_code 3 (Option.some FieldType.int) ∈ lw_g := g_s4 (i := 45) rfl rfl
theorem g_766 : Cond.methodLink "BaubleHillModel" 81 ⟨"BaubleHillModel", "bits", "(I)I"⟩ ∈ lw_g := g_s4 (i := 46) rfl rfl
theorem g_767 : Cond.static ⟨"BaubleHillModel", "bits", "(I)I"⟩ ∈ lw_g := g_s4 (i := 47) rfl rfl
theorem g_768 : Cond.code ⟨"BaubleHillModel", "bits", "(I)I"⟩ prog_14_method_4_code 3 (Option.some FieldType.int) ∈ lw_g := g_s4 (i := 48) rfl rfl
theorem g_769 : Cond.methodLink "BaubleHillModel" 84 ⟨"BaubleHillModel", "apartOf", "(II)I"⟩ ∈ lw_g := g_s4 (i := 49) rfl rfl
theorem g_771 : Cond.instanceMethod ⟨"BaubleHillModel", "apartOf", "(II)I"⟩ ∈ lw_g := g_s4 (i := 51) rfl rfl
theorem g_772 : Cond.code ⟨"BaubleHillModel", "apartOf", "(II)I"⟩ prog_14_method_15_code 6 (Option.some FieldType.int) ∈ lw_g := g_s4 (i := 52) rfl rfl
theorem g_773 : Cond.methodLink "BaubleHillModel" 102 ⟨"BaubleHillModel", "pack", "(I)I"⟩ ∈ lw_g := g_s4 (i := 53) rfl rfl
theorem g_775 : Cond.instanceMethod ⟨"BaubleHillModel", "pack", "(I)I"⟩ ∈ lw_g := g_s4 (i := 55) rfl rfl
theorem g_776 : Cond.code ⟨"BaubleHillModel", "pack", "(I)I"⟩ prog_14_method_18_code 2 (Option.some FieldType.int) ∈ lw_g := g_s4 (i := 56) rfl rfl
theorem g_777 : Cond.methodLink "BaubleHillModel" 74 ⟨"BaubleHillModel", "has", "(II)Z"⟩ ∈ lw_g := g_s4 (i := 57) rfl rfl
theorem g_778 : Cond.static ⟨"BaubleHillModel", "has", "(II)Z"⟩ ∈ lw_g := g_s4 (i := 58) rfl rfl
theorem g_779 : Cond.code ⟨"BaubleHillModel", "has", "(II)Z"⟩ prog_14_method_3_code 2 (Option.some FieldType.boolean) ∈ lw_g := g_s4 (i := 59) rfl rfl
theorem g_780 : Cond.methodLink "BaubleHillModel" 105 ⟨"BaubleHillModel", "hang", "(II)I"⟩ ∈ lw_g := g_s4 (i := 60) rfl rfl
theorem g_782 : Cond.instanceMethod ⟨"BaubleHillModel", "hang", "(II)I"⟩ ∈ lw_g := g_s4 (i := 62) rfl rfl
theorem g_783 : Cond.code ⟨"BaubleHillModel", "hang", "(II)I"⟩ prog_14_method_17_code 4 (Option.some FieldType.int) ∈ lw_g := g_s4 (i := 63) rfl rfl
theorem g_784 : Cond.methodLink "BaubleHillLaw" 44 ⟨"BaubleHillModel", "done", "()I"⟩ ∈ lw_g := g_s4 (i := 64) rfl rfl
theorem g_785 : Cond.instanceMethod ⟨"BaubleHillModel", "done", "()I"⟩ ∈ lw_g := g_s4 (i := 65) rfl rfl
theorem g_786 : Cond.selects "BaubleHillModel" ⟨"BaubleHillModel", "done", "()I"⟩ ⟨"BaubleHillModel", "done", "()I"⟩ ∈ lw_g := g_s4 (i := 66) rfl rfl
theorem g_787 : Cond.code ⟨"BaubleHillModel", "done", "()I"⟩ prog_14_method_25_code 2 (Option.some FieldType.int) ∈ lw_g := g_s4 (i := 67) rfl rfl
theorem g_788 : Cond.methodLink "BaubleHillModel" 111 ⟨"BaubleHillModel", "barOfWinters", "()I"⟩ ∈ lw_g := g_s4 (i := 68) rfl rfl
theorem g_790 : Cond.instanceMethod ⟨"BaubleHillModel", "barOfWinters", "()I"⟩ ∈ lw_g := g_s4 (i := 70) rfl rfl
theorem g_791 : Cond.code ⟨"BaubleHillModel", "barOfWinters", "()I"⟩ prog_14_method_24_code 1 (Option.some FieldType.int) ∈ lw_g := g_s4 (i := 71) rfl rfl
theorem g_792 : Cond.methodLink "BaubleHillLaw" 48 ⟨"BaubleHillModel", "behind", "(II)I"⟩ ∈ lw_g := g_s4 (i := 72) rfl rfl
theorem g_793 : Cond.instanceMethod ⟨"BaubleHillModel", "behind", "(II)I"⟩ ∈ lw_g := g_s4 (i := 73) rfl rfl
theorem g_794 : Cond.selects "BaubleHillModel" ⟨"BaubleHillModel", "behind", "(II)I"⟩ ⟨"BaubleHillModel", "behind", "(II)I"⟩ ∈ lw_g := g_s4 (i := 74) rfl rfl
theorem g_795 : Cond.code ⟨"BaubleHillModel", "behind", "(II)I"⟩ prog_14_method_26_code 3 (Option.some FieldType.int) ∈ lw_g := g_s4 (i := 75) rfl rfl
theorem g_796 : Cond.methodLink "BaubleHillLaw" 52 ⟨"BaubleHillModel", "then", "(I)I"⟩ ∈ lw_g := g_s4 (i := 76) rfl rfl
theorem g_797 : Cond.instanceMethod ⟨"BaubleHillModel", "then", "(I)I"⟩ ∈ lw_g := g_s4 (i := 77) rfl rfl
theorem g_798 : Cond.selects "BaubleHillModel" ⟨"BaubleHillModel", "then", "(I)I"⟩ ⟨"BaubleHillModel", "then", "(I)I"⟩ ∈ lw_g := g_s4 (i := 78) rfl rfl
theorem g_799 : Cond.code ⟨"BaubleHillModel", "then", "(I)I"⟩ prog_14_method_27_code 2 (Option.some FieldType.int) ∈ lw_g := g_s4 (i := 79) rfl rfl
theorem g_800 : Cond.methodLink "BaubleHillLaw" 56 ⟨"BaubleHillModel", "apart", "(II)I"⟩ ∈ lw_g := g_s4 (i := 80) rfl rfl
theorem g_801 : Cond.instanceMethod ⟨"BaubleHillModel", "apart", "(II)I"⟩ ∈ lw_g := g_s4 (i := 81) rfl rfl
theorem g_802 : Cond.selects "BaubleHillModel" ⟨"BaubleHillModel", "apart", "(II)I"⟩ ⟨"BaubleHillModel", "apart", "(II)I"⟩ ∈ lw_g := g_s4 (i := 82) rfl rfl
theorem g_803 : Cond.code ⟨"BaubleHillModel", "apart", "(II)I"⟩ prog_14_method_29_code 3 (Option.some FieldType.int) ∈ lw_g := g_s4 (i := 83) rfl rfl
theorem g_804 : Cond.methodLink "BaubleHillModel" 114 ⟨"BaubleHillModel", "areLoops", "(II)Z"⟩ ∈ lw_g := g_s4 (i := 84) rfl rfl
theorem g_805 : Cond.static ⟨"BaubleHillModel", "areLoops", "(II)Z"⟩ ∈ lw_g := g_s4 (i := 85) rfl rfl
theorem g_806 : Cond.code ⟨"BaubleHillModel", "areLoops", "(II)Z"⟩ prog_14_method_28_code 2 (Option.some FieldType.boolean) ∈ lw_g := g_s4 (i := 86) rfl rfl
theorem g_807 : Cond.methodLink "BaubleHillLaw" 60 ⟨"BaubleHillModel", "meets", "(II)I"⟩ ∈ lw_g := g_s4 (i := 87) rfl rfl
theorem g_808 : Cond.instanceMethod ⟨"BaubleHillModel", "meets", "(II)I"⟩ ∈ lw_g := g_s4 (i := 88) rfl rfl
theorem g_809 : Cond.selects "BaubleHillModel" ⟨"BaubleHillModel", "meets", "(II)I"⟩ ⟨"BaubleHillModel", "meets", "(II)I"⟩ ∈ lw_g := g_s4 (i := 89) rfl rfl
theorem g_810 : Cond.code ⟨"BaubleHillModel", "meets", "(II)I"⟩ prog_14_method_30_code 3 (Option.some FieldType.int) ∈ lw_g := g_s4 (i := 90) rfl rfl
theorem g_811 : Cond.methodLink "BaubleHillModel" 117 ⟨"BaubleHillModel", "meetOf", "(II)I"⟩ ∈ lw_g := g_s4 (i := 91) rfl rfl
theorem g_813 : Cond.instanceMethod ⟨"BaubleHillModel", "meetOf", "(II)I"⟩ ∈ lw_g := g_s4 (i := 93) rfl rfl
theorem g_814 : Cond.code ⟨"BaubleHillModel", "meetOf", "(II)I"⟩ prog_14_method_16_code 5 (Option.some FieldType.int) ∈ lw_g := g_s4 (i := 94) rfl rfl
theorem g_815 : Cond.methodLink "BaubleHillLaw" 64 ⟨"BaubleHillModel", "sees", "(I)I"⟩ ∈ lw_g := g_s4 (i := 95) rfl rfl
theorem g_816 : Cond.instanceMethod ⟨"BaubleHillModel", "sees", "(I)I"⟩ ∈ lw_g := g_s4 (i := 96) rfl rfl
theorem g_817 : Cond.selects "BaubleHillModel" ⟨"BaubleHillModel", "sees", "(I)I"⟩ ⟨"BaubleHillModel", "sees", "(I)I"⟩ ∈ lw_g := g_s4 (i := 97) rfl rfl
theorem g_818 : Cond.code ⟨"BaubleHillModel", "sees", "(I)I"⟩ prog_14_method_31_code 9 (Option.some FieldType.int) ∈ lw_g := g_s4 (i := 98) rfl rfl
theorem g_819 : Cond.methodLink "BaubleHillLaw" 68 ⟨"BaubleHillModel", "near", "(I)I"⟩ ∈ lw_g := g_s4 (i := 99) rfl rfl
theorem g_820 : Cond.instanceMethod ⟨"BaubleHillModel", "near", "(I)I"⟩ ∈ lw_g := g_s4 (i := 100) rfl rfl
theorem g_821 : Cond.selects "BaubleHillModel" ⟨"BaubleHillModel", "near", "(I)I"⟩ ⟨"BaubleHillModel", "near", "(I)I"⟩ ∈ lw_g := g_s4 (i := 101) rfl rfl
theorem g_822 : Cond.code ⟨"BaubleHillModel", "near", "(I)I"⟩ prog_14_method_32_code 9 (Option.some FieldType.int) ∈ lw_g := g_s4 (i := 102) rfl rfl
theorem g_823 : Cond.constant "BaubleHillModel" 120 (1000000) ∈ lw_g := g_s4 (i := 103) rfl rfl
theorem g_824 : Cond.methodLink "BaubleHillLaw" 72 ⟨"BaubleHillModel", "room", "(II)I"⟩ ∈ lw_g := g_s4 (i := 104) rfl rfl
theorem g_825 : Cond.instanceMethod ⟨"BaubleHillModel", "room", "(II)I"⟩ ∈ lw_g := g_s4 (i := 105) rfl rfl
theorem g_826 : Cond.selects "BaubleHillModel" ⟨"BaubleHillModel", "room", "(II)I"⟩ ⟨"BaubleHillModel", "room", "(II)I"⟩ ∈ lw_g := g_s4 (i := 106) rfl rfl
theorem g_827 : Cond.code ⟨"BaubleHillModel", "room", "(II)I"⟩ prog_14_method_33_code 8 (Option.some FieldType.int) ∈ lw_g := g_s4 (i := 107) rfl rfl
theorem g_828 : Cond.methodLink "BaubleHillLaw" 76 ⟨"BaubleHillModel", "candles", "(II)I"⟩ ∈ lw_g := g_s4 (i := 108) rfl rfl
theorem g_829 : Cond.instanceMethod ⟨"BaubleHillModel", "candles", "(II)I"⟩ ∈ lw_g := g_s4 (i := 109) rfl rfl
theorem g_830 : Cond.selects "BaubleHillModel" ⟨"BaubleHillModel", "candles", "(II)I"⟩ ⟨"BaubleHillModel", "candles", "(II)I"⟩ ∈ lw_g := g_s4 (i := 110) rfl rfl
theorem g_831 : Cond.code ⟨"BaubleHillModel", "candles", "(II)I"⟩ prog_14_method_34_code 9 (Option.some FieldType.int) ∈ lw_g := g_s4 (i := 111) rfl rfl
theorem g_832 : Cond.methodLink "BaubleHillLaw" 80 ⟨"BaubleHillModel", "seen", "(II)I"⟩ ∈ lw_g := g_s4 (i := 112) rfl rfl
theorem g_833 : Cond.instanceMethod ⟨"BaubleHillModel", "seen", "(II)I"⟩ ∈ lw_g := g_s4 (i := 113) rfl rfl
theorem g_834 : Cond.selects "BaubleHillModel" ⟨"BaubleHillModel", "seen", "(II)I"⟩ ⟨"BaubleHillModel", "seen", "(II)I"⟩ ∈ lw_g := g_s4 (i := 114) rfl rfl
theorem g_835 : Cond.code ⟨"BaubleHillModel", "seen", "(II)I"⟩ prog_14_method_35_code 3 (Option.some FieldType.int) ∈ lw_g := g_s4 (i := 115) rfl rfl
theorem g_836 : Cond.methodLink "BaubleHillLaw" 84 ⟨"BaubleHillModel", "forget", "()I"⟩ ∈ lw_g := g_s4 (i := 116) rfl rfl
theorem g_837 : Cond.instanceMethod ⟨"BaubleHillModel", "forget", "()I"⟩ ∈ lw_g := g_s4 (i := 117) rfl rfl
theorem g_838 : Cond.selects "BaubleHillModel" ⟨"BaubleHillModel", "forget", "()I"⟩ ⟨"BaubleHillModel", "forget", "()I"⟩ ∈ lw_g := g_s4 (i := 118) rfl rfl
theorem g_839 : Cond.code ⟨"BaubleHillModel", "forget", "()I"⟩ prog_14_method_36_code 2 (Option.some FieldType.int) ∈ lw_g := g_s4 (i := 119) rfl rfl
theorem g_840 : Cond.methodLink "BaubleHillLaw" 88 ⟨"BaubleHillModel", "where", "(I)I"⟩ ∈ lw_g := g_s4 (i := 120) rfl rfl
theorem g_841 : Cond.instanceMethod ⟨"BaubleHillModel", "where", "(I)I"⟩ ∈ lw_g := g_s4 (i := 121) rfl rfl
theorem g_842 : Cond.selects "BaubleHillModel" ⟨"BaubleHillModel", "where", "(I)I"⟩ ⟨"BaubleHillModel", "where", "(I)I"⟩ ∈ lw_g := g_s4 (i := 122) rfl rfl
theorem g_843 : Cond.code ⟨"BaubleHillModel", "where", "(I)I"⟩ prog_14_method_38_code 4 (Option.some FieldType.int) ∈ lw_g := g_s4 (i := 123) rfl rfl
theorem g_844 : Cond.methodLink "BaubleHillModel" 124 ⟨"BaubleHillModel", "isFit", "(I)Z"⟩ ∈ lw_g := g_s4 (i := 124) rfl rfl
theorem g_846 : Cond.instanceMethod ⟨"BaubleHillModel", "isFit", "(I)Z"⟩ ∈ lw_g := g_s4 (i := 126) rfl rfl
theorem g_847 : Cond.code ⟨"BaubleHillModel", "isFit", "(I)Z"⟩ prog_14_method_37_code 4 (Option.some FieldType.boolean) ∈ lw_g := g_s4 (i := 127) rfl rfl
theorem g_848 : Cond.methodLink "BaubleHillLaw" 92 ⟨"BaubleHillModel", "ask", "(I)I"⟩ ∈ lw_g := g_s4 (i := 128) rfl rfl
theorem g_849 : Cond.instanceMethod ⟨"BaubleHillModel", "ask", "(I)I"⟩ ∈ lw_g := g_s4 (i := 129) rfl rfl
theorem g_850 : Cond.selects "BaubleHillModel" ⟨"BaubleHillModel", "ask", "(I)I"⟩ ⟨"BaubleHillModel", "ask", "(I)I"⟩ ∈ lw_g := g_s4 (i := 130) rfl rfl
theorem g_851 : Cond.code ⟨"BaubleHillModel", "ask", "(I)I"⟩ prog_14_method_39_code 8 (Option.some FieldType.int) ∈ lw_g := g_s4 (i := 131) rfl rfl
theorem g_852 : Cond.methodLink "BaubleHillLaw" 96 ⟨"BaubleHillModel", "cut", "(I)I"⟩ ∈ lw_g := g_s4 (i := 132) rfl rfl
theorem g_853 : Cond.instanceMethod ⟨"BaubleHillModel", "cut", "(I)I"⟩ ∈ lw_g := g_s4 (i := 133) rfl rfl
theorem g_854 : Cond.selects "BaubleHillModel" ⟨"BaubleHillModel", "cut", "(I)I"⟩ ⟨"BaubleHillModel", "cut", "(I)I"⟩ ∈ lw_g := g_s4 (i := 134) rfl rfl
theorem g_855 : Cond.code ⟨"BaubleHillModel", "cut", "(I)I"⟩ prog_14_method_41_code 4 (Option.some FieldType.int) ∈ lw_g := g_s4 (i := 135) rfl rfl
theorem g_856 : Cond.methodLink "BaubleHillModel" 128 ⟨"BaubleHillModel", "worthOf", "(I)I"⟩ ∈ lw_g := g_s4 (i := 136) rfl rfl
theorem g_858 : Cond.instanceMethod ⟨"BaubleHillModel", "worthOf", "(I)I"⟩ ∈ lw_g := g_s4 (i := 138) rfl rfl
theorem g_859 : Cond.code ⟨"BaubleHillModel", "worthOf", "(I)I"⟩ prog_14_method_40_code 3 (Option.some FieldType.int) ∈ lw_g := g_s4 (i := 139) rfl rfl
theorem g_860 : Cond.methodLink "BaubleHillLaw" 101 ⟨"BaubleHillModel", "tissue", "(IIIIII)J"⟩ ∈ lw_g := g_s4 (i := 140) rfl rfl
theorem g_861 : Cond.instanceMethod ⟨"BaubleHillModel", "tissue", "(IIIIII)J"⟩ ∈ lw_g := g_s4 (i := 141) rfl rfl
theorem g_862 : Cond.selects "BaubleHillModel" ⟨"BaubleHillModel", "tissue", "(IIIIII)J"⟩ ⟨"BaubleHillModel", "tissue", "(IIIIII)J"⟩ ∈ lw_g := g_s4 (i := 142) rfl rfl
theorem g_863 : Cond.code ⟨"BaubleHillModel", "tissue", "(IIIIII)J"⟩ prog_14_method_44_code 10 (Option.some FieldType.long) ∈ lw_g := g_s4 (i := 143) rfl rfl
theorem g_864 : Cond.constantLong "BaubleHillModel" 131 (-1000000000000000002) ∈ lw_g := g_s4 (i := 144) rfl rfl
theorem g_865 : Cond.methodLink "BaubleHillModel" 133 ⟨"BaubleHillModel", "lowest", "(JJI)J"⟩ ∈ lw_g := g_s4 (i := 145) rfl rfl
theorem g_866 : Cond.static ⟨"BaubleHillModel", "lowest", "(JJI)J"⟩ ∈ lw_g := g_s4 (i := 146) rfl rfl
theorem g_867 : Cond.code ⟨"BaubleHillModel", "lowest", "(JJI)J"⟩ prog_14_method_43_code 11 (Option.some FieldType.long) ∈ lw_g := g_s4 (i := 147) rfl rfl
theorem g_868 : Cond.methodLink "BaubleHillModel" 137 ⟨"BaubleHillModel", "layChoices", "()V"⟩ ∈ lw_g := g_s4 (i := 148) rfl rfl
theorem g_870 : Cond.instanceMethod ⟨"BaubleHillModel", "layChoices", "()V"⟩ ∈ lw_g := g_s4 (i := 150) rfl rfl
theorem g_871 : Cond.code ⟨"BaubleHillModel", "layChoices", "()V"⟩ prog_14_method_42_code 3 none ∈ lw_g := g_s4 (i := 151) rfl rfl
theorem g_872 : Cond.methodLink "BaubleHillLaw" 105 ⟨"BaubleHillModel", "year", "(III)I"⟩ ∈ lw_g := g_s4 (i := 152) rfl rfl
theorem g_873 : Cond.instanceMethod ⟨"BaubleHillModel", "year", "(III)I"⟩ ∈ lw_g := g_s4 (i := 153) rfl rfl
theorem g_874 : Cond.selects "BaubleHillModel" ⟨"BaubleHillModel", "year", "(III)I"⟩ ⟨"BaubleHillModel", "year", "(III)I"⟩ ∈ lw_g := g_s4 (i := 154) rfl rfl
theorem g_875 : Cond.code ⟨"BaubleHillModel", "year", "(III)I"⟩ prog_14_method_45_code 8 (Option.some FieldType.int) ∈ lw_g := g_s4 (i := 155) rfl rfl
theorem g_876 : Cond.constant "BaubleHillModel" 140 (65537) ∈ lw_g := g_s4 (i := 156) rfl rfl
theorem g_877 : Cond.methodLink "BaubleHillLaw" 109 ⟨"BaubleHillModel", "image", "(I)I"⟩ ∈ lw_g := g_s4 (i := 157) rfl rfl
theorem g_878 : Cond.instanceMethod ⟨"BaubleHillModel", "image", "(I)I"⟩ ∈ lw_g := g_s4 (i := 158) rfl rfl
theorem g_879 : Cond.selects "BaubleHillModel" ⟨"BaubleHillModel", "image", "(I)I"⟩ ⟨"BaubleHillModel", "image", "(I)I"⟩ ∈ lw_g := g_s4 (i := 159) rfl rfl
theorem g_880 : Cond.code ⟨"BaubleHillModel", "image", "(I)I"⟩ prog_14_method_46_code 4 (Option.some FieldType.int) ∈ lw_g := g_s4 (i := 160) rfl rfl
theorem g_881 : Cond.methodLink "BaubleHillLaw" 113 ⟨"BaubleHillModel", "restore", "(I)I"⟩ ∈ lw_g := g_s4 (i := 161) rfl rfl
theorem g_882 : Cond.instanceMethod ⟨"BaubleHillModel", "restore", "(I)I"⟩ ∈ lw_g := g_s4 (i := 162) rfl rfl
theorem g_883 : Cond.selects "BaubleHillModel" ⟨"BaubleHillModel", "restore", "(I)I"⟩ ⟨"BaubleHillModel", "restore", "(I)I"⟩ ∈ lw_g := g_s4 (i := 163) rfl rfl
theorem g_884 : Cond.code ⟨"BaubleHillModel", "restore", "(I)I"⟩ prog_14_method_47_code 4 (Option.some FieldType.int) ∈ lw_g := g_s4 (i := 164) rfl rfl
theorem g_885 : Cond.methodLink "BaubleHillLaw" 117 ⟨"BaubleHillModel", "told", "(I)I"⟩ ∈ lw_g := g_s4 (i := 165) rfl rfl
theorem g_886 : Cond.instanceMethod ⟨"BaubleHillModel", "told", "(I)I"⟩ ∈ lw_g := g_s4 (i := 166) rfl rfl
theorem g_887 : Cond.selects "BaubleHillModel" ⟨"BaubleHillModel", "told", "(I)I"⟩ ⟨"BaubleHillModel", "told", "(I)I"⟩ ∈ lw_g := g_s4 (i := 167) rfl rfl
theorem g_888 : Cond.code ⟨"BaubleHillModel", "told", "(I)I"⟩ prog_14_method_48_code 2 (Option.some FieldType.int) ∈ lw_g := g_s4 (i := 168) rfl rfl
theorem gs_0 : Cond.selects "BaubleHill$Pad" ⟨"BaubleHill$Pad", "signAt", "(I)I"⟩ ⟨"BaubleHill$Pad", "signAt", "(I)I"⟩ ∈ lw_g := g_mem (i := 0) rfl rfl
theorem gs_1 : Cond.selects "BaubleHill$Hill" ⟨"BaubleHill$Hill", "blow", "(I)V"⟩ ⟨"BaubleHill$Hill", "blow", "(I)V"⟩ ∈ lw_g := g_mem (i := 1) rfl rfl
theorem gs_2 : Cond.selects "BaubleHill$Hill" ⟨"BaubleHill$Hill", "chip", "(II)V"⟩ ⟨"BaubleHill$Hill", "chip", "(II)V"⟩ ∈ lw_g := g_mem (i := 2) rfl rfl
theorem gs_3 : Cond.selects "BaubleHill$Hill" ⟨"BaubleHill$Hill", "packAll", "()V"⟩ ⟨"BaubleHill$Hill", "packAll", "()V"⟩ ∈ lw_g := g_mem (i := 3) rfl rfl
theorem gs_4 : Cond.selects "BaubleHill$Telling" ⟨"BaubleHill$Telling", "noteBroken", "(I)V"⟩ ⟨"BaubleHill$Telling", "noteBroken", "(I)V"⟩ ∈ lw_g := g_mem (i := 4) rfl rfl
theorem gs_5 : Cond.selects "BaubleHill$Choice" ⟨"BaubleHill$Choice", "lookAround", "(LBaubleHill$Tree;I)V"⟩ ⟨"BaubleHill$Choice", "lookAround", "(LBaubleHill$Tree;I)V"⟩ ∈ lw_g := g_mem (i := 5) rfl rfl
theorem gs_6 : Cond.selects "BaubleHill$Choice" ⟨"BaubleHill$Choice", "standsApart", "(I)Z"⟩ ⟨"BaubleHill$Choice", "standsApart", "(I)Z"⟩ ∈ lw_g := g_mem (i := 6) rfl rfl
theorem gs_7 : Cond.selects "BaubleHill$Choice" ⟨"BaubleHill$Choice", "lightsAll", "(I)Z"⟩ ⟨"BaubleHill$Choice", "lightsAll", "(I)Z"⟩ ∈ lw_g := g_mem (i := 7) rfl rfl
theorem gs_8 : Cond.selects "BaubleHill$Year" ⟨"BaubleHill$Year", "draw", "(I)V"⟩ ⟨"BaubleHill$Year", "draw", "(I)V"⟩ ∈ lw_g := g_mem (i := 8) rfl rfl
theorem gs_9 : Cond.selects "BaubleHill" ⟨"BaubleHill", "imageOf", "(I)LBaubleHill$Image;"⟩ ⟨"BaubleHill", "imageOf", "(I)LBaubleHill$Image;"⟩ ∈ lw_g := g_mem (i := 9) rfl rfl
theorem gs_10 : Cond.selects "BaubleHillModel" ⟨"BaubleHillModel", "asNow", "()V"⟩ ⟨"BaubleHillModel", "asNow", "()V"⟩ ∈ lw_g := g_mem (i := 10) rfl rfl
theorem gs_11 : Cond.selects "BaubleHillModel" ⟨"BaubleHillModel", "ballOn", "(I)I"⟩ ⟨"BaubleHillModel", "ballOn", "(I)I"⟩ ∈ lw_g := g_mem (i := 11) rfl rfl
theorem gs_12 : Cond.selects "BaubleHillModel" ⟨"BaubleHillModel", "faultOf", "()I"⟩ ⟨"BaubleHillModel", "faultOf", "()I"⟩ ∈ lw_g := g_mem (i := 12) rfl rfl
theorem gs_13 : Cond.selects "BaubleHillModel" ⟨"BaubleHillModel", "goWinters", "()I"⟩ ⟨"BaubleHillModel", "goWinters", "()I"⟩ ∈ lw_g := g_mem (i := 13) rfl rfl
theorem gs_14 : Cond.selects "BaubleHillModel" ⟨"BaubleHillModel", "endWinter", "()I"⟩ ⟨"BaubleHillModel", "endWinter", "()I"⟩ ∈ lw_g := g_mem (i := 14) rfl rfl
theorem gs_15 : Cond.selects "BaubleHillModel" ⟨"BaubleHillModel", "bend", "(II)I"⟩ ⟨"BaubleHillModel", "bend", "(II)I"⟩ ∈ lw_g := g_mem (i := 15) rfl rfl
theorem gs_16 : Cond.selects "BaubleHillModel" ⟨"BaubleHillModel", "blow", "(I)I"⟩ ⟨"BaubleHillModel", "blow", "(I)I"⟩ ∈ lw_g := g_mem (i := 16) rfl rfl
theorem gs_17 : Cond.selects "BaubleHillModel" ⟨"BaubleHillModel", "hanging", "()I"⟩ ⟨"BaubleHillModel", "hanging", "()I"⟩ ∈ lw_g := g_mem (i := 17) rfl rfl
theorem gs_18 : Cond.selects "BaubleHillModel" ⟨"BaubleHillModel", "apartOf", "(II)I"⟩ ⟨"BaubleHillModel", "apartOf", "(II)I"⟩ ∈ lw_g := g_mem (i := 18) rfl rfl
theorem gs_19 : Cond.selects "BaubleHillModel" ⟨"BaubleHillModel", "pack", "(I)I"⟩ ⟨"BaubleHillModel", "pack", "(I)I"⟩ ∈ lw_g := g_mem (i := 19) rfl rfl
theorem gs_20 : Cond.selects "BaubleHillModel" ⟨"BaubleHillModel", "hang", "(II)I"⟩ ⟨"BaubleHillModel", "hang", "(II)I"⟩ ∈ lw_g := g_mem (i := 20) rfl rfl
theorem gs_21 : Cond.selects "BaubleHillModel" ⟨"BaubleHillModel", "barOfWinters", "()I"⟩ ⟨"BaubleHillModel", "barOfWinters", "()I"⟩ ∈ lw_g := g_mem (i := 21) rfl rfl
theorem gs_22 : Cond.selects "BaubleHillModel" ⟨"BaubleHillModel", "meetOf", "(II)I"⟩ ⟨"BaubleHillModel", "meetOf", "(II)I"⟩ ∈ lw_g := g_mem (i := 22) rfl rfl
theorem gs_23 : Cond.selects "BaubleHillModel" ⟨"BaubleHillModel", "isFit", "(I)Z"⟩ ⟨"BaubleHillModel", "isFit", "(I)Z"⟩ ∈ lw_g := g_mem (i := 23) rfl rfl
theorem gs_24 : Cond.selects "BaubleHillModel" ⟨"BaubleHillModel", "worthOf", "(I)I"⟩ ⟨"BaubleHillModel", "worthOf", "(I)I"⟩ ∈ lw_g := g_mem (i := 24) rfl rfl
theorem gs_25 : Cond.selects "BaubleHillModel" ⟨"BaubleHillModel", "layChoices", "()V"⟩ ⟨"BaubleHillModel", "layChoices", "()V"⟩ ∈ lw_g := g_mem (i := 25) rfl rfl
/-- the words of calls of a nest mate's private methods -/
def w_nest : List (String × Nat × MethodName × String) := [("BaubleHill", 18, ⟨"BaubleHill$Sights", "<init>", "()V"⟩, "BaubleHill"), ("BaubleHill", 25, ⟨"BaubleHill$Pad", "<init>", "()V"⟩, "BaubleHill"), ("BaubleHill", 32, ⟨"BaubleHill$Telling", "<init>", "()V"⟩, "BaubleHill"), ("BaubleHill$Telling", 20, ⟨"BaubleHill$Act", "<init>", "()V"⟩, "BaubleHill"), ("BaubleHill", 39, ⟨"BaubleHill$Choice", "<init>", "()V"⟩, "BaubleHill"), ("BaubleHill", 46, ⟨"BaubleHill$Cutting", "<init>", "()V"⟩, "BaubleHill"), ("BaubleHill", 53, ⟨"BaubleHill$Year", "<init>", "()V"⟩, "BaubleHill"), ("BaubleHill$Year", 18, ⟨"BaubleHill$Act", "<init>", "()V"⟩, "BaubleHill"), ("BaubleHill", 60, ⟨"BaubleHill$Image", "<init>", "()V"⟩, "BaubleHill"), ("BaubleHill$Image", 18, ⟨"BaubleHill$Sights", "<init>", "()V"⟩, "BaubleHill"), ("BaubleHill$Hill", 32, ⟨"BaubleHill", "holds", "(II)Z"⟩, "BaubleHill"), ("BaubleHill$Pad", 43, ⟨"BaubleHill", "isLoop", "(I)Z"⟩, "BaubleHill"), ("BaubleHill$Pad", 46, ⟨"BaubleHill", "isBall", "(I)Z"⟩, "BaubleHill"), ("BaubleHill$Tree", 15, ⟨"BaubleHill", "copyRow", "([I[I)V"⟩, "BaubleHill"), ("BaubleHill$Hill", 48, ⟨"BaubleHill", "copyRow", "([I[I)V"⟩, "BaubleHill"), ("BaubleHill$Telling", 70, ⟨"BaubleHill", "memberAt", "(II)I"⟩, "BaubleHill"), ("BaubleHill$Tree", 35, ⟨"BaubleHill", "holds", "(II)Z"⟩, "BaubleHill"), ("BaubleHill$Choice", 38, ⟨"BaubleHill", "holds", "(II)Z"⟩, "BaubleHill"), ("BaubleHill$Sights", 22, ⟨"BaubleHill", "copyRow", "([I[I)V"⟩, "BaubleHill")]
theorem gn_0 : Cond.methodLinkNest "BaubleHill" 18 ⟨"BaubleHill$Sights", "<init>", "()V"⟩ "BaubleHill" ∈ lw_tbl := g_n1 (i := 59) rfl
theorem gn_1 : Cond.methodLinkNest "BaubleHill" 25 ⟨"BaubleHill$Pad", "<init>", "()V"⟩ "BaubleHill" ∈ lw_tbl := g_n1 (i := 75) rfl
theorem gn_2 : Cond.methodLinkNest "BaubleHill" 32 ⟨"BaubleHill$Telling", "<init>", "()V"⟩ "BaubleHill" ∈ lw_tbl := g_n1 (i := 88) rfl
theorem gn_3 : Cond.methodLinkNest "BaubleHill$Telling" 20 ⟨"BaubleHill$Act", "<init>", "()V"⟩ "BaubleHill" ∈ lw_tbl := g_n1 (i := 96) rfl
theorem gn_4 : Cond.methodLinkNest "BaubleHill" 39 ⟨"BaubleHill$Choice", "<init>", "()V"⟩ "BaubleHill" ∈ lw_tbl := g_n1 (i := 131) rfl
theorem gn_5 : Cond.methodLinkNest "BaubleHill" 46 ⟨"BaubleHill$Cutting", "<init>", "()V"⟩ "BaubleHill" ∈ lw_tbl := g_n1 (i := 141) rfl
theorem gn_6 : Cond.methodLinkNest "BaubleHill" 53 ⟨"BaubleHill$Year", "<init>", "()V"⟩ "BaubleHill" ∈ lw_tbl := g_n1 (i := 151) rfl
theorem gn_7 : Cond.methodLinkNest "BaubleHill$Year" 18 ⟨"BaubleHill$Act", "<init>", "()V"⟩ "BaubleHill" ∈ lw_tbl := g_n1 (i := 158) rfl
theorem gn_8 : Cond.methodLinkNest "BaubleHill" 60 ⟨"BaubleHill$Image", "<init>", "()V"⟩ "BaubleHill" ∈ lw_tbl := g_n1 (i := 168) rfl
theorem gn_9 : Cond.methodLinkNest "BaubleHill$Image" 18 ⟨"BaubleHill$Sights", "<init>", "()V"⟩ "BaubleHill" ∈ lw_tbl := g_n1 (i := 175) rfl
theorem gn_10 : Cond.methodLinkNest "BaubleHill$Hill" 32 ⟨"BaubleHill", "holds", "(II)Z"⟩ "BaubleHill" ∈ lw_tbl := g_n2 (i := 12) rfl
theorem gn_11 : Cond.methodLinkNest "BaubleHill$Pad" 43 ⟨"BaubleHill", "isLoop", "(I)Z"⟩ "BaubleHill" ∈ lw_tbl := g_n2 (i := 51) rfl
theorem gn_12 : Cond.methodLinkNest "BaubleHill$Pad" 46 ⟨"BaubleHill", "isBall", "(I)Z"⟩ "BaubleHill" ∈ lw_tbl := g_n2 (i := 55) rfl
theorem gn_13 : Cond.methodLinkNest "BaubleHill$Tree" 15 ⟨"BaubleHill", "copyRow", "([I[I)V"⟩ "BaubleHill" ∈ lw_tbl := g_n2 (i := 78) rfl
theorem gn_14 : Cond.methodLinkNest "BaubleHill$Hill" 48 ⟨"BaubleHill", "copyRow", "([I[I)V"⟩ "BaubleHill" ∈ lw_tbl := g_n2 (i := 81) rfl
theorem gn_15 : Cond.methodLinkNest "BaubleHill$Telling" 70 ⟨"BaubleHill", "memberAt", "(II)I"⟩ "BaubleHill" ∈ lw_tbl := g_n2 (i := 170) rfl
theorem gn_16 : Cond.methodLinkNest "BaubleHill$Tree" 35 ⟨"BaubleHill", "holds", "(II)Z"⟩ "BaubleHill" ∈ lw_tbl := g_n3 (i := 10) rfl
theorem gn_17 : Cond.methodLinkNest "BaubleHill$Choice" 38 ⟨"BaubleHill", "holds", "(II)Z"⟩ "BaubleHill" ∈ lw_tbl := g_n3 (i := 29) rfl
theorem gn_18 : Cond.methodLinkNest "BaubleHill$Sights" 22 ⟨"BaubleHill", "copyRow", "([I[I)V"⟩ "BaubleHill" ∈ lw_tbl := g_n3 (i := 147) rfl
end
section
/-! A world by numbers: the cells of the system have numbers 0, 1, ..; what they hold is a memory of ints, longs and references by number and place. -/
abbrev wM : Type := (Nat → Nat → Int32) × (Nat → Nat → Int64) × (Nat → Nat → Option Nat)
/-- kind (0 to 11 a class of vwCl, 12 int[], 13 long[], 14 boolean[]) and length, by number -/
abbrev wSh : Type := List (Nat × Nat)
abbrev wD : Type := ClassId × ClassId × ClassId
def w_cv (ad : Nat → Nat) : Value → Value
  | .ref k => .ref (ad k)
  | v => v
theorem w_cv_cat (ad : Nat → Nat) (v : Value) : (w_cv ad v).category = v.category := by cases v <;> rfl
def w_fs (ad : Nat → Nat) (M : wM) (k : Nat) : Nat → List Bool → List Value
  | _, [] => []
  | i, true :: t => va_rf ((M.2.2 k i).map ad) :: w_fs ad M k (i + 1) t
  | i, false :: t => .int (M.1 k i) :: w_fs ad M k (i + 1) t
def w_cell (D3 : wD) (ad : Nat → Nat) (M : wM) (k : Nat) (s : Nat × Nat) : va_E :=
  if s.1 = 12 then .inl (D3.1, s.2, .inl (M.1 k)) else if s.1 = 13 then .inl (D3.2.1, s.2, .inr (.inl (M.2.1 k))) else if s.1 = 14 then .inl (D3.2.2, s.2, .inl (M.1 k)) else .inr (s.1, w_fs ad M k 0 (w_fk s.1))
def w_W (D3 : wD) (ad : Nat → Nat) (sh : wSh) (M : wM) : va_W := sh.mapIdx (fun k s => (ad k, w_cell D3 ad M k s))
def w_ty (D3 : wD) : List (ClassId × FieldType) := [(D3.1, .int), (D3.2.1, .long), (D3.2.2, .boolean)]
def w_ui (M : wM) (k j : Nat) (x : Int32) : wM := (va_up M.1 k (upd (M.1 k) j x), M.2)
def w_ul (M : wM) (k j : Nat) (x : Int64) : wM := (M.1, va_up M.2.1 k (vp_updL (M.2.1 k) j x), M.2.2)
def w_ur (M : wM) (k j : Nat) (x : Option Nat) : wM := (M.1, M.2.1, va_up M.2.2 k (fun i => if i = j then x else M.2.2 k i))
theorem w_ui_2 (M : wM) (k j : Nat) (x : Int32) : (w_ui M k j x).2 = M.2 := rfl
theorem w_ui_at (M : wM) (k j : Nat) (x : Int32) : (w_ui M k j x).1 k j = x := by simp [w_ui, va_up, upd]
theorem w_ui_row (M : wM) (k j i : Nat) (x : Int32) (h : i ≠ j) : (w_ui M k j x).1 k i = M.1 k i := by simp [w_ui, va_up, upd, h]
theorem w_ui_off (M : wM) (k j a : Nat) (x : Int32) (h : a ≠ k) : (w_ui M k j x).1 a = M.1 a := by simp [w_ui, va_up, h]
theorem w_ui_if (M : wM) (k j a i : Nat) (x : Int32) : (w_ui M k j x).1 a i = if a = k ∧ i = j then x else M.1 a i := by
  by_cases h : a = k
  · subst h
    by_cases h2 : i = j
    · subst h2; simp [w_ui_at]
    · simp [w_ui_row _ _ _ _ _ h2, h2]
  · rw [w_ui_off _ _ _ _ _ h]; simp [h]
theorem w_ul_1 (M : wM) (k j : Nat) (x : Int64) : (w_ul M k j x).1 = M.1 := rfl
theorem w_ul_22 (M : wM) (k j : Nat) (x : Int64) : (w_ul M k j x).2.2 = M.2.2 := rfl
theorem w_ul_if (M : wM) (k j a i : Nat) (x : Int64) : (w_ul M k j x).2.1 a i = if a = k ∧ i = j then x else M.2.1 a i := by
  by_cases h : a = k
  · subst h
    by_cases h2 : i = j
    · subst h2; simp [w_ul, va_up, vp_updL]
    · simp [w_ul, va_up, vp_updL, h2]
  · simp [w_ul, va_up, h]
theorem w_ur_1 (M : wM) (k j : Nat) (x : Option Nat) : (w_ur M k j x).1 = M.1 := rfl
theorem w_ur_21 (M : wM) (k j : Nat) (x : Option Nat) : (w_ur M k j x).2.1 = M.2.1 := rfl
theorem w_ur_if (M : wM) (k j a i : Nat) (x : Option Nat) : (w_ur M k j x).2.2 a i = if a = k ∧ i = j then x else M.2.2 a i := by
  by_cases h : a = k
  · subst h; simp [w_ur, va_up]
  · simp [w_ur, va_up, h]
theorem w_get {D3 : wD} {ad : Nat → Nat} {sh : wSh} {M : wM} {k : Nat} {s : Nat × Nat} (h : sh[k]? = some s) : (w_W D3 ad sh M)[k]? = some (ad k, w_cell D3 ad M k s) := by
  simp [w_W, List.getElem?_mapIdx, h]
theorem w_len (D3 : wD) (ad : Nat → Nat) (sh : wSh) (M : wM) : (w_W D3 ad sh M).length = sh.length := by simp [w_W]
theorem w_fs_len (ad : Nat → Nat) (M : wM) (k : Nat) : ∀ (t : List Bool) (i : Nat), (w_fs ad M k i t).length = t.length
  | [], _ => rfl
  | true :: t, i => by simp [w_fs, w_fs_len ad M k t (i + 1)]
  | false :: t, i => by simp [w_fs, w_fs_len ad M k t (i + 1)]
def w_fv (ad : Nat → Nat) (M : wM) (k : Nat) (i : Nat) : Bool → Value
  | true => va_rf ((M.2.2 k i).map ad)
  | false => .int (M.1 k i)
theorem w_fs_get (ad : Nat → Nat) (M : wM) (k : Nat) : ∀ (t : List Bool) (i j : Nat) (b : Bool), t[j]? = some b → (w_fs ad M k i t)[j]? = some (w_fv ad M k (i + j) b)
  | [], _, _, _, h => by simp at h
  | c :: t, i, 0, b, h => by
    simp at h
    subst h
    cases c <;> simp [w_fs, w_fv]
  | c :: t, i, j + 1, b, h => by
    simp at h
    have h2 := w_fs_get ad M k t (i + 1) j b h
    cases c <;> simp [w_fs, h2, Nat.add_assoc, Nat.add_comm 1 j]
theorem w_fs_congr (ad ad' : Nat → Nat) (M M' : wM) (k : Nat) (h1 : M'.1 k = M.1 k) (h2 : ∀ i, (M'.2.2 k i).map ad' = (M.2.2 k i).map ad) : ∀ (t : List Bool) (i : Nat), w_fs ad' M' k i t = w_fs ad M k i t
  | [], _ => rfl
  | true :: t, i => by simp only [w_fs, h2, w_fs_congr ad ad' M M' k h1 h2 t (i + 1)]
  | false :: t, i => by simp only [w_fs, h1, w_fs_congr ad ad' M M' k h1 h2 t (i + 1)]
theorem w_fs_set {ad : Nat → Nat} {M M' : wM} {k : Nat} {t : List Bool} {j : Nat} {v : Value} {b : Bool} (hj : t[j]? = some b) (hv : w_fv ad M' k j b = v) (h1 : ∀ i, i ≠ j → M'.1 k i = M.1 k i) (h2 : ∀ i, i ≠ j → M'.2.2 k i = M.2.2 k i) : (w_fs ad M k 0 t).set j v = w_fs ad M' k 0 t := by
  apply List.ext_getElem?
  intro i
  have hl : j < (w_fs ad M k 0 t).length := by rw [w_fs_len]; exact (List.getElem?_eq_some_iff.mp hj).1
  by_cases hi : i = j
  · subst hi
    rw [List.getElem?_set_self hl, w_fs_get ad M' k t 0 i b hj, Nat.zero_add, hv]
  · rw [List.getElem?_set_ne (Ne.symm hi)]
    cases hc : t[i]? with
    | none =>
      have hl2 : t.length ≤ i := by simpa using hc
      rw [List.getElem?_eq_none (by rw [w_fs_len]; exact hl2), List.getElem?_eq_none (by rw [w_fs_len]; exact hl2)]
    | some c =>
      rw [w_fs_get ad M k t 0 i c hc, w_fs_get ad M' k t 0 i c hc]
      cases c <;> simp [w_fv, h1 i hi, h2 i hi]
theorem w_cell_congr {D3 : wD} {ad ad' : Nat → Nat} {M M' : wM} {k : Nat} {s : Nat × Nat} (h1 : M'.1 k = M.1 k) (h2 : M'.2.1 k = M.2.1 k) (h3 : ∀ i, (M'.2.2 k i).map ad' = (M.2.2 k i).map ad) : w_cell D3 ad' M' k s = w_cell D3 ad M k s := by
  simp only [w_cell, h1, h2, w_fs_congr ad ad' M M' k h1 h3]
theorem w_set {D3 : wD} {ad : Nat → Nat} {sh : wSh} {M M' : wM} {k : Nat} {s : Nat × Nat} {e : va_E} (h : sh[k]? = some s) (he : e = w_cell D3 ad M' k s) (ho : ∀ j, j ≠ k → M'.1 j = M.1 j ∧ M'.2.1 j = M.2.1 j ∧ M'.2.2 j = M.2.2 j) : (w_W D3 ad sh M).set k (ad k, e) = w_W D3 ad sh M' := by
  apply List.ext_getElem?
  intro i
  have hl : k < (w_W D3 ad sh M).length := by rw [w_len]; exact (List.getElem?_eq_some_iff.mp h).1
  by_cases hi : i = k
  · subst hi
    rw [List.getElem?_set_self hl, w_get h, he]
  · rw [List.getElem?_set_ne (Ne.symm hi)]
    cases hc : sh[i]? with
    | none =>
      have hl2 : sh.length ≤ i := by simpa using hc
      rw [List.getElem?_eq_none (by rw [w_len]; exact hl2), List.getElem?_eq_none (by rw [w_len]; exact hl2)]
    | some c =>
      obtain ⟨o1, o2, o3⟩ := ho i hi
      rw [w_get hc, w_get hc, w_cell_congr o1 o2 (fun j => by rw [o3])]
/-- references lie within -/
def w_wf (sh : wSh) (M : wM) : Prop := ∀ k i j, M.2.2 k i = some j → j < sh.length
theorem w_push {D3 : wD} {ad : Nat → Nat} {sh : wSh} {M M' : wM} {s : Nat × Nat} {q : Nat} {e : va_E} (hw : w_wf sh M) (ho : ∀ j, j < sh.length → M'.1 j = M.1 j ∧ M'.2.1 j = M.2.1 j ∧ M'.2.2 j = M.2.2 j) (he : e = w_cell D3 (va_up ad sh.length q) M' sh.length s) : w_W D3 ad sh M ++ [(q, e)] = w_W D3 (va_up ad sh.length q) (sh ++ [s]) M' := by
  apply List.ext_getElem?
  intro i
  by_cases hi : i < sh.length
  · rw [List.getElem?_append_left (by rw [w_len]; exact hi)]
    cases hc : sh[i]? with
    | none => rw [List.getElem?_eq_none_iff] at hc; omega
    | some c =>
      rw [w_get hc, w_get (sh := sh ++ [s]) (by rw [List.getElem?_append_left hi]; exact hc)]
      obtain ⟨o1, o2, o3⟩ := ho i hi
      have e1 : va_up ad sh.length q i = ad i := by simp [va_up, Nat.ne_of_lt hi]
      rw [e1, w_cell_congr (ad := ad) o1 o2 (fun j => by
        rw [o3]
        cases hr : M.2.2 i j with
        | none => rfl
        | some x =>
          have hx : x < sh.length := hw i j x hr
          simp [va_up, Nat.ne_of_lt hx])]
  · by_cases h2 : i = sh.length
    · subst h2
      rw [w_get (sh := sh ++ [s]) (s := s) (by simp), List.getElem?_append_right (by rw [w_len]; exact Nat.le_refl _), w_len, Nat.sub_self]
      simp [va_up, he]
    · rw [List.getElem?_eq_none (by simp [w_len]; omega), List.getElem?_eq_none (by rw [w_len]; simp; omega)]
theorem w_addr {D3 : wD} {ad : Nat → Nat} {sh : wSh} {M : wM} {k : Nat} {q : Nat × va_E} (h : (w_W D3 ad sh M)[k]? = some q) : k < sh.length ∧ q.1 = ad k := by
  have hl : k < sh.length := by
    have h1 := (List.getElem?_eq_some_iff.mp h).1
    rw [w_len] at h1
    exact h1
  rw [w_get (List.getElem?_eq_getElem hl)] at h
  cases h
  exact ⟨hl, rfl⟩
/-- the words of calls of a nest mate's private methods hold -/
def w_nw (U : State) : Prop := ∀ q ∈ w_nest, va_Nw (.methodLinkNest q.1 q.2.1 q.2.2.1 q.2.2.2) U
theorem w_nw.warm {s U : State} (hW : s.WarmedH U.vm) (h : w_nw s) : w_nw U := fun q hq => va_Nw.warmM hW (h q hq)
theorem w_nw.same {u U : State} (hv : u.vm = U.vm) (h : w_nw u) : w_nw U := fun q hq => va_Nw.same rfl hv (h q hq)
end
section
/-! The judgement Rn: 'from this instruction, with these locals, this stack and this memory, in whatever machine, the method comes to a return with Q'. -/
/-- the number that the law's script has -/
abbrev w_scr : Nat := 9999
def w_sx (sx : Option (Nat × (Nat → Int32) × Nat)) (A : Nat → Prop) (s : State) : Prop := match sx with
  | none => True
  | some q => va_X q.2.2 q.1 q.2.1 s s.heap ∧ q.2.2 < s.heap.size ∧ ¬ A q.2.2
def w_sa (sx : Option (Nat × (Nat → Int32) × Nat)) (ad : Nat → Nat) : Prop := match sx with
  | none => True
  | some q => ad w_scr = q.2.2
def w_C (K : wK) (sx : Option (Nat × (Nat → Int32) × Nat)) (p : Program) (s : State) (m : MethodId) (args : Array Value) (meth : Method) (c : Code) (A : Nat → Prop) (D3 : wD) (D : va_G) : Prop :=
  p.tables.exec = Jvm.exec ∧ c.code = K.2.1 ∧ c.maxLocals = K.2.2.1 ∧ s.vm.findClass K.1.cls = some m.cls ∧ (∀ w ∈ lw_g, w.before args s = true) ∧ va_K D vwCl (w_ty D3) s ∧ (∀ q, s.heap.size ≤ q → A q) ∧ w_nw s ∧ meth.name = K.1.name ∧ w_sx sx A s
/-- the locals: the listed ones are held -/
def w_L (nL : Nat) (ad : Nat → Nat) (lv : List (Option Value)) (ls : Array Slot) : Prop := ls.size = nL ∧ lv_wf ls ∧ ∀ (i : Nat) (v : Value), lv[i]? = some (some v) → ls[i]? = some (.val (w_cv ad v))
def w_S (K : wK) (sx : Option (Nat × (Nat → Int32) × Nat)) (s : State) (A : Nat → Prop) (D3 : wD) (D : va_G) (ad : Nat → Nat) (sh : wSh) (M : wM) (H : Heap) (locs : List Loc) (lv : List (Option Value)) (ls : Array Slot) (cs : Nat × Nat) : Prop :=
  va_P D vwCl (w_W D3 ad sh M) H ∧ va_D A (w_W D3 ad sh M) ∧ va_S A s.heap H locs ∧ w_L K.2.2.1 ad lv ls ∧ (cs.1 ≤ K.2.2.2.2.cells ∧ cs.2 ≤ K.2.2.2.2.slots) ∧ w_wf sh M ∧ w_sa sx ad
/-- the numbering grows -/
def w_X (ad : Nat → Nat) (sh : wSh) (ad' : Nat → Nat) (sh' : wSh) : Prop := (∀ k, k < sh.length → ad' k = ad k) ∧ ad' w_scr = ad w_scr ∧ sh.length ≤ sh'.length ∧ (sh'.length = sh.length → ad' = ad)
theorem w_X.rf {ad : Nat → Nat} {sh : wSh} : w_X ad sh ad sh := ⟨fun _ _ => rfl, rfl, Nat.le_refl _, fun _ => rfl⟩
theorem w_X.tr {a b c : Nat → Nat} {x y z : wSh} (h1 : w_X a x b y) (h2 : w_X b y c z) : w_X a x c z :=
  ⟨fun k hk => (h2.1 k (Nat.lt_of_lt_of_le hk h1.2.2.1)).trans (h1.1 k hk), h2.2.1.trans h1.2.1, Nat.le_trans h1.2.2.1 h2.2.2.1, fun h => by
    have e1 := h1.2.2.1
    have e2 := h2.2.2.1
    rw [h2.2.2.2 (by omega), h1.2.2.2 (by omega)]⟩
/-- a return instruction that fits the answer -/
def w_rt (K : wK) (v : Option Value) (pc : Nat) : Prop := match v with
  | none => decode K.2.1 pc = .ok (.return_, 1) ∧ K.2.2.2.1 = none
  | some (.int x) => decode K.2.1 pc = .ok (.ireturn, 1) ∧ ∃ ty, K.2.2.2.1 = some ty ∧ narrow ty (.int x) = .int x
  | some (.long _) => decode K.2.1 pc = .ok (.lreturn, 1) ∧ K.2.2.2.1 = some .long
  | some (.ref _) => decode K.2.1 pc = .ok (.areturn, 1) ∧ ∃ n, K.2.2.2.1 = some (.object n)
  | _ => False
def w_E (K : wK) (sx : Option (Nat × (Nat → Int32) × Nat)) (p : Program) (l : Launch) (e : Env) (s : State) (m : MethodId) (args : Array Value) (below : List Frame) (meth : Method) (c : Code) (A : Nat → Prop) (D3 : wD) (D : va_G) (Qf : State → Prop) (Q : Option Value → wSh → wM → Nat × Nat → Prop) (ad : Nat → Nat) (sh : wSh) : Prop :=
  ∀ (v : Option Value) (sh' : wSh) (M' : wM) (cs' : Nat × Nat) (ad' : Nat → Nat) (H' : Heap) (locs' : List Loc) (pc' : Nat) (ls' : Array Slot), Q v sh' M' cs' → w_X ad sh ad' sh' → va_P D vwCl (w_W D3 ad' sh' M') H' → va_D A (w_W D3 ad' sh' M') → va_S A s.heap H' locs' → w_wf sh' M' → w_rt K v pc' →
    W p l e K.2.2.2.2 s m args below meth c H' locs' cs'.1 cs'.2 Qf (F0 m pc' ls' (v.map (w_cv ad')).toList)
theorem w_E.mv {K : wK} {sx : Option (Nat × (Nat → Int32) × Nat)} {p : Program} {l : Launch} {e : Env} {s : State} {m : MethodId} {args : Array Value} {below : List Frame} {meth : Method} {c : Code} {A : Nat → Prop} {D3 : wD} {D : va_G} {Qf : State → Prop} {Q : Option Value → wSh → wM → Nat × Nat → Prop} {ad ad' : Nat → Nat} {sh sh' : wSh} (h : w_E K sx p l e s m args below meth c A D3 D Qf Q ad sh) (hx : w_X ad sh ad' sh') : w_E K sx p l e s m args below meth c A D3 D Qf Q ad' sh' :=
  fun v sh2 M2 cs2 ad2 H2 locs2 pc2 ls2 hq h2 hP hD hS hw hr => h v sh2 M2 cs2 ad2 H2 locs2 pc2 ls2 hq (hx.tr h2) hP hD hS hw hr
def Rn (K : wK) (sx : Option (Nat × (Nat → Int32) × Nat)) (cs : Nat × Nat) (pc : Nat) (lv : List (Option Value)) (st : List Value) (sh : wSh) (M : wM) (Q : Option Value → wSh → wM → Nat × Nat → Prop) : Prop :=
  ∀ (p : Program) (l : Launch) (e : Env) (s : State) (m : MethodId) (args : Array Value) (below : List Frame) (meth : Method) (c : Code) (A : Nat → Prop) (D3 : wD) (D : va_G) (Qf : State → Prop) (ad : Nat → Nat) (H : Heap) (locs : List Loc) (ls : Array Slot),
    w_C K sx p s m args meth c A D3 D → w_S K sx s A D3 D ad sh M H locs lv ls cs → w_E K sx p l e s m args below meth c A D3 D Qf Q ad sh →
    W p l e K.2.2.2.2 s m args below meth c H locs cs.1 cs.2 Qf (F0 m pc ls (st.map (w_cv ad)))
/-! the locals -/
def w_pr (ad : Nat → Nat) : Nat → List (Option Value) → List (Nat × Value)
  | _, [] => []
  | i, none :: t => w_pr ad (i + 1) t
  | i, some v :: t => (i, w_cv ad v) :: w_pr ad (i + 1) t
theorem w_pr_mem (ad : Nat → Nat) : ∀ (lv : List (Option Value)) (i : Nat) (q : Nat × Value), q ∈ w_pr ad i lv ↔ ∃ j v, lv[j]? = some (some v) ∧ q = (i + j, w_cv ad v)
  | [], i, q => by simp [w_pr]
  | none :: t, i, q => by
    rw [w_pr, w_pr_mem ad t (i + 1) q]
    constructor
    · rintro ⟨j, v, h, rfl⟩
      exact ⟨j + 1, v, by simpa using h, by rw [Nat.add_assoc, Nat.add_comm 1 j]⟩
    · rintro ⟨j, v, h, rfl⟩
      cases j with
      | zero => simp at h
      | succ j => exact ⟨j, v, by simpa using h, by rw [Nat.add_assoc, Nat.add_comm 1 j]⟩
  | some w :: t, i, q => by
    rw [w_pr, List.mem_cons, w_pr_mem ad t (i + 1) q]
    constructor
    · rintro (rfl | ⟨j, v, h, rfl⟩)
      · exact ⟨0, w, by simp, rfl⟩
      · exact ⟨j + 1, v, by simpa using h, by rw [Nat.add_assoc, Nat.add_comm 1 j]⟩
    · rintro ⟨j, v, h, rfl⟩
      cases j with
      | zero => simp at h; subst h; exact Or.inl rfl
      | succ j => exact Or.inr ⟨j, v, by simpa using h, by rw [Nat.add_assoc, Nat.add_comm 1 j]⟩
theorem w_L.has {nL : Nat} {ad : Nat → Nat} {lv : List (Option Value)} {ls : Array Slot} (h : w_L nL ad lv ls) : lv_has ls nL (w_pr ad 0 lv) :=
  ⟨h.1, h.2.1, fun q hq => by
    obtain ⟨j, v, h1, rfl⟩ := (w_pr_mem ad lv 0 q).mp hq
    simpa using h.2.2 j v h1⟩
/-- not the first half of a long or a double -/
def w_n2 : Option Value → Bool
  | some (.long _) => false
  | some (.double _) => false
  | _ => true
theorem w_n2_cat {v : Value} (h : w_n2 (some v) = true) : v.category = 1 := by cases v <;> first | rfl | cases h
theorem w_L.st1 {nL : Nat} {ad : Nat → Nat} {lv lv' : List (Option Value)} {ls' : Array Slot} {i : Nat} {v : Value} (h : lv_has ls' nL ((i, w_cv ad v) :: (w_pr ad 0 lv).filter (fun q => !(q.1 == i) && !(q.1 + 1 == i && q.2.category == 2))))
    (hl : ∀ j w, lv'[j]? = some (some w) → (j = i ∧ w = v) ∨ (j ≠ i ∧ lv[j]? = some (some w) ∧ (j + 1 = i → w.category = 1))) : w_L nL ad lv' ls' := by
  refine ⟨h.1, h.2.1, fun j w hj => ?_⟩
  rcases hl j w hj with ⟨rfl, rfl⟩ | ⟨h1, h2, h3⟩
  · exact h.2.2 (j, w_cv ad w) List.mem_cons_self
  · refine h.2.2 (j, w_cv ad w) (List.mem_cons_of_mem _ (List.mem_filter.mpr ⟨(w_pr_mem ad lv 0 _).mpr ⟨j, w, h2, by simp⟩, ?_⟩))
    by_cases h4 : j + 1 = i
    · have h5 := h3 h4
      simp [h1, w_cv_cat, h5]
    · simp [h1, h4]
theorem w_L.st2 {nL : Nat} {ad : Nat → Nat} {lv lv' : List (Option Value)} {ls' : Array Slot} {i : Nat} {v : Value} (h : lv_has ls' nL ((i, w_cv ad v) :: (w_pr ad 0 lv).filter (fun q => !(q.1 == i) && (!(q.1 == i + 1) && !(q.1 + 1 == i && q.2.category == 2)))))
    (hl : ∀ j w, lv'[j]? = some (some w) → (j = i ∧ w = v) ∨ (j ≠ i ∧ j ≠ i + 1 ∧ lv[j]? = some (some w) ∧ (j + 1 = i → w.category = 1))) : w_L nL ad lv' ls' := by
  refine ⟨h.1, h.2.1, fun j w hj => ?_⟩
  rcases hl j w hj with ⟨rfl, rfl⟩ | ⟨h1, h0, h2, h3⟩
  · exact h.2.2 (j, w_cv ad w) List.mem_cons_self
  · refine h.2.2 (j, w_cv ad w) (List.mem_cons_of_mem _ (List.mem_filter.mpr ⟨(w_pr_mem ad lv 0 _).mpr ⟨j, w, h2, by simp⟩, ?_⟩))
    by_cases h4 : j + 1 = i
    · have h5 := h3 h4
      simp [h1, h0, w_cv_cat, h5]
    · simp [h1, h0, h4]
theorem w_set1 {lv : List (Option Value)} {i : Nat} {v : Value} (hp : i = 0 ∨ ∀ x, lv[i - 1]? = some x → w_n2 x = true) : ∀ j w, (lv.set i (some v))[j]? = some (some w) → (j = i ∧ w = v) ∨ (j ≠ i ∧ lv[j]? = some (some w) ∧ (j + 1 = i → w.category = 1)) := by
  intro j w hj
  by_cases h : j = i
  · subst h
    have hl : j < lv.length := by have := (List.getElem?_eq_some_iff.mp hj).1; simpa using this
    rw [List.getElem?_set_self hl] at hj
    cases hj
    exact Or.inl ⟨rfl, rfl⟩
  · rw [List.getElem?_set_ne (Ne.symm h)] at hj
    refine Or.inr ⟨h, hj, fun e => ?_⟩
    subst e
    rcases hp with hp | hp
    · omega
    · exact w_n2_cat (hp (some w) (by simpa using hj))
theorem w_set2 {lv : List (Option Value)} {i : Nat} {v : Value} (hp : i = 0 ∨ ∀ x, lv[i - 1]? = some x → w_n2 x = true) : ∀ j w, ((lv.set i (some v)).set (i + 1) none)[j]? = some (some w) → (j = i ∧ w = v) ∨ (j ≠ i ∧ j ≠ i + 1 ∧ lv[j]? = some (some w) ∧ (j + 1 = i → w.category = 1)) := by
  intro j w hj
  by_cases h0 : j = i + 1
  · subst h0
    have hl : i + 1 < lv.length := by have := (List.getElem?_eq_some_iff.mp hj).1; simpa using this
    rw [List.getElem?_set_self (by simpa using hl)] at hj
    cases hj
  · rw [List.getElem?_set_ne (Ne.symm h0)] at hj
    rcases w_set1 hp j w hj with h | ⟨h1, h2, h3⟩
    · exact Or.inl h
    · exact Or.inr ⟨h1, h0, h2, h3⟩
end
section
/-! The rows of Rn: one an instruction. -/
section RN
variable {K : wK} {sx : Option (Nat × (Nat → Int32) × Nat)} {cs : Nat × Nat} {pc : Nat} {lv : List (Option Value)} {st : List Value} {sh : wSh} {M : wM} {Q : Option Value → wSh → wM → Nat × Nat → Prop}
theorem Rn.iconst {n : Int} {v : Int32} (hd : decode K.2.1 pc = .ok (.iconst n, 1)) (hv : Int32.ofInt n = v)
    (k : Rn K sx cs (pc + 1) lv (.int v :: st) sh M Q) : Rn K sx cs pc lv (st) sh M Q := by
  intro p l e s m args below meth c A D3 D Qf ad H locs ls hC hS hE
  exact lv_iconst hC.1 hC.2.1 hd hv (k p l e s m args below meth c A D3 D Qf ad H locs ls hC hS hE)
theorem Rn.bipush {n : Int} {v : Int32} (hd : decode K.2.1 pc = .ok (.bipush n, 2)) (hv : (Int8.ofInt n).toInt32 = v)
    (k : Rn K sx cs (pc + 2) lv (.int v :: st) sh M Q) : Rn K sx cs pc lv (st) sh M Q := by
  intro p l e s m args below meth c A D3 D Qf ad H locs ls hC hS hE
  exact lv_bipush hC.1 hC.2.1 hd hv (k p l e s m args below meth c A D3 D Qf ad H locs ls hC hS hE)
theorem Rn.sipush {n : Int} {v : Int32} (hd : decode K.2.1 pc = .ok (.sipush n, 3)) (hv : (Int16.ofInt n).toInt32 = v)
    (k : Rn K sx cs (pc + 3) lv (.int v :: st) sh M Q) : Rn K sx cs pc lv (st) sh M Q := by
  intro p l e s m args below meth c A D3 D Qf ad H locs ls hC hS hE
  exact lv_sipush hC.1 hC.2.1 hd hv (k p l e s m args below meth c A D3 D Qf ad H locs ls hC hS hE)
theorem Rn.lconst {n : Fin 2} {v : Int64} (hd : decode K.2.1 pc = .ok (.lconst n, 1)) (hv : Int64.ofNat (n : Nat) = v)
    (k : Rn K sx cs (pc + 1) lv (.long v :: st) sh M Q) : Rn K sx cs pc lv (st) sh M Q := by
  intro p l e s m args below meth c A D3 D Qf ad H locs ls hC hS hE
  exact lv_lconst hC.1 hC.2.1 hd hv (k p l e s m args below meth c A D3 D Qf ad H locs ls hC hS hE)
theorem Rn.ldc {index : Nat} {v : Int32} (hd : decode K.2.1 pc = .ok (.ldc index, 2)) (hw : Cond.constant K.1.cls index v ∈ lw_g)
    (k : Rn K sx cs (pc + 2) lv (.int v :: st) sh M Q) : Rn K sx cs pc lv (st) sh M Q := by
  intro p l e s m args below meth c A D3 D Qf ad H locs ls hC hS hE
  exact lv_ldc hC.1 hC.2.1 hC.2.2.2.1 (hC.2.2.2.2.1 _ hw) hd (k p l e s m args below meth c A D3 D Qf ad H locs ls hC hS hE)
theorem Rn.ldcw {index : Nat} {v : Int32} (hd : decode K.2.1 pc = .ok (.ldc_w index, 3)) (hw : Cond.constant K.1.cls index v ∈ lw_g)
    (k : Rn K sx cs (pc + 3) lv (.int v :: st) sh M Q) : Rn K sx cs pc lv (st) sh M Q := by
  intro p l e s m args below meth c A D3 D Qf ad H locs ls hC hS hE
  exact lv_ldcw hC.1 hC.2.1 hC.2.2.2.1 (hC.2.2.2.2.1 _ hw) hd (k p l e s m args below meth c A D3 D Qf ad H locs ls hC hS hE)
theorem Rn.ldc2 {index : Nat} {v : Int64} (hd : decode K.2.1 pc = .ok (.ldc2_w index, 3)) (hw : Cond.constantLong K.1.cls index v ∈ lw_g)
    (k : Rn K sx cs (pc + 3) lv (.long v :: st) sh M Q) : Rn K sx cs pc lv (st) sh M Q := by
  intro p l e s m args below meth c A D3 D Qf ad H locs ls hC hS hE
  exact lv_ldc2 hC.1 hC.2.1 hC.2.2.2.1 (hC.2.2.2.2.1 _ hw) hd (k p l e s m args below meth c A D3 D Qf ad H locs ls hC hS hE)
theorem Rn.iload_n {i : Fin 4} {x : Int32} (hd : decode K.2.1 pc = .ok (.iload_n i, 1)) (hl : lv[(i : Nat)]? = some (some (.int x)))
    (k : Rn K sx cs (pc + 1) lv (.int x :: st) sh M Q) : Rn K sx cs pc lv (st) sh M Q := by
  intro p l e s m args below meth c A D3 D Qf ad H locs ls hC hS hE
  exact lv_iload_n hC.1 hC.2.1 hd rfl (hS.2.2.2.1.2.2 _ _ hl) (k p l e s m args below meth c A D3 D Qf ad H locs ls hC hS hE)
theorem Rn.iload {i : Nat} {x : Int32} (hd : decode K.2.1 pc = .ok (.iload i, 2)) (hl : lv[i]? = some (some (.int x)))
    (k : Rn K sx cs (pc + 2) lv (.int x :: st) sh M Q) : Rn K sx cs pc lv (st) sh M Q := by
  intro p l e s m args below meth c A D3 D Qf ad H locs ls hC hS hE
  exact lv_iload hC.1 hC.2.1 hd (hS.2.2.2.1.2.2 _ _ hl) (k p l e s m args below meth c A D3 D Qf ad H locs ls hC hS hE)
theorem Rn.lload_n {i : Fin 4} {x : Int64} (hd : decode K.2.1 pc = .ok (.lload_n i, 1)) (hl : lv[(i : Nat)]? = some (some (.long x)))
    (k : Rn K sx cs (pc + 1) lv (.long x :: st) sh M Q) : Rn K sx cs pc lv (st) sh M Q := by
  intro p l e s m args below meth c A D3 D Qf ad H locs ls hC hS hE
  exact lv_lload_n hC.1 hC.2.1 hd rfl (hS.2.2.2.1.2.2 _ _ hl) (k p l e s m args below meth c A D3 D Qf ad H locs ls hC hS hE)
theorem Rn.lload {i : Nat} {x : Int64} (hd : decode K.2.1 pc = .ok (.lload i, 2)) (hl : lv[i]? = some (some (.long x)))
    (k : Rn K sx cs (pc + 2) lv (.long x :: st) sh M Q) : Rn K sx cs pc lv (st) sh M Q := by
  intro p l e s m args below meth c A D3 D Qf ad H locs ls hC hS hE
  exact lv_lload hC.1 hC.2.1 hd (hS.2.2.2.1.2.2 _ _ hl) (k p l e s m args below meth c A D3 D Qf ad H locs ls hC hS hE)
theorem Rn.aload_n {i : Fin 4} {x : Nat} (hd : decode K.2.1 pc = .ok (.aload_n i, 1)) (hl : lv[(i : Nat)]? = some (some (.ref x)))
    (k : Rn K sx cs (pc + 1) lv (.ref x :: st) sh M Q) : Rn K sx cs pc lv (st) sh M Q := by
  intro p l e s m args below meth c A D3 D Qf ad H locs ls hC hS hE
  exact lv_aload_n hC.1 hC.2.1 hd rfl (hS.2.2.2.1.2.2 _ _ hl) (k p l e s m args below meth c A D3 D Qf ad H locs ls hC hS hE)
theorem Rn.aload {i : Nat} {x : Nat} (hd : decode K.2.1 pc = .ok (.aload i, 2)) (hl : lv[i]? = some (some (.ref x)))
    (k : Rn K sx cs (pc + 2) lv (.ref x :: st) sh M Q) : Rn K sx cs pc lv (st) sh M Q := by
  intro p l e s m args below meth c A D3 D Qf ad H locs ls hC hS hE
  exact lv_aload hC.1 hC.2.1 hd (hS.2.2.2.1.2.2 _ _ hl) (k p l e s m args below meth c A D3 D Qf ad H locs ls hC hS hE)
theorem Rn.istore_n {i : Fin 4} {x : Int32} {lv1 : List (Option Value)} (hd : decode K.2.1 pc = .ok (.istore_n i, 1)) (hn : (i : Nat) < K.2.2.1) (hp : (i : Nat) = 0 ∨ ∀ x, lv[(i : Nat) - 1]? = some x → w_n2 x = true) (he : lv.set (i : Nat) (some (.int x)) = lv1)
    (k : Rn K sx cs (pc + 1) lv1 (st) sh M Q) : Rn K sx cs pc lv (.int x :: st) sh M Q := by
  intro p l e s m args below meth c A D3 D Qf ad H locs ls hC hS hE
  have hn : (i : Nat) < K.2.2.1 := hn
  refine lv_istore_n (lv' := _) hC.1 hC.2.1 hd rfl hS.2.2.2.1.has hn rfl (fun ls' hl => ?_)
  exact k p l e s m args below meth c A D3 D Qf ad H locs ls' hC ⟨hS.1, hS.2.1, hS.2.2.1, w_L.st1 (v := .int x) hl (fun j w hj => by subst he; exact w_set1 hp j w hj), hS.2.2.2.2⟩ hE
theorem Rn.istore {i : Nat} {x : Int32} {lv1 : List (Option Value)} (hd : decode K.2.1 pc = .ok (.istore i, 2)) (hn : i < K.2.2.1) (hp : i = 0 ∨ ∀ x, lv[i - 1]? = some x → w_n2 x = true) (he : lv.set i (some (.int x)) = lv1)
    (k : Rn K sx cs (pc + 2) lv1 (st) sh M Q) : Rn K sx cs pc lv (.int x :: st) sh M Q := by
  intro p l e s m args below meth c A D3 D Qf ad H locs ls hC hS hE
  have hn : i < K.2.2.1 := hn
  refine lv_istore (lv' := _) hC.1 hC.2.1 hd hS.2.2.2.1.has hn rfl (fun ls' hl => ?_)
  exact k p l e s m args below meth c A D3 D Qf ad H locs ls' hC ⟨hS.1, hS.2.1, hS.2.2.1, w_L.st1 (v := .int x) hl (fun j w hj => by subst he; exact w_set1 hp j w hj), hS.2.2.2.2⟩ hE
theorem Rn.astore_n {i : Fin 4} {x : Nat} {lv1 : List (Option Value)} (hd : decode K.2.1 pc = .ok (.astore_n i, 1)) (hn : (i : Nat) < K.2.2.1) (hp : (i : Nat) = 0 ∨ ∀ x, lv[(i : Nat) - 1]? = some x → w_n2 x = true) (he : lv.set (i : Nat) (some (.ref x)) = lv1)
    (k : Rn K sx cs (pc + 1) lv1 (st) sh M Q) : Rn K sx cs pc lv (.ref x :: st) sh M Q := by
  intro p l e s m args below meth c A D3 D Qf ad H locs ls hC hS hE
  have hn : (i : Nat) < K.2.2.1 := hn
  refine lv_astore_n (lv' := _) hC.1 hC.2.1 hd rfl hS.2.2.2.1.has hn rfl (fun ls' hl => ?_)
  exact k p l e s m args below meth c A D3 D Qf ad H locs ls' hC ⟨hS.1, hS.2.1, hS.2.2.1, w_L.st1 (v := .ref x) hl (fun j w hj => by subst he; exact w_set1 hp j w hj), hS.2.2.2.2⟩ hE
theorem Rn.astore {i : Nat} {x : Nat} {lv1 : List (Option Value)} (hd : decode K.2.1 pc = .ok (.astore i, 2)) (hn : i < K.2.2.1) (hp : i = 0 ∨ ∀ x, lv[i - 1]? = some x → w_n2 x = true) (he : lv.set i (some (.ref x)) = lv1)
    (k : Rn K sx cs (pc + 2) lv1 (st) sh M Q) : Rn K sx cs pc lv (.ref x :: st) sh M Q := by
  intro p l e s m args below meth c A D3 D Qf ad H locs ls hC hS hE
  have hn : i < K.2.2.1 := hn
  refine lv_astore (lv' := _) hC.1 hC.2.1 hd hS.2.2.2.1.has hn rfl (fun ls' hl => ?_)
  exact k p l e s m args below meth c A D3 D Qf ad H locs ls' hC ⟨hS.1, hS.2.1, hS.2.2.1, w_L.st1 (v := .ref x) hl (fun j w hj => by subst he; exact w_set1 hp j w hj), hS.2.2.2.2⟩ hE
theorem Rn.lstore_n {i : Fin 4} {x : Int64} {lv1 : List (Option Value)} (hd : decode K.2.1 pc = .ok (.lstore_n i, 1)) (hn : (i : Nat) + 1 < K.2.2.1) (hp : (i : Nat) = 0 ∨ ∀ x, lv[(i : Nat) - 1]? = some x → w_n2 x = true) (he : (lv.set (i : Nat) (some (.long x))).set ((i : Nat) + 1) none = lv1)
    (k : Rn K sx cs (pc + 1) lv1 (st) sh M Q) : Rn K sx cs pc lv (.long x :: st) sh M Q := by
  intro p l e s m args below meth c A D3 D Qf ad H locs ls hC hS hE
  have hn : (i : Nat) + 1 < K.2.2.1 := hn
  refine lv_lstore_n (lv' := _) hC.1 hC.2.1 hd rfl hS.2.2.2.1.has hn rfl (fun ls' hl => ?_)
  exact k p l e s m args below meth c A D3 D Qf ad H locs ls' hC ⟨hS.1, hS.2.1, hS.2.2.1, w_L.st2 (v := .long x) hl (fun j w hj => by subst he; exact w_set2 hp j w hj), hS.2.2.2.2⟩ hE
theorem Rn.lstore {i : Nat} {x : Int64} {lv1 : List (Option Value)} (hd : decode K.2.1 pc = .ok (.lstore i, 2)) (hn : i + 1 < K.2.2.1) (hp : i = 0 ∨ ∀ x, lv[i - 1]? = some x → w_n2 x = true) (he : (lv.set i (some (.long x))).set (i + 1) none = lv1)
    (k : Rn K sx cs (pc + 2) lv1 (st) sh M Q) : Rn K sx cs pc lv (.long x :: st) sh M Q := by
  intro p l e s m args below meth c A D3 D Qf ad H locs ls hC hS hE
  have hn : i + 1 < K.2.2.1 := hn
  refine lv_lstore (lv' := _) hC.1 hC.2.1 hd hS.2.2.2.1.has hn rfl (fun ls' hl => ?_)
  exact k p l e s m args below meth c A D3 D Qf ad H locs ls' hC ⟨hS.1, hS.2.1, hS.2.2.1, w_L.st2 (v := .long x) hl (fun j w hj => by subst he; exact w_set2 hp j w hj), hS.2.2.2.2⟩ hE
theorem Rn.iinc {i : Nat} {n : Int} {x v : Int32} {lv1 : List (Option Value)} (hd : decode K.2.1 pc = .ok (.iinc i n, 3)) (hx : lv[i]? = some (some (.int x))) (hv : x + Int32.ofInt n = v) (hn : i < K.2.2.1) (hp : i = 0 ∨ ∀ x, lv[i - 1]? = some x → w_n2 x = true) (he : lv.set i (some (.int v)) = lv1)
    (k : Rn K sx cs (pc + 3) lv1 (st) sh M Q) : Rn K sx cs pc lv (st) sh M Q := by
  intro p l e s m args below meth c A D3 D Qf ad H locs ls hC hS hE
  have hh := hS.2.2.2.1.has
  have hm : (i, Value.int x) ∈ w_pr ad 0 lv := (w_pr_mem ad lv 0 _).mpr ⟨i, .int x, hx, by simp [w_cv]⟩
  obtain ⟨kx, hk⟩ := List.getElem?_of_mem hm
  have hn : i < K.2.2.1 := hn
  refine lv_iinc (lv' := _) hC.1 hC.2.1 hd hh hk hv hn rfl (fun ls' hl => ?_)
  exact k p l e s m args below meth c A D3 D Qf ad H locs ls' hC ⟨hS.1, hS.2.1, hS.2.2.1, w_L.st1 (v := .int v) hl (fun j w hj => by subst he; exact w_set1 hp j w hj), hS.2.2.2.2⟩ hE
theorem Rn.iadd {x y : Int32} (hd : decode K.2.1 pc = .ok (.iadd, 1))
    (k : Rn K sx cs (pc + 1) lv (.int (x + y) :: st) sh M Q) : Rn K sx cs pc lv (.int y :: .int x :: st) sh M Q := by
  intro p l e s m args below meth c A D3 D Qf ad H locs ls hC hS hE
  exact lv_iadd hC.1 hC.2.1 hd (k p l e s m args below meth c A D3 D Qf ad H locs ls hC hS hE)
theorem Rn.isub {x y : Int32} (hd : decode K.2.1 pc = .ok (.isub, 1))
    (k : Rn K sx cs (pc + 1) lv (.int (x - y) :: st) sh M Q) : Rn K sx cs pc lv (.int y :: .int x :: st) sh M Q := by
  intro p l e s m args below meth c A D3 D Qf ad H locs ls hC hS hE
  exact lv_isub hC.1 hC.2.1 hd (k p l e s m args below meth c A D3 D Qf ad H locs ls hC hS hE)
theorem Rn.imul {x y : Int32} (hd : decode K.2.1 pc = .ok (.imul, 1))
    (k : Rn K sx cs (pc + 1) lv (.int (x * y) :: st) sh M Q) : Rn K sx cs pc lv (.int y :: .int x :: st) sh M Q := by
  intro p l e s m args below meth c A D3 D Qf ad H locs ls hC hS hE
  exact lv_imul hC.1 hC.2.1 hd (k p l e s m args below meth c A D3 D Qf ad H locs ls hC hS hE)
theorem Rn.iand {x y : Int32} (hd : decode K.2.1 pc = .ok (.iand, 1))
    (k : Rn K sx cs (pc + 1) lv (.int (x &&& y) :: st) sh M Q) : Rn K sx cs pc lv (.int y :: .int x :: st) sh M Q := by
  intro p l e s m args below meth c A D3 D Qf ad H locs ls hC hS hE
  exact lv_iand hC.1 hC.2.1 hd (k p l e s m args below meth c A D3 D Qf ad H locs ls hC hS hE)
theorem Rn.ior {x y : Int32} (hd : decode K.2.1 pc = .ok (.ior, 1))
    (k : Rn K sx cs (pc + 1) lv (.int (x ||| y) :: st) sh M Q) : Rn K sx cs pc lv (.int y :: .int x :: st) sh M Q := by
  intro p l e s m args below meth c A D3 D Qf ad H locs ls hC hS hE
  exact lv_ior hC.1 hC.2.1 hd (k p l e s m args below meth c A D3 D Qf ad H locs ls hC hS hE)
theorem Rn.ixor {x y : Int32} (hd : decode K.2.1 pc = .ok (.ixor, 1))
    (k : Rn K sx cs (pc + 1) lv (.int (x ^^^ y) :: st) sh M Q) : Rn K sx cs pc lv (.int y :: .int x :: st) sh M Q := by
  intro p l e s m args below meth c A D3 D Qf ad H locs ls hC hS hE
  exact lv_ixor hC.1 hC.2.1 hd (k p l e s m args below meth c A D3 D Qf ad H locs ls hC hS hE)
theorem Rn.ishl {x y : Int32} (hd : decode K.2.1 pc = .ok (.ishl, 1))
    (k : Rn K sx cs (pc + 1) lv (.int (x <<< (y &&& 31)) :: st) sh M Q) : Rn K sx cs pc lv (.int y :: .int x :: st) sh M Q := by
  intro p l e s m args below meth c A D3 D Qf ad H locs ls hC hS hE
  exact lv_ishl hC.1 hC.2.1 hd (k p l e s m args below meth c A D3 D Qf ad H locs ls hC hS hE)
theorem Rn.ishr {x y : Int32} (hd : decode K.2.1 pc = .ok (.ishr, 1))
    (k : Rn K sx cs (pc + 1) lv (.int (x >>> (y &&& 31)) :: st) sh M Q) : Rn K sx cs pc lv (.int y :: .int x :: st) sh M Q := by
  intro p l e s m args below meth c A D3 D Qf ad H locs ls hC hS hE
  exact lv_ishr hC.1 hC.2.1 hd (k p l e s m args below meth c A D3 D Qf ad H locs ls hC hS hE)
theorem Rn.iushr {x y v : Int32} (hd : decode K.2.1 pc = .ok (.iushr, 1)) (hv : (x.toUInt32 >>> (y.toUInt32 &&& Int32.toUInt32 31)).toInt32 = v)
    (k : Rn K sx cs (pc + 1) lv (.int v :: st) sh M Q) : Rn K sx cs pc lv (.int y :: .int x :: st) sh M Q := by
  intro p l e s m args below meth c A D3 D Qf ad H locs ls hC hS hE
  exact lv_iushr hC.1 hC.2.1 hd hv (k p l e s m args below meth c A D3 D Qf ad H locs ls hC hS hE)
theorem Rn.idiv {x y : Int32} (hd : decode K.2.1 pc = .ok (.idiv, 1)) (hne : ¬ y = 0)
    (k : Rn K sx cs (pc + 1) lv (.int (x / y) :: st) sh M Q) : Rn K sx cs pc lv (.int y :: .int x :: st) sh M Q := by
  intro p l e s m args below meth c A D3 D Qf ad H locs ls hC hS hE
  exact lv_idiv hC.1 hC.2.1 hd hne (k p l e s m args below meth c A D3 D Qf ad H locs ls hC hS hE)
theorem Rn.irem {x y : Int32} (hd : decode K.2.1 pc = .ok (.irem, 1)) (hne : ¬ y = 0)
    (k : Rn K sx cs (pc + 1) lv (.int (x - x / y * y) :: st) sh M Q) : Rn K sx cs pc lv (.int y :: .int x :: st) sh M Q := by
  intro p l e s m args below meth c A D3 D Qf ad H locs ls hC hS hE
  exact lv_irem hC.1 hC.2.1 hd hne (k p l e s m args below meth c A D3 D Qf ad H locs ls hC hS hE)
theorem Rn.ladd {x y : Int64} (hd : decode K.2.1 pc = .ok (.ladd, 1))
    (k : Rn K sx cs (pc + 1) lv (.long (x + y) :: st) sh M Q) : Rn K sx cs pc lv (.long y :: .long x :: st) sh M Q := by
  intro p l e s m args below meth c A D3 D Qf ad H locs ls hC hS hE
  exact lv_ladd hC.1 hC.2.1 hd (k p l e s m args below meth c A D3 D Qf ad H locs ls hC hS hE)
theorem Rn.lsub {x y : Int64} (hd : decode K.2.1 pc = .ok (.lsub, 1))
    (k : Rn K sx cs (pc + 1) lv (.long (x - y) :: st) sh M Q) : Rn K sx cs pc lv (.long y :: .long x :: st) sh M Q := by
  intro p l e s m args below meth c A D3 D Qf ad H locs ls hC hS hE
  exact lv_lsub hC.1 hC.2.1 hd (k p l e s m args below meth c A D3 D Qf ad H locs ls hC hS hE)
theorem Rn.lmul {x y : Int64} (hd : decode K.2.1 pc = .ok (.lmul, 1))
    (k : Rn K sx cs (pc + 1) lv (.long (x * y) :: st) sh M Q) : Rn K sx cs pc lv (.long y :: .long x :: st) sh M Q := by
  intro p l e s m args below meth c A D3 D Qf ad H locs ls hC hS hE
  exact lv_lmul hC.1 hC.2.1 hd (k p l e s m args below meth c A D3 D Qf ad H locs ls hC hS hE)
theorem Rn.ldiv {x y : Int64} (hd : decode K.2.1 pc = .ok (.ldiv, 1)) (hne : ¬ y = 0)
    (k : Rn K sx cs (pc + 1) lv (.long (x / y) :: st) sh M Q) : Rn K sx cs pc lv (.long y :: .long x :: st) sh M Q := by
  intro p l e s m args below meth c A D3 D Qf ad H locs ls hC hS hE
  exact lv_ldiv hC.1 hC.2.1 hd hne (k p l e s m args below meth c A D3 D Qf ad H locs ls hC hS hE)
theorem Rn.lrem {x y : Int64} (hd : decode K.2.1 pc = .ok (.lrem, 1)) (hne : ¬ y = 0)
    (k : Rn K sx cs (pc + 1) lv (.long (x - x / y * y) :: st) sh M Q) : Rn K sx cs pc lv (.long y :: .long x :: st) sh M Q := by
  intro p l e s m args below meth c A D3 D Qf ad H locs ls hC hS hE
  exact lv_lrem hC.1 hC.2.1 hd hne (k p l e s m args below meth c A D3 D Qf ad H locs ls hC hS hE)
theorem Rn.i2l {x : Int32} (hd : decode K.2.1 pc = .ok (.i2l, 1))
    (k : Rn K sx cs (pc + 1) lv (.long x.toInt64 :: st) sh M Q) : Rn K sx cs pc lv (.int x :: st) sh M Q := by
  intro p l e s m args below meth c A D3 D Qf ad H locs ls hC hS hE
  exact lv_i2l hC.1 hC.2.1 hd rfl (k p l e s m args below meth c A D3 D Qf ad H locs ls hC hS hE)
theorem Rn.lcmp {x y : Int64} (hd : decode K.2.1 pc = .ok (.lcmp, 1))
    (k : Rn K sx cs (pc + 1) lv (.int (lg_cmp x y) :: st) sh M Q) : Rn K sx cs pc lv (.long y :: .long x :: st) sh M Q := by
  intro p l e s m args below meth c A D3 D Qf ad H locs ls hC hS hE
  exact W.lcmp hC.1 hC.2.1 hd (k p l e s m args below meth c A D3 D Qf ad H locs ls hC hS hE)
theorem Rn.dup {a : Value} (hd : decode K.2.1 pc = .ok (.dup, 1)) (ha : a.category = 1)
    (k : Rn K sx cs (pc + 1) lv (a :: a :: st) sh M Q) : Rn K sx cs pc lv (a :: st) sh M Q := by
  intro p l e s m args below meth c A D3 D Qf ad H locs ls hC hS hE
  exact lv_dup hC.1 hC.2.1 hd ((w_cv_cat ad a).trans ha) (k p l e s m args below meth c A D3 D Qf ad H locs ls hC hS hE)
theorem Rn.dup2 {a b : Value} (hd : decode K.2.1 pc = .ok (.dup2, 1)) (ha : a.category = 1) (hb : b.category = 1)
    (k : Rn K sx cs (pc + 1) lv (a :: b :: a :: b :: st) sh M Q) : Rn K sx cs pc lv (a :: b :: st) sh M Q := by
  intro p l e s m args below meth c A D3 D Qf ad H locs ls hC hS hE
  exact lv_dup2_11 hC.1 hC.2.1 hd ((w_cv_cat ad a).trans ha) ((w_cv_cat ad b).trans hb) (k p l e s m args below meth c A D3 D Qf ad H locs ls hC hS hE)
theorem Rn.pop {a : Value} (hd : decode K.2.1 pc = .ok (.pop, 1)) (ha : a.category = 1)
    (k : Rn K sx cs (pc + 1) lv (st) sh M Q) : Rn K sx cs pc lv (a :: st) sh M Q := by
  intro p l e s m args below meth c A D3 D Qf ad H locs ls hC hS hE
  exact lv_pop hC.1 hC.2.1 hd ((w_cv_cat ad a).trans ha) (k p l e s m args below meth c A D3 D Qf ad H locs ls hC hS hE)
theorem Rn.goto {off : Int} {tgt : Nat} (hd : decode K.2.1 pc = .ok (.goto off, 3)) (ht : (pc : Int) + off = (tgt : Int))
    (k : Rn K sx cs tgt lv (st) sh M Q) : Rn K sx cs pc lv (st) sh M Q := by
  intro p l e s m args below meth c A D3 D Qf ad H locs ls hC hS hE
  exact lv_goto hC.1 hC.2.1 hd ht (k p l e s m args below meth c A D3 D Qf ad H locs ls hC hS hE)
theorem Rn.if_eq {x : Int32} {off : Int} {tgt : Nat} (hd : decode K.2.1 pc = .ok (.ifCond .eq off, 3)) (ht : (pc : Int) + off = (tgt : Int))
    (kt : x = 0 → Rn K sx cs tgt lv st sh M Q) (kf : ¬ x = 0 → Rn K sx cs (pc + 3) lv st sh M Q) : Rn K sx cs pc lv (.int x :: st) sh M Q := by
  intro p l e s m args below meth c A D3 D Qf ad H locs ls hC hS hE
  exact lv_if_eq hC.1 hC.2.1 hd ht (fun h => kt h p l e s m args below meth c A D3 D Qf ad H locs ls hC hS hE) (fun h => kf h p l e s m args below meth c A D3 D Qf ad H locs ls hC hS hE)
theorem Rn.if_ne {x : Int32} {off : Int} {tgt : Nat} (hd : decode K.2.1 pc = .ok (.ifCond .ne off, 3)) (ht : (pc : Int) + off = (tgt : Int))
    (kt : ¬ x = 0 → Rn K sx cs tgt lv st sh M Q) (kf : x = 0 → Rn K sx cs (pc + 3) lv st sh M Q) : Rn K sx cs pc lv (.int x :: st) sh M Q := by
  intro p l e s m args below meth c A D3 D Qf ad H locs ls hC hS hE
  exact lv_if_ne hC.1 hC.2.1 hd ht (fun h => kt h p l e s m args below meth c A D3 D Qf ad H locs ls hC hS hE) (fun h => kf h p l e s m args below meth c A D3 D Qf ad H locs ls hC hS hE)
theorem Rn.if_lt {x : Int32} {off : Int} {tgt : Nat} (hd : decode K.2.1 pc = .ok (.ifCond .lt off, 3)) (ht : (pc : Int) + off = (tgt : Int))
    (kt : x < 0 → Rn K sx cs tgt lv st sh M Q) (kf : ¬ x < 0 → Rn K sx cs (pc + 3) lv st sh M Q) : Rn K sx cs pc lv (.int x :: st) sh M Q := by
  intro p l e s m args below meth c A D3 D Qf ad H locs ls hC hS hE
  exact lv_if_lt hC.1 hC.2.1 hd ht (fun h => kt h p l e s m args below meth c A D3 D Qf ad H locs ls hC hS hE) (fun h => kf h p l e s m args below meth c A D3 D Qf ad H locs ls hC hS hE)
theorem Rn.if_ge {x : Int32} {off : Int} {tgt : Nat} (hd : decode K.2.1 pc = .ok (.ifCond .ge off, 3)) (ht : (pc : Int) + off = (tgt : Int))
    (kt : 0 ≤ x → Rn K sx cs tgt lv st sh M Q) (kf : ¬ 0 ≤ x → Rn K sx cs (pc + 3) lv st sh M Q) : Rn K sx cs pc lv (.int x :: st) sh M Q := by
  intro p l e s m args below meth c A D3 D Qf ad H locs ls hC hS hE
  exact lv_if_ge hC.1 hC.2.1 hd ht (fun h => kt h p l e s m args below meth c A D3 D Qf ad H locs ls hC hS hE) (fun h => kf h p l e s m args below meth c A D3 D Qf ad H locs ls hC hS hE)
theorem Rn.if_gt {x : Int32} {off : Int} {tgt : Nat} (hd : decode K.2.1 pc = .ok (.ifCond .gt off, 3)) (ht : (pc : Int) + off = (tgt : Int))
    (kt : 0 < x → Rn K sx cs tgt lv st sh M Q) (kf : ¬ 0 < x → Rn K sx cs (pc + 3) lv st sh M Q) : Rn K sx cs pc lv (.int x :: st) sh M Q := by
  intro p l e s m args below meth c A D3 D Qf ad H locs ls hC hS hE
  exact lv_if_gt hC.1 hC.2.1 hd ht (fun h => kt h p l e s m args below meth c A D3 D Qf ad H locs ls hC hS hE) (fun h => kf h p l e s m args below meth c A D3 D Qf ad H locs ls hC hS hE)
theorem Rn.if_le {x : Int32} {off : Int} {tgt : Nat} (hd : decode K.2.1 pc = .ok (.ifCond .le off, 3)) (ht : (pc : Int) + off = (tgt : Int))
    (kt : x ≤ 0 → Rn K sx cs tgt lv st sh M Q) (kf : ¬ x ≤ 0 → Rn K sx cs (pc + 3) lv st sh M Q) : Rn K sx cs pc lv (.int x :: st) sh M Q := by
  intro p l e s m args below meth c A D3 D Qf ad H locs ls hC hS hE
  exact lv_if_le hC.1 hC.2.1 hd ht (fun h => kt h p l e s m args below meth c A D3 D Qf ad H locs ls hC hS hE) (fun h => kf h p l e s m args below meth c A D3 D Qf ad H locs ls hC hS hE)
theorem Rn.icmp_eq {x y : Int32} {off : Int} {tgt : Nat} (hd : decode K.2.1 pc = .ok (.if_icmp .eq off, 3)) (ht : (pc : Int) + off = (tgt : Int))
    (kt : x = y → Rn K sx cs tgt lv st sh M Q) (kf : ¬ x = y → Rn K sx cs (pc + 3) lv st sh M Q) : Rn K sx cs pc lv (.int y :: .int x :: st) sh M Q := by
  intro p l e s m args below meth c A D3 D Qf ad H locs ls hC hS hE
  exact lv_icmp_eq hC.1 hC.2.1 hd ht (fun h => kt h p l e s m args below meth c A D3 D Qf ad H locs ls hC hS hE) (fun h => kf h p l e s m args below meth c A D3 D Qf ad H locs ls hC hS hE)
theorem Rn.icmp_ne {x y : Int32} {off : Int} {tgt : Nat} (hd : decode K.2.1 pc = .ok (.if_icmp .ne off, 3)) (ht : (pc : Int) + off = (tgt : Int))
    (kt : ¬ x = y → Rn K sx cs tgt lv st sh M Q) (kf : x = y → Rn K sx cs (pc + 3) lv st sh M Q) : Rn K sx cs pc lv (.int y :: .int x :: st) sh M Q := by
  intro p l e s m args below meth c A D3 D Qf ad H locs ls hC hS hE
  exact lv_icmp_ne hC.1 hC.2.1 hd ht (fun h => kt h p l e s m args below meth c A D3 D Qf ad H locs ls hC hS hE) (fun h => kf h p l e s m args below meth c A D3 D Qf ad H locs ls hC hS hE)
theorem Rn.icmp_lt {x y : Int32} {off : Int} {tgt : Nat} (hd : decode K.2.1 pc = .ok (.if_icmp .lt off, 3)) (ht : (pc : Int) + off = (tgt : Int))
    (kt : x < y → Rn K sx cs tgt lv st sh M Q) (kf : ¬ x < y → Rn K sx cs (pc + 3) lv st sh M Q) : Rn K sx cs pc lv (.int y :: .int x :: st) sh M Q := by
  intro p l e s m args below meth c A D3 D Qf ad H locs ls hC hS hE
  exact lv_icmp_lt hC.1 hC.2.1 hd ht (fun h => kt h p l e s m args below meth c A D3 D Qf ad H locs ls hC hS hE) (fun h => kf h p l e s m args below meth c A D3 D Qf ad H locs ls hC hS hE)
theorem Rn.icmp_ge {x y : Int32} {off : Int} {tgt : Nat} (hd : decode K.2.1 pc = .ok (.if_icmp .ge off, 3)) (ht : (pc : Int) + off = (tgt : Int))
    (kt : y ≤ x → Rn K sx cs tgt lv st sh M Q) (kf : ¬ y ≤ x → Rn K sx cs (pc + 3) lv st sh M Q) : Rn K sx cs pc lv (.int y :: .int x :: st) sh M Q := by
  intro p l e s m args below meth c A D3 D Qf ad H locs ls hC hS hE
  exact lv_icmp_ge hC.1 hC.2.1 hd ht (fun h => kt h p l e s m args below meth c A D3 D Qf ad H locs ls hC hS hE) (fun h => kf h p l e s m args below meth c A D3 D Qf ad H locs ls hC hS hE)
theorem Rn.icmp_gt {x y : Int32} {off : Int} {tgt : Nat} (hd : decode K.2.1 pc = .ok (.if_icmp .gt off, 3)) (ht : (pc : Int) + off = (tgt : Int))
    (kt : y < x → Rn K sx cs tgt lv st sh M Q) (kf : ¬ y < x → Rn K sx cs (pc + 3) lv st sh M Q) : Rn K sx cs pc lv (.int y :: .int x :: st) sh M Q := by
  intro p l e s m args below meth c A D3 D Qf ad H locs ls hC hS hE
  exact lv_icmp_gt hC.1 hC.2.1 hd ht (fun h => kt h p l e s m args below meth c A D3 D Qf ad H locs ls hC hS hE) (fun h => kf h p l e s m args below meth c A D3 D Qf ad H locs ls hC hS hE)
theorem Rn.icmp_le {x y : Int32} {off : Int} {tgt : Nat} (hd : decode K.2.1 pc = .ok (.if_icmp .le off, 3)) (ht : (pc : Int) + off = (tgt : Int))
    (kt : x ≤ y → Rn K sx cs tgt lv st sh M Q) (kf : ¬ x ≤ y → Rn K sx cs (pc + 3) lv st sh M Q) : Rn K sx cs pc lv (.int y :: .int x :: st) sh M Q := by
  intro p l e s m args below meth c A D3 D Qf ad H locs ls hC hS hE
  exact lv_icmp_le hC.1 hC.2.1 hd ht (fun h => kt h p l e s m args below meth c A D3 D Qf ad H locs ls hC hS hE) (fun h => kf h p l e s m args below meth c A D3 D Qf ad H locs ls hC hS hE)
theorem Rn.tableOut {dflt lo hi : Int} {offs : Array Int} {len : Nat} {x : Int32} {tgt : Nat} (hd : decode K.2.1 pc = .ok (.tableswitch dflt lo hi offs, len)) (h : x.toInt < lo ∨ hi < x.toInt) (ht : (pc : Int) + dflt = (tgt : Int))
    (k : Rn K sx cs tgt lv st sh M Q) : Rn K sx cs pc lv (.int x :: st) sh M Q := by
  intro p l e s m args below meth c A D3 D Qf ad H locs ls hC hS hE
  exact lv_tableOut hC.1 hC.2.1 hd h ht (k p l e s m args below meth c A D3 D Qf ad H locs ls hC hS hE)
theorem Rn.tableIn {dflt lo hi : Int} {offs : Array Int} {len : Nat} {x : Int32} {off : Int} {tgt : Nat} (hd : decode K.2.1 pc = .ok (.tableswitch dflt lo hi offs, len)) (h1 : ¬ x.toInt < lo) (h2 : ¬ hi < x.toInt) (ho : offs[(x.toInt - lo).toNat]? = some off) (ht : (pc : Int) + off = (tgt : Int))
    (k : Rn K sx cs tgt lv st sh M Q) : Rn K sx cs pc lv (.int x :: st) sh M Q := by
  intro p l e s m args below meth c A D3 D Qf ad H locs ls hC hS hE
  exact lv_tableIn hC.1 hC.2.1 hd h1 h2 ho ht (k p l e s m args below meth c A D3 D Qf ad H locs ls hC hS hE)
theorem Rn.lookup {dflt : Int} {ps : Array (Int × Int)} {len : Nat} {x : Int32} {off : Int} {tgt : Nat} (hd : decode K.2.1 pc = .ok (.lookupswitch dflt ps, len)) (hp : (ps.toList.zip (ps.toList.drop 1)).all (fun (a, next) => a.1 < next.1) = true) (ho : Op.lookupswitch.offset ps.toList dflt x.toInt = off) (ht : (pc : Int) + off = (tgt : Int))
    (k : Rn K sx cs tgt lv st sh M Q) : Rn K sx cs pc lv (.int x :: st) sh M Q := by
  intro p l e s m args below meth c A D3 D Qf ad H locs ls hC hS hE
  exact lv_lookup hC.1 hC.2.1 hd hp ho ht (k p l e s m args below meth c A D3 D Qf ad H locs ls hC hS hE)
theorem Rn.mono {Q' : Option Value → wSh → wM → Nat × Nat → Prop} (h : ∀ v sh' M' cs', Q' v sh' M' cs' → Q v sh' M' cs') (k : Rn K sx cs pc lv st sh M Q') : Rn K sx cs pc lv st sh M Q := by
  intro p l e s m args below meth c A D3 D Qf ad H locs ls hC hS hE
  exact k p l e s m args below meth c A D3 D Qf ad H locs ls hC hS (fun v sh' M' cs' ad' H' locs' pc' ls' hq hx hP hD hS2 hw hr => hE v sh' M' cs' ad' H' locs' pc' ls' (h v sh' M' cs' hq) hx hP hD hS2 hw hr)
theorem Rn.locals {lv1 : List (Option Value)} (h : ∀ (i : Nat) (v : Value), lv1[i]? = some (some v) → lv[i]? = some (some v)) (k : Rn K sx cs pc lv1 st sh M Q) : Rn K sx cs pc lv st sh M Q := by
  intro p l e s m args below meth c A D3 D Qf ad H locs ls hC hS hE
  exact k p l e s m args below meth c A D3 D Qf ad H locs ls hC ⟨hS.1, hS.2.1, hS.2.2.1, ⟨hS.2.2.2.1.1, hS.2.2.2.1.2.1, fun i v hv => hS.2.2.2.1.2.2 i v (h i v hv)⟩, hS.2.2.2.2⟩ hE
theorem Rn.ret {v : Option Value} (hr : w_rt K v pc) (hst : st = v.toList) (hq : Q v sh M cs) : Rn K sx cs pc lv st sh M Q := by
  intro p l e s m args below meth c A D3 D Qf ad H locs ls hC hS hE
  have h := hE v sh M cs ad H locs pc ls hq w_X.rf hS.1 hS.2.1 hS.2.2.1 hS.2.2.2.2.2.1 hr
  subst hst
  cases v with
  | none => exact h
  | some x => exact h
/-- a field: its class's number, its place, its names, whether it is final, whether a reference -/
def w_fld (ci i : Nat) (C nm ds : String) (fin rf : Bool) : Prop := ∃ (T : u_T) (N : Nat) (ty : Nat → FieldType), vwCl[ci]? = some (C, T, N) ∧ (∀ w ∈ u_ws C T N, w ∈ lw_g) ∧ i < N ∧ T i = (C, nm, ds, fin) ∧ (w_fk ci)[i]? = some rf ∧ (w_fk ci).length = N ∧ (∀ k, k < N → parseFieldDescriptor (T k).2.2.1 = some (ty k)) ∧ (∀ a, a < N → ∀ b, b < N → a ≠ b → (T a).2.1 ≠ (T b).2.1) ∧ ci ≠ 12 ∧ ci ≠ 13 ∧ ci ≠ 14
theorem w_cellO {D3 : wD} {ad : Nat → Nat} {M : wM} {k ci z : Nat} (h1 : ci ≠ 12) (h2 : ci ≠ 13) (h3 : ci ≠ 14) : w_cell D3 ad M k (ci, z) = .inr (ci, w_fs ad M k 0 (w_fk ci)) := by simp [w_cell, h1, h2, h3]
theorem w_cellI {D3 : wD} {ad : Nat → Nat} {M : wM} {k z : Nat} : w_cell D3 ad M k (12, z) = .inl (D3.1, z, .inl (M.1 k)) := by simp [w_cell]
theorem w_cellJ {D3 : wD} {ad : Nat → Nat} {M : wM} {k z : Nat} : w_cell D3 ad M k (13, z) = .inl (D3.2.1, z, .inr (.inl (M.2.1 k))) := by simp [w_cell]
theorem w_cellZ {D3 : wD} {ad : Nat → Nat} {M : wM} {k z : Nat} : w_cell D3 ad M k (14, z) = .inl (D3.2.2, z, .inl (M.1 k)) := by simp [w_cell]
theorem Rn.getI {index b ci i z : Nat} {C nm ds : String} {fin : Bool} (hd : decode K.2.1 pc = .ok (.getfield index, 3)) (hf : w_fld ci i C nm ds fin false) (hw : Cond.fieldLink K.1.cls index C nm ds ∈ lw_g) (hsh : sh[b]? = some (ci, z))
    (k : Rn K sx cs (pc + 3) lv (.int (M.1 b i) :: st) sh M Q) : Rn K sx cs pc lv (.ref b :: st) sh M Q := by
  intro p l e s m args below meth c A D3 D Qf ad H locs ls hC hS hE
  obtain ⟨T, N, ty, h1, h2, h3, h4, h5, h6, h7, h8, h9, h10, h11⟩ := hf
  have hg : (w_W D3 ad sh M)[b]? = some (ad b, .inr (ci, w_fs ad M b 0 (w_fk ci))) := by rw [w_get hsh, w_cellO h9 h10 h11]
  refine va_get (ref := C) (T := T) (N := N) hC.1 hC.2.1 hC.2.2.2.2.1 h2 hC.2.2.2.1 hC.2.2.2.2.2.1 hS.1 b hg h1 i h3 (by rw [h4]; exact hC.2.2.2.2.1 _ hw) (fun x hx => by rw [h4] at hx ⊢; exact hx) (w_fs_get ad M b (w_fk ci) 0 i false h5) hd ?_
  rw [Nat.zero_add]
  exact (k p l e s m args below meth c A D3 D Qf ad H locs ls hC hS hE)
theorem Rn.getR {index b ci i z r : Nat} {C nm ds : String} {fin : Bool} (hd : decode K.2.1 pc = .ok (.getfield index, 3)) (hf : w_fld ci i C nm ds fin true) (hw : Cond.fieldLink K.1.cls index C nm ds ∈ lw_g) (hsh : sh[b]? = some (ci, z)) (hr : M.2.2 b i = some r)
    (k : Rn K sx cs (pc + 3) lv (.ref r :: st) sh M Q) : Rn K sx cs pc lv (.ref b :: st) sh M Q := by
  intro p l e s m args below meth c A D3 D Qf ad H locs ls hC hS hE
  obtain ⟨T, N, ty, h1, h2, h3, h4, h5, h6, h7, h8, h9, h10, h11⟩ := hf
  have hg : (w_W D3 ad sh M)[b]? = some (ad b, .inr (ci, w_fs ad M b 0 (w_fk ci))) := by rw [w_get hsh, w_cellO h9 h10 h11]
  refine va_get (ref := C) (T := T) (N := N) hC.1 hC.2.1 hC.2.2.2.2.1 h2 hC.2.2.2.1 hC.2.2.2.2.2.1 hS.1 b hg h1 i h3 (by rw [h4]; exact hC.2.2.2.2.1 _ hw) (fun x hx => by rw [h4] at hx ⊢; exact hx) (w_fs_get ad M b (w_fk ci) 0 i true h5) hd ?_
  rw [Nat.zero_add]
  have e9 : w_fv ad M b i true = .ref (ad r) := by simp [w_fv, hr, va_rf]
  rw [e9]
  exact (k p l e s m args below meth c A D3 D Qf ad H locs ls hC hS hE)
theorem w_uiO {D3 : wD} {ad : Nat → Nat} {b ci i z : Nat} {x : Int32} (hsh : sh[b]? = some (ci, z)) (h5 : (w_fk ci)[i]? = some false) (h9 : ci ≠ 12) (h10 : ci ≠ 13) (h11 : ci ≠ 14) : (w_W D3 ad sh M).set b (ad b, .inr (ci, (w_fs ad M b 0 (w_fk ci)).set i (.int x))) = w_W D3 ad sh (w_ui M b i x) := by
  refine w_set hsh ?_ (fun j hj => ⟨w_ui_off _ _ _ _ _ hj, rfl, rfl⟩)
  rw [w_cellO h9 h10 h11, w_fs_set (M := M) (M' := w_ui M b i x) h5 (by simp [w_fv, w_ui_at]) (fun j hj => w_ui_row _ _ _ _ _ hj) (fun j hj => rfl)]
theorem Rn.putI {index b ci i z : Nat} {C nm ds : String} {x : Int32} {ty0 : FieldType} (hd : decode K.2.1 pc = .ok (.putfield index, 3)) (hf : w_fld ci i C nm ds false false) (hw : Cond.fieldLink K.1.cls index C nm ds ∈ lw_g) (hsh : sh[b]? = some (ci, z)) (hds : parseFieldDescriptor ds = some ty0) (hn : narrow ty0 (.int x) = .int x) (hfit : fits ty0 (.int x) = true)
    (k : Rn K sx cs (pc + 3) lv st sh (w_ui M b i x) Q) : Rn K sx cs pc lv (.int x :: .ref b :: st) sh M Q := by
  intro p l e s m args below meth c A D3 D Qf ad H locs ls hC hS hE
  obtain ⟨T, N, ty, h1, h2, h3, h4, h5, h6, h7, h8, h9, h10, h11⟩ := hf
  have hg : (w_W D3 ad sh M)[b]? = some (ad b, .inr (ci, w_fs ad M b 0 (w_fk ci))) := by rw [w_get hsh, w_cellO h9 h10 h11]
  refine va_put (v := .int x) (ref := C) (T := T) (N := N) (ty := ty0) hC.1 hC.2.1 hC.2.2.2.2.1 h2 ty h7 h8 hC.2.2.2.1 hC.2.2.2.2.2.1 hS.1 hS.2.1 hS.2.2.1 b hg h1 i h3 (by rw [h4]; exact hC.2.2.2.2.1 _ hw) (fun y hy => by rw [h4] at hy ⊢; exact hy) (by rw [h4]) (by rw [h4]; exact hds) hn hfit (by rw [w_fs_len, h6]; exact h3) hd (fun H1 locs1 hP hD hSS => ?_)
  rw [w_uiO hsh h5 h9 h10 h11] at hP hD
  exact k p l e s m args below meth c A D3 D Qf ad H1 locs1 ls hC ⟨hP, hD, hSS, hS.2.2.2.1, hS.2.2.2.2.1, hS.2.2.2.2.2⟩ hE
theorem w_urO {D3 : wD} {ad : Nat → Nat} {b ci i z r : Nat} (hsh : sh[b]? = some (ci, z)) (h5 : (w_fk ci)[i]? = some true) (h9 : ci ≠ 12) (h10 : ci ≠ 13) (h11 : ci ≠ 14) : (w_W D3 ad sh M).set b (ad b, .inr (ci, (w_fs ad M b 0 (w_fk ci)).set i (.ref (ad r)))) = w_W D3 ad sh (w_ur M b i (some r)) := by
  refine w_set hsh ?_ (fun j hj => ⟨rfl, rfl, by simp [w_ur, va_up, hj]⟩)
  rw [w_cellO h9 h10 h11, w_fs_set (M := M) (M' := w_ur M b i (some r)) h5 (by simp [w_fv, w_ur_if, va_rf]) (fun j hj => rfl) (fun j hj => by simp [w_ur_if, hj])]
/-- a final reference field, in a constructor -/
theorem Rn.putR {index b ci i z r : Nat} {C nm ds : String} {ty0 : FieldType} (hd : decode K.2.1 pc = .ok (.putfield index, 3)) (hf : w_fld ci i C nm ds true true) (hw : Cond.fieldLink K.1.cls index C nm ds ∈ lw_g) (hsh : sh[b]? = some (ci, z)) (hds : parseFieldDescriptor ds = some ty0) (hn : ∀ a, narrow ty0 (.ref a) = .ref a) (hfit : ∀ a, fits ty0 (.ref a) = true) (hin : K.1.name = "<init>") (hcls : C = K.1.cls) (hrl : r < sh.length)
    (k : Rn K sx cs (pc + 3) lv st sh (w_ur M b i (some r)) Q) : Rn K sx cs pc lv (.ref r :: .ref b :: st) sh M Q := by
  intro p l e s m args below meth c A D3 D Qf ad H locs ls hC hS hE
  obtain ⟨T, N, ty, h1, h2, h3, h4, h5, h6, h7, h8, h9, h10, h11⟩ := hf
  have hg : (w_W D3 ad sh M)[b]? = some (ad b, .inr (ci, w_fs ad M b 0 (w_fk ci))) := by rw [w_get hsh, w_cellO h9 h10 h11]
  refine va_putF (v := .ref (ad r)) (ref := C) (T := T) (N := N) (ty := ty0) hC.1 hC.2.1 hC.2.2.2.2.1 h2 ty h7 h8 hC.2.2.2.1 hC.2.2.2.2.2.1 hS.1 hS.2.1 hS.2.2.1 b hg h1 i h3 (by rw [h4]; exact hC.2.2.2.2.1 _ hw) (fun y hy => by rw [h4] at hy ⊢; exact hy) (by rw [h4]) (hC.2.2.2.2.2.2.2.2.1.trans hin) (by rw [h4]; exact hcls) (by rw [h4]; exact hds) (hn _) (hfit _) (by rw [w_fs_len, h6]; exact h3) hd (fun H1 locs1 hP hD hSS => ?_)
  rw [w_urO hsh h5 h9 h10 h11] at hP hD
  refine k p l e s m args below meth c A D3 D Qf ad H1 locs1 ls hC ⟨hP, hD, hSS, hS.2.2.2.1, hS.2.2.2.2.1, fun a j x hx => ?_, hS.2.2.2.2.2.2⟩ hE
  rw [w_ur_if] at hx
  split at hx
  · cases hx; exact hrl
  · exact hS.2.2.2.2.2.1 a j x hx
/-! arrays -/
theorem Rn.alen {b z t : Nat} (hd : decode K.2.1 pc = .ok (.arraylength, 1)) (hsh : sh[b]? = some (t, z)) (ht : t = 12 ∨ t = 13 ∨ t = 14)
    (k : Rn K sx cs (pc + 1) lv (.int (nI z) :: st) sh M Q) : Rn K sx cs pc lv (.ref b :: st) sh M Q := by
  intro p l e s m args below meth c A D3 D Qf ad H locs ls hC hS hE
  have hK := hC.2.2.2.2.2.1
  rcases ht with rfl | rfl | rfl
  · exact va_alen (tys := w_ty D3) (ty := .int) hC.1 hC.2.1 hK hS.1 b 0 (x := (z, .inl (M.1 b))) (by rw [w_get hsh, w_cellI]) rfl rfl hd (k p l e s m args below meth c A D3 D Qf ad H locs ls hC hS hE)
  · exact va_alen (tys := w_ty D3) (ty := .long) hC.1 hC.2.1 hK hS.1 b 1 (x := (z, .inr (.inl (M.2.1 b)))) (by rw [w_get hsh, w_cellJ]) rfl rfl hd (k p l e s m args below meth c A D3 D Qf ad H locs ls hC hS hE)
  · exact va_alen (tys := w_ty D3) (ty := .boolean) hC.1 hC.2.1 hK hS.1 b 2 (x := (z, .inl (M.1 b))) (by rw [w_get hsh, w_cellZ]) rfl rfl hd (k p l e s m args below meth c A D3 D Qf ad H locs ls hC hS hE)
theorem Rn.iald {b z : Nat} {i : Int32} (hd : decode K.2.1 pc = .ok (.iaload, 1)) (hsh : sh[b]? = some (12, z)) (hin : vp_in i z)
    (k : Rn K sx cs (pc + 1) lv (.int (M.1 b i.toNatClampNeg) :: st) sh M Q) : Rn K sx cs pc lv (.int i :: .ref b :: st) sh M Q := by
  intro p l e s m args below meth c A D3 D Qf ad H locs ls hC hS hE
  exact va_iald (tys := w_ty D3) hC.1 hC.2.1 hC.2.2.2.2.2.1 hS.1 b 0 (by rw [w_get hsh, w_cellI]) rfl hin hd (k p l e s m args below meth c A D3 D Qf ad H locs ls hC hS hE)
theorem Rn.lald {b z : Nat} {i : Int32} (hd : decode K.2.1 pc = .ok (.laload, 1)) (hsh : sh[b]? = some (13, z)) (hin : vp_in i z)
    (k : Rn K sx cs (pc + 1) lv (.long (M.2.1 b i.toNatClampNeg) :: st) sh M Q) : Rn K sx cs pc lv (.int i :: .ref b :: st) sh M Q := by
  intro p l e s m args below meth c A D3 D Qf ad H locs ls hC hS hE
  exact va_lald (tys := w_ty D3) hC.1 hC.2.1 hC.2.2.2.2.2.1 hS.1 b 1 (by rw [w_get hsh, w_cellJ]) rfl hin hd (k p l e s m args below meth c A D3 D Qf ad H locs ls hC hS hE)
theorem Rn.zald {b z : Nat} {i : Int32} (hd : decode K.2.1 pc = .ok (.baload, 1)) (hsh : sh[b]? = some (14, z)) (hin : vp_in i z)
    (k : Rn K sx cs (pc + 1) lv (.int (M.1 b i.toNatClampNeg) :: st) sh M Q) : Rn K sx cs pc lv (.int i :: .ref b :: st) sh M Q := by
  intro p l e s m args below meth c A D3 D Qf ad H locs ls hC hS hE
  exact va_zald (tys := w_ty D3) hC.1 hC.2.1 hC.2.2.2.2.2.1 hS.1 b 2 (by rw [w_get hsh, w_cellZ]) rfl hin hd (k p l e s m args below meth c A D3 D Qf ad H locs ls hC hS hE)
theorem w_ui_row' (M : wM) (k j : Nat) (x : Int32) : (w_ui M k j x).1 k = upd (M.1 k) j x := by simp [w_ui, va_up]
theorem w_ul_row' (M : wM) (k j : Nat) (x : Int64) : (w_ul M k j x).2.1 k = vp_updL (M.2.1 k) j x := by simp [w_ul, va_up]
theorem Rn.iast {b z : Nat} {i x : Int32} (hd : decode K.2.1 pc = .ok (.iastore, 1)) (hsh : sh[b]? = some (12, z)) (hin : vp_in i z)
    (k : Rn K sx cs (pc + 1) lv st sh (w_ui M b i.toNatClampNeg x) Q) : Rn K sx cs pc lv (.int x :: .int i :: .ref b :: st) sh M Q := by
  intro p l e s m args below meth c A D3 D Qf ad H locs ls hC hS hE
  refine va_iast (tys := w_ty D3) hC.1 hC.2.1 hC.2.2.2.2.2.1 hS.1 hS.2.1 hS.2.2.1 b 0 (by rw [w_get hsh, w_cellI]) rfl hin hd (fun H1 locs1 hP hD hSS => ?_)
  rw [w_set (M := M) (M' := w_ui M b i.toNatClampNeg x) hsh (by rw [w_cellI, w_ui_row']) (fun j hj => ⟨w_ui_off _ _ _ _ _ hj, rfl, rfl⟩)] at hP hD
  exact k p l e s m args below meth c A D3 D Qf ad H1 locs1 ls hC ⟨hP, hD, hSS, hS.2.2.2.1, hS.2.2.2.2.1, hS.2.2.2.2.2⟩ hE
theorem Rn.last {b z : Nat} {i : Int32} {x : Int64} (hd : decode K.2.1 pc = .ok (.lastore, 1)) (hsh : sh[b]? = some (13, z)) (hin : vp_in i z)
    (k : Rn K sx cs (pc + 1) lv st sh (w_ul M b i.toNatClampNeg x) Q) : Rn K sx cs pc lv (.long x :: .int i :: .ref b :: st) sh M Q := by
  intro p l e s m args below meth c A D3 D Qf ad H locs ls hC hS hE
  refine va_last (tys := w_ty D3) hC.1 hC.2.1 hC.2.2.2.2.2.1 hS.1 hS.2.1 hS.2.2.1 b 1 (by rw [w_get hsh, w_cellJ]) rfl hin hd (fun H1 locs1 hP hD hSS => ?_)
  rw [w_set (M := M) (M' := w_ul M b i.toNatClampNeg x) hsh (by rw [w_cellJ, w_ul_row']) (fun j hj => ⟨rfl, by simp [w_ul, va_up, hj], rfl⟩)] at hP hD
  exact k p l e s m args below meth c A D3 D Qf ad H1 locs1 ls hC ⟨hP, hD, hSS, hS.2.2.2.1, hS.2.2.2.2.1, hS.2.2.2.2.2⟩ hE
theorem Rn.zast {b z : Nat} {i x y : Int32} (hd : decode K.2.1 pc = .ok (.bastore, 1)) (hsh : sh[b]? = some (14, z)) (hin : vp_in i z) (hx : vp_nar .boolean x = y)
    (k : Rn K sx cs (pc + 1) lv st sh (w_ui M b i.toNatClampNeg y) Q) : Rn K sx cs pc lv (.int x :: .int i :: .ref b :: st) sh M Q := by
  intro p l e s m args below meth c A D3 D Qf ad H locs ls hC hS hE
  subst hx
  refine va_zast (tys := w_ty D3) hC.1 hC.2.1 hC.2.2.2.2.2.1 hS.1 hS.2.1 hS.2.2.1 b 2 (by rw [w_get hsh, w_cellZ]) rfl hin hd (fun H1 locs1 hP hD hSS => ?_)
  rw [w_set (M := M) (M' := w_ui M b i.toNatClampNeg (vp_nar .boolean x)) hsh (by rw [w_cellZ, w_ui_row']) (fun j hj => ⟨w_ui_off _ _ _ _ _ hj, rfl, rfl⟩)] at hP hD
  exact k p l e s m args below meth c A D3 D Qf ad H1 locs1 ls hC ⟨hP, hD, hSS, hS.2.2.2.1, hS.2.2.2.2.1, hS.2.2.2.2.2⟩ hE
/-! the law's own script -/
theorem Rn.sld {L b0 : Nat} {xs : Nat → Int32} {i : Int32} (hs : sx = some (L, xs, b0)) (hd : decode K.2.1 pc = .ok (.iaload, 1)) (hin : vp_in i L)
    (k : Rn K sx cs (pc + 1) lv (.int (xs i.toNatClampNeg) :: st) sh M Q) : Rn K sx cs pc lv (.int i :: .ref w_scr :: st) sh M Q := by
  intro p l e s m args below meth c A D3 D Qf ad H locs ls hC hS hE
  subst hs
  obtain ⟨h1, h2, h3⟩ : va_X b0 L xs s s.heap ∧ b0 < s.heap.size ∧ ¬ A b0 := hC.2.2.2.2.2.2.2.2.2
  have h4 : ad w_scr = b0 := hS.2.2.2.2.2.2
  show W p l e _ s m args below meth c H locs _ _ Qf (F0 m pc ls (.int i :: .ref (ad w_scr) :: st.map (w_cv ad)))
  rw [h4]
  exact va_sld hC.1 hC.2.1 h1 h2 h3 hS.2.2.1 hin hd (k p l e s m args below meth c A D3 D Qf ad H locs ls hC hS hE)
theorem Rn.slen {L b0 : Nat} {xs : Nat → Int32} (hs : sx = some (L, xs, b0)) (hd : decode K.2.1 pc = .ok (.arraylength, 1))
    (k : Rn K sx cs (pc + 1) lv (.int (nI L) :: st) sh M Q) : Rn K sx cs pc lv (.ref w_scr :: st) sh M Q := by
  intro p l e s m args below meth c A D3 D Qf ad H locs ls hC hS hE
  subst hs
  obtain ⟨h1, h2, h3⟩ : va_X b0 L xs s s.heap ∧ b0 < s.heap.size ∧ ¬ A b0 := hC.2.2.2.2.2.2.2.2.2
  have h4 : ad w_scr = b0 := hS.2.2.2.2.2.2
  show W p l e _ s m args below meth c H locs _ _ Qf (F0 m pc ls (.ref (ad w_scr) :: st.map (w_cv ad)))
  rw [h4]
  exact va_slen hC.1 hC.2.1 h1 h2 h3 hS.2.2.1 hd (k p l e s m args below meth c A D3 D Qf ad H locs ls hC hS hE)
end RN
end
section
/-! Contracts over Rn, calls, what is made. -/
def w_ws (K : wK) : List Cond := Cond.code K.1 K.2.1 K.2.2.1 K.2.2.2.1 :: lw_g
def w_Pc (D3 : wD) (D : va_G) (ad : Nat → Nat) (sh : wSh) (M : wM) (As : List Value) (sz : Nat) : Array Value → State → Prop :=
  va_Pc (As.map (w_cv ad)) (fun U => U.heap.size = sz ∧ va_P D vwCl (w_W D3 ad sh M) U.heap ∧ va_K D vwCl (w_ty D3) U ∧ va_D (fun _ => True) (w_W D3 ad sh M) ∧ w_nw U)
def w_Qc (D3 : wD) (D : va_G) (ad : Nat → Nat) (sh : wSh) (Q : Option Value → wSh → wM → Prop) (A : Nat → Prop) : Array Value → State → Outcome → State → Prop := fun _ st oc t =>
  (∃ (v : Option Value) (sh' : wSh) (M' : wM) (ad' : Nat → Nat), oc = .returned (v.map (w_cv ad')) ∧ Q v sh' M' ∧ w_X ad sh ad' sh' ∧ w_wf sh' M' ∧ va_P D vwCl (w_W D3 ad' sh' M') t.heap ∧ va_D A (w_W D3 ad' sh' M')) ∧ va_F A st t
/-- a method's contract: with these arguments and this memory it returns, and Q -/
def Ev (K : wK) (As : List Value) (sh : wSh) (M : wM) (Q : Option Value → wSh → wM → Prop) : Prop :=
  w_wf sh M → ∀ (l : Launch) (D3 : wD) (D : va_G) (ad : Nat → Nat) (sz : Nat), Met l K.1 (w_ws K) K.2.2.2.2 (w_Pc D3 D ad sh M As sz) (w_Qc D3 D ad sh Q (va_A (w_W D3 ad sh M) sz)) K.2.2.2.2.cells K.2.2.2.2.slots (va_A (w_W D3 ad sh M) sz)
theorem Ev.mono {K : wK} {As : List Value} {sh : wSh} {M : wM} {Q Q' : Option Value → wSh → wM → Prop} (h : ∀ v sh' M', Q' v sh' M' → Q v sh' M') (k : Ev K As sh M Q') : Ev K As sh M Q := by
  intro hwf l D3 D ad sz p e ha hc hk s m args below hf hap hP hK
  obtain ⟨n, o, h1, h2, h3, h4, h5⟩ := k hwf l D3 D ad sz p e ha hc hk s m args below hf hap hP hK
  refine ⟨n, o, h1, h2, h3, ?_, h5⟩
  obtain ⟨⟨v, sh', M', ad', a1, a2, a3⟩, a4⟩ := h4
  exact ⟨⟨v, sh', M', ad', a1, h _ _ _ a2, a3⟩, a4⟩
/-! the entry -/
def w_lv : List Value → List (Option Value)
  | [] => []
  | .long x :: t => some (.long x) :: none :: w_lv t
  | .double x :: t => some (.double x) :: none :: w_lv t
  | v :: t => some v :: w_lv t
theorem w_lv_1 {v : Value} (h : v.category = 1) (t : List Value) : w_lv (v :: t) = some v :: w_lv t := by cases v <;> first | rfl | cases h
theorem w_lv_2 {v : Value} (h : v.category = 2) (t : List Value) : w_lv (v :: t) = some v :: none :: w_lv t := by cases v <;> first | rfl | cases h
theorem w_lv_args (ad : Nat → Nat) : ∀ (As : List Value) (i j : Nat) (v : Value), (w_lv As)[j]? = some (some v) → (i + j, w_cv ad v) ∈ lv_args i (As.map (w_cv ad))
  | [], _, _, _, h => by simp [w_lv] at h
  | a :: t, i, j, v, h => by
    have hc := w_cv_cat ad a
    rcases lv_cat a with h1 | h2
    · rw [w_lv_1 h1] at h
      rw [List.map_cons, lv_args, if_neg (by rw [hc, h1]; decide)]
      cases j with
      | zero => simp at h; subst h; exact List.mem_cons_self
      | succ j =>
        have := w_lv_args ad t (i + 1) j v (by simpa using h)
        rw [Nat.add_assoc, Nat.add_comm 1 j] at this
        exact List.mem_cons_of_mem _ this
    · rw [w_lv_2 h2] at h
      rw [List.map_cons, lv_args, if_pos (by rw [hc, h2])]
      match j, h with
      | 0, h => simp at h; subst h; exact List.mem_cons_self
      | 1, h => simp at h
      | j + 2, h =>
        have := w_lv_args ad t (i + 2) j v (by simpa using h)
        rw [Nat.add_assoc, Nat.add_comm 2 j] at this
        exact List.mem_cons_of_mem _ this
theorem w_sl (ad : Nat → Nat) (As : List Value) : (lg_sl (As.map (w_cv ad))).length = (lg_sl As).length := by
  induction As with
  | nil => rfl
  | cons a t ih =>
    have hc := w_cv_cat ad a
    simp only [lg_sl, List.map_cons, List.flatMap_cons, List.length_append] at ih ⊢
    rw [ih, hc]
    by_cases h : a.category = 2 <;> simp [h]
theorem w_L.entry {ad : Nat → Nat} {As : List Value} {n : Nat} {lv : List (Option Value)} (hn : (lg_sl As).length ≤ n) (hlv : ∀ (j : Nat) (v : Value), lv[j]? = some (some v) → (w_lv As)[j]? = some (some v)) :
    w_L n ad lv ((lg_sl (As.map (w_cv ad)) ++ List.replicate (n - (lg_sl (As.map (w_cv ad))).length) Slot.unset).toArray) := by
  have h := lv_entry (As.map (w_cv ad)) (n := n) (by rw [w_sl]; exact hn)
  refine ⟨h.1, h.2.1, fun j v hj => ?_⟩
  have h2 := w_lv_args ad As 0 j v (hlv j v hj)
  rw [Nat.zero_add] at h2
  exact h.2.2 _ h2
theorem w_pad (As : List Value) (k : Nat) : ∀ (j : Nat) (v : Value), (w_lv As ++ List.replicate k none)[j]? = some (some v) → (w_lv As)[j]? = some (some v) := by
  intro j v h
  by_cases hj : j < (w_lv As).length
  · rw [List.getElem?_append_left hj] at h; exact h
  · rw [List.getElem?_append_right (by omega)] at h
    have := List.mem_of_getElem? h
    simp at this
theorem Ev.of {K : wK} {As : List Value} {sh : wSh} {M : wM} {Q : Option Value → wSh → wM → Prop} {lv : List (Option Value)} (k0 : Nat) (hy : plainName K.1.cls = true) (hn : (lg_sl As).length ≤ K.2.2.1) (hlv : w_lv As ++ List.replicate k0 none = lv)
    (body : Rn K none (0, 0) 0 lv [] sh M (fun v sh' M' cs' => Q v sh' M' ∧ cs'.1 ≤ K.2.2.2.2.cells ∧ cs'.2 ≤ K.2.2.2.2.slots)) : Ev K As sh M Q := by
  subst hlv
  intro hwf l D3 D ad sz
  refine Met.ofW (cc := K.2.1) (maxL := K.2.2.1) (ret := K.2.2.2.1) hy rfl ?_
  intro p e s m args below meth c s₁ B hml hv
  obtain ⟨rfl, hsz, hP, hK, hD0, hnw⟩ := hv
  have hts := atoms_spec (ws := w_ws K) B.pre
  have hown : s.vm.findClass K.1.cls = some m.cls := findClass_of_methodNamed B.named
  have hlocks := B.notSynchronized
  have hin : meth.name = K.1.name := (name_of_methodNamed B.named B.method).1
  have hr := B.returns
  subst hsz
  have hD := hD0.self (sz := s.heap.size)
  generalize hAe : va_A (w_W D3 ad sh M) s.heap.size = A at hD ⊢
  have hA : ∀ q : Nat, s.heap.size ≤ q → A q := fun q h => by rw [← hAe]; exact Or.inr h
  rw [lg_entry_eq]
  have hl := w_L.entry (ad := ad) hn (w_pad As k0)
  generalize (lg_sl (As.map (w_cv ad)) ++ List.replicate (K.2.2.1 - (lg_sl (As.map (w_cv ad))).length) Slot.unset).toArray = ls at hl ⊢
  refine body p l e s m (As.map (w_cv ad)).toArray below meth c A D3 D _ ad s.heap [] ls
    ⟨B.exec, B.bytes, hml, hown, fun w hw => hts w (List.mem_cons_of_mem _ hw), hK, hA, hnw, hin, trivial⟩
    ⟨hP, hD, va_S.rf, hl, ⟨Nat.zero_le _, Nat.zero_le _⟩, hwf, trivial⟩ ?_
  intro v sh' M' cs' ad' H' locs' pc' ls' hq hx hP' hD' hS' hwf' hrt
  refine W.widen (k := K.2.2.2.2.cells) (n := K.2.2.2.2.slots) hq.2.1 hq.2.2 ?_
  have fin : ∀ t : State, t.heap = H' → w_Qc D3 D ad sh Q A (As.map (w_cv ad)).toArray s (.returned (v.map (w_cv ad'))) t := fun t ht =>
    ⟨⟨v, sh', M', ad', rfl, hq.1, hx, hwf', by rw [ht]; exact hP', hD'⟩, hS'.F ht⟩
  match v, hrt with
  | none, hrt => exact W.vret B.exec B.bytes (hr.trans hrt.2) (fun t ht _ => fin t ht) hS'.2.2 hrt.1
  | some (.int x), hrt =>
    obtain ⟨hd, ty, h1, h2⟩ := hrt
    exact W.zret B.exec B.bytes (hr.trans h1) h2 (fun t ht _ => fin t ht) hS'.2.2 hd
  | some (.long x), hrt => exact W.lret B.exec B.bytes (hr.trans hrt.2) (fun t ht _ => fin t ht) hS'.2.2 hrt.1
  | some (.ref x), hrt =>
    obtain ⟨hd, n, h1⟩ := hrt
    exact W.aret (v := .ref (ad' x)) B.exec B.bytes (hr.trans h1) (Or.inl ⟨n, rfl⟩) (Or.inr ⟨ad' x, rfl⟩) (fun t ht _ => fin t ht) hS'.2.2 hd
/-! calls -/
theorem w_run {p : Program} {l : Launch} {e : Env} {R : Room} {s : State} {m : MethodId} {args : Array Value} {below : List Frame} {meth : Method} {c : Code} {H : Heap} {locs : List Loc} {cells slots mc ms : Nat} {Qf : State → Prop} {pc : Nat} {ls : Array Slot} {st0 rest : List Value} {D3 : wD} {D : va_G} {ad : Nat → Nat} {sh : wSh} {M : wM} {Q' : Option Value → wSh → wM → Prop} {a : Array Value} {A : Nat → Prop}
    (hr : va_Run p l e R s m args below meth c H locs cells slots mc ms (F0 m pc ls st0) rest (w_Qc D3 D ad sh Q' (va_A (w_W D3 ad sh M) H.size) a) (va_A (w_W D3 ad sh M) H.size)) (hD : va_D A (w_W D3 ad sh M)) (hS : va_S A s.heap H locs) (hA : ∀ q, s.heap.size ≤ q → A q)
    (kk : ∀ (v : Option Value) (sh' : wSh) (M' : wM) (ad' : Nat → Nat) (H1 : Heap) (locs1 : List Loc), Q' v sh' M' → w_X ad sh ad' sh' → w_wf sh' M' → va_P D vwCl (w_W D3 ad' sh' M') H1 → va_D A (w_W D3 ad' sh' M') → va_S A s.heap H1 locs1 → W p l e R s m args below meth c H1 locs1 (cells + mc) (slots + ms) Qf (F0 m (pc + 3) ls ((v.map (w_cv ad')).toList ++ rest))) :
    W p l e R s m args below meth c H locs cells slots Qf (F0 m pc ls st0) := by
  have hF : ∀ q, va_A (w_W D3 ad sh M) H.size q → A q := by
    intro q hq
    rcases hq with ⟨k, e2, hk⟩ | hq
    · exact hD.2 k (q, e2) hk
    · exact hA q (Nat.le_trans hS.1 hq)
  intro T hT X
  obtain ⟨v0, st₀, t, T', L, h0, X', hL, e1, e2, ⟨⟨v, sh', M', ad', hv, hq, hx, hwf, hP', hD'⟩, hz, hk⟩, stp⟩ := hr T hT X
  cases hv
  rw [h0] at hz hk
  obtain ⟨t2, a1, b1⟩ := kk v sh' M' ad' T'.heap (locs ++ L) hq hx hwf (by rw [e1]; exact hP') (hD'.weaken (fun _ q _ h => hF q.1 h))
    ⟨Nat.le_trans hS.1 (by rw [e1]; exact hz), fun q h1 h2 => by rw [e1, hk q (Nat.lt_of_lt_of_le h1 hS.1) (fun z => h2 (hF q z))]; exact hS.2.1 q h1 h2, fun q hq => by
      rcases List.mem_append.mp hq with h | h
      · exact hS.2.2 q h
      · exact hF _ (hL q h)⟩ T' rfl X'
  exact ⟨t2, stp t2 a1, b1⟩
/-- what a call site needs of the callee, but its link -/
def w_site (K K' : wK) (n : Nat) : Prop := Cond.code K'.1 K'.2.1 K'.2.2.1 K'.2.2.2.1 ∈ lw_g ∧ Cond.initialized K'.1.cls ∈ lw_g ∧
  (K'.1.cls ≠ "java/lang/invoke/MethodHandle" ∧ K'.1.cls ≠ "java/lang/invoke/VarHandle" ∧ (parseMethodDescriptor K'.1.desc).map (fun d => d.parameters.length) = some n) ∧ (K'.2.2.2.2.frames + 1 ≤ K.2.2.2.2.frames ∧ 8 + (K'.2.2.1 + 11) + K'.2.2.2.2.locals ≤ K.2.2.2.2.locals)
theorem w_good {K' : wK} (h : Cond.code K'.1 K'.2.1 K'.2.2.1 K'.2.2.2.1 ∈ lw_g) : GoodIn lw_g (w_ws K') := by
  intro w hw
  rcases List.mem_cons.mp hw with rfl | hw
  · exact ⟨h, good_of_word (g_good _ h).2⟩
  · exact ⟨hw, good_of_word (g_good _ hw).2⟩
theorem w_fb {D3 : wD} {D : va_G} {ad : Nat → Nat} {sh : wSh} {M : wM} {As : List Value} {sz : Nat} : FrameBlind (w_Pc D3 D ad sh M As sz) := fun a U g mk q => by
  obtain ⟨q0, q1, qP, qK, qD, qN⟩ := q
  exact ⟨q0, q1, qP, va_K.moved (u := U) (U := U.calling g mk a) (Vm.Alike.refl U.vm) qK, qD, qN.same rfl⟩
section CALLS
variable {K K' : wK} {sx : Option (Nat × (Nat → Int32) × Nat)} {cs : Nat × Nat} {pc : Nat} {lv : List (Option Value)} {st rest As : List Value} {sh : wSh} {M : wM} {Q : Option Value → wSh → wM → Nat × Nat → Prop} {Q' : Option Value → wSh → wM → Prop} {index n b ci z : Nat}
/-- the references of a list lie within -/
def w_in (n : Nat) (l : List Value) : Prop := ∀ k, Value.ref k ∈ l → k < n ∨ k = w_scr
def w_inL (n : Nat) (l : List (Option Value)) : Prop := ∀ k, some (Value.ref k) ∈ l → k < n ∨ k = w_scr
theorem w_in.map {n : Nat} {l : List Value} {ad ad' : Nat → Nat} (h : w_in n l) (h1 : ∀ k, k < n → ad' k = ad k) (h2 : ad' w_scr = ad w_scr) : l.map (w_cv ad') = l.map (w_cv ad) := by
  apply List.map_congr_left
  intro v hv
  cases v with
  | ref k =>
    rcases h k hv with hk | rfl
    · simp [w_cv, h1 k hk]
    · simp [w_cv, h2]
  | _ => rfl
theorem w_L.mv {nL n : Nat} {ad ad' : Nat → Nat} {lv : List (Option Value)} {ls : Array Slot} (h : w_L nL ad lv ls) (hl : w_inL n lv) (h1 : ∀ k, k < n → ad' k = ad k) (h2 : ad' w_scr = ad w_scr) : w_L nL ad' lv ls := by
  refine ⟨h.1, h.2.1, fun i v hv => ?_⟩
  rw [h.2.2 i v hv]
  cases v with
  | ref k =>
    rcases hl k (List.mem_of_getElem? hv) with hk | rfl
    · simp [w_cv, h1 k hk]
    · simp [w_cv, h2]
  | _ => rfl
/-- behind a call that may make cells -/
theorem w_back {p : Program} {l : Launch} {e : Env} {s : State} {m : MethodId} {args : Array Value} {below : List Frame} {meth : Method} {c : Code} {A : Nat → Prop} {D3 : wD} {D : va_G} {Qf : State → Prop} {ad : Nat → Nat} {H : Heap} {locs : List Loc} {ls : Array Slot} {a : Array Value} {st0 : List Value}
    (hC : w_C K sx p s m args meth c A D3 D) (hS : w_S K sx s A D3 D ad sh M H locs lv ls cs) (hE : w_E K sx p l e s m args below meth c A D3 D Qf Q ad sh)
    (hr : va_Run p l e K.2.2.2.2 s m args below meth c H locs cs.1 cs.2 K'.2.2.2.2.cells K'.2.2.2.2.slots (F0 m pc ls st0) (rest.map (w_cv ad)) (w_Qc D3 D ad sh Q' (va_A (w_W D3 ad sh M) H.size) a) (va_A (w_W D3 ad sh M) H.size))
    (hcc : cs.1 + K'.2.2.2.2.cells ≤ K.2.2.2.2.cells ∧ cs.2 + K'.2.2.2.2.slots ≤ K.2.2.2.2.slots) (hok : (w_in sh.length rest ∧ w_inL sh.length lv) ∨ ∀ v sh' M', Q' v sh' M' → sh'.length = sh.length)
    (k : ∀ v sh' M', Q' v sh' M' → sh.length ≤ sh'.length → Rn K sx (cs.1 + K'.2.2.2.2.cells, cs.2 + K'.2.2.2.2.slots) (pc + 3) lv (v.toList ++ rest) sh' M' Q) :
    W p l e K.2.2.2.2 s m args below meth c H locs cs.1 cs.2 Qf (F0 m pc ls st0) := by
  refine w_run hr hS.2.1 hS.2.2.1 hC.2.2.2.2.2.2.1 (fun v sh' M' ad' H1 locs1 hq hx hwf hP hD hSS => ?_)
  have hm : rest.map (w_cv ad') = rest.map (w_cv ad) := by
    rcases hok with hok | hok
    · exact hok.1.map hx.1 hx.2.1
    · rw [hx.2.2.2 (hok v sh' M' hq)]
  have hL : w_L K.2.2.1 ad' lv ls := by
    rcases hok with hok | hok
    · exact hS.2.2.2.1.mv hok.2 hx.1 hx.2.1
    · rw [hx.2.2.2 (hok v sh' M' hq)]; exact hS.2.2.2.1
  have h2 := k v sh' M' hq hx.2.2.1 p l e s m args below meth c A D3 D Qf ad' H1 locs1 ls hC ⟨hP, hD, hSS, hL, hcc, hwf, by
    have h3 := hS.2.2.2.2.2.2
    cases sx with
    | none => trivial
    | some q => exact hx.2.1.trans h3⟩ (hE.mv hx)
  rw [List.map_append, hm] at h2
  cases v with
  | none => exact h2
  | some x => exact h2
theorem Rn.callV (hd : decode K.2.1 pc = .ok (.invokevirtual index, 3)) (hs : w_site K K' n) (hl : Cond.methodLink K.1.cls index K'.1 ∈ lw_g) (hi : Cond.instanceMethod K'.1 ∈ lw_g) (hse : Cond.selects K'.1.cls K'.1 K'.1 ∈ lw_g) (hE' : Ev K' (.ref b :: As) sh M Q') (hst : st = As.reverse ++ .ref b :: rest) (hn : As.length = n) (hsh : sh[b]? = some (ci, z)) (hci : ∃ T N, vwCl[ci]? = some (K'.1.cls, T, N) ∧ ci ≠ 12 ∧ ci ≠ 13 ∧ ci ≠ 14) (hW : (rest.map fun v => v.category).sum ≤ 8)
    (hcc : cs.1 + K'.2.2.2.2.cells ≤ K.2.2.2.2.cells ∧ cs.2 + K'.2.2.2.2.slots ≤ K.2.2.2.2.slots) (hok : (w_in sh.length rest ∧ w_inL sh.length lv) ∨ ∀ v sh' M', Q' v sh' M' → sh'.length = sh.length)
    (k : ∀ v sh' M', Q' v sh' M' → sh.length ≤ sh'.length → Rn K sx (cs.1 + K'.2.2.2.2.cells, cs.2 + K'.2.2.2.2.slots) (pc + 3) lv (v.toList ++ rest) sh' M' Q) : Rn K sx cs pc lv st sh M Q := by
  subst hst
  intro p l e s m args below meth c A D3 D Qf ad H locs ls hC hS hE
  obtain ⟨T0, N0, hc1, hc2, hc3, hc4⟩ := hci
  have hts := hC.2.2.2.2.1
  refine w_back (a := (Value.ref (ad b) :: As.map (w_cv ad)).toArray) hC hS hE ?_ hcc hok k
  refine va_runV (C := K'.1.cls) (y := K'.1) (bytes := K'.2.1) (maxL := K'.2.2.1) (ret := K'.2.2.2.1) (ws := w_ws K') (rm := K'.2.2.2.2) (n := n) (Ts := lw_g) (own := K.1.cls) (index := index) (b := ad b) (As := As.map (w_cv ad)) (cc := K.2.1) (nL := K.2.2.1)
    ⟨hC.1, hC.2.1, hC.2.2.1, hC.2.2.2.1, hts⟩ (hE' hS.2.2.2.2.2.1 l D3 D ad H.size)
    ⟨callB_of n hts (w_good hs.1) rfl rfl rfl (hts _ hs.2.1) (hts _ hl) hs.2.2.1 hs.2.2.2, hts _ hi, hts _ hse⟩
    ⟨w_fb, va_recv hC.2.2.2.2.2.1 hS.1 hc1 (by rw [w_get hsh, w_cellO hc2 hc3 hc4]), fun U hU hW2 => ⟨rfl, by rw [hU], by rw [hU]; exact hS.1, va_K.moved hW2.alike hC.2.2.2.2.2.1, hS.2.1.weaken (fun _ _ _ _ => trivial), hC.2.2.2.2.2.2.2.1.warm hW2⟩⟩
    rfl (by simp [hn]) hS.2.2.2.1.1 (by simp [List.map_append, List.map_reverse, w_cv]) (lv_room ?_) hd hcc
  rw [List.map_map]
  have : ((fun v : Value => v.category) ∘ w_cv ad) = fun v => v.category := funext (fun v => w_cv_cat ad v)
  rw [this]; exact hW
theorem Rn.callVN {host : String} {j : Nat} (hd : decode K.2.1 pc = .ok (.invokevirtual index, 3)) (hs : w_site K K' n) (hl : w_nest[j]? = some (K.1.cls, index, K'.1, host)) (hi : Cond.instanceMethod K'.1 ∈ lw_g) (hse : Cond.selects K'.1.cls K'.1 K'.1 ∈ lw_g) (hE' : Ev K' (.ref b :: As) sh M Q') (hst : st = As.reverse ++ .ref b :: rest) (hn : As.length = n) (hsh : sh[b]? = some (ci, z)) (hci : ∃ T N, vwCl[ci]? = some (K'.1.cls, T, N) ∧ ci ≠ 12 ∧ ci ≠ 13 ∧ ci ≠ 14) (hW : (rest.map fun v => v.category).sum ≤ 8)
    (hcc : cs.1 + K'.2.2.2.2.cells ≤ K.2.2.2.2.cells ∧ cs.2 + K'.2.2.2.2.slots ≤ K.2.2.2.2.slots) (hok : (w_in sh.length rest ∧ w_inL sh.length lv) ∨ ∀ v sh' M', Q' v sh' M' → sh'.length = sh.length)
    (k : ∀ v sh' M', Q' v sh' M' → sh.length ≤ sh'.length → Rn K sx (cs.1 + K'.2.2.2.2.cells, cs.2 + K'.2.2.2.2.slots) (pc + 3) lv (v.toList ++ rest) sh' M' Q) : Rn K sx cs pc lv st sh M Q := by
  subst hst
  intro p l e s m args below meth c A D3 D Qf ad H locs ls hC hS hE
  obtain ⟨T0, N0, hc1, hc2, hc3, hc4⟩ := hci
  have hts := hC.2.2.2.2.1
  refine w_back (a := (Value.ref (ad b) :: As.map (w_cv ad)).toArray) hC hS hE ?_ hcc hok k
  refine va_runVN (C := K'.1.cls) (y := K'.1) (bytes := K'.2.1) (maxL := K'.2.2.1) (ret := K'.2.2.2.1) (ws := w_ws K') (rm := K'.2.2.2.2) (n := n) (Ts := lw_g) (own := K.1.cls) (host := host) (index := index) (b := ad b) (As := As.map (w_cv ad)) (cc := K.2.1) (nL := K.2.2.1)
    ⟨hC.1, hC.2.1, hC.2.2.1, hC.2.2.2.1, hts⟩ (hE' hS.2.2.2.2.2.1 l D3 D ad H.size)
    ⟨va_cnB n hts (w_good hs.1) rfl rfl rfl (hC.2.2.2.2.2.2.2.1 _ (List.mem_of_getElem? hl)) (hts _ hs.2.1) hs.2.2.1 hs.2.2.2, hts _ hi, hts _ hse⟩
    ⟨w_fb, va_recv hC.2.2.2.2.2.1 hS.1 hc1 (by rw [w_get hsh, w_cellO hc2 hc3 hc4]), fun U hU hW2 => ⟨rfl, by rw [hU], by rw [hU]; exact hS.1, va_K.moved hW2.alike hC.2.2.2.2.2.1, hS.2.1.weaken (fun _ _ _ _ => trivial), hC.2.2.2.2.2.2.2.1.warm hW2⟩⟩
    rfl (by simp [hn]) hS.2.2.2.1.1 (by simp [List.map_append, List.map_reverse, w_cv]) (lv_room ?_) hd hcc
  rw [List.map_map]
  have : ((fun v : Value => v.category) ∘ w_cv ad) = fun v => v.category := funext (fun v => w_cv_cat ad v)
  rw [this]; exact hW
theorem Rn.callS (hd : decode K.2.1 pc = .ok (.invokestatic index, 3)) (hs : w_site K K' n) (hl : Cond.methodLink K.1.cls index K'.1 ∈ lw_g) (hi : Cond.static K'.1 ∈ lw_g) (hE' : Ev K' As sh M Q') (hst : st = As.reverse ++ rest) (hn : As.length = n) (hW : (rest.map fun v => v.category).sum ≤ 8)
    (hcc : cs.1 + K'.2.2.2.2.cells ≤ K.2.2.2.2.cells ∧ cs.2 + K'.2.2.2.2.slots ≤ K.2.2.2.2.slots) (hok : (w_in sh.length rest ∧ w_inL sh.length lv) ∨ ∀ v sh' M', Q' v sh' M' → sh'.length = sh.length)
    (k : ∀ v sh' M', Q' v sh' M' → sh.length ≤ sh'.length → Rn K sx (cs.1 + K'.2.2.2.2.cells, cs.2 + K'.2.2.2.2.slots) (pc + 3) lv (v.toList ++ rest) sh' M' Q) : Rn K sx cs pc lv st sh M Q := by
  subst hst
  intro p l e s m args below meth c A D3 D Qf ad H locs ls hC hS hE
  have hts := hC.2.2.2.2.1
  refine w_back (a := (As.map (w_cv ad)).toArray) hC hS hE ?_ hcc hok k
  refine va_runS (y := K'.1) (bytes := K'.2.1) (maxL := K'.2.2.1) (ret := K'.2.2.2.1) (ws := w_ws K') (rm := K'.2.2.2.2) (n := n) (Ts := lw_g) (own := K.1.cls) (index := index) (As := As.map (w_cv ad)) (cc := K.2.1) (nL := K.2.2.1)
    ⟨hC.1, hC.2.1, hC.2.2.1, hC.2.2.2.1, hts⟩ (hE' hS.2.2.2.2.2.1 l D3 D ad H.size)
    ⟨callB_of n hts (w_good hs.1) rfl rfl rfl (hts _ hs.2.1) (hts _ hl) hs.2.2.1 hs.2.2.2, hts _ hi⟩
    ⟨w_fb, fun U hU hW2 => ⟨rfl, by rw [hU], by rw [hU]; exact hS.1, va_K.moved hW2.alike hC.2.2.2.2.2.1, hS.2.1.weaken (fun _ _ _ _ => trivial), hC.2.2.2.2.2.2.2.1.warm hW2⟩⟩
    rfl (by simp [hn]) hS.2.2.2.1.1 (by simp [List.map_append, List.map_reverse]) (lv_room ?_) hd hcc
  rw [List.map_map]
  have : ((fun v : Value => v.category) ∘ w_cv ad) = fun v => v.category := funext (fun v => w_cv_cat ad v)
  rw [this]; exact hW
theorem Rn.callSN {host : String} {j : Nat} (hd : decode K.2.1 pc = .ok (.invokestatic index, 3)) (hs : w_site K K' n) (hl : w_nest[j]? = some (K.1.cls, index, K'.1, host)) (hi : Cond.static K'.1 ∈ lw_g) (hE' : Ev K' As sh M Q') (hst : st = As.reverse ++ rest) (hn : As.length = n) (hW : (rest.map fun v => v.category).sum ≤ 8)
    (hcc : cs.1 + K'.2.2.2.2.cells ≤ K.2.2.2.2.cells ∧ cs.2 + K'.2.2.2.2.slots ≤ K.2.2.2.2.slots) (hok : (w_in sh.length rest ∧ w_inL sh.length lv) ∨ ∀ v sh' M', Q' v sh' M' → sh'.length = sh.length)
    (k : ∀ v sh' M', Q' v sh' M' → sh.length ≤ sh'.length → Rn K sx (cs.1 + K'.2.2.2.2.cells, cs.2 + K'.2.2.2.2.slots) (pc + 3) lv (v.toList ++ rest) sh' M' Q) : Rn K sx cs pc lv st sh M Q := by
  subst hst
  intro p l e s m args below meth c A D3 D Qf ad H locs ls hC hS hE
  have hts := hC.2.2.2.2.1
  refine w_back (a := (As.map (w_cv ad)).toArray) hC hS hE ?_ hcc hok k
  refine va_runSN (y := K'.1) (bytes := K'.2.1) (maxL := K'.2.2.1) (ret := K'.2.2.2.1) (ws := w_ws K') (rm := K'.2.2.2.2) (n := n) (Ts := lw_g) (own := K.1.cls) (host := host) (index := index) (As := As.map (w_cv ad)) (cc := K.2.1) (nL := K.2.2.1)
    ⟨hC.1, hC.2.1, hC.2.2.1, hC.2.2.2.1, hts⟩ (hE' hS.2.2.2.2.2.1 l D3 D ad H.size)
    ⟨va_cnB n hts (w_good hs.1) rfl rfl rfl (hC.2.2.2.2.2.2.2.1 _ (List.mem_of_getElem? hl)) (hts _ hs.2.1) hs.2.2.1 hs.2.2.2, hts _ hi, trivial⟩
    ⟨w_fb, fun U hU hW2 => ⟨rfl, by rw [hU], by rw [hU]; exact hS.1, va_K.moved hW2.alike hC.2.2.2.2.2.1, hS.2.1.weaken (fun _ _ _ _ => trivial), hC.2.2.2.2.2.2.2.1.warm hW2⟩⟩
    rfl (by simp [hn]) hS.2.2.2.1.1 (by simp [List.map_append, List.map_reverse]) (lv_room ?_) hd hcc
  rw [List.map_map]
  have : ((fun v : Value => v.category) ∘ w_cv ad) = fun v => v.category := funext (fun v => w_cv_cat ad v)
  rw [this]; exact hW
/-- a constructor -/
theorem Rn.callI (hret : K'.2.2.2.1 = none) (hd : decode K.2.1 pc = .ok (.invokespecial index, 3)) (hs : w_site K K' n) (hl : Cond.methodLink K.1.cls index K'.1 ∈ lw_g) (hi : Cond.instanceMethod K'.1 ∈ lw_g) (hnm : K'.1.name = "<init>") (hE' : Ev K' (.ref b :: As) sh M Q') (hst : st = As.reverse ++ .ref b :: rest) (hn : As.length = n) (hW : (rest.map fun v => v.category).sum ≤ 8)
    (hcc : cs.1 + K'.2.2.2.2.cells ≤ K.2.2.2.2.cells ∧ cs.2 + K'.2.2.2.2.slots ≤ K.2.2.2.2.slots) (hok : (w_in sh.length rest ∧ w_inL sh.length lv) ∨ ∀ v sh' M', Q' v sh' M' → sh'.length = sh.length)
    (k : ∀ v sh' M', Q' v sh' M' → sh.length ≤ sh'.length → Rn K sx (cs.1 + K'.2.2.2.2.cells, cs.2 + K'.2.2.2.2.slots) (pc + 3) lv (v.toList ++ rest) sh' M' Q) : Rn K sx cs pc lv st sh M Q := by
  subst hst
  intro p l e s m args below meth c A D3 D Qf ad H locs ls hC hS hE
  have hts := hC.2.2.2.2.1
  refine w_back (a := (Value.ref (ad b) :: As.map (w_cv ad)).toArray) hC hS hE ?_ hcc hok k
  have hs1 := hs.1
  have hM := hE' hS.2.2.2.2.2.1 l D3 D ad H.size
  refine va_runI (y := K'.1) (bytes := K'.2.1) (maxL := K'.2.2.1) (ws := w_ws K') (rm := K'.2.2.2.2) (n := n) (Ts := lw_g) (own := K.1.cls) (index := index) (b := ad b) (As := As.map (w_cv ad)) (cc := K.2.1) (nL := K.2.2.1)
    ⟨hC.1, hC.2.1, hC.2.2.1, hC.2.2.2.1, hts⟩ hM
    ⟨by rw [← hret]; exact callB_of n hts (w_good hs1) rfl rfl rfl (hts _ hs.2.1) (hts _ hl) hs.2.2.1 hs.2.2.2, hnm, hts _ hi⟩
    ⟨w_fb, fun U hU hW2 => ⟨rfl, by rw [hU], by rw [hU]; exact hS.1, va_K.moved hW2.alike hC.2.2.2.2.2.1, hS.2.1.weaken (fun _ _ _ _ => trivial), hC.2.2.2.2.2.2.2.1.warm hW2⟩⟩
    rfl (by simp [hn]) hS.2.2.2.1.1 (by simp [List.map_append, List.map_reverse, w_cv]) (lv_room ?_) hd hcc
  rw [List.map_map]
  have : ((fun v : Value => v.category) ∘ w_cv ad) = fun v => v.category := funext (fun v => w_cv_cat ad v)
  rw [this]; exact hW
theorem Rn.callIN {host : String} {j : Nat} (hret : K'.2.2.2.1 = none) (hd : decode K.2.1 pc = .ok (.invokespecial index, 3)) (hs : w_site K K' n) (hl : w_nest[j]? = some (K.1.cls, index, K'.1, host)) (hi : Cond.instanceMethod K'.1 ∈ lw_g) (hnm : K'.1.name = "<init>") (hE' : Ev K' (.ref b :: As) sh M Q') (hst : st = As.reverse ++ .ref b :: rest) (hn : As.length = n) (hW : (rest.map fun v => v.category).sum ≤ 8)
    (hcc : cs.1 + K'.2.2.2.2.cells ≤ K.2.2.2.2.cells ∧ cs.2 + K'.2.2.2.2.slots ≤ K.2.2.2.2.slots) (hok : (w_in sh.length rest ∧ w_inL sh.length lv) ∨ ∀ v sh' M', Q' v sh' M' → sh'.length = sh.length)
    (k : ∀ v sh' M', Q' v sh' M' → sh.length ≤ sh'.length → Rn K sx (cs.1 + K'.2.2.2.2.cells, cs.2 + K'.2.2.2.2.slots) (pc + 3) lv (v.toList ++ rest) sh' M' Q) : Rn K sx cs pc lv st sh M Q := by
  subst hst
  intro p l e s m args below meth c A D3 D Qf ad H locs ls hC hS hE
  have hts := hC.2.2.2.2.1
  refine w_back (a := (Value.ref (ad b) :: As.map (w_cv ad)).toArray) hC hS hE ?_ hcc hok k
  have hs1 := hs.1
  refine va_runIN (y := K'.1) (bytes := K'.2.1) (maxL := K'.2.2.1) (ws := w_ws K') (rm := K'.2.2.2.2) (n := n) (Ts := lw_g) (own := K.1.cls) (host := host) (index := index) (b := ad b) (As := As.map (w_cv ad)) (cc := K.2.1) (nL := K.2.2.1)
    ⟨hC.1, hC.2.1, hC.2.2.1, hC.2.2.2.1, hts⟩ (hE' hS.2.2.2.2.2.1 l D3 D ad H.size)
    ⟨by rw [← hret]; exact va_cnB n hts (w_good hs1) rfl rfl rfl (hC.2.2.2.2.2.2.2.1 _ (List.mem_of_getElem? hl)) (hts _ hs.2.1) hs.2.2.1 hs.2.2.2, hnm, hts _ hi⟩
    ⟨w_fb, fun U hU hW2 => ⟨rfl, by rw [hU], by rw [hU]; exact hS.1, va_K.moved hW2.alike hC.2.2.2.2.2.1, hS.2.1.weaken (fun _ _ _ _ => trivial), hC.2.2.2.2.2.2.2.1.warm hW2⟩⟩
    rfl (by simp [hn]) hS.2.2.2.1.1 (by simp [List.map_append, List.map_reverse, w_cv]) (lv_room ?_) hd hcc
  rw [List.map_map]
  have : ((fun v : Value => v.category) ∘ w_cv ad) = fun v => v.category := funext (fun v => w_cv_cat ad v)
  rw [this]; exact hW
end CALLS
end
section
/-! Contracts of methods that make nothing, by the kind of answer. -/
def w_0 (K : wK) : Prop := K.2.2.2.2.cells = 0 ∧ K.2.2.2.2.slots = 0
def w_QI (sh : wSh) (Q : Int32 → wM → Prop) : Option Value → wSh → wM → Prop := fun v sh' M' => sh' = sh ∧ ∃ r : Int32, v = some (.int r) ∧ Q r M'
def w_FI (cs : Nat × Nat) (sh : wSh) (Q : Int32 → wM → Prop) : Option Value → wSh → wM → Nat × Nat → Prop := fun v sh' M' cs' => cs' = cs ∧ w_QI sh Q v sh' M'
def EvI (K : wK) (As : List Value) (sh : wSh) (M : wM) (Q : Int32 → wM → Prop) : Prop := Ev K As sh M (w_QI sh Q)
theorem EvI.mono {K : wK} {As : List Value} {sh : wSh} {M : wM} {Q Q' : Int32 → wM → Prop} (k : EvI K As sh M Q') (h : ∀ r M', Q' r M' → Q r M') : EvI K As sh M Q := Ev.mono (fun v sh' M' hq => ⟨hq.1, hq.2.choose, hq.2.choose_spec.1, h _ _ hq.2.choose_spec.2⟩) k
theorem EvI.of {K : wK} {As : List Value} {sh : wSh} {M : wM} {Q : Int32 → wM → Prop} {lv : List (Option Value)} (k0 : Nat) (hy : plainName K.1.cls = true) (hn : (lg_sl As).length ≤ K.2.2.1) (hlv : w_lv As ++ List.replicate k0 none = lv)
    (body : Rn K none (0, 0) 0 lv [] sh M (w_FI (0, 0) sh Q)) : EvI K As sh M Q :=
  Ev.of k0 hy hn hlv (body.mono (fun v sh' M' cs' hq => ⟨hq.2, by rw [hq.1]; exact Nat.zero_le _, by rw [hq.1]; exact Nat.zero_le _⟩))
def w_QL (sh : wSh) (Q : Int64 → wM → Prop) : Option Value → wSh → wM → Prop := fun v sh' M' => sh' = sh ∧ ∃ r : Int64, v = some (.long r) ∧ Q r M'
def w_FL (cs : Nat × Nat) (sh : wSh) (Q : Int64 → wM → Prop) : Option Value → wSh → wM → Nat × Nat → Prop := fun v sh' M' cs' => cs' = cs ∧ w_QL sh Q v sh' M'
def EvL (K : wK) (As : List Value) (sh : wSh) (M : wM) (Q : Int64 → wM → Prop) : Prop := Ev K As sh M (w_QL sh Q)
theorem EvL.mono {K : wK} {As : List Value} {sh : wSh} {M : wM} {Q Q' : Int64 → wM → Prop} (k : EvL K As sh M Q') (h : ∀ r M', Q' r M' → Q r M') : EvL K As sh M Q := Ev.mono (fun v sh' M' hq => ⟨hq.1, hq.2.choose, hq.2.choose_spec.1, h _ _ hq.2.choose_spec.2⟩) k
theorem EvL.of {K : wK} {As : List Value} {sh : wSh} {M : wM} {Q : Int64 → wM → Prop} {lv : List (Option Value)} (k0 : Nat) (hy : plainName K.1.cls = true) (hn : (lg_sl As).length ≤ K.2.2.1) (hlv : w_lv As ++ List.replicate k0 none = lv)
    (body : Rn K none (0, 0) 0 lv [] sh M (w_FL (0, 0) sh Q)) : EvL K As sh M Q :=
  Ev.of k0 hy hn hlv (body.mono (fun v sh' M' cs' hq => ⟨hq.2, by rw [hq.1]; exact Nat.zero_le _, by rw [hq.1]; exact Nat.zero_le _⟩))
def w_QR (sh : wSh) (Q : Nat → wM → Prop) : Option Value → wSh → wM → Prop := fun v sh' M' => sh' = sh ∧ ∃ r : Nat, v = some (.ref r) ∧ Q r M'
def w_FR (cs : Nat × Nat) (sh : wSh) (Q : Nat → wM → Prop) : Option Value → wSh → wM → Nat × Nat → Prop := fun v sh' M' cs' => cs' = cs ∧ w_QR sh Q v sh' M'
def EvR (K : wK) (As : List Value) (sh : wSh) (M : wM) (Q : Nat → wM → Prop) : Prop := Ev K As sh M (w_QR sh Q)
theorem EvR.mono {K : wK} {As : List Value} {sh : wSh} {M : wM} {Q Q' : Nat → wM → Prop} (k : EvR K As sh M Q') (h : ∀ r M', Q' r M' → Q r M') : EvR K As sh M Q := Ev.mono (fun v sh' M' hq => ⟨hq.1, hq.2.choose, hq.2.choose_spec.1, h _ _ hq.2.choose_spec.2⟩) k
theorem EvR.of {K : wK} {As : List Value} {sh : wSh} {M : wM} {Q : Nat → wM → Prop} {lv : List (Option Value)} (k0 : Nat) (hy : plainName K.1.cls = true) (hn : (lg_sl As).length ≤ K.2.2.1) (hlv : w_lv As ++ List.replicate k0 none = lv)
    (body : Rn K none (0, 0) 0 lv [] sh M (w_FR (0, 0) sh Q)) : EvR K As sh M Q :=
  Ev.of k0 hy hn hlv (body.mono (fun v sh' M' cs' hq => ⟨hq.2, by rw [hq.1]; exact Nat.zero_le _, by rw [hq.1]; exact Nat.zero_le _⟩))
def w_QV (sh : wSh) (Q : wM → Prop) : Option Value → wSh → wM → Prop := fun v sh' M' => sh' = sh ∧ v = none ∧ Q M'
def w_FV (cs : Nat × Nat) (sh : wSh) (Q : wM → Prop) : Option Value → wSh → wM → Nat × Nat → Prop := fun v sh' M' cs' => cs' = cs ∧ w_QV sh Q v sh' M'
def EvV (K : wK) (As : List Value) (sh : wSh) (M : wM) (Q : wM → Prop) : Prop := Ev K As sh M (w_QV sh Q)
theorem EvV.mono {K : wK} {As : List Value} {sh : wSh} {M : wM} {Q Q' : wM → Prop} (k : EvV K As sh M Q') (h : ∀ M', Q' M' → Q M') : EvV K As sh M Q := Ev.mono (fun v sh' M' hq => ⟨hq.1, hq.2.1, h _ hq.2.2⟩) k
theorem EvV.of {K : wK} {As : List Value} {sh : wSh} {M : wM} {Q : wM → Prop} {lv : List (Option Value)} (k0 : Nat) (hy : plainName K.1.cls = true) (hn : (lg_sl As).length ≤ K.2.2.1) (hlv : w_lv As ++ List.replicate k0 none = lv)
    (body : Rn K none (0, 0) 0 lv [] sh M (w_FV (0, 0) sh Q)) : EvV K As sh M Q :=
  Ev.of k0 hy hn hlv (body.mono (fun v sh' M' cs' hq => ⟨hq.2, by rw [hq.1]; exact Nat.zero_le _, by rw [hq.1]; exact Nat.zero_le _⟩))
section RN2
variable {K K' : wK} {sx : Option (Nat × (Nat → Int32) × Nat)} {cs : Nat × Nat} {pc : Nat} {lv : List (Option Value)} {st rest As : List Value} {sh : wSh} {M : wM} {Q : Option Value → wSh → wM → Nat × Nat → Prop} {Q' : Option Value → wSh → wM → Prop} {index n b ci z : Nat}
theorem Rn.iret {x : Int32} {ty : FieldType} {Q : Int32 → wM → Prop} (hd : decode K.2.1 pc = .ok (.ireturn, 1)) (hr : K.2.2.2.1 = some ty) (hn : narrow ty (.int x) = .int x) (hq : Q x M) : Rn K sx cs pc lv [.int x] sh M (w_FI cs sh Q) :=
  Rn.ret (v := some (.int x)) ⟨hd, ty, hr, hn⟩ rfl ⟨rfl, rfl, x, rfl, hq⟩
theorem Rn.lret {x : Int64} {Q : Int64 → wM → Prop} (hd : decode K.2.1 pc = .ok (.lreturn, 1)) (hr : K.2.2.2.1 = some .long) (hq : Q x M) : Rn K sx cs pc lv [.long x] sh M (w_FL cs sh Q) :=
  Rn.ret (v := some (.long x)) ⟨hd, hr⟩ rfl ⟨rfl, rfl, x, rfl, hq⟩
theorem Rn.aret {x : Nat} {nm : String} {Q : Nat → wM → Prop} (hd : decode K.2.1 pc = .ok (.areturn, 1)) (hr : K.2.2.2.1 = some (.object nm)) (hq : Q x M) : Rn K sx cs pc lv [.ref x] sh M (w_FR cs sh Q) :=
  Rn.ret (v := some (.ref x)) ⟨hd, nm, hr⟩ rfl ⟨rfl, rfl, x, rfl, hq⟩
theorem Rn.vret {Q : wM → Prop} (hd : decode K.2.1 pc = .ok (.return_, 1)) (hr : K.2.2.2.1 = none) (hq : Q M) : Rn K sx cs pc lv [] sh M (w_FV cs sh Q) :=
  Rn.ret (v := none) ⟨hd, hr⟩ rfl ⟨rfl, rfl, rfl, hq⟩
theorem w_cs0 (h : w_0 K') (hc : cs.1 ≤ K.2.2.2.2.cells ∧ cs.2 ≤ K.2.2.2.2.slots) : cs.1 + K'.2.2.2.2.cells ≤ K.2.2.2.2.cells ∧ cs.2 + K'.2.2.2.2.slots ≤ K.2.2.2.2.slots := by rw [h.1, h.2]; exact hc
theorem w_cs1 (h : w_0 K') : (cs.1 + K'.2.2.2.2.cells, cs.2 + K'.2.2.2.2.slots) = cs := by rw [h.1, h.2]; rfl
/-- a class of vwCl by its number -/
def w_cls (ci : Nat) (C : String) : Prop := ∃ T N, vwCl[ci]? = some (C, T, N) ∧ ci ≠ 12 ∧ ci ≠ 13 ∧ ci ≠ 14
theorem Rn.cVI {Q1 : Int32 → wM → Prop} (hd : decode K.2.1 pc = .ok (.invokevirtual index, 3)) (hs : w_site K K' n) (hl : Cond.methodLink K.1.cls index K'.1 ∈ lw_g) (hi : Cond.instanceMethod K'.1 ∈ lw_g) (hse : Cond.selects K'.1.cls K'.1 K'.1 ∈ lw_g) (h0 : w_0 K') (hcc : cs.1 ≤ K.2.2.2.2.cells ∧ cs.2 ≤ K.2.2.2.2.slots) (hE' : EvI K' (.ref b :: As) sh M Q1) (hst : st = As.reverse ++ .ref b :: rest) (hn : As.length = n) (hsh : sh[b]? = some (ci, z)) (hci : w_cls ci K'.1.cls) (hW : (rest.map fun v => v.category).sum ≤ 8)
    (k : ∀ (r : Int32) (M' : wM), Q1 r M' → Rn K sx cs (pc + 3) lv (.int r :: rest) sh M' Q) : Rn K sx cs pc lv st sh M Q := by
  refine Rn.callV hd hs hl hi hse hE' hst hn hsh hci hW (w_cs0 h0 hcc) (Or.inr (fun v sh' M' h => by rw [h.1])) (fun v sh' M' hq _ => ?_)
  obtain ⟨rfl, r, rfl, hq⟩ := hq
  have h := k r M' hq
  rw [w_cs1 h0]
  exact h
theorem Rn.cVL {Q1 : Int64 → wM → Prop} (hd : decode K.2.1 pc = .ok (.invokevirtual index, 3)) (hs : w_site K K' n) (hl : Cond.methodLink K.1.cls index K'.1 ∈ lw_g) (hi : Cond.instanceMethod K'.1 ∈ lw_g) (hse : Cond.selects K'.1.cls K'.1 K'.1 ∈ lw_g) (h0 : w_0 K') (hcc : cs.1 ≤ K.2.2.2.2.cells ∧ cs.2 ≤ K.2.2.2.2.slots) (hE' : EvL K' (.ref b :: As) sh M Q1) (hst : st = As.reverse ++ .ref b :: rest) (hn : As.length = n) (hsh : sh[b]? = some (ci, z)) (hci : w_cls ci K'.1.cls) (hW : (rest.map fun v => v.category).sum ≤ 8)
    (k : ∀ (r : Int64) (M' : wM), Q1 r M' → Rn K sx cs (pc + 3) lv (.long r :: rest) sh M' Q) : Rn K sx cs pc lv st sh M Q := by
  refine Rn.callV hd hs hl hi hse hE' hst hn hsh hci hW (w_cs0 h0 hcc) (Or.inr (fun v sh' M' h => by rw [h.1])) (fun v sh' M' hq _ => ?_)
  obtain ⟨rfl, r, rfl, hq⟩ := hq
  have h := k r M' hq
  rw [w_cs1 h0]
  exact h
theorem Rn.cVR {Q1 : Nat → wM → Prop} (hd : decode K.2.1 pc = .ok (.invokevirtual index, 3)) (hs : w_site K K' n) (hl : Cond.methodLink K.1.cls index K'.1 ∈ lw_g) (hi : Cond.instanceMethod K'.1 ∈ lw_g) (hse : Cond.selects K'.1.cls K'.1 K'.1 ∈ lw_g) (h0 : w_0 K') (hcc : cs.1 ≤ K.2.2.2.2.cells ∧ cs.2 ≤ K.2.2.2.2.slots) (hE' : EvR K' (.ref b :: As) sh M Q1) (hst : st = As.reverse ++ .ref b :: rest) (hn : As.length = n) (hsh : sh[b]? = some (ci, z)) (hci : w_cls ci K'.1.cls) (hW : (rest.map fun v => v.category).sum ≤ 8)
    (k : ∀ (r : Nat) (M' : wM), Q1 r M' → Rn K sx cs (pc + 3) lv (.ref r :: rest) sh M' Q) : Rn K sx cs pc lv st sh M Q := by
  refine Rn.callV hd hs hl hi hse hE' hst hn hsh hci hW (w_cs0 h0 hcc) (Or.inr (fun v sh' M' h => by rw [h.1])) (fun v sh' M' hq _ => ?_)
  obtain ⟨rfl, r, rfl, hq⟩ := hq
  have h := k r M' hq
  rw [w_cs1 h0]
  exact h
theorem Rn.cVV {Q1 : wM → Prop} (hd : decode K.2.1 pc = .ok (.invokevirtual index, 3)) (hs : w_site K K' n) (hl : Cond.methodLink K.1.cls index K'.1 ∈ lw_g) (hi : Cond.instanceMethod K'.1 ∈ lw_g) (hse : Cond.selects K'.1.cls K'.1 K'.1 ∈ lw_g) (h0 : w_0 K') (hcc : cs.1 ≤ K.2.2.2.2.cells ∧ cs.2 ≤ K.2.2.2.2.slots) (hE' : EvV K' (.ref b :: As) sh M Q1) (hst : st = As.reverse ++ .ref b :: rest) (hn : As.length = n) (hsh : sh[b]? = some (ci, z)) (hci : w_cls ci K'.1.cls) (hW : (rest.map fun v => v.category).sum ≤ 8)
    (k : ∀ M', Q1 M' → Rn K sx cs (pc + 3) lv rest sh M' Q) : Rn K sx cs pc lv st sh M Q := by
  refine Rn.callV hd hs hl hi hse hE' hst hn hsh hci hW (w_cs0 h0 hcc) (Or.inr (fun v sh' M' h => by rw [h.1])) (fun v sh' M' hq _ => ?_)
  obtain ⟨rfl, rfl, hq⟩ := hq
  have h := k M' hq
  rw [w_cs1 h0]
  exact h
theorem Rn.cVNI {Q1 : Int32 → wM → Prop} (hd : decode K.2.1 pc = .ok (.invokevirtual index, 3)) (hs : w_site K K' n) {host : String} {j : Nat} (hl : w_nest[j]? = some (K.1.cls, index, K'.1, host)) (hi : Cond.instanceMethod K'.1 ∈ lw_g) (hse : Cond.selects K'.1.cls K'.1 K'.1 ∈ lw_g) (h0 : w_0 K') (hcc : cs.1 ≤ K.2.2.2.2.cells ∧ cs.2 ≤ K.2.2.2.2.slots) (hE' : EvI K' (.ref b :: As) sh M Q1) (hst : st = As.reverse ++ .ref b :: rest) (hn : As.length = n) (hsh : sh[b]? = some (ci, z)) (hci : w_cls ci K'.1.cls) (hW : (rest.map fun v => v.category).sum ≤ 8)
    (k : ∀ (r : Int32) (M' : wM), Q1 r M' → Rn K sx cs (pc + 3) lv (.int r :: rest) sh M' Q) : Rn K sx cs pc lv st sh M Q := by
  refine Rn.callVN hd hs hl hi hse hE' hst hn hsh hci hW (w_cs0 h0 hcc) (Or.inr (fun v sh' M' h => by rw [h.1])) (fun v sh' M' hq _ => ?_)
  obtain ⟨rfl, r, rfl, hq⟩ := hq
  have h := k r M' hq
  rw [w_cs1 h0]
  exact h
theorem Rn.cVNL {Q1 : Int64 → wM → Prop} (hd : decode K.2.1 pc = .ok (.invokevirtual index, 3)) (hs : w_site K K' n) {host : String} {j : Nat} (hl : w_nest[j]? = some (K.1.cls, index, K'.1, host)) (hi : Cond.instanceMethod K'.1 ∈ lw_g) (hse : Cond.selects K'.1.cls K'.1 K'.1 ∈ lw_g) (h0 : w_0 K') (hcc : cs.1 ≤ K.2.2.2.2.cells ∧ cs.2 ≤ K.2.2.2.2.slots) (hE' : EvL K' (.ref b :: As) sh M Q1) (hst : st = As.reverse ++ .ref b :: rest) (hn : As.length = n) (hsh : sh[b]? = some (ci, z)) (hci : w_cls ci K'.1.cls) (hW : (rest.map fun v => v.category).sum ≤ 8)
    (k : ∀ (r : Int64) (M' : wM), Q1 r M' → Rn K sx cs (pc + 3) lv (.long r :: rest) sh M' Q) : Rn K sx cs pc lv st sh M Q := by
  refine Rn.callVN hd hs hl hi hse hE' hst hn hsh hci hW (w_cs0 h0 hcc) (Or.inr (fun v sh' M' h => by rw [h.1])) (fun v sh' M' hq _ => ?_)
  obtain ⟨rfl, r, rfl, hq⟩ := hq
  have h := k r M' hq
  rw [w_cs1 h0]
  exact h
theorem Rn.cVNR {Q1 : Nat → wM → Prop} (hd : decode K.2.1 pc = .ok (.invokevirtual index, 3)) (hs : w_site K K' n) {host : String} {j : Nat} (hl : w_nest[j]? = some (K.1.cls, index, K'.1, host)) (hi : Cond.instanceMethod K'.1 ∈ lw_g) (hse : Cond.selects K'.1.cls K'.1 K'.1 ∈ lw_g) (h0 : w_0 K') (hcc : cs.1 ≤ K.2.2.2.2.cells ∧ cs.2 ≤ K.2.2.2.2.slots) (hE' : EvR K' (.ref b :: As) sh M Q1) (hst : st = As.reverse ++ .ref b :: rest) (hn : As.length = n) (hsh : sh[b]? = some (ci, z)) (hci : w_cls ci K'.1.cls) (hW : (rest.map fun v => v.category).sum ≤ 8)
    (k : ∀ (r : Nat) (M' : wM), Q1 r M' → Rn K sx cs (pc + 3) lv (.ref r :: rest) sh M' Q) : Rn K sx cs pc lv st sh M Q := by
  refine Rn.callVN hd hs hl hi hse hE' hst hn hsh hci hW (w_cs0 h0 hcc) (Or.inr (fun v sh' M' h => by rw [h.1])) (fun v sh' M' hq _ => ?_)
  obtain ⟨rfl, r, rfl, hq⟩ := hq
  have h := k r M' hq
  rw [w_cs1 h0]
  exact h
theorem Rn.cVNV {Q1 : wM → Prop} (hd : decode K.2.1 pc = .ok (.invokevirtual index, 3)) (hs : w_site K K' n) {host : String} {j : Nat} (hl : w_nest[j]? = some (K.1.cls, index, K'.1, host)) (hi : Cond.instanceMethod K'.1 ∈ lw_g) (hse : Cond.selects K'.1.cls K'.1 K'.1 ∈ lw_g) (h0 : w_0 K') (hcc : cs.1 ≤ K.2.2.2.2.cells ∧ cs.2 ≤ K.2.2.2.2.slots) (hE' : EvV K' (.ref b :: As) sh M Q1) (hst : st = As.reverse ++ .ref b :: rest) (hn : As.length = n) (hsh : sh[b]? = some (ci, z)) (hci : w_cls ci K'.1.cls) (hW : (rest.map fun v => v.category).sum ≤ 8)
    (k : ∀ M', Q1 M' → Rn K sx cs (pc + 3) lv rest sh M' Q) : Rn K sx cs pc lv st sh M Q := by
  refine Rn.callVN hd hs hl hi hse hE' hst hn hsh hci hW (w_cs0 h0 hcc) (Or.inr (fun v sh' M' h => by rw [h.1])) (fun v sh' M' hq _ => ?_)
  obtain ⟨rfl, rfl, hq⟩ := hq
  have h := k M' hq
  rw [w_cs1 h0]
  exact h
theorem Rn.cSI {Q1 : Int32 → wM → Prop} (hd : decode K.2.1 pc = .ok (.invokestatic index, 3)) (hs : w_site K K' n) (hl : Cond.methodLink K.1.cls index K'.1 ∈ lw_g) (hi : Cond.static K'.1 ∈ lw_g) (h0 : w_0 K') (hcc : cs.1 ≤ K.2.2.2.2.cells ∧ cs.2 ≤ K.2.2.2.2.slots) (hE' : EvI K' As sh M Q1) (hst : st = As.reverse ++ rest) (hn : As.length = n) (hW : (rest.map fun v => v.category).sum ≤ 8)
    (k : ∀ (r : Int32) (M' : wM), Q1 r M' → Rn K sx cs (pc + 3) lv (.int r :: rest) sh M' Q) : Rn K sx cs pc lv st sh M Q := by
  refine Rn.callS hd hs hl hi hE' hst hn hW (w_cs0 h0 hcc) (Or.inr (fun v sh' M' h => by rw [h.1])) (fun v sh' M' hq _ => ?_)
  obtain ⟨rfl, r, rfl, hq⟩ := hq
  have h := k r M' hq
  rw [w_cs1 h0]
  exact h
theorem Rn.cSL {Q1 : Int64 → wM → Prop} (hd : decode K.2.1 pc = .ok (.invokestatic index, 3)) (hs : w_site K K' n) (hl : Cond.methodLink K.1.cls index K'.1 ∈ lw_g) (hi : Cond.static K'.1 ∈ lw_g) (h0 : w_0 K') (hcc : cs.1 ≤ K.2.2.2.2.cells ∧ cs.2 ≤ K.2.2.2.2.slots) (hE' : EvL K' As sh M Q1) (hst : st = As.reverse ++ rest) (hn : As.length = n) (hW : (rest.map fun v => v.category).sum ≤ 8)
    (k : ∀ (r : Int64) (M' : wM), Q1 r M' → Rn K sx cs (pc + 3) lv (.long r :: rest) sh M' Q) : Rn K sx cs pc lv st sh M Q := by
  refine Rn.callS hd hs hl hi hE' hst hn hW (w_cs0 h0 hcc) (Or.inr (fun v sh' M' h => by rw [h.1])) (fun v sh' M' hq _ => ?_)
  obtain ⟨rfl, r, rfl, hq⟩ := hq
  have h := k r M' hq
  rw [w_cs1 h0]
  exact h
theorem Rn.cSR {Q1 : Nat → wM → Prop} (hd : decode K.2.1 pc = .ok (.invokestatic index, 3)) (hs : w_site K K' n) (hl : Cond.methodLink K.1.cls index K'.1 ∈ lw_g) (hi : Cond.static K'.1 ∈ lw_g) (h0 : w_0 K') (hcc : cs.1 ≤ K.2.2.2.2.cells ∧ cs.2 ≤ K.2.2.2.2.slots) (hE' : EvR K' As sh M Q1) (hst : st = As.reverse ++ rest) (hn : As.length = n) (hW : (rest.map fun v => v.category).sum ≤ 8)
    (k : ∀ (r : Nat) (M' : wM), Q1 r M' → Rn K sx cs (pc + 3) lv (.ref r :: rest) sh M' Q) : Rn K sx cs pc lv st sh M Q := by
  refine Rn.callS hd hs hl hi hE' hst hn hW (w_cs0 h0 hcc) (Or.inr (fun v sh' M' h => by rw [h.1])) (fun v sh' M' hq _ => ?_)
  obtain ⟨rfl, r, rfl, hq⟩ := hq
  have h := k r M' hq
  rw [w_cs1 h0]
  exact h
theorem Rn.cSV {Q1 : wM → Prop} (hd : decode K.2.1 pc = .ok (.invokestatic index, 3)) (hs : w_site K K' n) (hl : Cond.methodLink K.1.cls index K'.1 ∈ lw_g) (hi : Cond.static K'.1 ∈ lw_g) (h0 : w_0 K') (hcc : cs.1 ≤ K.2.2.2.2.cells ∧ cs.2 ≤ K.2.2.2.2.slots) (hE' : EvV K' As sh M Q1) (hst : st = As.reverse ++ rest) (hn : As.length = n) (hW : (rest.map fun v => v.category).sum ≤ 8)
    (k : ∀ M', Q1 M' → Rn K sx cs (pc + 3) lv rest sh M' Q) : Rn K sx cs pc lv st sh M Q := by
  refine Rn.callS hd hs hl hi hE' hst hn hW (w_cs0 h0 hcc) (Or.inr (fun v sh' M' h => by rw [h.1])) (fun v sh' M' hq _ => ?_)
  obtain ⟨rfl, rfl, hq⟩ := hq
  have h := k M' hq
  rw [w_cs1 h0]
  exact h
theorem Rn.cSNI {Q1 : Int32 → wM → Prop} (hd : decode K.2.1 pc = .ok (.invokestatic index, 3)) (hs : w_site K K' n) {host : String} {j : Nat} (hl : w_nest[j]? = some (K.1.cls, index, K'.1, host)) (hi : Cond.static K'.1 ∈ lw_g) (h0 : w_0 K') (hcc : cs.1 ≤ K.2.2.2.2.cells ∧ cs.2 ≤ K.2.2.2.2.slots) (hE' : EvI K' As sh M Q1) (hst : st = As.reverse ++ rest) (hn : As.length = n) (hW : (rest.map fun v => v.category).sum ≤ 8)
    (k : ∀ (r : Int32) (M' : wM), Q1 r M' → Rn K sx cs (pc + 3) lv (.int r :: rest) sh M' Q) : Rn K sx cs pc lv st sh M Q := by
  refine Rn.callSN hd hs hl hi hE' hst hn hW (w_cs0 h0 hcc) (Or.inr (fun v sh' M' h => by rw [h.1])) (fun v sh' M' hq _ => ?_)
  obtain ⟨rfl, r, rfl, hq⟩ := hq
  have h := k r M' hq
  rw [w_cs1 h0]
  exact h
theorem Rn.cSNL {Q1 : Int64 → wM → Prop} (hd : decode K.2.1 pc = .ok (.invokestatic index, 3)) (hs : w_site K K' n) {host : String} {j : Nat} (hl : w_nest[j]? = some (K.1.cls, index, K'.1, host)) (hi : Cond.static K'.1 ∈ lw_g) (h0 : w_0 K') (hcc : cs.1 ≤ K.2.2.2.2.cells ∧ cs.2 ≤ K.2.2.2.2.slots) (hE' : EvL K' As sh M Q1) (hst : st = As.reverse ++ rest) (hn : As.length = n) (hW : (rest.map fun v => v.category).sum ≤ 8)
    (k : ∀ (r : Int64) (M' : wM), Q1 r M' → Rn K sx cs (pc + 3) lv (.long r :: rest) sh M' Q) : Rn K sx cs pc lv st sh M Q := by
  refine Rn.callSN hd hs hl hi hE' hst hn hW (w_cs0 h0 hcc) (Or.inr (fun v sh' M' h => by rw [h.1])) (fun v sh' M' hq _ => ?_)
  obtain ⟨rfl, r, rfl, hq⟩ := hq
  have h := k r M' hq
  rw [w_cs1 h0]
  exact h
theorem Rn.cSNR {Q1 : Nat → wM → Prop} (hd : decode K.2.1 pc = .ok (.invokestatic index, 3)) (hs : w_site K K' n) {host : String} {j : Nat} (hl : w_nest[j]? = some (K.1.cls, index, K'.1, host)) (hi : Cond.static K'.1 ∈ lw_g) (h0 : w_0 K') (hcc : cs.1 ≤ K.2.2.2.2.cells ∧ cs.2 ≤ K.2.2.2.2.slots) (hE' : EvR K' As sh M Q1) (hst : st = As.reverse ++ rest) (hn : As.length = n) (hW : (rest.map fun v => v.category).sum ≤ 8)
    (k : ∀ (r : Nat) (M' : wM), Q1 r M' → Rn K sx cs (pc + 3) lv (.ref r :: rest) sh M' Q) : Rn K sx cs pc lv st sh M Q := by
  refine Rn.callSN hd hs hl hi hE' hst hn hW (w_cs0 h0 hcc) (Or.inr (fun v sh' M' h => by rw [h.1])) (fun v sh' M' hq _ => ?_)
  obtain ⟨rfl, r, rfl, hq⟩ := hq
  have h := k r M' hq
  rw [w_cs1 h0]
  exact h
theorem Rn.cSNV {Q1 : wM → Prop} (hd : decode K.2.1 pc = .ok (.invokestatic index, 3)) (hs : w_site K K' n) {host : String} {j : Nat} (hl : w_nest[j]? = some (K.1.cls, index, K'.1, host)) (hi : Cond.static K'.1 ∈ lw_g) (h0 : w_0 K') (hcc : cs.1 ≤ K.2.2.2.2.cells ∧ cs.2 ≤ K.2.2.2.2.slots) (hE' : EvV K' As sh M Q1) (hst : st = As.reverse ++ rest) (hn : As.length = n) (hW : (rest.map fun v => v.category).sum ≤ 8)
    (k : ∀ M', Q1 M' → Rn K sx cs (pc + 3) lv rest sh M' Q) : Rn K sx cs pc lv st sh M Q := by
  refine Rn.callSN hd hs hl hi hE' hst hn hW (w_cs0 h0 hcc) (Or.inr (fun v sh' M' h => by rw [h.1])) (fun v sh' M' hq _ => ?_)
  obtain ⟨rfl, rfl, hq⟩ := hq
  have h := k M' hq
  rw [w_cs1 h0]
  exact h
/-! Object's constructor, and what is made -/
theorem Rn.objInit (hd : decode K.2.1 pc = .ok (.invokespecial index, 3)) (hl : Cond.methodLink K.1.cls index Lib.objectInit ∈ lw_g) (hi : Cond.instanceMethod Lib.objectInit ∈ lw_g) (hc : Cond.code Lib.objectInit ⟨#[0xb1]⟩ 1 none ∈ lw_g) (hf : 1 ≤ K.2.2.2.2.frames) (hlo : (st.map fun v => v.category).sum + 12 ≤ K.2.2.2.2.locals)
    (k : Rn K sx cs (pc + 3) lv st sh M Q) : Rn K sx cs pc lv (.ref b :: st) sh M Q := by
  intro p l e s m args below meth c A D3 D Qf ad H locs ls hC hS hE
  have hts := hC.2.2.2.2.1
  refine W.objInit (g := F0 m pc ls ((Value.ref b :: st).map (w_cv ad))) hC.1 hC.2.1 hC.2.2.2.1 (hts _ hl) (hts _ hi) (hts _ hc) rfl (by show ls.size = _; rw [hS.2.2.2.1.1]; exact hC.2.2.1.symm) rfl hd hf ?_ (k p l e s m args below meth c A D3 D Qf ad H locs ls hC hS hE)
  show 2 * 0 + _ + 12 ≤ _
  rw [List.map_map]
  have : ((fun v : Value => v.category) ∘ w_cv ad) = fun v => v.category := funext (fun v => w_cv_cat ad v)
  rw [this]; omega
theorem w_up_lt {ad : Nat → Nat} {n q : Nat} : ∀ k, k < n → va_up ad n q k = ad k := fun k hk => by simp [va_up, Nat.ne_of_lt hk]
/-- a memory with one cell more: as it was, but there -/
def w_new (M M' : wM) (n : Nat) : Prop := ∀ j, j ≠ n → M'.1 j = M.1 j ∧ M'.2.1 j = M.2.1 j ∧ M'.2.2 j = M.2.2 j
/-- a fresh cell, all zero -/
def w_z (M : wM) (n : Nat) : wM := (va_up M.1 n (fun _ => 0), va_up M.2.1 n (fun _ => 0), va_up M.2.2 n (fun _ => none))
theorem w_z_new (M : wM) (n : Nat) : w_new M (w_z M n) n := fun j hj => ⟨by simp [w_z, va_up, hj], by simp [w_z, va_up, hj], by simp [w_z, va_up, hj]⟩
theorem w_z_1 (M : wM) (n i : Nat) : (w_z M n).1 n i = 0 := by simp [w_z, va_up]
theorem w_z_1r (M : wM) (n : Nat) : (w_z M n).1 n = fun _ => 0 := by simp [w_z, va_up]
theorem w_z_21r (M : wM) (n : Nat) : (w_z M n).2.1 n = fun _ => 0 := by simp [w_z, va_up]
theorem w_z_22 (M : wM) (n i : Nat) : (w_z M n).2.2 n i = none := by simp [w_z, va_up]
theorem w_z_wf {sh : wSh} {M : wM} {s : Nat × Nat} (h : w_wf sh M) : w_wf (sh ++ [s]) (w_z M sh.length) := by
  intro k i j hj
  by_cases hk : k = sh.length
  · subst hk; rw [w_z_22] at hj; cases hj
  · rw [(w_z_new M sh.length k hk).2.2] at hj
    have := h k i j hj
    simp; omega
/-- the start of a made object's fields -/
def w_fz : List Bool → List Value
  | [] => []
  | true :: t => .null :: w_fz t
  | false :: t => .int 0 :: w_fz t
theorem w_fz_ok (ad : Nat → Nat) (M : wM) (n : Nat) : ∀ (t : List Bool) (i : Nat), w_fs ad (w_z M n) n i t = w_fz t
  | [], _ => rfl
  | true :: t, i => by simp [w_fs, w_fz, w_z_22, va_rf, w_fz_ok ad M n t (i + 1)]
  | false :: t, i => by simp [w_fs, w_fz, w_z_1, w_fz_ok ad M n t (i + 1)]
/-- what 'new' needs of a class -/
def w_mk (ci : Nat) (C : String) (N : Nat) : Prop := ∃ (T : u_T) (ty : Nat → FieldType), vwCl[ci]? = some (C, T, N) ∧ (∀ w ∈ u_ws C T N, w ∈ lw_g) ∧ (∀ k, k < N → parseFieldDescriptor (T k).2.2.1 = some (ty k)) ∧ (∀ j, j < N → defaultValue (ty j) = vp_V (w_fz (w_fk ci)) j) ∧ ci ≠ 12 ∧ ci ≠ 13 ∧ ci ≠ 14 ∧ Cond.instantiable C N ∈ lw_g ∧ Cond.initialized C ∈ lw_g
theorem Rn.new {C : String} {N : Nat} (hd : decode K.2.1 pc = .ok (.new index, 3)) (hm : w_mk ci C N) (hl : Cond.classLink K.1.cls index C ∈ lw_g) (hcc : cs.1 + 1 ≤ K.2.2.2.2.cells ∧ cs.2 + N ≤ K.2.2.2.2.slots) (hlen : sh.length < w_scr) (hok : w_in sh.length st ∧ w_inL sh.length lv)
    (k : Rn K sx (cs.1 + 1, cs.2 + N) (pc + 3) lv (.ref sh.length :: st) (sh ++ [(ci, 0)]) (w_z M sh.length) Q) : Rn K sx cs pc lv st sh M Q := by
  intro p l e s m args below meth c A D3 D Qf ad H locs ls hC hS hE
  obtain ⟨T, ty, h1, h2, h3, h4, h5, h6, h7, h8, h9⟩ := hm
  have hts := hC.2.2.2.2.1
  refine va_new (ci := ci) (fs := w_fz (w_fk ci)) (C := C) (T := T) (N := N) hC.1 hC.2.1 hts h2 ty h3 hC.2.2.2.1 (hts _ hl) (hts _ h8) (hts _ h9) hC.2.2.2.2.2.1 hS.1 hS.2.1 hS.2.2.1 hC.2.2.2.2.2.2.1 h1 h4 hcc.1 hcc.2 hd (fun q H1 hP hD hSS => ?_)
  have hx : w_X ad sh (va_up ad sh.length q) (sh ++ [(ci, 0)]) := ⟨w_up_lt, by simp [va_up]; intro h; omega, by simp, fun h => by simp at h⟩
  rw [w_push (s := (ci, 0)) (M' := w_z M sh.length) hS.2.2.2.2.2.1 (fun j hj => w_z_new M sh.length j (Nat.ne_of_lt hj)) (by rw [w_cellO h5 h6 h7, w_fz_ok])] at hP hD
  have h := k p l e s m args below meth c A D3 D Qf (va_up ad sh.length q) H1 locs ls hC ⟨hP, hD, hSS, hS.2.2.2.1.mv hok.2 hx.1 hx.2.1, hcc, w_z_wf hS.2.2.2.2.2.1, by
    have h3 := hS.2.2.2.2.2.2
    cases sx with
    | none => trivial
    | some q => exact hx.2.1.trans h3⟩ (hE.mv hx)
  have e1 : List.map (w_cv (va_up ad sh.length q)) (.ref sh.length :: st) = .ref q :: st.map (w_cv ad) := by
    rw [List.map_cons, hok.1.map hx.1 hx.2.1]; simp [w_cv, va_up]
  rw [e1] at h
  exact h
theorem w_ra {s : State} {D : va_G} {tys : List (ClassId × FieldType)} {i j : Nat} {a b : ClassId} {ty : FieldType} (hK : va_K D vwCl tys s) (h1 : tys[i]? = some (a, ty)) (h2 : tys[j]? = some (b, ty)) (ht : ty = .int ∨ ty = .long ∨ ty = .boolean) : a = b := by
  have e1 := (hK.2 i _ h1).2
  have e2 := (hK.2 j _ h2).2
  rcases ht with rfl | rfl | rfl <;> exact Option.some.inj (e1.symm.trans e2)
theorem Rn.newI {x : Int32} {z : Nat} (hd : decode K.2.1 pc = .ok (.newarray .int, 2)) (hn : ¬ x < 0) (hz : x.toNatClampNeg = z) (hzb : z ≤ 10000) (hcc : cs.1 + 1 ≤ K.2.2.2.2.cells ∧ cs.2 + z ≤ K.2.2.2.2.slots) (hlen : sh.length < w_scr) (hok : w_in sh.length st ∧ w_inL sh.length lv)
    (k : Rn K sx (cs.1 + 1, cs.2 + z) (pc + 2) lv (.ref sh.length :: st) (sh ++ [(12, z)]) (w_z M sh.length) Q) : Rn K sx cs pc lv (.int x :: st) sh M Q := by
  intro p l e s m args below meth c A D3 D Qf ad H locs ls hC hS hE
  have hts := hC.2.2.2.2.1
  refine va_newa (atype := .int) (ty := .int) (N' := z) (a0 := (z, .inl (fun _ => 0))) hC.1 hC.2.1 (hts _ g_40) rfl hC.2.2.2.2.2.1 hS.1 hS.2.1 hS.2.2.1 hC.2.2.2.2.2.2.1 (fun cA => rfl) hn hz (by show z * 4 ≤ _; omega) hcc.1 hcc.2 hd (fun q cA H1 hK hP hD hSS => ?_)
  have ec : cA = D3.1 := w_ra (i := 3) (j := 0) hK rfl rfl (Or.inl rfl)
  subst ec
  have hx : w_X ad sh (va_up ad sh.length q) (sh ++ [(12, z)]) := ⟨w_up_lt, by simp [va_up]; intro h; omega, by simp, fun h => by simp at h⟩
  rw [w_push (s := (12, z)) (M' := w_z M sh.length) hS.2.2.2.2.2.1 (fun j hj => w_z_new M sh.length j (Nat.ne_of_lt hj)) (by rw [w_cellI, w_z_1r])] at hP hD
  have h := k p l e s m args below meth c A D3 D Qf (va_up ad sh.length q) H1 locs ls hC ⟨hP, hD, hSS, hS.2.2.2.1.mv hok.2 hx.1 hx.2.1, hcc, w_z_wf hS.2.2.2.2.2.1, by
    have h3 := hS.2.2.2.2.2.2
    cases sx with
    | none => trivial
    | some q => exact hx.2.1.trans h3⟩ (hE.mv hx)
  have e1 : List.map (w_cv (va_up ad sh.length q)) (.ref sh.length :: st) = .ref q :: st.map (w_cv ad) := by
    rw [List.map_cons, hok.1.map hx.1 hx.2.1]; simp [w_cv, va_up]
  rw [e1] at h
  exact h
theorem Rn.newL {x : Int32} {z : Nat} (hd : decode K.2.1 pc = .ok (.newarray .long, 2)) (hn : ¬ x < 0) (hz : x.toNatClampNeg = z) (hzb : z ≤ 10000) (hcc : cs.1 + 1 ≤ K.2.2.2.2.cells ∧ cs.2 + z ≤ K.2.2.2.2.slots) (hlen : sh.length < w_scr) (hok : w_in sh.length st ∧ w_inL sh.length lv)
    (k : Rn K sx (cs.1 + 1, cs.2 + z) (pc + 2) lv (.ref sh.length :: st) (sh ++ [(13, z)]) (w_z M sh.length) Q) : Rn K sx cs pc lv (.int x :: st) sh M Q := by
  intro p l e s m args below meth c A D3 D Qf ad H locs ls hC hS hE
  have hts := hC.2.2.2.2.1
  refine va_newa (atype := .long) (ty := .long) (N' := z) (a0 := (z, .inr (.inl (fun _ => 0)))) hC.1 hC.2.1 (hts _ g_702) rfl hC.2.2.2.2.2.1 hS.1 hS.2.1 hS.2.2.1 hC.2.2.2.2.2.2.1 (fun cA => rfl) hn hz (by show z * 8 ≤ _; omega) hcc.1 hcc.2 hd (fun q cA H1 hK hP hD hSS => ?_)
  have ec : cA = D3.2.1 := w_ra (i := 3) (j := 1) hK rfl rfl (Or.inr (Or.inl rfl))
  subst ec
  have hx : w_X ad sh (va_up ad sh.length q) (sh ++ [(13, z)]) := ⟨w_up_lt, by simp [va_up]; intro h; omega, by simp, fun h => by simp at h⟩
  rw [w_push (s := (13, z)) (M' := w_z M sh.length) hS.2.2.2.2.2.1 (fun j hj => w_z_new M sh.length j (Nat.ne_of_lt hj)) (by rw [w_cellJ, w_z_21r])] at hP hD
  have h := k p l e s m args below meth c A D3 D Qf (va_up ad sh.length q) H1 locs ls hC ⟨hP, hD, hSS, hS.2.2.2.1.mv hok.2 hx.1 hx.2.1, hcc, w_z_wf hS.2.2.2.2.2.1, by
    have h3 := hS.2.2.2.2.2.2
    cases sx with
    | none => trivial
    | some q => exact hx.2.1.trans h3⟩ (hE.mv hx)
  have e1 : List.map (w_cv (va_up ad sh.length q)) (.ref sh.length :: st) = .ref q :: st.map (w_cv ad) := by
    rw [List.map_cons, hok.1.map hx.1 hx.2.1]; simp [w_cv, va_up]
  rw [e1] at h
  exact h
theorem Rn.newZ {x : Int32} {z : Nat} (hd : decode K.2.1 pc = .ok (.newarray .boolean, 2)) (hn : ¬ x < 0) (hz : x.toNatClampNeg = z) (hzb : z ≤ 10000) (hcc : cs.1 + 1 ≤ K.2.2.2.2.cells ∧ cs.2 + z ≤ K.2.2.2.2.slots) (hlen : sh.length < w_scr) (hok : w_in sh.length st ∧ w_inL sh.length lv)
    (k : Rn K sx (cs.1 + 1, cs.2 + z) (pc + 2) lv (.ref sh.length :: st) (sh ++ [(14, z)]) (w_z M sh.length) Q) : Rn K sx cs pc lv (.int x :: st) sh M Q := by
  intro p l e s m args below meth c A D3 D Qf ad H locs ls hC hS hE
  have hts := hC.2.2.2.2.1
  refine va_newa (atype := .boolean) (ty := .boolean) (N' := z) (a0 := (z, .inl (fun _ => 0))) hC.1 hC.2.1 (hts _ g_703) rfl hC.2.2.2.2.2.1 hS.1 hS.2.1 hS.2.2.1 hC.2.2.2.2.2.2.1 (fun cA => rfl) hn hz (by show z * 1 ≤ _; omega) hcc.1 hcc.2 hd (fun q cA H1 hK hP hD hSS => ?_)
  have ec : cA = D3.2.2 := w_ra (i := 3) (j := 2) hK rfl rfl (Or.inr (Or.inr rfl))
  subst ec
  have hx : w_X ad sh (va_up ad sh.length q) (sh ++ [(14, z)]) := ⟨w_up_lt, by simp [va_up]; intro h; omega, by simp, fun h => by simp at h⟩
  rw [w_push (s := (14, z)) (M' := w_z M sh.length) hS.2.2.2.2.2.1 (fun j hj => w_z_new M sh.length j (Nat.ne_of_lt hj)) (by rw [w_cellZ, w_z_1r])] at hP hD
  have h := k p l e s m args below meth c A D3 D Qf (va_up ad sh.length q) H1 locs ls hC ⟨hP, hD, hSS, hS.2.2.2.1.mv hok.2 hx.1 hx.2.1, hcc, w_z_wf hS.2.2.2.2.2.1, by
    have h3 := hS.2.2.2.2.2.2
    cases sx with
    | none => trivial
    | some q => exact hx.2.1.trans h3⟩ (hE.mv hx)
  have e1 : List.map (w_cv (va_up ad sh.length q)) (.ref sh.length :: st) = .ref q :: st.map (w_cv ad) := by
    rw [List.map_cons, hok.1.map hx.1 hx.2.1]; simp [w_cv, va_up]
  rw [e1] at h
  exact h
theorem Rn.max {x y : Int32} (hd : decode K.2.1 pc = .ok (.invokestatic index, 3)) (hl : Cond.methodLink K.1.cls index Lib.Math.max.name ∈ lw_g) (hst : Cond.static Lib.Math.max.name ∈ lw_g) (hini : Cond.initialized "java/lang/Math" ∈ lw_g) (hcd : Cond.code Lib.Math.max.name Lib.Math.max.code 2 (some .int) ∈ lw_g) (hf : 1 ≤ K.2.2.2.2.frames) (hlo : (st.map fun v => v.category).sum + 13 ≤ K.2.2.2.2.locals)
    (k : Rn K sx cs (pc + 3) lv (.int (if x < y then y else x) :: st) sh M Q) : Rn K sx cs pc lv (.int y :: .int x :: st) sh M Q := by
  intro p l e s m args below meth c A D3 D Qf ad H locs ls hC hS hE
  have hts := hC.2.2.2.2.1
  refine va_mmax hC.1 hC.2.1 (by rw [hC.2.2.1, hS.2.2.2.1.1]) hC.2.2.2.1 (hts _ hl) (hts _ hst) (hts _ hini) (hts _ hcd) hf ?_ hS.2.2.2.2.1.1 hS.2.2.2.2.1.2 hd (k p l e s m args below meth c A D3 D Qf ad H locs ls hC hS hE)
  rw [List.map_map]
  have : ((fun v : Value => v.category) ∘ w_cv ad) = fun v => v.category := funext (fun v => w_cv_cat ad v)
  rw [this]; exact hlo
theorem Rn.min {x y : Int32} (hd : decode K.2.1 pc = .ok (.invokestatic index, 3)) (hl : Cond.methodLink K.1.cls index Lib.Math.min.name ∈ lw_g) (hst : Cond.static Lib.Math.min.name ∈ lw_g) (hini : Cond.initialized "java/lang/Math" ∈ lw_g) (hcd : Cond.code Lib.Math.min.name Lib.Math.min.code 2 (some .int) ∈ lw_g) (hf : 1 ≤ K.2.2.2.2.frames) (hlo : (st.map fun v => v.category).sum + 13 ≤ K.2.2.2.2.locals)
    (k : Rn K sx cs (pc + 3) lv (.int (if y < x then y else x) :: st) sh M Q) : Rn K sx cs pc lv (.int y :: .int x :: st) sh M Q := by
  intro p l e s m args below meth c A D3 D Qf ad H locs ls hC hS hE
  have hts := hC.2.2.2.2.1
  refine va_mmin hC.1 hC.2.1 (by rw [hC.2.2.1, hS.2.2.2.1.1]) hC.2.2.2.1 (hts _ hl) (hts _ hst) (hts _ hini) (hts _ hcd) hf ?_ hS.2.2.2.2.1.1 hS.2.2.2.2.1.2 hd (k p l e s m args below meth c A D3 D Qf ad H locs ls hC hS hE)
  rw [List.map_map]
  have : ((fun v : Value => v.category) ∘ w_cv ad) = fun v => v.category := funext (fun v => w_cv_cat ad v)
  rw [this]; exact hlo
theorem Rn.maxL {x y : Int64} (hd : decode K.2.1 pc = .ok (.invokestatic index, 3)) (hl : Cond.methodLink K.1.cls index Lib.MathLoose.max_long.x ∈ lw_g) (hst : Cond.static Lib.MathLoose.max_long.x ∈ lw_g) (hini : Cond.initialized "java/lang/Math" ∈ lw_g) (hcd : Cond.code Lib.MathLoose.max_long.x Lib.MathLoose.max_long.code 4 (some .long) ∈ lw_g) (hf : 1 ≤ K.2.2.2.2.frames) (hlo : (st.map fun v => v.category).sum + 15 ≤ K.2.2.2.2.locals)
    (k : Rn K sx cs (pc + 3) lv (.long (if y < x then x else y) :: st) sh M Q) : Rn K sx cs pc lv (.long y :: .long x :: st) sh M Q := by
  intro p l e s m args below meth c A D3 D Qf ad H locs ls hC hS hE
  have hts := hC.2.2.2.2.1
  refine va_mmax_long hC.1 hC.2.1 (by rw [hC.2.2.1, hS.2.2.2.1.1]) hC.2.2.2.1 (hts _ hl) (hts _ hst) (hts _ hini) (hts _ hcd) hf ?_ hS.2.2.2.2.1.1 hS.2.2.2.2.1.2 hd (k p l e s m args below meth c A D3 D Qf ad H locs ls hC hS hE)
  rw [List.map_map]
  have : ((fun v : Value => v.category) ∘ w_cv ad) = fun v => v.category := funext (fun v => w_cv_cat ad v)
  rw [this]; exact hlo
end RN2
end
section
/-! Fields, classes, call sites. -/
theorem c_Act : w_cls 0 "BaubleHill$Act" := ⟨T_Act, 3, rfl, by decide, by decide, by decide⟩
theorem f_Act_kind : w_fld 0 0 "BaubleHill$Act" "kind" "I" false false := ⟨T_Act, 3, ty_Act, rfl, in_Act, by decide, rfl, rfl, rfl, ty_Act_ok, nm_Act, by decide, by decide, by decide⟩
theorem f_Act_one : w_fld 0 1 "BaubleHill$Act" "one" "I" false false := ⟨T_Act, 3, ty_Act, rfl, in_Act, by decide, rfl, rfl, rfl, ty_Act_ok, nm_Act, by decide, by decide, by decide⟩
theorem f_Act_other : w_fld 0 2 "BaubleHill$Act" "other" "I" false false := ⟨T_Act, 3, ty_Act, rfl, in_Act, by decide, rfl, rfl, rfl, ty_Act_ok, nm_Act, by decide, by decide, by decide⟩
theorem mk_Act : w_mk 0 "BaubleHill$Act" 3 := ⟨T_Act, ty_Act, rfl, in_Act, ty_Act_ok, fun j hj => by rcases (show j = 0 ∨ j = 1 ∨ j = 2 by omega) with rfl | rfl | rfl <;> rfl, by decide, by decide, by decide, g_95, g_7⟩
theorem c_Choice : w_cls 1 "BaubleHill$Choice" := ⟨T_Choice, 1, rfl, by decide, by decide, by decide⟩
theorem f_Choice_around : w_fld 1 0 "BaubleHill$Choice" "around" "[I" true true := ⟨T_Choice, 1, ty_Choice, rfl, in_Choice, by decide, rfl, rfl, rfl, ty_Choice_ok, nm_Choice, by decide, by decide, by decide⟩
theorem mk_Choice : w_mk 1 "BaubleHill$Choice" 1 := ⟨T_Choice, ty_Choice, rfl, in_Choice, ty_Choice_ok, fun j hj => by rcases (show j = 0 by omega) with rfl <;> rfl, by decide, by decide, by decide, g_130, g_8⟩
theorem c_Cutting : w_cls 2 "BaubleHill$Cutting" := ⟨T_Cutting, 1, rfl, by decide, by decide, by decide⟩
theorem f_Cutting_worths : w_fld 2 0 "BaubleHill$Cutting" "worths" "[I" true true := ⟨T_Cutting, 1, ty_Cutting, rfl, in_Cutting, by decide, rfl, rfl, rfl, ty_Cutting_ok, nm_Cutting, by decide, by decide, by decide⟩
theorem mk_Cutting : w_mk 2 "BaubleHill$Cutting" 1 := ⟨T_Cutting, ty_Cutting, rfl, in_Cutting, ty_Cutting_ok, fun j hj => by rcases (show j = 0 by omega) with rfl <;> rfl, by decide, by decide, by decide, g_140, g_9⟩
theorem c_Hill : w_cls 3 "BaubleHill$Hill" := ⟨T_Hill, 5, rfl, by decide, by decide, by decide⟩
theorem f_Hill_tree : w_fld 3 0 "BaubleHill$Hill" "tree" "LBaubleHill$Tree;" true true := ⟨T_Hill, 5, ty_Hill, rfl, in_Hill, by decide, rfl, rfl, rfl, ty_Hill_ok, nm_Hill, by decide, by decide, by decide⟩
theorem f_Hill_loops : w_fld 3 1 "BaubleHill$Hill" "loops" "[I" true true := ⟨T_Hill, 5, ty_Hill, rfl, in_Hill, by decide, rfl, rfl, rfl, ty_Hill_ok, nm_Hill, by decide, by decide, by decide⟩
theorem f_Hill_chips : w_fld 3 2 "BaubleHill$Hill" "chips" "[I" true true := ⟨T_Hill, 5, ty_Hill, rfl, in_Hill, by decide, rfl, rfl, rfl, ty_Hill_ok, nm_Hill, by decide, by decide, by decide⟩
theorem f_Hill_broken : w_fld 3 3 "BaubleHill$Hill" "broken" "I" false false := ⟨T_Hill, 5, ty_Hill, rfl, in_Hill, by decide, rfl, rfl, rfl, ty_Hill_ok, nm_Hill, by decide, by decide, by decide⟩
theorem f_Hill_winter : w_fld 3 4 "BaubleHill$Hill" "winter" "I" false false := ⟨T_Hill, 5, ty_Hill, rfl, in_Hill, by decide, rfl, rfl, rfl, ty_Hill_ok, nm_Hill, by decide, by decide, by decide⟩
theorem mk_Hill : w_mk 3 "BaubleHill$Hill" 5 := ⟨T_Hill, ty_Hill, rfl, in_Hill, ty_Hill_ok, fun j hj => by rcases (show j = 0 ∨ j = 1 ∨ j = 2 ∨ j = 3 ∨ j = 4 by omega) with rfl | rfl | rfl | rfl | rfl <;> rfl, by decide, by decide, by decide, g_25, g_2⟩
theorem c_Image : w_cls 4 "BaubleHill$Image" := ⟨T_Image, 3, rfl, by decide, by decide, by decide⟩
theorem f_Image_hill : w_fld 4 0 "BaubleHill$Image" "hill" "LBaubleHill$Hill;" true true := ⟨T_Image, 3, ty_Image, rfl, in_Image, by decide, rfl, rfl, rfl, ty_Image_ok, nm_Image, by decide, by decide, by decide⟩
theorem f_Image_sights : w_fld 4 1 "BaubleHill$Image" "sights" "LBaubleHill$Sights;" true true := ⟨T_Image, 3, ty_Image, rfl, in_Image, by decide, rfl, rfl, rfl, ty_Image_ok, nm_Image, by decide, by decide, by decide⟩
theorem f_Image_kept : w_fld 4 2 "BaubleHill$Image" "kept" "Z" false false := ⟨T_Image, 3, ty_Image, rfl, in_Image, by decide, rfl, rfl, rfl, ty_Image_ok, nm_Image, by decide, by decide, by decide⟩
theorem mk_Image : w_mk 4 "BaubleHill$Image" 3 := ⟨T_Image, ty_Image, rfl, in_Image, ty_Image_ok, fun j hj => by rcases (show j = 0 ∨ j = 1 ∨ j = 2 by omega) with rfl | rfl | rfl <;> rfl, by decide, by decide, by decide, g_167, g_11⟩
theorem c_Pad : w_cls 5 "BaubleHill$Pad" := ⟨T_Pad, 2, rfl, by decide, by decide, by decide⟩
theorem f_Pad_signs : w_fld 5 0 "BaubleHill$Pad" "signs" "[I" true true := ⟨T_Pad, 2, ty_Pad, rfl, in_Pad, by decide, rfl, rfl, rfl, ty_Pad_ok, nm_Pad, by decide, by decide, by decide⟩
theorem f_Pad_count : w_fld 5 1 "BaubleHill$Pad" "count" "I" false false := ⟨T_Pad, 2, ty_Pad, rfl, in_Pad, by decide, rfl, rfl, rfl, ty_Pad_ok, nm_Pad, by decide, by decide, by decide⟩
theorem mk_Pad : w_mk 5 "BaubleHill$Pad" 2 := ⟨T_Pad, ty_Pad, rfl, in_Pad, ty_Pad_ok, fun j hj => by rcases (show j = 0 ∨ j = 1 by omega) with rfl | rfl <;> rfl, by decide, by decide, by decide, g_74, g_5⟩
theorem c_Sights : w_cls 6 "BaubleHill$Sights" := ⟨T_Sights, 3, rfl, by decide, by decide, by decide⟩
theorem f_Sights_loops : w_fld 6 0 "BaubleHill$Sights" "loops" "[I" true true := ⟨T_Sights, 3, ty_Sights, rfl, in_Sights, by decide, rfl, rfl, rfl, ty_Sights_ok, nm_Sights, by decide, by decide, by decide⟩
theorem f_Sights_fars : w_fld 6 1 "BaubleHill$Sights" "fars" "[I" true true := ⟨T_Sights, 3, ty_Sights, rfl, in_Sights, by decide, rfl, rfl, rfl, ty_Sights_ok, nm_Sights, by decide, by decide, by decide⟩
theorem f_Sights_count : w_fld 6 2 "BaubleHill$Sights" "count" "I" false false := ⟨T_Sights, 3, ty_Sights, rfl, in_Sights, by decide, rfl, rfl, rfl, ty_Sights_ok, nm_Sights, by decide, by decide, by decide⟩
theorem mk_Sights : w_mk 6 "BaubleHill$Sights" 3 := ⟨T_Sights, ty_Sights, rfl, in_Sights, ty_Sights_ok, fun j hj => by rcases (show j = 0 ∨ j = 1 ∨ j = 2 by omega) with rfl | rfl | rfl <;> rfl, by decide, by decide, by decide, g_58, g_4⟩
theorem c_Telling : w_cls 7 "BaubleHill$Telling" := ⟨T_Telling, 6, rfl, by decide, by decide, by decide⟩
theorem f_Telling_hill : w_fld 7 0 "BaubleHill$Telling" "hill" "LBaubleHill$Hill;" true true := ⟨T_Telling, 6, ty_Telling, rfl, in_Telling, by decide, rfl, rfl, rfl, ty_Telling_ok, nm_Telling, by decide, by decide, by decide⟩
theorem f_Telling_act : w_fld 7 1 "BaubleHill$Telling" "act" "LBaubleHill$Act;" true true := ⟨T_Telling, 6, ty_Telling, rfl, in_Telling, by decide, rfl, rfl, rfl, ty_Telling_ok, nm_Telling, by decide, by decide, by decide⟩
theorem f_Telling_acts : w_fld 7 2 "BaubleHill$Telling" "acts" "I" false false := ⟨T_Telling, 6, ty_Telling, rfl, in_Telling, by decide, rfl, rfl, rfl, ty_Telling_ok, nm_Telling, by decide, by decide, by decide⟩
theorem f_Telling_why : w_fld 7 3 "BaubleHill$Telling" "why" "I" false false := ⟨T_Telling, 6, ty_Telling, rfl, in_Telling, by decide, rfl, rfl, rfl, ty_Telling_ok, nm_Telling, by decide, by decide, by decide⟩
theorem f_Telling_actThatBroke : w_fld 7 4 "BaubleHill$Telling" "actThatBroke" "I" false false := ⟨T_Telling, 6, ty_Telling, rfl, in_Telling, by decide, rfl, rfl, rfl, ty_Telling_ok, nm_Telling, by decide, by decide, by decide⟩
theorem f_Telling_ballThatBroke : w_fld 7 5 "BaubleHill$Telling" "ballThatBroke" "I" false false := ⟨T_Telling, 6, ty_Telling, rfl, in_Telling, by decide, rfl, rfl, rfl, ty_Telling_ok, nm_Telling, by decide, by decide, by decide⟩
theorem mk_Telling : w_mk 7 "BaubleHill$Telling" 6 := ⟨T_Telling, ty_Telling, rfl, in_Telling, ty_Telling_ok, fun j hj => by rcases (show j = 0 ∨ j = 1 ∨ j = 2 ∨ j = 3 ∨ j = 4 ∨ j = 5 by omega) with rfl | rfl | rfl | rfl | rfl | rfl <;> rfl, by decide, by decide, by decide, g_87, g_6⟩
theorem c_Tree : w_cls 8 "BaubleHill$Tree" := ⟨T_Tree, 1, rfl, by decide, by decide, by decide⟩
theorem f_Tree_parents : w_fld 8 0 "BaubleHill$Tree" "parents" "[I" true true := ⟨T_Tree, 1, ty_Tree, rfl, in_Tree, by decide, rfl, rfl, rfl, ty_Tree_ok, nm_Tree, by decide, by decide, by decide⟩
theorem mk_Tree : w_mk 8 "BaubleHill$Tree" 1 := ⟨T_Tree, ty_Tree, rfl, in_Tree, ty_Tree_ok, fun j hj => by rcases (show j = 0 by omega) with rfl <;> rfl, by decide, by decide, by decide, g_31, g_3⟩
theorem c_Year : w_cls 9 "BaubleHill$Year" := ⟨T_Year, 2, rfl, by decide, by decide, by decide⟩
theorem f_Year_hill : w_fld 9 0 "BaubleHill$Year" "hill" "LBaubleHill$Hill;" true true := ⟨T_Year, 2, ty_Year, rfl, in_Year, by decide, rfl, rfl, rfl, ty_Year_ok, nm_Year, by decide, by decide, by decide⟩
theorem f_Year_act : w_fld 9 1 "BaubleHill$Year" "act" "LBaubleHill$Act;" true true := ⟨T_Year, 2, ty_Year, rfl, in_Year, by decide, rfl, rfl, rfl, ty_Year_ok, nm_Year, by decide, by decide, by decide⟩
theorem mk_Year : w_mk 9 "BaubleHill$Year" 2 := ⟨T_Year, ty_Year, rfl, in_Year, ty_Year_ok, fun j hj => by rcases (show j = 0 ∨ j = 1 by omega) with rfl | rfl <;> rfl, by decide, by decide, by decide, g_150, g_10⟩
theorem c_BH : w_cls 10 "BaubleHill" := ⟨T_BH, 9, rfl, by decide, by decide, by decide⟩
theorem f_BH_hill : w_fld 10 0 "BaubleHill" "hill" "LBaubleHill$Hill;" true true := ⟨T_BH, 9, ty_BH, rfl, in_BH, by decide, rfl, rfl, rfl, ty_BH_ok, nm_BH, by decide, by decide, by decide⟩
theorem f_BH_sights : w_fld 10 1 "BaubleHill" "sights" "LBaubleHill$Sights;" true true := ⟨T_BH, 9, ty_BH, rfl, in_BH, by decide, rfl, rfl, rfl, ty_BH_ok, nm_BH, by decide, by decide, by decide⟩
theorem f_BH_pad : w_fld 10 2 "BaubleHill" "pad" "LBaubleHill$Pad;" true true := ⟨T_BH, 9, ty_BH, rfl, in_BH, by decide, rfl, rfl, rfl, ty_BH_ok, nm_BH, by decide, by decide, by decide⟩
theorem f_BH_telling : w_fld 10 3 "BaubleHill" "telling" "LBaubleHill$Telling;" true true := ⟨T_BH, 9, ty_BH, rfl, in_BH, by decide, rfl, rfl, rfl, ty_BH_ok, nm_BH, by decide, by decide, by decide⟩
theorem f_BH_choice : w_fld 10 4 "BaubleHill" "choice" "LBaubleHill$Choice;" true true := ⟨T_BH, 9, ty_BH, rfl, in_BH, by decide, rfl, rfl, rfl, ty_BH_ok, nm_BH, by decide, by decide, by decide⟩
theorem f_BH_cutting : w_fld 10 5 "BaubleHill" "cutting" "LBaubleHill$Cutting;" true true := ⟨T_BH, 9, ty_BH, rfl, in_BH, by decide, rfl, rfl, rfl, ty_BH_ok, nm_BH, by decide, by decide, by decide⟩
theorem f_BH_years : w_fld 10 6 "BaubleHill" "years" "LBaubleHill$Year;" true true := ⟨T_BH, 9, ty_BH, rfl, in_BH, by decide, rfl, rfl, rfl, ty_BH_ok, nm_BH, by decide, by decide, by decide⟩
theorem f_BH_firstImage : w_fld 10 7 "BaubleHill" "firstImage" "LBaubleHill$Image;" true true := ⟨T_BH, 9, ty_BH, rfl, in_BH, by decide, rfl, rfl, rfl, ty_BH_ok, nm_BH, by decide, by decide, by decide⟩
theorem f_BH_secondImage : w_fld 10 8 "BaubleHill" "secondImage" "LBaubleHill$Image;" true true := ⟨T_BH, 9, ty_BH, rfl, in_BH, by decide, rfl, rfl, rfl, ty_BH_ok, nm_BH, by decide, by decide, by decide⟩
theorem mk_BH : w_mk 10 "BaubleHill" 9 := ⟨T_BH, ty_BH, rfl, in_BH, ty_BH_ok, fun j hj => by rcases (show j = 0 ∨ j = 1 ∨ j = 2 ∨ j = 3 ∨ j = 4 ∨ j = 5 ∨ j = 6 ∨ j = 7 ∨ j = 8 by omega) with rfl | rfl | rfl | rfl | rfl | rfl | rfl | rfl | rfl <;> rfl, by decide, by decide, by decide, g_17, g_1⟩
theorem c_Md : w_cls 11 "BaubleHillModel" := ⟨T_Md, 17, rfl, by decide, by decide, by decide⟩
theorem f_Md_book : w_fld 11 0 "BaubleHillModel" "book" "[I" true true := ⟨T_Md, 17, ty_Md, rfl, in_Md, by decide, rfl, rfl, rfl, ty_Md_ok, nm_Md, by decide, by decide, by decide⟩
theorem f_Md_now : w_fld 11 1 "BaubleHillModel" "now" "[I" true true := ⟨T_Md, 17, ty_Md, rfl, in_Md, by decide, rfl, rfl, rfl, ty_Md_ok, nm_Md, by decide, by decide, by decide⟩
theorem f_Md_sights : w_fld 11 2 "BaubleHillModel" "sights" "I" false false := ⟨T_Md, 17, ty_Md, rfl, in_Md, by decide, rfl, rfl, rfl, ty_Md_ok, nm_Md, by decide, by decide, by decide⟩
theorem f_Md_sight : w_fld 11 3 "BaubleHillModel" "sight" "[I" true true := ⟨T_Md, 17, ty_Md, rfl, in_Md, by decide, rfl, rfl, rfl, ty_Md_ok, nm_Md, by decide, by decide, by decide⟩
theorem f_Md_signs : w_fld 11 4 "BaubleHillModel" "signs" "I" false false := ⟨T_Md, 17, ty_Md, rfl, in_Md, by decide, rfl, rfl, rfl, ty_Md_ok, nm_Md, by decide, by decide, by decide⟩
theorem f_Md_pad : w_fld 11 5 "BaubleHillModel" "pad" "[I" true true := ⟨T_Md, 17, ty_Md, rfl, in_Md, by decide, rfl, rfl, rfl, ty_Md_ok, nm_Md, by decide, by decide, by decide⟩
theorem f_Md_came : w_fld 11 6 "BaubleHillModel" "came" "I" false false := ⟨T_Md, 17, ty_Md, rfl, in_Md, by decide, rfl, rfl, rfl, ty_Md_ok, nm_Md, by decide, by decide, by decide⟩
theorem f_Md_brokenAt : w_fld 11 7 "BaubleHillModel" "brokenAt" "I" false false := ⟨T_Md, 17, ty_Md, rfl, in_Md, by decide, rfl, rfl, rfl, ty_Md_ok, nm_Md, by decide, by decide, by decide⟩
theorem f_Md_brokenWhich : w_fld 11 8 "BaubleHillModel" "brokenWhich" "I" false false := ⟨T_Md, 17, ty_Md, rfl, in_Md, by decide, rfl, rfl, rfl, ty_Md_ok, nm_Md, by decide, by decide, by decide⟩
theorem f_Md_more : w_fld 11 9 "BaubleHillModel" "more" "[I" true true := ⟨T_Md, 17, ty_Md, rfl, in_Md, by decide, rfl, rfl, rfl, ty_Md_ok, nm_Md, by decide, by decide, by decide⟩
theorem f_Md_reason : w_fld 11 10 "BaubleHillModel" "reason" "I" false false := ⟨T_Md, 17, ty_Md, rfl, in_Md, by decide, rfl, rfl, rfl, ty_Md_ok, nm_Md, by decide, by decide, by decide⟩
theorem f_Md_acts : w_fld 11 11 "BaubleHillModel" "acts" "I" false false := ⟨T_Md, 17, ty_Md, rfl, in_Md, by decide, rfl, rfl, rfl, ty_Md_ok, nm_Md, by decide, by decide, by decide⟩
theorem f_Md_counts : w_fld 11 12 "BaubleHillModel" "counts" "[I" true true := ⟨T_Md, 17, ty_Md, rfl, in_Md, by decide, rfl, rfl, rfl, ty_Md_ok, nm_Md, by decide, by decide, by decide⟩
theorem f_Md_worth : w_fld 11 13 "BaubleHillModel" "worth" "[I" true true := ⟨T_Md, 17, ty_Md, rfl, in_Md, by decide, rfl, rfl, rfl, ty_Md_ok, nm_Md, by decide, by decide, by decide⟩
theorem f_Md_choices : w_fld 11 14 "BaubleHillModel" "choices" "[J" true true := ⟨T_Md, 17, ty_Md, rfl, in_Md, by decide, rfl, rfl, rfl, ty_Md_ok, nm_Md, by decide, by decide, by decide⟩
theorem f_Md_image : w_fld 11 15 "BaubleHillModel" "image" "[I" true true := ⟨T_Md, 17, ty_Md, rfl, in_Md, by decide, rfl, rfl, rfl, ty_Md_ok, nm_Md, by decide, by decide, by decide⟩
theorem f_Md_isKept : w_fld 11 16 "BaubleHillModel" "isKept" "[Z" true true := ⟨T_Md, 17, ty_Md, rfl, in_Md, by decide, rfl, rfl, rfl, ty_Md_ok, nm_Md, by decide, by decide, by decide⟩
theorem mk_Md : w_mk 11 "BaubleHillModel" 17 := ⟨T_Md, ty_Md, rfl, in_Md, ty_Md_ok, fun j hj => by rcases (show j = 0 ∨ j = 1 ∨ j = 2 ∨ j = 3 ∨ j = 4 ∨ j = 5 ∨ j = 6 ∨ j = 7 ∨ j = 8 ∨ j = 9 ∨ j = 10 ∨ j = 11 ∨ j = 12 ∨ j = 13 ∨ j = 14 ∨ j = 15 ∨ j = 16 by omega) with rfl | rfl | rfl | rfl | rfl | rfl | rfl | rfl | rfl | rfl | rfl | rfl | rfl | rfl | rfl | rfl | rfl <;> rfl, by decide, by decide, by decide, g_645, g_12⟩
theorem s_Chance_waysAtLeast_Chance_ways : w_site k_Chance_waysAtLeast k_Chance_ways 2 := ⟨g_581, g_15, ⟨by decide +kernel, by decide +kernel, by decide +kernel⟩, Nat.le_of_ble_eq_true rfl, Nat.le_of_ble_eq_true rfl⟩
theorem s_Chance_lowest_Chance_commonDivisor : w_site k_Chance_lowest k_Chance_commonDivisor 2 := ⟨g_588, g_15, ⟨by decide +kernel, by decide +kernel, by decide +kernel⟩, Nat.le_of_ble_eq_true rfl, Nat.le_of_ble_eq_true rfl⟩
theorem s_Choice_mostApart_Choice_lookAround : w_site k_Choice_mostApart k_Choice_lookAround 2 := ⟨g_502, g_8, ⟨by decide +kernel, by decide +kernel, by decide +kernel⟩, Nat.le_of_ble_eq_true rfl, Nat.le_of_ble_eq_true rfl⟩
theorem s_Choice_mostApart_Int_bitCount : w_site k_Choice_mostApart k_Int_bitCount 1 := ⟨g_359, g_13, ⟨by decide +kernel, by decide +kernel, by decide +kernel⟩, Nat.le_of_ble_eq_true rfl, Nat.le_of_ble_eq_true rfl⟩
theorem s_Choice_mostApart_Choice_standsApart : w_site k_Choice_mostApart k_Choice_standsApart 1 := ⟨g_508, g_8, ⟨by decide +kernel, by decide +kernel, by decide +kernel⟩, Nat.le_of_ble_eq_true rfl, Nat.le_of_ble_eq_true rfl⟩
theorem s_Choice_fewestLighting_Choice_lookAround : w_site k_Choice_fewestLighting k_Choice_lookAround 2 := ⟨g_502, g_8, ⟨by decide +kernel, by decide +kernel, by decide +kernel⟩, Nat.le_of_ble_eq_true rfl, Nat.le_of_ble_eq_true rfl⟩
theorem s_Choice_fewestLighting_Int_bitCount : w_site k_Choice_fewestLighting k_Int_bitCount 1 := ⟨g_359, g_13, ⟨by decide +kernel, by decide +kernel, by decide +kernel⟩, Nat.le_of_ble_eq_true rfl, Nat.le_of_ble_eq_true rfl⟩
theorem s_Choice_fewestLighting_Choice_lightsAll : w_site k_Choice_fewestLighting k_Choice_lightsAll 1 := ⟨g_522, g_8, ⟨by decide +kernel, by decide +kernel, by decide +kernel⟩, Nat.le_of_ble_eq_true rfl, Nat.le_of_ble_eq_true rfl⟩
theorem s_Choice_lookAround_Tree_ring : w_site k_Choice_lookAround k_Tree_ring 3 := ⟨g_384, g_3, ⟨by decide +kernel, by decide +kernel, by decide +kernel⟩, Nat.le_of_ble_eq_true rfl, Nat.le_of_ble_eq_true rfl⟩
theorem s_Choice_standsApart_BH_holds : w_site k_Choice_standsApart k_BH_holds 2 := ⟨g_254, g_1, ⟨by decide +kernel, by decide +kernel, by decide +kernel⟩, Nat.le_of_ble_eq_true rfl, Nat.le_of_ble_eq_true rfl⟩
theorem s_Choice_lightsAll_BH_holds : w_site k_Choice_lightsAll k_BH_holds 2 := ⟨g_254, g_1, ⟨by decide +kernel, by decide +kernel, by decide +kernel⟩, Nat.le_of_ble_eq_true rfl, Nat.le_of_ble_eq_true rfl⟩
theorem s_Cutting_worth_Tree_parentOf : w_site k_Cutting_worth k_Tree_parentOf 1 := ⟨g_228, g_3, ⟨by decide +kernel, by decide +kernel, by decide +kernel⟩, Nat.le_of_ble_eq_true rfl, Nat.le_of_ble_eq_true rfl⟩
theorem s_Hill_init_Tree_init : w_site k_Hill_init k_Tree_init 0 := ⟨g_34, g_3, ⟨by decide +kernel, by decide +kernel, by decide +kernel⟩, Nat.le_of_ble_eq_true rfl, Nat.le_of_ble_eq_true rfl⟩
theorem s_Hill_isBroken_BH_holds : w_site k_Hill_isBroken k_BH_holds 2 := ⟨g_254, g_1, ⟨by decide +kernel, by decide +kernel, by decide +kernel⟩, Nat.le_of_ble_eq_true rfl, Nat.le_of_ble_eq_true rfl⟩
theorem s_Hill_anotherHangs_Hill_loopOf : w_site k_Hill_anotherHangs k_Hill_loopOf 1 := ⟨g_247, g_2, ⟨by decide +kernel, by decide +kernel, by decide +kernel⟩, Nat.le_of_ble_eq_true rfl, Nat.le_of_ble_eq_true rfl⟩
theorem s_Hill_anotherHangs_Hill_hungLoops : w_site k_Hill_anotherHangs k_Hill_hungLoops 0 := ⟨g_251, g_2, ⟨by decide +kernel, by decide +kernel, by decide +kernel⟩, Nat.le_of_ble_eq_true rfl, Nat.le_of_ble_eq_true rfl⟩
theorem s_Hill_anotherHangs_BH_holds : w_site k_Hill_anotherHangs k_BH_holds 2 := ⟨g_254, g_1, ⟨by decide +kernel, by decide +kernel, by decide +kernel⟩, Nat.le_of_ble_eq_true rfl, Nat.le_of_ble_eq_true rfl⟩
theorem s_Hill_copyFrom_Tree_copyFrom : w_site k_Hill_copyFrom k_Tree_copyFrom 1 := ⟨g_317, g_3, ⟨by decide +kernel, by decide +kernel, by decide +kernel⟩, Nat.le_of_ble_eq_true rfl, Nat.le_of_ble_eq_true rfl⟩
theorem s_Hill_copyFrom_BH_copyRow : w_site k_Hill_copyFrom k_BH_copyRow 2 := ⟨g_320, g_1, ⟨by decide +kernel, by decide +kernel, by decide +kernel⟩, Nat.le_of_ble_eq_true rfl, Nat.le_of_ble_eq_true rfl⟩
theorem s_Hill_seenFrom_Hill_loopOf : w_site k_Hill_seenFrom k_Hill_loopOf 1 := ⟨g_247, g_2, ⟨by decide +kernel, by decide +kernel, by decide +kernel⟩, Nat.le_of_ble_eq_true rfl, Nat.le_of_ble_eq_true rfl⟩
theorem s_Hill_seenFrom_Hill_hungLoops : w_site k_Hill_seenFrom k_Hill_hungLoops 0 := ⟨g_251, g_2, ⟨by decide +kernel, by decide +kernel, by decide +kernel⟩, Nat.le_of_ble_eq_true rfl, Nat.le_of_ble_eq_true rfl⟩
theorem s_Hill_seenFrom_Tree_way : w_site k_Hill_seenFrom k_Tree_way 2 := ⟨g_471, g_3, ⟨by decide +kernel, by decide +kernel, by decide +kernel⟩, Nat.le_of_ble_eq_true rfl, Nat.le_of_ble_eq_true rfl⟩
theorem s_Hill_whyNot_Act_kind : w_site k_Hill_whyNot k_Act_kind 0 := ⟨g_343, g_7, ⟨by decide +kernel, by decide +kernel, by decide +kernel⟩, Nat.le_of_ble_eq_true rfl, Nat.le_of_ble_eq_true rfl⟩
theorem s_Hill_whyNot_Act_one : w_site k_Hill_whyNot k_Act_one 0 := ⟨g_347, g_7, ⟨by decide +kernel, by decide +kernel, by decide +kernel⟩, Nat.le_of_ble_eq_true rfl, Nat.le_of_ble_eq_true rfl⟩
theorem s_Hill_whyNot_Hill_isBroken : w_site k_Hill_whyNot k_Hill_isBroken 1 := ⟨g_351, g_2, ⟨by decide +kernel, by decide +kernel, by decide +kernel⟩, Nat.le_of_ble_eq_true rfl, Nat.le_of_ble_eq_true rfl⟩
theorem s_Hill_whyNot_Act_other : w_site k_Hill_whyNot k_Act_other 0 := ⟨g_355, g_7, ⟨by decide +kernel, by decide +kernel, by decide +kernel⟩, Nat.le_of_ble_eq_true rfl, Nat.le_of_ble_eq_true rfl⟩
theorem s_Hill_whyNot_Hill_anotherHangs : w_site k_Hill_whyNot k_Hill_anotherHangs 2 := ⟨g_243, g_2, ⟨by decide +kernel, by decide +kernel, by decide +kernel⟩, Nat.le_of_ble_eq_true rfl, Nat.le_of_ble_eq_true rfl⟩
theorem s_Hill_whyNot_Hill_loopOf : w_site k_Hill_whyNot k_Hill_loopOf 1 := ⟨g_247, g_2, ⟨by decide +kernel, by decide +kernel, by decide +kernel⟩, Nat.le_of_ble_eq_true rfl, Nat.le_of_ble_eq_true rfl⟩
theorem s_Hill_whyNot_Hill_hungLoops : w_site k_Hill_whyNot k_Hill_hungLoops 0 := ⟨g_251, g_2, ⟨by decide +kernel, by decide +kernel, by decide +kernel⟩, Nat.le_of_ble_eq_true rfl, Nat.le_of_ble_eq_true rfl⟩
theorem s_Hill_whyNot_Int_bitCount : w_site k_Hill_whyNot k_Int_bitCount 1 := ⟨g_359, g_13, ⟨by decide +kernel, by decide +kernel, by decide +kernel⟩, Nat.le_of_ble_eq_true rfl, Nat.le_of_ble_eq_true rfl⟩
theorem s_Hill_whyNot_Tree_parentOf : w_site k_Hill_whyNot k_Tree_parentOf 1 := ⟨g_228, g_3, ⟨by decide +kernel, by decide +kernel, by decide +kernel⟩, Nat.le_of_ble_eq_true rfl, Nat.le_of_ble_eq_true rfl⟩
theorem s_Hill_follow_Act_kind : w_site k_Hill_follow k_Act_kind 0 := ⟨g_343, g_7, ⟨by decide +kernel, by decide +kernel, by decide +kernel⟩, Nat.le_of_ble_eq_true rfl, Nat.le_of_ble_eq_true rfl⟩
theorem s_Hill_follow_Act_one : w_site k_Hill_follow k_Act_one 0 := ⟨g_347, g_7, ⟨by decide +kernel, by decide +kernel, by decide +kernel⟩, Nat.le_of_ble_eq_true rfl, Nat.le_of_ble_eq_true rfl⟩
theorem s_Hill_follow_Act_other : w_site k_Hill_follow k_Act_other 0 := ⟨g_355, g_7, ⟨by decide +kernel, by decide +kernel, by decide +kernel⟩, Nat.le_of_ble_eq_true rfl, Nat.le_of_ble_eq_true rfl⟩
theorem s_Hill_follow_Hill_chipsOf : w_site k_Hill_follow k_Hill_chipsOf 1 := ⟨g_375, g_2, ⟨by decide +kernel, by decide +kernel, by decide +kernel⟩, Nat.le_of_ble_eq_true rfl, Nat.le_of_ble_eq_true rfl⟩
theorem s_Hill_follow_Hill_put : w_site k_Hill_follow k_Hill_put 3 := ⟨g_259, g_2, ⟨by decide +kernel, by decide +kernel, by decide +kernel⟩, Nat.le_of_ble_eq_true rfl, Nat.le_of_ble_eq_true rfl⟩
theorem s_Hill_follow_Hill_blow : w_site k_Hill_follow k_Hill_blow 1 := ⟨g_380, g_2, ⟨by decide +kernel, by decide +kernel, by decide +kernel⟩, Nat.le_of_ble_eq_true rfl, Nat.le_of_ble_eq_true rfl⟩
theorem s_Hill_follow_Tree_bend : w_site k_Hill_follow k_Tree_bend 2 := ⟨g_232, g_3, ⟨by decide +kernel, by decide +kernel, by decide +kernel⟩, Nat.le_of_ble_eq_true rfl, Nat.le_of_ble_eq_true rfl⟩
theorem s_Hill_follow_Hill_packAll : w_site k_Hill_follow k_Hill_packAll 0 := ⟨g_405, g_2, ⟨by decide +kernel, by decide +kernel, by decide +kernel⟩, Nat.le_of_ble_eq_true rfl, Nat.le_of_ble_eq_true rfl⟩
theorem s_Hill_blow_Hill_hungLoops : w_site k_Hill_blow k_Hill_hungLoops 0 := ⟨g_251, g_2, ⟨by decide +kernel, by decide +kernel, by decide +kernel⟩, Nat.le_of_ble_eq_true rfl, Nat.le_of_ble_eq_true rfl⟩
theorem s_Hill_blow_Tree_ring : w_site k_Hill_blow k_Tree_ring 3 := ⟨g_384, g_3, ⟨by decide +kernel, by decide +kernel, by decide +kernel⟩, Nat.le_of_ble_eq_true rfl, Nat.le_of_ble_eq_true rfl⟩
theorem s_Hill_blow_Int_bitCount : w_site k_Hill_blow k_Int_bitCount 1 := ⟨g_359, g_13, ⟨by decide +kernel, by decide +kernel, by decide +kernel⟩, Nat.le_of_ble_eq_true rfl, Nat.le_of_ble_eq_true rfl⟩
theorem s_Hill_blow_Hill_chip : w_site k_Hill_blow k_Hill_chip 2 := ⟨g_399, g_2, ⟨by decide +kernel, by decide +kernel, by decide +kernel⟩, Nat.le_of_ble_eq_true rfl, Nat.le_of_ble_eq_true rfl⟩
theorem s_Hill_chip_Hill_chipsOf : w_site k_Hill_chip k_Hill_chipsOf 1 := ⟨g_375, g_2, ⟨by decide +kernel, by decide +kernel, by decide +kernel⟩, Nat.le_of_ble_eq_true rfl, Nat.le_of_ble_eq_true rfl⟩
theorem s_Hill_chip_Hill_loopOf : w_site k_Hill_chip k_Hill_loopOf 1 := ⟨g_247, g_2, ⟨by decide +kernel, by decide +kernel, by decide +kernel⟩, Nat.le_of_ble_eq_true rfl, Nat.le_of_ble_eq_true rfl⟩
theorem s_Hill_chip_Hill_put : w_site k_Hill_chip k_Hill_put 3 := ⟨g_259, g_2, ⟨by decide +kernel, by decide +kernel, by decide +kernel⟩, Nat.le_of_ble_eq_true rfl, Nat.le_of_ble_eq_true rfl⟩
theorem s_Image_init_Hill_init : w_site k_Image_init k_Hill_init 0 := ⟨g_28, g_2, ⟨by decide +kernel, by decide +kernel, by decide +kernel⟩, Nat.le_of_ble_eq_true rfl, Nat.le_of_ble_eq_true rfl⟩
theorem s_Image_init_Sights_init : w_site k_Image_init k_Sights_init 0 := ⟨g_61, g_4, ⟨by decide +kernel, by decide +kernel, by decide +kernel⟩, Nat.le_of_ble_eq_true rfl, Nat.le_of_ble_eq_true rfl⟩
theorem s_Image_keep_Hill_copyFrom : w_site k_Image_keep k_Hill_copyFrom 1 := ⟨g_313, g_2, ⟨by decide +kernel, by decide +kernel, by decide +kernel⟩, Nat.le_of_ble_eq_true rfl, Nat.le_of_ble_eq_true rfl⟩
theorem s_Image_keep_Sights_copyFrom : w_site k_Image_keep k_Sights_copyFrom 1 := ⟨g_626, g_4, ⟨by decide +kernel, by decide +kernel, by decide +kernel⟩, Nat.le_of_ble_eq_true rfl, Nat.le_of_ble_eq_true rfl⟩
theorem s_Image_bringBack_Hill_copyFrom : w_site k_Image_bringBack k_Hill_copyFrom 1 := ⟨g_313, g_2, ⟨by decide +kernel, by decide +kernel, by decide +kernel⟩, Nat.le_of_ble_eq_true rfl, Nat.le_of_ble_eq_true rfl⟩
theorem s_Image_bringBack_Sights_copyFrom : w_site k_Image_bringBack k_Sights_copyFrom 1 := ⟨g_626, g_4, ⟨by decide +kernel, by decide +kernel, by decide +kernel⟩, Nat.le_of_ble_eq_true rfl, Nat.le_of_ble_eq_true rfl⟩
theorem s_Pad_firstWrong_Pad_mayFollow : w_site k_Pad_firstWrong k_Pad_mayFollow 2 := ⟨g_290, g_5, ⟨by decide +kernel, by decide +kernel, by decide +kernel⟩, Nat.le_of_ble_eq_true rfl, Nat.le_of_ble_eq_true rfl⟩
theorem s_Pad_firstWrong_Pad_isHead : w_site k_Pad_firstWrong k_Pad_isHead 1 := ⟨g_298, g_5, ⟨by decide +kernel, by decide +kernel, by decide +kernel⟩, Nat.le_of_ble_eq_true rfl, Nat.le_of_ble_eq_true rfl⟩
theorem s_Pad_firstWrong_Pad_signsAfter : w_site k_Pad_firstWrong k_Pad_signsAfter 1 := ⟨g_301, g_5, ⟨by decide +kernel, by decide +kernel, by decide +kernel⟩, Nat.le_of_ble_eq_true rfl, Nat.le_of_ble_eq_true rfl⟩
theorem s_Pad_read_Pad_signAt : w_site k_Pad_read k_Pad_signAt 1 := ⟨g_331, g_5, ⟨by decide +kernel, by decide +kernel, by decide +kernel⟩, Nat.le_of_ble_eq_true rfl, Nat.le_of_ble_eq_true rfl⟩
theorem s_Pad_read_Pad_isBallLetter : w_site k_Pad_read k_Pad_isBallLetter 1 := ⟨g_294, g_5, ⟨by decide +kernel, by decide +kernel, by decide +kernel⟩, Nat.le_of_ble_eq_true rfl, Nat.le_of_ble_eq_true rfl⟩
theorem s_Pad_read_Act_set : w_site k_Pad_read k_Act_set 3 := ⟨g_335, g_7, ⟨by decide +kernel, by decide +kernel, by decide +kernel⟩, Nat.le_of_ble_eq_true rfl, Nat.le_of_ble_eq_true rfl⟩
theorem s_Pad_read_Pad_signsAfter : w_site k_Pad_read k_Pad_signsAfter 1 := ⟨g_301, g_5, ⟨by decide +kernel, by decide +kernel, by decide +kernel⟩, Nat.le_of_ble_eq_true rfl, Nat.le_of_ble_eq_true rfl⟩
theorem s_Pad_isHead_Pad_isBallLetter : w_site k_Pad_isHead k_Pad_isBallLetter 1 := ⟨g_294, g_5, ⟨by decide +kernel, by decide +kernel, by decide +kernel⟩, Nat.le_of_ble_eq_true rfl, Nat.le_of_ble_eq_true rfl⟩
theorem s_Pad_mayFollow_BH_isLoop : w_site k_Pad_mayFollow k_BH_isLoop 1 := ⟨g_220, g_1, ⟨by decide +kernel, by decide +kernel, by decide +kernel⟩, Nat.le_of_ble_eq_true rfl, Nat.le_of_ble_eq_true rfl⟩
theorem s_Pad_mayFollow_Pad_isBallLetter : w_site k_Pad_mayFollow k_Pad_isBallLetter 1 := ⟨g_294, g_5, ⟨by decide +kernel, by decide +kernel, by decide +kernel⟩, Nat.le_of_ble_eq_true rfl, Nat.le_of_ble_eq_true rfl⟩
theorem s_Pad_isBallLetter_BH_isBall : w_site k_Pad_isBallLetter k_BH_isBall 1 := ⟨g_239, g_1, ⟨by decide +kernel, by decide +kernel, by decide +kernel⟩, Nat.le_of_ble_eq_true rfl, Nat.le_of_ble_eq_true rfl⟩
theorem s_Sights_copyFrom_BH_copyRow : w_site k_Sights_copyFrom k_BH_copyRow 2 := ⟨g_320, g_1, ⟨by decide +kernel, by decide +kernel, by decide +kernel⟩, Nat.le_of_ble_eq_true rfl, Nat.le_of_ble_eq_true rfl⟩
theorem s_Sights_fitting_Tree_ring : w_site k_Sights_fitting k_Tree_ring 3 := ⟨g_384, g_3, ⟨by decide +kernel, by decide +kernel, by decide +kernel⟩, Nat.le_of_ble_eq_true rfl, Nat.le_of_ble_eq_true rfl⟩
theorem s_Telling_init_Hill_init : w_site k_Telling_init k_Hill_init 0 := ⟨g_28, g_2, ⟨by decide +kernel, by decide +kernel, by decide +kernel⟩, Nat.le_of_ble_eq_true rfl, Nat.le_of_ble_eq_true rfl⟩
theorem s_Telling_init_Act_init : w_site k_Telling_init k_Act_init 0 := ⟨g_98, g_7, ⟨by decide +kernel, by decide +kernel, by decide +kernel⟩, Nat.le_of_ble_eq_true rfl, Nat.le_of_ble_eq_true rfl⟩
theorem s_Telling_tell_Hill_copyFrom : w_site k_Telling_tell k_Hill_copyFrom 1 := ⟨g_313, g_2, ⟨by decide +kernel, by decide +kernel, by decide +kernel⟩, Nat.le_of_ble_eq_true rfl, Nat.le_of_ble_eq_true rfl⟩
theorem s_Telling_tell_Pad_firstWrong : w_site k_Telling_tell k_Pad_firstWrong 0 := ⟨g_287, g_5, ⟨by decide +kernel, by decide +kernel, by decide +kernel⟩, Nat.le_of_ble_eq_true rfl, Nat.le_of_ble_eq_true rfl⟩
theorem s_Telling_tell_Pad_size : w_site k_Telling_tell k_Pad_size 0 := ⟨g_267, g_5, ⟨by decide +kernel, by decide +kernel, by decide +kernel⟩, Nat.le_of_ble_eq_true rfl, Nat.le_of_ble_eq_true rfl⟩
theorem s_Telling_tell_Pad_read : w_site k_Telling_tell k_Pad_read 2 := ⟨g_327, g_5, ⟨by decide +kernel, by decide +kernel, by decide +kernel⟩, Nat.le_of_ble_eq_true rfl, Nat.le_of_ble_eq_true rfl⟩
theorem s_Telling_tell_Hill_whyNot : w_site k_Telling_tell k_Hill_whyNot 1 := ⟨g_339, g_2, ⟨by decide +kernel, by decide +kernel, by decide +kernel⟩, Nat.le_of_ble_eq_true rfl, Nat.le_of_ble_eq_true rfl⟩
theorem s_Telling_tell_Hill_brokenBalls : w_site k_Telling_tell k_Hill_brokenBalls 0 := ⟨g_367, g_2, ⟨by decide +kernel, by decide +kernel, by decide +kernel⟩, Nat.le_of_ble_eq_true rfl, Nat.le_of_ble_eq_true rfl⟩
theorem s_Telling_tell_Hill_follow : w_site k_Telling_tell k_Hill_follow 1 := ⟨g_371, g_2, ⟨by decide +kernel, by decide +kernel, by decide +kernel⟩, Nat.le_of_ble_eq_true rfl, Nat.le_of_ble_eq_true rfl⟩
theorem s_Telling_tell_Telling_noteBroken : w_site k_Telling_tell k_Telling_noteBroken 1 := ⟨g_409, g_6, ⟨by decide +kernel, by decide +kernel, by decide +kernel⟩, Nat.le_of_ble_eq_true rfl, Nat.le_of_ble_eq_true rfl⟩
theorem s_Telling_noteBroken_BH_memberAt : w_site k_Telling_noteBroken k_BH_memberAt 2 := ⟨g_412, g_1, ⟨by decide +kernel, by decide +kernel, by decide +kernel⟩, Nat.le_of_ble_eq_true rfl, Nat.le_of_ble_eq_true rfl⟩
theorem s_Tree_copyFrom_BH_copyRow : w_site k_Tree_copyFrom k_BH_copyRow 2 := ⟨g_320, g_1, ⟨by decide +kernel, by decide +kernel, by decide +kernel⟩, Nat.le_of_ble_eq_true rfl, Nat.le_of_ble_eq_true rfl⟩
theorem s_Tree_distance_Tree_parentOf : w_site k_Tree_distance k_Tree_parentOf 1 := ⟨g_228, g_3, ⟨by decide +kernel, by decide +kernel, by decide +kernel⟩, Nat.le_of_ble_eq_true rfl, Nat.le_of_ble_eq_true rfl⟩
theorem s_Tree_way_Tree_distance : w_site k_Tree_way k_Tree_distance 2 := ⟨g_388, g_3, ⟨by decide +kernel, by decide +kernel, by decide +kernel⟩, Nat.le_of_ble_eq_true rfl, Nat.le_of_ble_eq_true rfl⟩
theorem s_Tree_ring_Tree_distance : w_site k_Tree_ring k_Tree_distance 2 := ⟨g_388, g_3, ⟨by decide +kernel, by decide +kernel, by decide +kernel⟩, Nat.le_of_ble_eq_true rfl, Nat.le_of_ble_eq_true rfl⟩
theorem s_Tree_howFar_BH_holds : w_site k_Tree_howFar k_BH_holds 2 := ⟨g_254, g_1, ⟨by decide +kernel, by decide +kernel, by decide +kernel⟩, Nat.le_of_ble_eq_true rfl, Nat.le_of_ble_eq_true rfl⟩
theorem s_Tree_howFar_Tree_distance : w_site k_Tree_howFar k_Tree_distance 2 := ⟨g_388, g_3, ⟨by decide +kernel, by decide +kernel, by decide +kernel⟩, Nat.le_of_ble_eq_true rfl, Nat.le_of_ble_eq_true rfl⟩
theorem s_Tree_mostLeft_Tree_ring : w_site k_Tree_mostLeft k_Tree_ring 3 := ⟨g_384, g_3, ⟨by decide +kernel, by decide +kernel, by decide +kernel⟩, Nat.le_of_ble_eq_true rfl, Nat.le_of_ble_eq_true rfl⟩
theorem s_Tree_mostLeft_Int_bitCount : w_site k_Tree_mostLeft k_Int_bitCount 1 := ⟨g_359, g_13, ⟨by decide +kernel, by decide +kernel, by decide +kernel⟩, Nat.le_of_ble_eq_true rfl, Nat.le_of_ble_eq_true rfl⟩
theorem s_Year_init_Hill_init : w_site k_Year_init k_Hill_init 0 := ⟨g_28, g_2, ⟨by decide +kernel, by decide +kernel, by decide +kernel⟩, Nat.le_of_ble_eq_true rfl, Nat.le_of_ble_eq_true rfl⟩
theorem s_Year_init_Act_init : w_site k_Year_init k_Act_init 0 := ⟨g_98, g_7, ⟨by decide +kernel, by decide +kernel, by decide +kernel⟩, Nat.le_of_ble_eq_true rfl, Nat.le_of_ble_eq_true rfl⟩
theorem s_Year_pass_Hill_copyFrom : w_site k_Year_pass k_Hill_copyFrom 1 := ⟨g_313, g_2, ⟨by decide +kernel, by decide +kernel, by decide +kernel⟩, Nat.le_of_ble_eq_true rfl, Nat.le_of_ble_eq_true rfl⟩
theorem s_Year_pass_Year_draw : w_site k_Year_pass k_Year_draw 1 := ⟨g_606, g_10, ⟨by decide +kernel, by decide +kernel, by decide +kernel⟩, Nat.le_of_ble_eq_true rfl, Nat.le_of_ble_eq_true rfl⟩
theorem s_Year_pass_Hill_whyNot : w_site k_Year_pass k_Hill_whyNot 1 := ⟨g_339, g_2, ⟨by decide +kernel, by decide +kernel, by decide +kernel⟩, Nat.le_of_ble_eq_true rfl, Nat.le_of_ble_eq_true rfl⟩
theorem s_Year_pass_Hill_follow : w_site k_Year_pass k_Hill_follow 1 := ⟨g_371, g_2, ⟨by decide +kernel, by decide +kernel, by decide +kernel⟩, Nat.le_of_ble_eq_true rfl, Nat.le_of_ble_eq_true rfl⟩
theorem s_Year_draw_Act_set : w_site k_Year_draw k_Act_set 3 := ⟨g_335, g_7, ⟨by decide +kernel, by decide +kernel, by decide +kernel⟩, Nat.le_of_ble_eq_true rfl, Nat.le_of_ble_eq_true rfl⟩
theorem s_BH_init_Hill_init : w_site k_BH_init k_Hill_init 0 := ⟨g_28, g_2, ⟨by decide +kernel, by decide +kernel, by decide +kernel⟩, Nat.le_of_ble_eq_true rfl, Nat.le_of_ble_eq_true rfl⟩
theorem s_BH_init_Sights_init : w_site k_BH_init k_Sights_init 0 := ⟨g_61, g_4, ⟨by decide +kernel, by decide +kernel, by decide +kernel⟩, Nat.le_of_ble_eq_true rfl, Nat.le_of_ble_eq_true rfl⟩
theorem s_BH_init_Pad_init : w_site k_BH_init k_Pad_init 0 := ⟨g_77, g_5, ⟨by decide +kernel, by decide +kernel, by decide +kernel⟩, Nat.le_of_ble_eq_true rfl, Nat.le_of_ble_eq_true rfl⟩
theorem s_BH_init_Telling_init : w_site k_BH_init k_Telling_init 0 := ⟨g_90, g_6, ⟨by decide +kernel, by decide +kernel, by decide +kernel⟩, Nat.le_of_ble_eq_true rfl, Nat.le_of_ble_eq_true rfl⟩
theorem s_BH_init_Choice_init : w_site k_BH_init k_Choice_init 0 := ⟨g_133, g_8, ⟨by decide +kernel, by decide +kernel, by decide +kernel⟩, Nat.le_of_ble_eq_true rfl, Nat.le_of_ble_eq_true rfl⟩
theorem s_BH_init_Cutting_init : w_site k_BH_init k_Cutting_init 0 := ⟨g_143, g_9, ⟨by decide +kernel, by decide +kernel, by decide +kernel⟩, Nat.le_of_ble_eq_true rfl, Nat.le_of_ble_eq_true rfl⟩
theorem s_BH_init_Year_init : w_site k_BH_init k_Year_init 0 := ⟨g_153, g_10, ⟨by decide +kernel, by decide +kernel, by decide +kernel⟩, Nat.le_of_ble_eq_true rfl, Nat.le_of_ble_eq_true rfl⟩
theorem s_BH_init_Image_init : w_site k_BH_init k_Image_init 0 := ⟨g_170, g_11, ⟨by decide +kernel, by decide +kernel, by decide +kernel⟩, Nat.le_of_ble_eq_true rfl, Nat.le_of_ble_eq_true rfl⟩
theorem s_BH_branch_BH_isLoop : w_site k_BH_branch k_BH_isLoop 1 := ⟨g_220, g_1, ⟨by decide +kernel, by decide +kernel, by decide +kernel⟩, Nat.le_of_ble_eq_true rfl, Nat.le_of_ble_eq_true rfl⟩
theorem s_BH_branch_Hill_tree : w_site k_BH_branch k_Hill_tree 0 := ⟨g_224, g_2, ⟨by decide +kernel, by decide +kernel, by decide +kernel⟩, Nat.le_of_ble_eq_true rfl, Nat.le_of_ble_eq_true rfl⟩
theorem s_BH_branch_Tree_parentOf : w_site k_BH_branch k_Tree_parentOf 1 := ⟨g_228, g_3, ⟨by decide +kernel, by decide +kernel, by decide +kernel⟩, Nat.le_of_ble_eq_true rfl, Nat.le_of_ble_eq_true rfl⟩
theorem s_BH_branch_Tree_bend : w_site k_BH_branch k_Tree_bend 2 := ⟨g_232, g_3, ⟨by decide +kernel, by decide +kernel, by decide +kernel⟩, Nat.le_of_ble_eq_true rfl, Nat.le_of_ble_eq_true rfl⟩
theorem s_BH_ball_BH_isBall : w_site k_BH_ball k_BH_isBall 1 := ⟨g_239, g_1, ⟨by decide +kernel, by decide +kernel, by decide +kernel⟩, Nat.le_of_ble_eq_true rfl, Nat.le_of_ble_eq_true rfl⟩
theorem s_BH_ball_BH_isLoop : w_site k_BH_ball k_BH_isLoop 1 := ⟨g_220, g_1, ⟨by decide +kernel, by decide +kernel, by decide +kernel⟩, Nat.le_of_ble_eq_true rfl, Nat.le_of_ble_eq_true rfl⟩
theorem s_BH_ball_Hill_anotherHangs : w_site k_BH_ball k_Hill_anotherHangs 2 := ⟨g_243, g_2, ⟨by decide +kernel, by decide +kernel, by decide +kernel⟩, Nat.le_of_ble_eq_true rfl, Nat.le_of_ble_eq_true rfl⟩
theorem s_BH_ball_Hill_loopOf : w_site k_BH_ball k_Hill_loopOf 1 := ⟨g_247, g_2, ⟨by decide +kernel, by decide +kernel, by decide +kernel⟩, Nat.le_of_ble_eq_true rfl, Nat.le_of_ble_eq_true rfl⟩
theorem s_BH_ball_Hill_put : w_site k_BH_ball k_Hill_put 3 := ⟨g_259, g_2, ⟨by decide +kernel, by decide +kernel, by decide +kernel⟩, Nat.le_of_ble_eq_true rfl, Nat.le_of_ble_eq_true rfl⟩
theorem s_BH_say_Pad_size : w_site k_BH_say k_Pad_size 0 := ⟨g_267, g_5, ⟨by decide +kernel, by decide +kernel, by decide +kernel⟩, Nat.le_of_ble_eq_true rfl, Nat.le_of_ble_eq_true rfl⟩
theorem s_BH_say_Pad_add : w_site k_BH_say k_Pad_add 1 := ⟨g_271, g_5, ⟨by decide +kernel, by decide +kernel, by decide +kernel⟩, Nat.le_of_ble_eq_true rfl, Nat.le_of_ble_eq_true rfl⟩
theorem s_BH_wipe_Pad_size : w_site k_BH_wipe k_Pad_size 0 := ⟨g_267, g_5, ⟨by decide +kernel, by decide +kernel, by decide +kernel⟩, Nat.le_of_ble_eq_true rfl, Nat.le_of_ble_eq_true rfl⟩
theorem s_BH_wipe_Pad_clear : w_site k_BH_wipe k_Pad_clear 0 := ⟨g_279, g_5, ⟨by decide +kernel, by decide +kernel, by decide +kernel⟩, Nat.le_of_ble_eq_true rfl, Nat.le_of_ble_eq_true rfl⟩
theorem s_BH_fault_Pad_firstWrong : w_site k_BH_fault k_Pad_firstWrong 0 := ⟨g_287, g_5, ⟨by decide +kernel, by decide +kernel, by decide +kernel⟩, Nat.le_of_ble_eq_true rfl, Nat.le_of_ble_eq_true rfl⟩
theorem s_BH_judge_Pad_firstWrong : w_site k_BH_judge k_Pad_firstWrong 0 := ⟨g_287, g_5, ⟨by decide +kernel, by decide +kernel, by decide +kernel⟩, Nat.le_of_ble_eq_true rfl, Nat.le_of_ble_eq_true rfl⟩
theorem s_BH_judge_Telling_tell : w_site k_BH_judge k_Telling_tell 2 := ⟨g_309, g_6, ⟨by decide +kernel, by decide +kernel, by decide +kernel⟩, Nat.le_of_ble_eq_true rfl, Nat.le_of_ble_eq_true rfl⟩
theorem s_BH_judge_Telling_acts : w_site k_BH_judge k_Telling_acts 0 := ⟨g_417, g_6, ⟨by decide +kernel, by decide +kernel, by decide +kernel⟩, Nat.le_of_ble_eq_true rfl, Nat.le_of_ble_eq_true rfl⟩
theorem s_BH_judge_Telling_why : w_site k_BH_judge k_Telling_why 0 := ⟨g_421, g_6, ⟨by decide +kernel, by decide +kernel, by decide +kernel⟩, Nat.le_of_ble_eq_true rfl, Nat.le_of_ble_eq_true rfl⟩
theorem s_BH_done_Telling_tell : w_site k_BH_done k_Telling_tell 2 := ⟨g_309, g_6, ⟨by decide +kernel, by decide +kernel, by decide +kernel⟩, Nat.le_of_ble_eq_true rfl, Nat.le_of_ble_eq_true rfl⟩
theorem s_BH_done_Telling_hill : w_site k_BH_done k_Telling_hill 0 := ⟨g_429, g_6, ⟨by decide +kernel, by decide +kernel, by decide +kernel⟩, Nat.le_of_ble_eq_true rfl, Nat.le_of_ble_eq_true rfl⟩
theorem s_BH_done_Hill_copyFrom : w_site k_BH_done k_Hill_copyFrom 1 := ⟨g_313, g_2, ⟨by decide +kernel, by decide +kernel, by decide +kernel⟩, Nat.le_of_ble_eq_true rfl, Nat.le_of_ble_eq_true rfl⟩
theorem s_BH_done_Pad_clear : w_site k_BH_done k_Pad_clear 0 := ⟨g_279, g_5, ⟨by decide +kernel, by decide +kernel, by decide +kernel⟩, Nat.le_of_ble_eq_true rfl, Nat.le_of_ble_eq_true rfl⟩
theorem s_BH_done_Telling_acts : w_site k_BH_done k_Telling_acts 0 := ⟨g_417, g_6, ⟨by decide +kernel, by decide +kernel, by decide +kernel⟩, Nat.le_of_ble_eq_true rfl, Nat.le_of_ble_eq_true rfl⟩
theorem s_BH_behind_BH_isBall : w_site k_BH_behind k_BH_isBall 1 := ⟨g_239, g_1, ⟨by decide +kernel, by decide +kernel, by decide +kernel⟩, Nat.le_of_ble_eq_true rfl, Nat.le_of_ble_eq_true rfl⟩
theorem s_BH_behind_Telling_tell : w_site k_BH_behind k_Telling_tell 2 := ⟨g_309, g_6, ⟨by decide +kernel, by decide +kernel, by decide +kernel⟩, Nat.le_of_ble_eq_true rfl, Nat.le_of_ble_eq_true rfl⟩
theorem s_BH_behind_Telling_hill : w_site k_BH_behind k_Telling_hill 0 := ⟨g_429, g_6, ⟨by decide +kernel, by decide +kernel, by decide +kernel⟩, Nat.le_of_ble_eq_true rfl, Nat.le_of_ble_eq_true rfl⟩
theorem s_BH_behind_Hill_loopOf : w_site k_BH_behind k_Hill_loopOf 1 := ⟨g_247, g_2, ⟨by decide +kernel, by decide +kernel, by decide +kernel⟩, Nat.le_of_ble_eq_true rfl, Nat.le_of_ble_eq_true rfl⟩
theorem s_BH_behind_Hill_chipsOf : w_site k_BH_behind k_Hill_chipsOf 1 := ⟨g_375, g_2, ⟨by decide +kernel, by decide +kernel, by decide +kernel⟩, Nat.le_of_ble_eq_true rfl, Nat.le_of_ble_eq_true rfl⟩
theorem s_BH_behind_Hill_isBroken : w_site k_BH_behind k_Hill_isBroken 1 := ⟨g_351, g_2, ⟨by decide +kernel, by decide +kernel, by decide +kernel⟩, Nat.le_of_ble_eq_true rfl, Nat.le_of_ble_eq_true rfl⟩
theorem s_BH_then_Telling_tell : w_site k_BH_then k_Telling_tell 2 := ⟨g_309, g_6, ⟨by decide +kernel, by decide +kernel, by decide +kernel⟩, Nat.le_of_ble_eq_true rfl, Nat.le_of_ble_eq_true rfl⟩
theorem s_BH_then_Telling_hill : w_site k_BH_then k_Telling_hill 0 := ⟨g_429, g_6, ⟨by decide +kernel, by decide +kernel, by decide +kernel⟩, Nat.le_of_ble_eq_true rfl, Nat.le_of_ble_eq_true rfl⟩
theorem s_BH_then_Hill_hungLoops : w_site k_BH_then k_Hill_hungLoops 0 := ⟨g_251, g_2, ⟨by decide +kernel, by decide +kernel, by decide +kernel⟩, Nat.le_of_ble_eq_true rfl, Nat.le_of_ble_eq_true rfl⟩
theorem s_BH_then_Hill_brokenBalls : w_site k_BH_then k_Hill_brokenBalls 0 := ⟨g_367, g_2, ⟨by decide +kernel, by decide +kernel, by decide +kernel⟩, Nat.le_of_ble_eq_true rfl, Nat.le_of_ble_eq_true rfl⟩
theorem s_BH_then_Hill_allChips : w_site k_BH_then k_Hill_allChips 0 := ⟨g_446, g_2, ⟨by decide +kernel, by decide +kernel, by decide +kernel⟩, Nat.le_of_ble_eq_true rfl, Nat.le_of_ble_eq_true rfl⟩
theorem s_BH_then_Hill_winter : w_site k_BH_then k_Hill_winter 0 := ⟨g_450, g_2, ⟨by decide +kernel, by decide +kernel, by decide +kernel⟩, Nat.le_of_ble_eq_true rfl, Nat.le_of_ble_eq_true rfl⟩
theorem s_BH_then_Telling_actThatBroke : w_site k_BH_then k_Telling_actThatBroke 0 := ⟨g_454, g_6, ⟨by decide +kernel, by decide +kernel, by decide +kernel⟩, Nat.le_of_ble_eq_true rfl, Nat.le_of_ble_eq_true rfl⟩
theorem s_BH_then_Telling_ballThatBroke : w_site k_BH_then k_Telling_ballThatBroke 0 := ⟨g_458, g_6, ⟨by decide +kernel, by decide +kernel, by decide +kernel⟩, Nat.le_of_ble_eq_true rfl, Nat.le_of_ble_eq_true rfl⟩
theorem s_BH_apart_BH_isLoop : w_site k_BH_apart k_BH_isLoop 1 := ⟨g_220, g_1, ⟨by decide +kernel, by decide +kernel, by decide +kernel⟩, Nat.le_of_ble_eq_true rfl, Nat.le_of_ble_eq_true rfl⟩
theorem s_BH_apart_Hill_tree : w_site k_BH_apart k_Hill_tree 0 := ⟨g_224, g_2, ⟨by decide +kernel, by decide +kernel, by decide +kernel⟩, Nat.le_of_ble_eq_true rfl, Nat.le_of_ble_eq_true rfl⟩
theorem s_BH_apart_Tree_distance : w_site k_BH_apart k_Tree_distance 2 := ⟨g_388, g_3, ⟨by decide +kernel, by decide +kernel, by decide +kernel⟩, Nat.le_of_ble_eq_true rfl, Nat.le_of_ble_eq_true rfl⟩
theorem s_BH_meets_BH_isLoop : w_site k_BH_meets k_BH_isLoop 1 := ⟨g_220, g_1, ⟨by decide +kernel, by decide +kernel, by decide +kernel⟩, Nat.le_of_ble_eq_true rfl, Nat.le_of_ble_eq_true rfl⟩
theorem s_BH_meets_Hill_tree : w_site k_BH_meets k_Hill_tree 0 := ⟨g_224, g_2, ⟨by decide +kernel, by decide +kernel, by decide +kernel⟩, Nat.le_of_ble_eq_true rfl, Nat.le_of_ble_eq_true rfl⟩
theorem s_BH_meets_Tree_way : w_site k_BH_meets k_Tree_way 2 := ⟨g_471, g_3, ⟨by decide +kernel, by decide +kernel, by decide +kernel⟩, Nat.le_of_ble_eq_true rfl, Nat.le_of_ble_eq_true rfl⟩
theorem s_BH_meets_BH_memberAt : w_site k_BH_meets k_BH_memberAt 2 := ⟨g_412, g_1, ⟨by decide +kernel, by decide +kernel, by decide +kernel⟩, Nat.le_of_ble_eq_true rfl, Nat.le_of_ble_eq_true rfl⟩
theorem s_BH_sees_BH_isBall : w_site k_BH_sees k_BH_isBall 1 := ⟨g_239, g_1, ⟨by decide +kernel, by decide +kernel, by decide +kernel⟩, Nat.le_of_ble_eq_true rfl, Nat.le_of_ble_eq_true rfl⟩
theorem s_BH_sees_Hill_loopOf : w_site k_BH_sees k_Hill_loopOf 1 := ⟨g_247, g_2, ⟨by decide +kernel, by decide +kernel, by decide +kernel⟩, Nat.le_of_ble_eq_true rfl, Nat.le_of_ble_eq_true rfl⟩
theorem s_BH_sees_Hill_seenFrom : w_site k_BH_sees k_Hill_seenFrom 1 := ⟨g_480, g_2, ⟨by decide +kernel, by decide +kernel, by decide +kernel⟩, Nat.le_of_ble_eq_true rfl, Nat.le_of_ble_eq_true rfl⟩
theorem s_BH_near_Hill_hungLoops : w_site k_BH_near k_Hill_hungLoops 0 := ⟨g_251, g_2, ⟨by decide +kernel, by decide +kernel, by decide +kernel⟩, Nat.le_of_ble_eq_true rfl, Nat.le_of_ble_eq_true rfl⟩
theorem s_BH_near_Hill_tree : w_site k_BH_near k_Hill_tree 0 := ⟨g_224, g_2, ⟨by decide +kernel, by decide +kernel, by decide +kernel⟩, Nat.le_of_ble_eq_true rfl, Nat.le_of_ble_eq_true rfl⟩
theorem s_BH_near_Tree_howFar : w_site k_BH_near k_Tree_howFar 3 := ⟨g_489, g_3, ⟨by decide +kernel, by decide +kernel, by decide +kernel⟩, Nat.le_of_ble_eq_true rfl, Nat.le_of_ble_eq_true rfl⟩
theorem s_BH_room_Hill_tree : w_site k_BH_room k_Hill_tree 0 := ⟨g_224, g_2, ⟨by decide +kernel, by decide +kernel, by decide +kernel⟩, Nat.le_of_ble_eq_true rfl, Nat.le_of_ble_eq_true rfl⟩
theorem s_BH_room_Choice_mostApart : w_site k_BH_room k_Choice_mostApart 2 := ⟨g_498, g_8, ⟨by decide +kernel, by decide +kernel, by decide +kernel⟩, Nat.le_of_ble_eq_true rfl, Nat.le_of_ble_eq_true rfl⟩
theorem s_BH_room_Int_bitCount : w_site k_BH_room k_Int_bitCount 1 := ⟨g_359, g_13, ⟨by decide +kernel, by decide +kernel, by decide +kernel⟩, Nat.le_of_ble_eq_true rfl, Nat.le_of_ble_eq_true rfl⟩
theorem s_BH_candles_Hill_tree : w_site k_BH_candles k_Hill_tree 0 := ⟨g_224, g_2, ⟨by decide +kernel, by decide +kernel, by decide +kernel⟩, Nat.le_of_ble_eq_true rfl, Nat.le_of_ble_eq_true rfl⟩
theorem s_BH_candles_Choice_fewestLighting : w_site k_BH_candles k_Choice_fewestLighting 2 := ⟨g_518, g_8, ⟨by decide +kernel, by decide +kernel, by decide +kernel⟩, Nat.le_of_ble_eq_true rfl, Nat.le_of_ble_eq_true rfl⟩
theorem s_BH_candles_Int_bitCount : w_site k_BH_candles k_Int_bitCount 1 := ⟨g_359, g_13, ⟨by decide +kernel, by decide +kernel, by decide +kernel⟩, Nat.le_of_ble_eq_true rfl, Nat.le_of_ble_eq_true rfl⟩
theorem s_BH_seen_BH_isLoop : w_site k_BH_seen k_BH_isLoop 1 := ⟨g_220, g_1, ⟨by decide +kernel, by decide +kernel, by decide +kernel⟩, Nat.le_of_ble_eq_true rfl, Nat.le_of_ble_eq_true rfl⟩
theorem s_BH_seen_Sights_size : w_site k_BH_seen k_Sights_size 0 := ⟨g_530, g_4, ⟨by decide +kernel, by decide +kernel, by decide +kernel⟩, Nat.le_of_ble_eq_true rfl, Nat.le_of_ble_eq_true rfl⟩
theorem s_BH_seen_Sights_add : w_site k_BH_seen k_Sights_add 2 := ⟨g_534, g_4, ⟨by decide +kernel, by decide +kernel, by decide +kernel⟩, Nat.le_of_ble_eq_true rfl, Nat.le_of_ble_eq_true rfl⟩
theorem s_BH_forget_Sights_size : w_site k_BH_forget k_Sights_size 0 := ⟨g_530, g_4, ⟨by decide +kernel, by decide +kernel, by decide +kernel⟩, Nat.le_of_ble_eq_true rfl, Nat.le_of_ble_eq_true rfl⟩
theorem s_BH_forget_Sights_clear : w_site k_BH_forget k_Sights_clear 0 := ⟨g_542, g_4, ⟨by decide +kernel, by decide +kernel, by decide +kernel⟩, Nat.le_of_ble_eq_true rfl, Nat.le_of_ble_eq_true rfl⟩
theorem s_BH_where_Hill_tree : w_site k_BH_where k_Hill_tree 0 := ⟨g_224, g_2, ⟨by decide +kernel, by decide +kernel, by decide +kernel⟩, Nat.le_of_ble_eq_true rfl, Nat.le_of_ble_eq_true rfl⟩
theorem s_BH_where_Sights_fitting : w_site k_BH_where k_Sights_fitting 1 := ⟨g_550, g_4, ⟨by decide +kernel, by decide +kernel, by decide +kernel⟩, Nat.le_of_ble_eq_true rfl, Nat.le_of_ble_eq_true rfl⟩
theorem s_BH_where_Int_bitCount : w_site k_BH_where k_Int_bitCount 1 := ⟨g_359, g_13, ⟨by decide +kernel, by decide +kernel, by decide +kernel⟩, Nat.le_of_ble_eq_true rfl, Nat.le_of_ble_eq_true rfl⟩
theorem s_BH_where_BH_memberAt : w_site k_BH_where k_BH_memberAt 2 := ⟨g_412, g_1, ⟨by decide +kernel, by decide +kernel, by decide +kernel⟩, Nat.le_of_ble_eq_true rfl, Nat.le_of_ble_eq_true rfl⟩
theorem s_BH_ask_Hill_tree : w_site k_BH_ask k_Hill_tree 0 := ⟨g_224, g_2, ⟨by decide +kernel, by decide +kernel, by decide +kernel⟩, Nat.le_of_ble_eq_true rfl, Nat.le_of_ble_eq_true rfl⟩
theorem s_BH_ask_Sights_fitting : w_site k_BH_ask k_Sights_fitting 1 := ⟨g_550, g_4, ⟨by decide +kernel, by decide +kernel, by decide +kernel⟩, Nat.le_of_ble_eq_true rfl, Nat.le_of_ble_eq_true rfl⟩
theorem s_BH_ask_Tree_mostLeft : w_site k_BH_ask k_Tree_mostLeft 2 := ⟨g_559, g_3, ⟨by decide +kernel, by decide +kernel, by decide +kernel⟩, Nat.le_of_ble_eq_true rfl, Nat.le_of_ble_eq_true rfl⟩
theorem s_BH_cut_Hill_tree : w_site k_BH_cut k_Hill_tree 0 := ⟨g_224, g_2, ⟨by decide +kernel, by decide +kernel, by decide +kernel⟩, Nat.le_of_ble_eq_true rfl, Nat.le_of_ble_eq_true rfl⟩
theorem s_BH_cut_Cutting_worth : w_site k_BH_cut k_Cutting_worth 2 := ⟨g_569, g_9, ⟨by decide +kernel, by decide +kernel, by decide +kernel⟩, Nat.le_of_ble_eq_true rfl, Nat.le_of_ble_eq_true rfl⟩
theorem s_BH_tissue_Chance_waysAtLeast : w_site k_BH_tissue k_Chance_waysAtLeast 4 := ⟨g_578, g_15, ⟨by decide +kernel, by decide +kernel, by decide +kernel⟩, Nat.le_of_ble_eq_true rfl, Nat.le_of_ble_eq_true rfl⟩
theorem s_BH_tissue_Chance_ways : w_site k_BH_tissue k_Chance_ways 2 := ⟨g_581, g_15, ⟨by decide +kernel, by decide +kernel, by decide +kernel⟩, Nat.le_of_ble_eq_true rfl, Nat.le_of_ble_eq_true rfl⟩
theorem s_BH_tissue_Chance_lowest : w_site k_BH_tissue k_Chance_lowest 3 := ⟨g_585, g_15, ⟨by decide +kernel, by decide +kernel, by decide +kernel⟩, Nat.le_of_ble_eq_true rfl, Nat.le_of_ble_eq_true rfl⟩
theorem s_BH_year_Year_pass : w_site k_BH_year k_Year_pass 3 := ⟨g_600, g_10, ⟨by decide +kernel, by decide +kernel, by decide +kernel⟩, Nat.le_of_ble_eq_true rfl, Nat.le_of_ble_eq_true rfl⟩
theorem s_BH_year_Hill_hungLoops : w_site k_BH_year k_Hill_hungLoops 0 := ⟨g_251, g_2, ⟨by decide +kernel, by decide +kernel, by decide +kernel⟩, Nat.le_of_ble_eq_true rfl, Nat.le_of_ble_eq_true rfl⟩
theorem s_BH_year_Int_bitCount : w_site k_BH_year k_Int_bitCount 1 := ⟨g_359, g_13, ⟨by decide +kernel, by decide +kernel, by decide +kernel⟩, Nat.le_of_ble_eq_true rfl, Nat.le_of_ble_eq_true rfl⟩
theorem s_BH_year_Hill_allChips : w_site k_BH_year k_Hill_allChips 0 := ⟨g_446, g_2, ⟨by decide +kernel, by decide +kernel, by decide +kernel⟩, Nat.le_of_ble_eq_true rfl, Nat.le_of_ble_eq_true rfl⟩
theorem s_BH_year_Hill_brokenBalls : w_site k_BH_year k_Hill_brokenBalls 0 := ⟨g_367, g_2, ⟨by decide +kernel, by decide +kernel, by decide +kernel⟩, Nat.le_of_ble_eq_true rfl, Nat.le_of_ble_eq_true rfl⟩
theorem s_BH_image_BH_imageOf : w_site k_BH_image k_BH_imageOf 1 := ⟨g_617, g_1, ⟨by decide +kernel, by decide +kernel, by decide +kernel⟩, Nat.le_of_ble_eq_true rfl, Nat.le_of_ble_eq_true rfl⟩
theorem s_BH_image_Image_keep : w_site k_BH_image k_Image_keep 2 := ⟨g_621, g_11, ⟨by decide +kernel, by decide +kernel, by decide +kernel⟩, Nat.le_of_ble_eq_true rfl, Nat.le_of_ble_eq_true rfl⟩
theorem s_BH_restore_BH_imageOf : w_site k_BH_restore k_BH_imageOf 1 := ⟨g_617, g_1, ⟨by decide +kernel, by decide +kernel, by decide +kernel⟩, Nat.le_of_ble_eq_true rfl, Nat.le_of_ble_eq_true rfl⟩
theorem s_BH_restore_Image_isKept : w_site k_BH_restore k_Image_isKept 0 := ⟨g_635, g_11, ⟨by decide +kernel, by decide +kernel, by decide +kernel⟩, Nat.le_of_ble_eq_true rfl, Nat.le_of_ble_eq_true rfl⟩
theorem s_BH_restore_Image_bringBack : w_site k_BH_restore k_Image_bringBack 2 := ⟨g_639, g_11, ⟨by decide +kernel, by decide +kernel, by decide +kernel⟩, Nat.le_of_ble_eq_true rfl, Nat.le_of_ble_eq_true rfl⟩
theorem s_BH_told_BH_isLoop : w_site k_BH_told k_BH_isLoop 1 := ⟨g_220, g_1, ⟨by decide +kernel, by decide +kernel, by decide +kernel⟩, Nat.le_of_ble_eq_true rfl, Nat.le_of_ble_eq_true rfl⟩
theorem s_BH_told_Hill_tree : w_site k_BH_told k_Hill_tree 0 := ⟨g_224, g_2, ⟨by decide +kernel, by decide +kernel, by decide +kernel⟩, Nat.le_of_ble_eq_true rfl, Nat.le_of_ble_eq_true rfl⟩
theorem s_BH_told_Tree_parentOf : w_site k_BH_told k_Tree_parentOf 1 := ⟨g_228, g_3, ⟨by decide +kernel, by decide +kernel, by decide +kernel⟩, Nat.le_of_ble_eq_true rfl, Nat.le_of_ble_eq_true rfl⟩
theorem s_BH_told_BH_isBall : w_site k_BH_told k_BH_isBall 1 := ⟨g_239, g_1, ⟨by decide +kernel, by decide +kernel, by decide +kernel⟩, Nat.le_of_ble_eq_true rfl, Nat.le_of_ble_eq_true rfl⟩
theorem s_BH_told_Hill_loopOf : w_site k_BH_told k_Hill_loopOf 1 := ⟨g_247, g_2, ⟨by decide +kernel, by decide +kernel, by decide +kernel⟩, Nat.le_of_ble_eq_true rfl, Nat.le_of_ble_eq_true rfl⟩
theorem s_BH_told_Hill_chipsOf : w_site k_BH_told k_Hill_chipsOf 1 := ⟨g_375, g_2, ⟨by decide +kernel, by decide +kernel, by decide +kernel⟩, Nat.le_of_ble_eq_true rfl, Nat.le_of_ble_eq_true rfl⟩
theorem s_BH_told_Pad_size : w_site k_BH_told k_Pad_size 0 := ⟨g_267, g_5, ⟨by decide +kernel, by decide +kernel, by decide +kernel⟩, Nat.le_of_ble_eq_true rfl, Nat.le_of_ble_eq_true rfl⟩
theorem s_BH_told_Hill_hungLoops : w_site k_BH_told k_Hill_hungLoops 0 := ⟨g_251, g_2, ⟨by decide +kernel, by decide +kernel, by decide +kernel⟩, Nat.le_of_ble_eq_true rfl, Nat.le_of_ble_eq_true rfl⟩
theorem s_BH_told_Hill_brokenBalls : w_site k_BH_told k_Hill_brokenBalls 0 := ⟨g_367, g_2, ⟨by decide +kernel, by decide +kernel, by decide +kernel⟩, Nat.le_of_ble_eq_true rfl, Nat.le_of_ble_eq_true rfl⟩
theorem s_BH_told_Hill_winter : w_site k_BH_told k_Hill_winter 0 := ⟨g_450, g_2, ⟨by decide +kernel, by decide +kernel, by decide +kernel⟩, Nat.le_of_ble_eq_true rfl, Nat.le_of_ble_eq_true rfl⟩
theorem s_BH_told_Sights_size : w_site k_BH_told k_Sights_size 0 := ⟨g_530, g_4, ⟨by decide +kernel, by decide +kernel, by decide +kernel⟩, Nat.le_of_ble_eq_true rfl, Nat.le_of_ble_eq_true rfl⟩
theorem s_BH_memberAt_BH_holds : w_site k_BH_memberAt k_BH_holds 2 := ⟨g_254, g_1, ⟨by decide +kernel, by decide +kernel, by decide +kernel⟩, Nat.le_of_ble_eq_true rfl, Nat.le_of_ble_eq_true rfl⟩
theorem s_Md_branch_Md_in : w_site k_Md_branch k_Md_in 3 := ⟨g_710, g_12, ⟨by decide +kernel, by decide +kernel, by decide +kernel⟩, Nat.le_of_ble_eq_true rfl, Nat.le_of_ble_eq_true rfl⟩
theorem s_Md_ball_Md_in : w_site k_Md_ball k_Md_in 3 := ⟨g_710, g_12, ⟨by decide +kernel, by decide +kernel, by decide +kernel⟩, Nat.le_of_ble_eq_true rfl, Nat.le_of_ble_eq_true rfl⟩
theorem s_Md_ball_Md_asNow : w_site k_Md_ball k_Md_asNow 0 := ⟨g_718, g_12, ⟨by decide +kernel, by decide +kernel, by decide +kernel⟩, Nat.le_of_ble_eq_true rfl, Nat.le_of_ble_eq_true rfl⟩
theorem s_Md_ball_Md_ballOn : w_site k_Md_ball k_Md_ballOn 1 := ⟨g_722, g_12, ⟨by decide +kernel, by decide +kernel, by decide +kernel⟩, Nat.le_of_ble_eq_true rfl, Nat.le_of_ble_eq_true rfl⟩
theorem s_Md_say_Md_in : w_site k_Md_say k_Md_in 3 := ⟨g_710, g_12, ⟨by decide +kernel, by decide +kernel, by decide +kernel⟩, Nat.le_of_ble_eq_true rfl, Nat.le_of_ble_eq_true rfl⟩
theorem s_Md_step_Md_in : w_site k_Md_step k_Md_in 3 := ⟨g_710, g_12, ⟨by decide +kernel, by decide +kernel, by decide +kernel⟩, Nat.le_of_ble_eq_true rfl, Nat.le_of_ble_eq_true rfl⟩
theorem s_Md_faultOf_Md_step : w_site k_Md_faultOf k_Md_step 2 := ⟨g_741, g_12, ⟨by decide +kernel, by decide +kernel, by decide +kernel⟩, Nat.le_of_ble_eq_true rfl, Nat.le_of_ble_eq_true rfl⟩
theorem s_Md_fault_Md_faultOf : w_site k_Md_fault k_Md_faultOf 0 := ⟨g_738, g_12, ⟨by decide +kernel, by decide +kernel, by decide +kernel⟩, Nat.le_of_ble_eq_true rfl, Nat.le_of_ble_eq_true rfl⟩
theorem s_Md_hang_Md_has : w_site k_Md_hang k_Md_has 2 := ⟨g_779, g_12, ⟨by decide +kernel, by decide +kernel, by decide +kernel⟩, Nat.le_of_ble_eq_true rfl, Nat.le_of_ble_eq_true rfl⟩
theorem s_Md_hang_Md_ballOn : w_site k_Md_hang k_Md_ballOn 1 := ⟨g_722, g_12, ⟨by decide +kernel, by decide +kernel, by decide +kernel⟩, Nat.le_of_ble_eq_true rfl, Nat.le_of_ble_eq_true rfl⟩
theorem s_Md_pack_Md_has : w_site k_Md_pack k_Md_has 2 := ⟨g_779, g_12, ⟨by decide +kernel, by decide +kernel, by decide +kernel⟩, Nat.le_of_ble_eq_true rfl, Nat.le_of_ble_eq_true rfl⟩
theorem s_Md_blow_Md_hanging : w_site k_Md_blow k_Md_hanging 0 := ⟨g_765, g_12, ⟨by decide +kernel, by decide +kernel, by decide +kernel⟩, Nat.le_of_ble_eq_true rfl, Nat.le_of_ble_eq_true rfl⟩
theorem s_Md_blow_Md_bits : w_site k_Md_blow k_Md_bits 1 := ⟨g_768, g_12, ⟨by decide +kernel, by decide +kernel, by decide +kernel⟩, Nat.le_of_ble_eq_true rfl, Nat.le_of_ble_eq_true rfl⟩
theorem s_Md_blow_Md_apartOf : w_site k_Md_blow k_Md_apartOf 2 := ⟨g_772, g_12, ⟨by decide +kernel, by decide +kernel, by decide +kernel⟩, Nat.le_of_ble_eq_true rfl, Nat.le_of_ble_eq_true rfl⟩
theorem s_Md_goWinters_Md_asNow : w_site k_Md_goWinters k_Md_asNow 0 := ⟨g_718, g_12, ⟨by decide +kernel, by decide +kernel, by decide +kernel⟩, Nat.le_of_ble_eq_true rfl, Nat.le_of_ble_eq_true rfl⟩
theorem s_Md_goWinters_Md_endWinter : w_site k_Md_goWinters k_Md_endWinter 0 := ⟨g_753, g_12, ⟨by decide +kernel, by decide +kernel, by decide +kernel⟩, Nat.le_of_ble_eq_true rfl, Nat.le_of_ble_eq_true rfl⟩
theorem s_Md_goWinters_Md_bend : w_site k_Md_goWinters k_Md_bend 2 := ⟨g_757, g_12, ⟨by decide +kernel, by decide +kernel, by decide +kernel⟩, Nat.le_of_ble_eq_true rfl, Nat.le_of_ble_eq_true rfl⟩
theorem s_Md_goWinters_Md_blow : w_site k_Md_goWinters k_Md_blow 1 := ⟨g_761, g_12, ⟨by decide +kernel, by decide +kernel, by decide +kernel⟩, Nat.le_of_ble_eq_true rfl, Nat.le_of_ble_eq_true rfl⟩
theorem s_Md_goWinters_Md_pack : w_site k_Md_goWinters k_Md_pack 1 := ⟨g_776, g_12, ⟨by decide +kernel, by decide +kernel, by decide +kernel⟩, Nat.le_of_ble_eq_true rfl, Nat.le_of_ble_eq_true rfl⟩
theorem s_Md_goWinters_Md_hang : w_site k_Md_goWinters k_Md_hang 2 := ⟨g_783, g_12, ⟨by decide +kernel, by decide +kernel, by decide +kernel⟩, Nat.le_of_ble_eq_true rfl, Nat.le_of_ble_eq_true rfl⟩
theorem s_Md_goWinters_Md_has : w_site k_Md_goWinters k_Md_has 2 := ⟨g_779, g_12, ⟨by decide +kernel, by decide +kernel, by decide +kernel⟩, Nat.le_of_ble_eq_true rfl, Nat.le_of_ble_eq_true rfl⟩
theorem s_Md_judge_Md_in : w_site k_Md_judge k_Md_in 3 := ⟨g_710, g_12, ⟨by decide +kernel, by decide +kernel, by decide +kernel⟩, Nat.le_of_ble_eq_true rfl, Nat.le_of_ble_eq_true rfl⟩
theorem s_Md_judge_Md_faultOf : w_site k_Md_judge k_Md_faultOf 0 := ⟨g_738, g_12, ⟨by decide +kernel, by decide +kernel, by decide +kernel⟩, Nat.le_of_ble_eq_true rfl, Nat.le_of_ble_eq_true rfl⟩
theorem s_Md_judge_Md_goWinters : w_site k_Md_judge k_Md_goWinters 0 := ⟨g_749, g_12, ⟨by decide +kernel, by decide +kernel, by decide +kernel⟩, Nat.le_of_ble_eq_true rfl, Nat.le_of_ble_eq_true rfl⟩
theorem s_Md_barOfWinters_Md_faultOf : w_site k_Md_barOfWinters k_Md_faultOf 0 := ⟨g_738, g_12, ⟨by decide +kernel, by decide +kernel, by decide +kernel⟩, Nat.le_of_ble_eq_true rfl, Nat.le_of_ble_eq_true rfl⟩
theorem s_Md_barOfWinters_Md_goWinters : w_site k_Md_barOfWinters k_Md_goWinters 0 := ⟨g_749, g_12, ⟨by decide +kernel, by decide +kernel, by decide +kernel⟩, Nat.le_of_ble_eq_true rfl, Nat.le_of_ble_eq_true rfl⟩
theorem s_Md_done_Md_barOfWinters : w_site k_Md_done k_Md_barOfWinters 0 := ⟨g_791, g_12, ⟨by decide +kernel, by decide +kernel, by decide +kernel⟩, Nat.le_of_ble_eq_true rfl, Nat.le_of_ble_eq_true rfl⟩
theorem s_Md_behind_Md_in : w_site k_Md_behind k_Md_in 3 := ⟨g_710, g_12, ⟨by decide +kernel, by decide +kernel, by decide +kernel⟩, Nat.le_of_ble_eq_true rfl, Nat.le_of_ble_eq_true rfl⟩
theorem s_Md_behind_Md_barOfWinters : w_site k_Md_behind k_Md_barOfWinters 0 := ⟨g_791, g_12, ⟨by decide +kernel, by decide +kernel, by decide +kernel⟩, Nat.le_of_ble_eq_true rfl, Nat.le_of_ble_eq_true rfl⟩
theorem s_Md_then_Md_in : w_site k_Md_then k_Md_in 3 := ⟨g_710, g_12, ⟨by decide +kernel, by decide +kernel, by decide +kernel⟩, Nat.le_of_ble_eq_true rfl, Nat.le_of_ble_eq_true rfl⟩
theorem s_Md_then_Md_barOfWinters : w_site k_Md_then k_Md_barOfWinters 0 := ⟨g_791, g_12, ⟨by decide +kernel, by decide +kernel, by decide +kernel⟩, Nat.le_of_ble_eq_true rfl, Nat.le_of_ble_eq_true rfl⟩
theorem s_Md_then_Md_hanging : w_site k_Md_then k_Md_hanging 0 := ⟨g_765, g_12, ⟨by decide +kernel, by decide +kernel, by decide +kernel⟩, Nat.le_of_ble_eq_true rfl, Nat.le_of_ble_eq_true rfl⟩
theorem s_Md_areLoops_Md_in : w_site k_Md_areLoops k_Md_in 3 := ⟨g_710, g_12, ⟨by decide +kernel, by decide +kernel, by decide +kernel⟩, Nat.le_of_ble_eq_true rfl, Nat.le_of_ble_eq_true rfl⟩
theorem s_Md_apart_Md_asNow : w_site k_Md_apart k_Md_asNow 0 := ⟨g_718, g_12, ⟨by decide +kernel, by decide +kernel, by decide +kernel⟩, Nat.le_of_ble_eq_true rfl, Nat.le_of_ble_eq_true rfl⟩
theorem s_Md_apart_Md_areLoops : w_site k_Md_apart k_Md_areLoops 2 := ⟨g_806, g_12, ⟨by decide +kernel, by decide +kernel, by decide +kernel⟩, Nat.le_of_ble_eq_true rfl, Nat.le_of_ble_eq_true rfl⟩
theorem s_Md_apart_Md_apartOf : w_site k_Md_apart k_Md_apartOf 2 := ⟨g_772, g_12, ⟨by decide +kernel, by decide +kernel, by decide +kernel⟩, Nat.le_of_ble_eq_true rfl, Nat.le_of_ble_eq_true rfl⟩
theorem s_Md_meets_Md_asNow : w_site k_Md_meets k_Md_asNow 0 := ⟨g_718, g_12, ⟨by decide +kernel, by decide +kernel, by decide +kernel⟩, Nat.le_of_ble_eq_true rfl, Nat.le_of_ble_eq_true rfl⟩
theorem s_Md_meets_Md_areLoops : w_site k_Md_meets k_Md_areLoops 2 := ⟨g_806, g_12, ⟨by decide +kernel, by decide +kernel, by decide +kernel⟩, Nat.le_of_ble_eq_true rfl, Nat.le_of_ble_eq_true rfl⟩
theorem s_Md_meets_Md_meetOf : w_site k_Md_meets k_Md_meetOf 2 := ⟨g_814, g_12, ⟨by decide +kernel, by decide +kernel, by decide +kernel⟩, Nat.le_of_ble_eq_true rfl, Nat.le_of_ble_eq_true rfl⟩
theorem s_Md_sees_Md_in : w_site k_Md_sees k_Md_in 3 := ⟨g_710, g_12, ⟨by decide +kernel, by decide +kernel, by decide +kernel⟩, Nat.le_of_ble_eq_true rfl, Nat.le_of_ble_eq_true rfl⟩
theorem s_Md_sees_Md_asNow : w_site k_Md_sees k_Md_asNow 0 := ⟨g_718, g_12, ⟨by decide +kernel, by decide +kernel, by decide +kernel⟩, Nat.le_of_ble_eq_true rfl, Nat.le_of_ble_eq_true rfl⟩
theorem s_Md_sees_Md_apartOf : w_site k_Md_sees k_Md_apartOf 2 := ⟨g_772, g_12, ⟨by decide +kernel, by decide +kernel, by decide +kernel⟩, Nat.le_of_ble_eq_true rfl, Nat.le_of_ble_eq_true rfl⟩
theorem s_Md_near_Md_in : w_site k_Md_near k_Md_in 3 := ⟨g_710, g_12, ⟨by decide +kernel, by decide +kernel, by decide +kernel⟩, Nat.le_of_ble_eq_true rfl, Nat.le_of_ble_eq_true rfl⟩
theorem s_Md_near_Md_asNow : w_site k_Md_near k_Md_asNow 0 := ⟨g_718, g_12, ⟨by decide +kernel, by decide +kernel, by decide +kernel⟩, Nat.le_of_ble_eq_true rfl, Nat.le_of_ble_eq_true rfl⟩
theorem s_Md_near_Md_hanging : w_site k_Md_near k_Md_hanging 0 := ⟨g_765, g_12, ⟨by decide +kernel, by decide +kernel, by decide +kernel⟩, Nat.le_of_ble_eq_true rfl, Nat.le_of_ble_eq_true rfl⟩
theorem s_Md_near_Md_apartOf : w_site k_Md_near k_Md_apartOf 2 := ⟨g_772, g_12, ⟨by decide +kernel, by decide +kernel, by decide +kernel⟩, Nat.le_of_ble_eq_true rfl, Nat.le_of_ble_eq_true rfl⟩
theorem s_Md_room_Md_in : w_site k_Md_room k_Md_in 3 := ⟨g_710, g_12, ⟨by decide +kernel, by decide +kernel, by decide +kernel⟩, Nat.le_of_ble_eq_true rfl, Nat.le_of_ble_eq_true rfl⟩
theorem s_Md_room_Md_asNow : w_site k_Md_room k_Md_asNow 0 := ⟨g_718, g_12, ⟨by decide +kernel, by decide +kernel, by decide +kernel⟩, Nat.le_of_ble_eq_true rfl, Nat.le_of_ble_eq_true rfl⟩
theorem s_Md_room_Md_bits : w_site k_Md_room k_Md_bits 1 := ⟨g_768, g_12, ⟨by decide +kernel, by decide +kernel, by decide +kernel⟩, Nat.le_of_ble_eq_true rfl, Nat.le_of_ble_eq_true rfl⟩
theorem s_Md_room_Md_has : w_site k_Md_room k_Md_has 2 := ⟨g_779, g_12, ⟨by decide +kernel, by decide +kernel, by decide +kernel⟩, Nat.le_of_ble_eq_true rfl, Nat.le_of_ble_eq_true rfl⟩
theorem s_Md_room_Md_apartOf : w_site k_Md_room k_Md_apartOf 2 := ⟨g_772, g_12, ⟨by decide +kernel, by decide +kernel, by decide +kernel⟩, Nat.le_of_ble_eq_true rfl, Nat.le_of_ble_eq_true rfl⟩
theorem s_Md_candles_Md_in : w_site k_Md_candles k_Md_in 3 := ⟨g_710, g_12, ⟨by decide +kernel, by decide +kernel, by decide +kernel⟩, Nat.le_of_ble_eq_true rfl, Nat.le_of_ble_eq_true rfl⟩
theorem s_Md_candles_Md_asNow : w_site k_Md_candles k_Md_asNow 0 := ⟨g_718, g_12, ⟨by decide +kernel, by decide +kernel, by decide +kernel⟩, Nat.le_of_ble_eq_true rfl, Nat.le_of_ble_eq_true rfl⟩
theorem s_Md_candles_Md_bits : w_site k_Md_candles k_Md_bits 1 := ⟨g_768, g_12, ⟨by decide +kernel, by decide +kernel, by decide +kernel⟩, Nat.le_of_ble_eq_true rfl, Nat.le_of_ble_eq_true rfl⟩
theorem s_Md_candles_Md_has : w_site k_Md_candles k_Md_has 2 := ⟨g_779, g_12, ⟨by decide +kernel, by decide +kernel, by decide +kernel⟩, Nat.le_of_ble_eq_true rfl, Nat.le_of_ble_eq_true rfl⟩
theorem s_Md_candles_Md_apartOf : w_site k_Md_candles k_Md_apartOf 2 := ⟨g_772, g_12, ⟨by decide +kernel, by decide +kernel, by decide +kernel⟩, Nat.le_of_ble_eq_true rfl, Nat.le_of_ble_eq_true rfl⟩
theorem s_Md_seen_Md_in : w_site k_Md_seen k_Md_in 3 := ⟨g_710, g_12, ⟨by decide +kernel, by decide +kernel, by decide +kernel⟩, Nat.le_of_ble_eq_true rfl, Nat.le_of_ble_eq_true rfl⟩
theorem s_Md_isFit_Md_apartOf : w_site k_Md_isFit k_Md_apartOf 2 := ⟨g_772, g_12, ⟨by decide +kernel, by decide +kernel, by decide +kernel⟩, Nat.le_of_ble_eq_true rfl, Nat.le_of_ble_eq_true rfl⟩
theorem s_Md_where_Md_asNow : w_site k_Md_where k_Md_asNow 0 := ⟨g_718, g_12, ⟨by decide +kernel, by decide +kernel, by decide +kernel⟩, Nat.le_of_ble_eq_true rfl, Nat.le_of_ble_eq_true rfl⟩
theorem s_Md_where_Md_isFit : w_site k_Md_where k_Md_isFit 1 := ⟨g_847, g_12, ⟨by decide +kernel, by decide +kernel, by decide +kernel⟩, Nat.le_of_ble_eq_true rfl, Nat.le_of_ble_eq_true rfl⟩
theorem s_Md_ask_Md_in : w_site k_Md_ask k_Md_in 3 := ⟨g_710, g_12, ⟨by decide +kernel, by decide +kernel, by decide +kernel⟩, Nat.le_of_ble_eq_true rfl, Nat.le_of_ble_eq_true rfl⟩
theorem s_Md_ask_Md_asNow : w_site k_Md_ask k_Md_asNow 0 := ⟨g_718, g_12, ⟨by decide +kernel, by decide +kernel, by decide +kernel⟩, Nat.le_of_ble_eq_true rfl, Nat.le_of_ble_eq_true rfl⟩
theorem s_Md_ask_Md_isFit : w_site k_Md_ask k_Md_isFit 1 := ⟨g_847, g_12, ⟨by decide +kernel, by decide +kernel, by decide +kernel⟩, Nat.le_of_ble_eq_true rfl, Nat.le_of_ble_eq_true rfl⟩
theorem s_Md_ask_Md_apartOf : w_site k_Md_ask k_Md_apartOf 2 := ⟨g_772, g_12, ⟨by decide +kernel, by decide +kernel, by decide +kernel⟩, Nat.le_of_ble_eq_true rfl, Nat.le_of_ble_eq_true rfl⟩
theorem s_Md_cut_Md_in : w_site k_Md_cut k_Md_in 3 := ⟨g_710, g_12, ⟨by decide +kernel, by decide +kernel, by decide +kernel⟩, Nat.le_of_ble_eq_true rfl, Nat.le_of_ble_eq_true rfl⟩
theorem s_Md_cut_Md_worthOf : w_site k_Md_cut k_Md_worthOf 1 := ⟨g_859, g_12, ⟨by decide +kernel, by decide +kernel, by decide +kernel⟩, Nat.le_of_ble_eq_true rfl, Nat.le_of_ble_eq_true rfl⟩
theorem s_Md_tissue_Md_in : w_site k_Md_tissue k_Md_in 3 := ⟨g_710, g_12, ⟨by decide +kernel, by decide +kernel, by decide +kernel⟩, Nat.le_of_ble_eq_true rfl, Nat.le_of_ble_eq_true rfl⟩
theorem s_Md_tissue_Md_lowest : w_site k_Md_tissue k_Md_lowest 3 := ⟨g_867, g_12, ⟨by decide +kernel, by decide +kernel, by decide +kernel⟩, Nat.le_of_ble_eq_true rfl, Nat.le_of_ble_eq_true rfl⟩
theorem s_Md_tissue_Md_layChoices : w_site k_Md_tissue k_Md_layChoices 0 := ⟨g_871, g_12, ⟨by decide +kernel, by decide +kernel, by decide +kernel⟩, Nat.le_of_ble_eq_true rfl, Nat.le_of_ble_eq_true rfl⟩
theorem s_Md_year_Md_in : w_site k_Md_year k_Md_in 3 := ⟨g_710, g_12, ⟨by decide +kernel, by decide +kernel, by decide +kernel⟩, Nat.le_of_ble_eq_true rfl, Nat.le_of_ble_eq_true rfl⟩
theorem s_Md_year_Md_asNow : w_site k_Md_year k_Md_asNow 0 := ⟨g_718, g_12, ⟨by decide +kernel, by decide +kernel, by decide +kernel⟩, Nat.le_of_ble_eq_true rfl, Nat.le_of_ble_eq_true rfl⟩
theorem s_Md_year_Md_hang : w_site k_Md_year k_Md_hang 2 := ⟨g_783, g_12, ⟨by decide +kernel, by decide +kernel, by decide +kernel⟩, Nat.le_of_ble_eq_true rfl, Nat.le_of_ble_eq_true rfl⟩
theorem s_Md_year_Md_pack : w_site k_Md_year k_Md_pack 1 := ⟨g_776, g_12, ⟨by decide +kernel, by decide +kernel, by decide +kernel⟩, Nat.le_of_ble_eq_true rfl, Nat.le_of_ble_eq_true rfl⟩
theorem s_Md_year_Md_blow : w_site k_Md_year k_Md_blow 1 := ⟨g_761, g_12, ⟨by decide +kernel, by decide +kernel, by decide +kernel⟩, Nat.le_of_ble_eq_true rfl, Nat.le_of_ble_eq_true rfl⟩
theorem s_Md_year_Md_bend : w_site k_Md_year k_Md_bend 2 := ⟨g_757, g_12, ⟨by decide +kernel, by decide +kernel, by decide +kernel⟩, Nat.le_of_ble_eq_true rfl, Nat.le_of_ble_eq_true rfl⟩
theorem s_Md_year_Md_endWinter : w_site k_Md_year k_Md_endWinter 0 := ⟨g_753, g_12, ⟨by decide +kernel, by decide +kernel, by decide +kernel⟩, Nat.le_of_ble_eq_true rfl, Nat.le_of_ble_eq_true rfl⟩
theorem s_Md_year_Md_hanging : w_site k_Md_year k_Md_hanging 0 := ⟨g_765, g_12, ⟨by decide +kernel, by decide +kernel, by decide +kernel⟩, Nat.le_of_ble_eq_true rfl, Nat.le_of_ble_eq_true rfl⟩
theorem s_Md_year_Md_bits : w_site k_Md_year k_Md_bits 1 := ⟨g_768, g_12, ⟨by decide +kernel, by decide +kernel, by decide +kernel⟩, Nat.le_of_ble_eq_true rfl, Nat.le_of_ble_eq_true rfl⟩
theorem s_Md_image_Md_in : w_site k_Md_image k_Md_in 3 := ⟨g_710, g_12, ⟨by decide +kernel, by decide +kernel, by decide +kernel⟩, Nat.le_of_ble_eq_true rfl, Nat.le_of_ble_eq_true rfl⟩
theorem s_Md_restore_Md_in : w_site k_Md_restore k_Md_in 3 := ⟨g_710, g_12, ⟨by decide +kernel, by decide +kernel, by decide +kernel⟩, Nat.le_of_ble_eq_true rfl, Nat.le_of_ble_eq_true rfl⟩
theorem s_Md_told_Md_asNow : w_site k_Md_told k_Md_asNow 0 := ⟨g_718, g_12, ⟨by decide +kernel, by decide +kernel, by decide +kernel⟩, Nat.le_of_ble_eq_true rfl, Nat.le_of_ble_eq_true rfl⟩
theorem s_Md_told_Md_hanging : w_site k_Md_told k_Md_hanging 0 := ⟨g_765, g_12, ⟨by decide +kernel, by decide +kernel, by decide +kernel⟩, Nat.le_of_ble_eq_true rfl, Nat.le_of_ble_eq_true rfl⟩
theorem s_Law_law_BH_init : w_site k_Law_law k_BH_init 0 := ⟨g_20, g_1, ⟨by decide +kernel, by decide +kernel, by decide +kernel⟩, Nat.le_of_ble_eq_true rfl, Nat.le_of_ble_eq_true rfl⟩
theorem s_Law_law_Md_init : w_site k_Law_law k_Md_init 0 := ⟨g_648, g_12, ⟨by decide +kernel, by decide +kernel, by decide +kernel⟩, Nat.le_of_ble_eq_true rfl, Nat.le_of_ble_eq_true rfl⟩
theorem s_Law_law_BH_branch : w_site k_Law_law k_BH_branch 2 := ⟨g_217, g_1, ⟨by decide +kernel, by decide +kernel, by decide +kernel⟩, Nat.le_of_ble_eq_true rfl, Nat.le_of_ble_eq_true rfl⟩
theorem s_Law_law_Md_branch : w_site k_Law_law k_Md_branch 2 := ⟨g_707, g_12, ⟨by decide +kernel, by decide +kernel, by decide +kernel⟩, Nat.le_of_ble_eq_true rfl, Nat.le_of_ble_eq_true rfl⟩
theorem s_Law_law_BH_ball : w_site k_Law_law k_BH_ball 3 := ⟨g_236, g_1, ⟨by decide +kernel, by decide +kernel, by decide +kernel⟩, Nat.le_of_ble_eq_true rfl, Nat.le_of_ble_eq_true rfl⟩
theorem s_Law_law_Md_ball : w_site k_Law_law k_Md_ball 3 := ⟨g_714, g_12, ⟨by decide +kernel, by decide +kernel, by decide +kernel⟩, Nat.le_of_ble_eq_true rfl, Nat.le_of_ble_eq_true rfl⟩
theorem s_Law_law_BH_say : w_site k_Law_law k_BH_say 1 := ⟨g_263, g_1, ⟨by decide +kernel, by decide +kernel, by decide +kernel⟩, Nat.le_of_ble_eq_true rfl, Nat.le_of_ble_eq_true rfl⟩
theorem s_Law_law_Md_say : w_site k_Law_law k_Md_say 1 := ⟨g_726, g_12, ⟨by decide +kernel, by decide +kernel, by decide +kernel⟩, Nat.le_of_ble_eq_true rfl, Nat.le_of_ble_eq_true rfl⟩
theorem s_Law_law_BH_wipe : w_site k_Law_law k_BH_wipe 0 := ⟨g_275, g_1, ⟨by decide +kernel, by decide +kernel, by decide +kernel⟩, Nat.le_of_ble_eq_true rfl, Nat.le_of_ble_eq_true rfl⟩
theorem s_Law_law_Md_wipe : w_site k_Law_law k_Md_wipe 0 := ⟨g_730, g_12, ⟨by decide +kernel, by decide +kernel, by decide +kernel⟩, Nat.le_of_ble_eq_true rfl, Nat.le_of_ble_eq_true rfl⟩
theorem s_Law_law_BH_fault : w_site k_Law_law k_BH_fault 0 := ⟨g_283, g_1, ⟨by decide +kernel, by decide +kernel, by decide +kernel⟩, Nat.le_of_ble_eq_true rfl, Nat.le_of_ble_eq_true rfl⟩
theorem s_Law_law_Md_fault : w_site k_Law_law k_Md_fault 0 := ⟨g_734, g_12, ⟨by decide +kernel, by decide +kernel, by decide +kernel⟩, Nat.le_of_ble_eq_true rfl, Nat.le_of_ble_eq_true rfl⟩
theorem s_Law_law_BH_judge : w_site k_Law_law k_BH_judge 1 := ⟨g_305, g_1, ⟨by decide +kernel, by decide +kernel, by decide +kernel⟩, Nat.le_of_ble_eq_true rfl, Nat.le_of_ble_eq_true rfl⟩
theorem s_Law_law_Md_judge : w_site k_Law_law k_Md_judge 1 := ⟨g_745, g_12, ⟨by decide +kernel, by decide +kernel, by decide +kernel⟩, Nat.le_of_ble_eq_true rfl, Nat.le_of_ble_eq_true rfl⟩
theorem s_Law_law_BH_done : w_site k_Law_law k_BH_done 0 := ⟨g_425, g_1, ⟨by decide +kernel, by decide +kernel, by decide +kernel⟩, Nat.le_of_ble_eq_true rfl, Nat.le_of_ble_eq_true rfl⟩
theorem s_Law_law_Md_done : w_site k_Law_law k_Md_done 0 := ⟨g_787, g_12, ⟨by decide +kernel, by decide +kernel, by decide +kernel⟩, Nat.le_of_ble_eq_true rfl, Nat.le_of_ble_eq_true rfl⟩
theorem s_Law_law_BH_behind : w_site k_Law_law k_BH_behind 2 := ⟨g_434, g_1, ⟨by decide +kernel, by decide +kernel, by decide +kernel⟩, Nat.le_of_ble_eq_true rfl, Nat.le_of_ble_eq_true rfl⟩
theorem s_Law_law_Md_behind : w_site k_Law_law k_Md_behind 2 := ⟨g_795, g_12, ⟨by decide +kernel, by decide +kernel, by decide +kernel⟩, Nat.le_of_ble_eq_true rfl, Nat.le_of_ble_eq_true rfl⟩
theorem s_Law_law_BH_then : w_site k_Law_law k_BH_then 1 := ⟨g_440, g_1, ⟨by decide +kernel, by decide +kernel, by decide +kernel⟩, Nat.le_of_ble_eq_true rfl, Nat.le_of_ble_eq_true rfl⟩
theorem s_Law_law_Md_then : w_site k_Law_law k_Md_then 1 := ⟨g_799, g_12, ⟨by decide +kernel, by decide +kernel, by decide +kernel⟩, Nat.le_of_ble_eq_true rfl, Nat.le_of_ble_eq_true rfl⟩
theorem s_Law_law_BH_apart : w_site k_Law_law k_BH_apart 2 := ⟨g_462, g_1, ⟨by decide +kernel, by decide +kernel, by decide +kernel⟩, Nat.le_of_ble_eq_true rfl, Nat.le_of_ble_eq_true rfl⟩
theorem s_Law_law_Md_apart : w_site k_Law_law k_Md_apart 2 := ⟨g_803, g_12, ⟨by decide +kernel, by decide +kernel, by decide +kernel⟩, Nat.le_of_ble_eq_true rfl, Nat.le_of_ble_eq_true rfl⟩
theorem s_Law_law_BH_meets : w_site k_Law_law k_BH_meets 2 := ⟨g_467, g_1, ⟨by decide +kernel, by decide +kernel, by decide +kernel⟩, Nat.le_of_ble_eq_true rfl, Nat.le_of_ble_eq_true rfl⟩
theorem s_Law_law_Md_meets : w_site k_Law_law k_Md_meets 2 := ⟨g_810, g_12, ⟨by decide +kernel, by decide +kernel, by decide +kernel⟩, Nat.le_of_ble_eq_true rfl, Nat.le_of_ble_eq_true rfl⟩
theorem s_Law_law_BH_sees : w_site k_Law_law k_BH_sees 1 := ⟨g_476, g_1, ⟨by decide +kernel, by decide +kernel, by decide +kernel⟩, Nat.le_of_ble_eq_true rfl, Nat.le_of_ble_eq_true rfl⟩
theorem s_Law_law_Md_sees : w_site k_Law_law k_Md_sees 1 := ⟨g_818, g_12, ⟨by decide +kernel, by decide +kernel, by decide +kernel⟩, Nat.le_of_ble_eq_true rfl, Nat.le_of_ble_eq_true rfl⟩
theorem s_Law_law_BH_near : w_site k_Law_law k_BH_near 1 := ⟨g_485, g_1, ⟨by decide +kernel, by decide +kernel, by decide +kernel⟩, Nat.le_of_ble_eq_true rfl, Nat.le_of_ble_eq_true rfl⟩
theorem s_Law_law_Md_near : w_site k_Law_law k_Md_near 1 := ⟨g_822, g_12, ⟨by decide +kernel, by decide +kernel, by decide +kernel⟩, Nat.le_of_ble_eq_true rfl, Nat.le_of_ble_eq_true rfl⟩
theorem s_Law_law_BH_room : w_site k_Law_law k_BH_room 2 := ⟨g_494, g_1, ⟨by decide +kernel, by decide +kernel, by decide +kernel⟩, Nat.le_of_ble_eq_true rfl, Nat.le_of_ble_eq_true rfl⟩
theorem s_Law_law_Md_room : w_site k_Law_law k_Md_room 2 := ⟨g_827, g_12, ⟨by decide +kernel, by decide +kernel, by decide +kernel⟩, Nat.le_of_ble_eq_true rfl, Nat.le_of_ble_eq_true rfl⟩
theorem s_Law_law_BH_candles : w_site k_Law_law k_BH_candles 2 := ⟨g_514, g_1, ⟨by decide +kernel, by decide +kernel, by decide +kernel⟩, Nat.le_of_ble_eq_true rfl, Nat.le_of_ble_eq_true rfl⟩
theorem s_Law_law_Md_candles : w_site k_Law_law k_Md_candles 2 := ⟨g_831, g_12, ⟨by decide +kernel, by decide +kernel, by decide +kernel⟩, Nat.le_of_ble_eq_true rfl, Nat.le_of_ble_eq_true rfl⟩
theorem s_Law_law_BH_seen : w_site k_Law_law k_BH_seen 2 := ⟨g_526, g_1, ⟨by decide +kernel, by decide +kernel, by decide +kernel⟩, Nat.le_of_ble_eq_true rfl, Nat.le_of_ble_eq_true rfl⟩
theorem s_Law_law_Md_seen : w_site k_Law_law k_Md_seen 2 := ⟨g_835, g_12, ⟨by decide +kernel, by decide +kernel, by decide +kernel⟩, Nat.le_of_ble_eq_true rfl, Nat.le_of_ble_eq_true rfl⟩
theorem s_Law_law_BH_forget : w_site k_Law_law k_BH_forget 0 := ⟨g_538, g_1, ⟨by decide +kernel, by decide +kernel, by decide +kernel⟩, Nat.le_of_ble_eq_true rfl, Nat.le_of_ble_eq_true rfl⟩
theorem s_Law_law_Md_forget : w_site k_Law_law k_Md_forget 0 := ⟨g_839, g_12, ⟨by decide +kernel, by decide +kernel, by decide +kernel⟩, Nat.le_of_ble_eq_true rfl, Nat.le_of_ble_eq_true rfl⟩
theorem s_Law_law_BH_where : w_site k_Law_law k_BH_where 1 := ⟨g_546, g_1, ⟨by decide +kernel, by decide +kernel, by decide +kernel⟩, Nat.le_of_ble_eq_true rfl, Nat.le_of_ble_eq_true rfl⟩
theorem s_Law_law_Md_where : w_site k_Law_law k_Md_where 1 := ⟨g_843, g_12, ⟨by decide +kernel, by decide +kernel, by decide +kernel⟩, Nat.le_of_ble_eq_true rfl, Nat.le_of_ble_eq_true rfl⟩
theorem s_Law_law_BH_ask : w_site k_Law_law k_BH_ask 1 := ⟨g_555, g_1, ⟨by decide +kernel, by decide +kernel, by decide +kernel⟩, Nat.le_of_ble_eq_true rfl, Nat.le_of_ble_eq_true rfl⟩
theorem s_Law_law_Md_ask : w_site k_Law_law k_Md_ask 1 := ⟨g_851, g_12, ⟨by decide +kernel, by decide +kernel, by decide +kernel⟩, Nat.le_of_ble_eq_true rfl, Nat.le_of_ble_eq_true rfl⟩
theorem s_Law_law_BH_cut : w_site k_Law_law k_BH_cut 1 := ⟨g_565, g_1, ⟨by decide +kernel, by decide +kernel, by decide +kernel⟩, Nat.le_of_ble_eq_true rfl, Nat.le_of_ble_eq_true rfl⟩
theorem s_Law_law_Md_cut : w_site k_Law_law k_Md_cut 1 := ⟨g_855, g_12, ⟨by decide +kernel, by decide +kernel, by decide +kernel⟩, Nat.le_of_ble_eq_true rfl, Nat.le_of_ble_eq_true rfl⟩
theorem s_Law_law_BH_tissue : w_site k_Law_law k_BH_tissue 6 := ⟨g_574, g_1, ⟨by decide +kernel, by decide +kernel, by decide +kernel⟩, Nat.le_of_ble_eq_true rfl, Nat.le_of_ble_eq_true rfl⟩
theorem s_Law_law_Md_tissue : w_site k_Law_law k_Md_tissue 6 := ⟨g_863, g_12, ⟨by decide +kernel, by decide +kernel, by decide +kernel⟩, Nat.le_of_ble_eq_true rfl, Nat.le_of_ble_eq_true rfl⟩
theorem s_Law_law_BH_year : w_site k_Law_law k_BH_year 3 := ⟨g_596, g_1, ⟨by decide +kernel, by decide +kernel, by decide +kernel⟩, Nat.le_of_ble_eq_true rfl, Nat.le_of_ble_eq_true rfl⟩
theorem s_Law_law_Md_year : w_site k_Law_law k_Md_year 3 := ⟨g_875, g_12, ⟨by decide +kernel, by decide +kernel, by decide +kernel⟩, Nat.le_of_ble_eq_true rfl, Nat.le_of_ble_eq_true rfl⟩
theorem s_Law_law_BH_image : w_site k_Law_law k_BH_image 1 := ⟨g_613, g_1, ⟨by decide +kernel, by decide +kernel, by decide +kernel⟩, Nat.le_of_ble_eq_true rfl, Nat.le_of_ble_eq_true rfl⟩
theorem s_Law_law_Md_image : w_site k_Law_law k_Md_image 1 := ⟨g_880, g_12, ⟨by decide +kernel, by decide +kernel, by decide +kernel⟩, Nat.le_of_ble_eq_true rfl, Nat.le_of_ble_eq_true rfl⟩
theorem s_Law_law_BH_restore : w_site k_Law_law k_BH_restore 1 := ⟨g_631, g_1, ⟨by decide +kernel, by decide +kernel, by decide +kernel⟩, Nat.le_of_ble_eq_true rfl, Nat.le_of_ble_eq_true rfl⟩
theorem s_Law_law_Md_restore : w_site k_Law_law k_Md_restore 1 := ⟨g_884, g_12, ⟨by decide +kernel, by decide +kernel, by decide +kernel⟩, Nat.le_of_ble_eq_true rfl, Nat.le_of_ble_eq_true rfl⟩
theorem s_Law_law_BH_told : w_site k_Law_law k_BH_told 1 := ⟨g_643, g_1, ⟨by decide +kernel, by decide +kernel, by decide +kernel⟩, Nat.le_of_ble_eq_true rfl, Nat.le_of_ble_eq_true rfl⟩
theorem s_Law_law_Md_told : w_site k_Law_law k_Md_told 1 := ⟨g_888, g_12, ⟨by decide +kernel, by decide +kernel, by decide +kernel⟩, Nat.le_of_ble_eq_true rfl, Nat.le_of_ble_eq_true rfl⟩
end
section
theorem d_Act_init_0 : decode prog_2_method_1_code 0 = .ok (.aload_n 0, 1) := by decide +kernel
theorem d_Act_init_1 : decode prog_2_method_1_code 1 = .ok (.invokespecial 1, 3) := by decide +kernel
theorem d_Act_init_4 : decode prog_2_method_1_code 4 = .ok (.aload_n 0, 1) := by decide +kernel
theorem d_Act_init_5 : decode prog_2_method_1_code 5 = .ok (.iconst 5, 1) := by decide +kernel
theorem d_Act_init_6 : decode prog_2_method_1_code 6 = .ok (.putfield 9, 3) := by decide +kernel
theorem d_Act_init_9 : decode prog_2_method_1_code 9 = .ok (.aload_n 0, 1) := by decide +kernel
theorem d_Act_init_10 : decode prog_2_method_1_code 10 = .ok (.iconst 0, 1) := by decide +kernel
theorem d_Act_init_11 : decode prog_2_method_1_code 11 = .ok (.putfield 13, 3) := by decide +kernel
theorem d_Act_init_14 : decode prog_2_method_1_code 14 = .ok (.aload_n 0, 1) := by decide +kernel
theorem d_Act_init_15 : decode prog_2_method_1_code 15 = .ok (.iconst 0, 1) := by decide +kernel
theorem d_Act_init_16 : decode prog_2_method_1_code 16 = .ok (.putfield 16, 3) := by decide +kernel
theorem d_Act_init_19 : decode prog_2_method_1_code 19 = .ok (.return_, 1) := by decide +kernel
theorem d_Act_set_0 : decode prog_2_method_2_code 0 = .ok (.aload_n 0, 1) := by decide +kernel
theorem d_Act_set_1 : decode prog_2_method_2_code 1 = .ok (.iload_n 1, 1) := by decide +kernel
theorem d_Act_set_2 : decode prog_2_method_2_code 2 = .ok (.putfield 9, 3) := by decide +kernel
theorem d_Act_set_5 : decode prog_2_method_2_code 5 = .ok (.aload_n 0, 1) := by decide +kernel
theorem d_Act_set_6 : decode prog_2_method_2_code 6 = .ok (.iload_n 2, 1) := by decide +kernel
theorem d_Act_set_7 : decode prog_2_method_2_code 7 = .ok (.putfield 13, 3) := by decide +kernel
theorem d_Act_set_10 : decode prog_2_method_2_code 10 = .ok (.aload_n 0, 1) := by decide +kernel
theorem d_Act_set_11 : decode prog_2_method_2_code 11 = .ok (.iload_n 3, 1) := by decide +kernel
theorem d_Act_set_12 : decode prog_2_method_2_code 12 = .ok (.putfield 16, 3) := by decide +kernel
theorem d_Act_set_15 : decode prog_2_method_2_code 15 = .ok (.return_, 1) := by decide +kernel
theorem d_Act_kind_0 : decode prog_2_method_3_code 0 = .ok (.aload_n 0, 1) := by decide +kernel
theorem d_Act_kind_1 : decode prog_2_method_3_code 1 = .ok (.getfield 9, 3) := by decide +kernel
theorem d_Act_kind_4 : decode prog_2_method_3_code 4 = .ok (.ireturn, 1) := by decide +kernel
theorem d_Act_one_0 : decode prog_2_method_4_code 0 = .ok (.aload_n 0, 1) := by decide +kernel
theorem d_Act_one_1 : decode prog_2_method_4_code 1 = .ok (.getfield 13, 3) := by decide +kernel
theorem d_Act_one_4 : decode prog_2_method_4_code 4 = .ok (.ireturn, 1) := by decide +kernel
theorem d_Act_other_0 : decode prog_2_method_5_code 0 = .ok (.aload_n 0, 1) := by decide +kernel
theorem d_Act_other_1 : decode prog_2_method_5_code 1 = .ok (.getfield 16, 3) := by decide +kernel
theorem d_Act_other_4 : decode prog_2_method_5_code 4 = .ok (.ireturn, 1) := by decide +kernel
theorem d_Chance_ways_0 : decode prog_3_method_2_code 0 = .ok (.iload_n 1, 1) := by decide +kernel
theorem d_Chance_ways_1 : decode prog_3_method_2_code 1 = .ok (.ifCond .lt 8, 3) := by decide +kernel
theorem d_Chance_ways_4 : decode prog_3_method_2_code 4 = .ok (.iload_n 1, 1) := by decide +kernel
theorem d_Chance_ways_5 : decode prog_3_method_2_code 5 = .ok (.iload_n 0, 1) := by decide +kernel
theorem d_Chance_ways_6 : decode prog_3_method_2_code 6 = .ok (.if_icmp .le 5, 3) := by decide +kernel
theorem d_Chance_ways_9 : decode prog_3_method_2_code 9 = .ok (.lconst 0, 1) := by decide +kernel
theorem d_Chance_ways_10 : decode prog_3_method_2_code 10 = .ok (.lreturn, 1) := by decide +kernel
theorem d_Chance_ways_11 : decode prog_3_method_2_code 11 = .ok (.lconst 1, 1) := by decide +kernel
theorem d_Chance_ways_12 : decode prog_3_method_2_code 12 = .ok (.lstore_n 2, 1) := by decide +kernel
theorem d_Chance_ways_13 : decode prog_3_method_2_code 13 = .ok (.iconst 1, 1) := by decide +kernel
theorem d_Chance_ways_14 : decode prog_3_method_2_code 14 = .ok (.istore 4, 2) := by decide +kernel
theorem d_Chance_ways_16 : decode prog_3_method_2_code 16 = .ok (.iload 4, 2) := by decide +kernel
theorem d_Chance_ways_18 : decode prog_3_method_2_code 18 = .ok (.iload_n 1, 1) := by decide +kernel
theorem d_Chance_ways_19 : decode prog_3_method_2_code 19 = .ok (.if_icmp .gt 23, 3) := by decide +kernel
theorem d_Chance_ways_22 : decode prog_3_method_2_code 22 = .ok (.lload_n 2, 1) := by decide +kernel
theorem d_Chance_ways_23 : decode prog_3_method_2_code 23 = .ok (.iload_n 0, 1) := by decide +kernel
theorem d_Chance_ways_24 : decode prog_3_method_2_code 24 = .ok (.iload_n 1, 1) := by decide +kernel
theorem d_Chance_ways_25 : decode prog_3_method_2_code 25 = .ok (.isub, 1) := by decide +kernel
theorem d_Chance_ways_26 : decode prog_3_method_2_code 26 = .ok (.iload 4, 2) := by decide +kernel
theorem d_Chance_ways_28 : decode prog_3_method_2_code 28 = .ok (.iadd, 1) := by decide +kernel
theorem d_Chance_ways_29 : decode prog_3_method_2_code 29 = .ok (.i2l, 1) := by decide +kernel
theorem d_Chance_ways_30 : decode prog_3_method_2_code 30 = .ok (.lmul, 1) := by decide +kernel
theorem d_Chance_ways_31 : decode prog_3_method_2_code 31 = .ok (.iload 4, 2) := by decide +kernel
theorem d_Chance_ways_33 : decode prog_3_method_2_code 33 = .ok (.i2l, 1) := by decide +kernel
theorem d_Chance_ways_34 : decode prog_3_method_2_code 34 = .ok (.ldiv, 1) := by decide +kernel
theorem d_Chance_ways_35 : decode prog_3_method_2_code 35 = .ok (.lstore_n 2, 1) := by decide +kernel
theorem d_Chance_ways_36 : decode prog_3_method_2_code 36 = .ok (.iinc 4 1, 3) := by decide +kernel
theorem d_Chance_ways_39 : decode prog_3_method_2_code 39 = .ok (.goto (-23), 3) := by decide +kernel
theorem d_Chance_ways_42 : decode prog_3_method_2_code 42 = .ok (.lload_n 2, 1) := by decide +kernel
theorem d_Chance_ways_43 : decode prog_3_method_2_code 43 = .ok (.lreturn, 1) := by decide +kernel
theorem d_Chance_waysAtLeast_0 : decode prog_3_method_3_code 0 = .ok (.lconst 0, 1) := by decide +kernel
theorem d_Chance_waysAtLeast_1 : decode prog_3_method_3_code 1 = .ok (.lstore 4, 2) := by decide +kernel
theorem d_Chance_waysAtLeast_3 : decode prog_3_method_3_code 3 = .ok (.iload_n 3, 1) := by decide +kernel
theorem d_Chance_waysAtLeast_4 : decode prog_3_method_3_code 4 = .ok (.istore 6, 2) := by decide +kernel
theorem d_Chance_waysAtLeast_6 : decode prog_3_method_3_code 6 = .ok (.iload 6, 2) := by decide +kernel
theorem d_Chance_waysAtLeast_8 : decode prog_3_method_3_code 8 = .ok (.iload_n 2, 1) := by decide +kernel
theorem d_Chance_waysAtLeast_9 : decode prog_3_method_3_code 9 = .ok (.if_icmp .gt 31, 3) := by decide +kernel
theorem d_Chance_waysAtLeast_12 : decode prog_3_method_3_code 12 = .ok (.lload 4, 2) := by decide +kernel
theorem d_Chance_waysAtLeast_14 : decode prog_3_method_3_code 14 = .ok (.iload_n 1, 1) := by decide +kernel
theorem d_Chance_waysAtLeast_15 : decode prog_3_method_3_code 15 = .ok (.iload 6, 2) := by decide +kernel
theorem d_Chance_waysAtLeast_17 : decode prog_3_method_3_code 17 = .ok (.invokestatic 7, 3) := by decide +kernel
theorem d_Chance_waysAtLeast_20 : decode prog_3_method_3_code 20 = .ok (.iload_n 0, 1) := by decide +kernel
theorem d_Chance_waysAtLeast_21 : decode prog_3_method_3_code 21 = .ok (.iload_n 1, 1) := by decide +kernel
theorem d_Chance_waysAtLeast_22 : decode prog_3_method_3_code 22 = .ok (.isub, 1) := by decide +kernel
theorem d_Chance_waysAtLeast_23 : decode prog_3_method_3_code 23 = .ok (.iload_n 2, 1) := by decide +kernel
theorem d_Chance_waysAtLeast_24 : decode prog_3_method_3_code 24 = .ok (.iload 6, 2) := by decide +kernel
theorem d_Chance_waysAtLeast_26 : decode prog_3_method_3_code 26 = .ok (.isub, 1) := by decide +kernel
theorem d_Chance_waysAtLeast_27 : decode prog_3_method_3_code 27 = .ok (.invokestatic 7, 3) := by decide +kernel
theorem d_Chance_waysAtLeast_30 : decode prog_3_method_3_code 30 = .ok (.lmul, 1) := by decide +kernel
theorem d_Chance_waysAtLeast_31 : decode prog_3_method_3_code 31 = .ok (.ladd, 1) := by decide +kernel
theorem d_Chance_waysAtLeast_32 : decode prog_3_method_3_code 32 = .ok (.lstore 4, 2) := by decide +kernel
theorem d_Chance_waysAtLeast_34 : decode prog_3_method_3_code 34 = .ok (.iinc 6 1, 3) := by decide +kernel
theorem d_Chance_waysAtLeast_37 : decode prog_3_method_3_code 37 = .ok (.goto (-31), 3) := by decide +kernel
theorem d_Chance_waysAtLeast_40 : decode prog_3_method_3_code 40 = .ok (.lload 4, 2) := by decide +kernel
theorem d_Chance_waysAtLeast_42 : decode prog_3_method_3_code 42 = .ok (.lreturn, 1) := by decide +kernel
theorem d_Chance_lowest_0 : decode prog_3_method_4_code 0 = .ok (.lload_n 0, 1) := by decide +kernel
theorem d_Chance_lowest_1 : decode prog_3_method_4_code 1 = .ok (.lload_n 2, 1) := by decide +kernel
theorem d_Chance_lowest_2 : decode prog_3_method_4_code 2 = .ok (.invokestatic 13, 3) := by decide +kernel
theorem d_Chance_lowest_5 : decode prog_3_method_4_code 5 = .ok (.lconst 1, 1) := by decide +kernel
theorem d_Chance_lowest_6 : decode prog_3_method_4_code 6 = .ok (.invokestatic 17, 3) := by decide +kernel
theorem d_Chance_lowest_9 : decode prog_3_method_4_code 9 = .ok (.lstore 5, 2) := by decide +kernel
theorem d_Chance_lowest_11 : decode prog_3_method_4_code 11 = .ok (.iload 4, 2) := by decide +kernel
theorem d_Chance_lowest_13 : decode prog_3_method_4_code 13 = .ok (.ifCond .ne 7, 3) := by decide +kernel
theorem d_Chance_lowest_16 : decode prog_3_method_4_code 16 = .ok (.lload_n 0, 1) := by decide +kernel
theorem d_Chance_lowest_17 : decode prog_3_method_4_code 17 = .ok (.goto 4, 3) := by decide +kernel
theorem d_Chance_lowest_20 : decode prog_3_method_4_code 20 = .ok (.lload_n 2, 1) := by decide +kernel
theorem d_Chance_lowest_21 : decode prog_3_method_4_code 21 = .ok (.lload 5, 2) := by decide +kernel
theorem d_Chance_lowest_23 : decode prog_3_method_4_code 23 = .ok (.ldiv, 1) := by decide +kernel
theorem d_Chance_lowest_24 : decode prog_3_method_4_code 24 = .ok (.lreturn, 1) := by decide +kernel
theorem d_Chance_commonDivisor_0 : decode prog_3_method_5_code 0 = .ok (.iconst 0, 1) := by decide +kernel
theorem d_Chance_commonDivisor_1 : decode prog_3_method_5_code 1 = .ok (.istore 4, 2) := by decide +kernel
theorem d_Chance_commonDivisor_3 : decode prog_3_method_5_code 3 = .ok (.iload 4, 2) := by decide +kernel
theorem d_Chance_commonDivisor_5 : decode prog_3_method_5_code 5 = .ok (.sipush 1000, 3) := by decide +kernel
theorem d_Chance_commonDivisor_8 : decode prog_3_method_5_code 8 = .ok (.if_icmp .ge 25, 3) := by decide +kernel
theorem d_Chance_commonDivisor_11 : decode prog_3_method_5_code 11 = .ok (.lload_n 2, 1) := by decide +kernel
theorem d_Chance_commonDivisor_12 : decode prog_3_method_5_code 12 = .ok (.lconst 0, 1) := by decide +kernel
theorem d_Chance_commonDivisor_13 : decode prog_3_method_5_code 13 = .ok (.lcmp, 1) := by decide +kernel
theorem d_Chance_commonDivisor_14 : decode prog_3_method_5_code 14 = .ok (.ifCond .eq 19, 3) := by decide +kernel
theorem d_Chance_commonDivisor_17 : decode prog_3_method_5_code 17 = .ok (.lload_n 0, 1) := by decide +kernel
theorem d_Chance_commonDivisor_18 : decode prog_3_method_5_code 18 = .ok (.lload_n 2, 1) := by decide +kernel
theorem d_Chance_commonDivisor_19 : decode prog_3_method_5_code 19 = .ok (.lrem, 1) := by decide +kernel
theorem d_Chance_commonDivisor_20 : decode prog_3_method_5_code 20 = .ok (.lstore 5, 2) := by decide +kernel
theorem d_Chance_commonDivisor_22 : decode prog_3_method_5_code 22 = .ok (.lload_n 2, 1) := by decide +kernel
theorem d_Chance_commonDivisor_23 : decode prog_3_method_5_code 23 = .ok (.lstore_n 0, 1) := by decide +kernel
theorem d_Chance_commonDivisor_24 : decode prog_3_method_5_code 24 = .ok (.lload 5, 2) := by decide +kernel
theorem d_Chance_commonDivisor_26 : decode prog_3_method_5_code 26 = .ok (.lstore_n 2, 1) := by decide +kernel
theorem d_Chance_commonDivisor_27 : decode prog_3_method_5_code 27 = .ok (.iinc 4 1, 3) := by decide +kernel
theorem d_Chance_commonDivisor_30 : decode prog_3_method_5_code 30 = .ok (.goto (-27), 3) := by decide +kernel
theorem d_Chance_commonDivisor_33 : decode prog_3_method_5_code 33 = .ok (.lload_n 0, 1) := by decide +kernel
theorem d_Chance_commonDivisor_34 : decode prog_3_method_5_code 34 = .ok (.lreturn, 1) := by decide +kernel
theorem d_Choice_init_0 : decode prog_4_method_1_code 0 = .ok (.aload_n 0, 1) := by decide +kernel
theorem d_Choice_init_1 : decode prog_4_method_1_code 1 = .ok (.invokespecial 3, 3) := by decide +kernel
theorem d_Choice_init_4 : decode prog_4_method_1_code 4 = .ok (.aload_n 0, 1) := by decide +kernel
theorem d_Choice_init_5 : decode prog_4_method_1_code 5 = .ok (.bipush 12, 2) := by decide +kernel
theorem d_Choice_init_7 : decode prog_4_method_1_code 7 = .ok (.newarray .int, 2) := by decide +kernel
theorem d_Choice_init_9 : decode prog_4_method_1_code 9 = .ok (.putfield 9, 3) := by decide +kernel
theorem d_Choice_init_12 : decode prog_4_method_1_code 12 = .ok (.return_, 1) := by decide +kernel
theorem d_Choice_mostApart_0 : decode prog_4_method_2_code 0 = .ok (.aload_n 0, 1) := by decide +kernel
theorem d_Choice_mostApart_1 : decode prog_4_method_2_code 1 = .ok (.aload_n 1, 1) := by decide +kernel
theorem d_Choice_mostApart_2 : decode prog_4_method_2_code 2 = .ok (.iload_n 2, 1) := by decide +kernel
theorem d_Choice_mostApart_3 : decode prog_4_method_2_code 3 = .ok (.invokevirtual 15, 3) := by decide +kernel
theorem d_Choice_mostApart_6 : decode prog_4_method_2_code 6 = .ok (.iconst 0, 1) := by decide +kernel
theorem d_Choice_mostApart_7 : decode prog_4_method_2_code 7 = .ok (.istore_n 3, 1) := by decide +kernel
theorem d_Choice_mostApart_8 : decode prog_4_method_2_code 8 = .ok (.iconst 0, 1) := by decide +kernel
theorem d_Choice_mostApart_9 : decode prog_4_method_2_code 9 = .ok (.istore 4, 2) := by decide +kernel
theorem d_Choice_mostApart_11 : decode prog_4_method_2_code 11 = .ok (.iconst 1, 1) := by decide +kernel
theorem d_Choice_mostApart_12 : decode prog_4_method_2_code 12 = .ok (.istore 5, 2) := by decide +kernel
theorem d_Choice_mostApart_14 : decode prog_4_method_2_code 14 = .ok (.iload 5, 2) := by decide +kernel
theorem d_Choice_mostApart_16 : decode prog_4_method_2_code 16 = .ok (.sipush 4095, 3) := by decide +kernel
theorem d_Choice_mostApart_19 : decode prog_4_method_2_code 19 = .ok (.if_icmp .gt 39, 3) := by decide +kernel
theorem d_Choice_mostApart_22 : decode prog_4_method_2_code 22 = .ok (.iload 5, 2) := by decide +kernel
theorem d_Choice_mostApart_24 : decode prog_4_method_2_code 24 = .ok (.invokestatic 19, 3) := by decide +kernel
theorem d_Choice_mostApart_27 : decode prog_4_method_2_code 27 = .ok (.istore 6, 2) := by decide +kernel
theorem d_Choice_mostApart_29 : decode prog_4_method_2_code 29 = .ok (.iload 6, 2) := by decide +kernel
theorem d_Choice_mostApart_31 : decode prog_4_method_2_code 31 = .ok (.iload 4, 2) := by decide +kernel
theorem d_Choice_mostApart_33 : decode prog_4_method_2_code 33 = .ok (.if_icmp .le 19, 3) := by decide +kernel
theorem d_Choice_mostApart_36 : decode prog_4_method_2_code 36 = .ok (.aload_n 0, 1) := by decide +kernel
theorem d_Choice_mostApart_37 : decode prog_4_method_2_code 37 = .ok (.iload 5, 2) := by decide +kernel
theorem d_Choice_mostApart_39 : decode prog_4_method_2_code 39 = .ok (.invokevirtual 25, 3) := by decide +kernel
theorem d_Choice_mostApart_42 : decode prog_4_method_2_code 42 = .ok (.ifCond .eq 10, 3) := by decide +kernel
theorem d_Choice_mostApart_45 : decode prog_4_method_2_code 45 = .ok (.iload 5, 2) := by decide +kernel
theorem d_Choice_mostApart_47 : decode prog_4_method_2_code 47 = .ok (.istore_n 3, 1) := by decide +kernel
theorem d_Choice_mostApart_48 : decode prog_4_method_2_code 48 = .ok (.iload 6, 2) := by decide +kernel
theorem d_Choice_mostApart_50 : decode prog_4_method_2_code 50 = .ok (.istore 4, 2) := by decide +kernel
theorem d_Choice_mostApart_52 : decode prog_4_method_2_code 52 = .ok (.iinc 5 1, 3) := by decide +kernel
theorem d_Choice_mostApart_55 : decode prog_4_method_2_code 55 = .ok (.goto (-41), 3) := by decide +kernel
theorem d_Choice_mostApart_58 : decode prog_4_method_2_code 58 = .ok (.iload_n 3, 1) := by decide +kernel
theorem d_Choice_mostApart_59 : decode prog_4_method_2_code 59 = .ok (.ireturn, 1) := by decide +kernel
theorem d_Choice_fewestLighting_0 : decode prog_4_method_3_code 0 = .ok (.aload_n 0, 1) := by decide +kernel
theorem d_Choice_fewestLighting_1 : decode prog_4_method_3_code 1 = .ok (.aload_n 1, 1) := by decide +kernel
theorem d_Choice_fewestLighting_2 : decode prog_4_method_3_code 2 = .ok (.iload_n 2, 1) := by decide +kernel
theorem d_Choice_fewestLighting_3 : decode prog_4_method_3_code 3 = .ok (.invokevirtual 15, 3) := by decide +kernel
theorem d_Choice_fewestLighting_6 : decode prog_4_method_3_code 6 = .ok (.sipush 4095, 3) := by decide +kernel
theorem d_Choice_fewestLighting_9 : decode prog_4_method_3_code 9 = .ok (.istore_n 3, 1) := by decide +kernel
theorem d_Choice_fewestLighting_10 : decode prog_4_method_3_code 10 = .ok (.bipush 12, 2) := by decide +kernel
theorem d_Choice_fewestLighting_12 : decode prog_4_method_3_code 12 = .ok (.istore 4, 2) := by decide +kernel
theorem d_Choice_fewestLighting_14 : decode prog_4_method_3_code 14 = .ok (.iconst 1, 1) := by decide +kernel
theorem d_Choice_fewestLighting_15 : decode prog_4_method_3_code 15 = .ok (.istore 5, 2) := by decide +kernel
theorem d_Choice_fewestLighting_17 : decode prog_4_method_3_code 17 = .ok (.iload 5, 2) := by decide +kernel
theorem d_Choice_fewestLighting_19 : decode prog_4_method_3_code 19 = .ok (.sipush 4095, 3) := by decide +kernel
theorem d_Choice_fewestLighting_22 : decode prog_4_method_3_code 22 = .ok (.if_icmp .ge 39, 3) := by decide +kernel
theorem d_Choice_fewestLighting_25 : decode prog_4_method_3_code 25 = .ok (.iload 5, 2) := by decide +kernel
theorem d_Choice_fewestLighting_27 : decode prog_4_method_3_code 27 = .ok (.invokestatic 19, 3) := by decide +kernel
theorem d_Choice_fewestLighting_30 : decode prog_4_method_3_code 30 = .ok (.istore 6, 2) := by decide +kernel
theorem d_Choice_fewestLighting_32 : decode prog_4_method_3_code 32 = .ok (.iload 6, 2) := by decide +kernel
theorem d_Choice_fewestLighting_34 : decode prog_4_method_3_code 34 = .ok (.iload 4, 2) := by decide +kernel
theorem d_Choice_fewestLighting_36 : decode prog_4_method_3_code 36 = .ok (.if_icmp .ge 19, 3) := by decide +kernel
theorem d_Choice_fewestLighting_39 : decode prog_4_method_3_code 39 = .ok (.aload_n 0, 1) := by decide +kernel
theorem d_Choice_fewestLighting_40 : decode prog_4_method_3_code 40 = .ok (.iload 5, 2) := by decide +kernel
theorem d_Choice_fewestLighting_42 : decode prog_4_method_3_code 42 = .ok (.invokevirtual 29, 3) := by decide +kernel
theorem d_Choice_fewestLighting_45 : decode prog_4_method_3_code 45 = .ok (.ifCond .eq 10, 3) := by decide +kernel
theorem d_Choice_fewestLighting_48 : decode prog_4_method_3_code 48 = .ok (.iload 5, 2) := by decide +kernel
theorem d_Choice_fewestLighting_50 : decode prog_4_method_3_code 50 = .ok (.istore_n 3, 1) := by decide +kernel
theorem d_Choice_fewestLighting_51 : decode prog_4_method_3_code 51 = .ok (.iload 6, 2) := by decide +kernel
theorem d_Choice_fewestLighting_53 : decode prog_4_method_3_code 53 = .ok (.istore 4, 2) := by decide +kernel
theorem d_Choice_fewestLighting_55 : decode prog_4_method_3_code 55 = .ok (.iinc 5 1, 3) := by decide +kernel
theorem d_Choice_fewestLighting_58 : decode prog_4_method_3_code 58 = .ok (.goto (-41), 3) := by decide +kernel
theorem d_Choice_fewestLighting_61 : decode prog_4_method_3_code 61 = .ok (.iload_n 3, 1) := by decide +kernel
theorem d_Choice_fewestLighting_62 : decode prog_4_method_3_code 62 = .ok (.ireturn, 1) := by decide +kernel
theorem d_Choice_lookAround_0 : decode prog_4_method_4_code 0 = .ok (.iconst 0, 1) := by decide +kernel
theorem d_Choice_lookAround_1 : decode prog_4_method_4_code 1 = .ok (.istore_n 3, 1) := by decide +kernel
theorem d_Choice_lookAround_2 : decode prog_4_method_4_code 2 = .ok (.iload_n 3, 1) := by decide +kernel
theorem d_Choice_lookAround_3 : decode prog_4_method_4_code 3 = .ok (.aload_n 0, 1) := by decide +kernel
theorem d_Choice_lookAround_4 : decode prog_4_method_4_code 4 = .ok (.getfield 9, 3) := by decide +kernel
theorem d_Choice_lookAround_7 : decode prog_4_method_4_code 7 = .ok (.arraylength, 1) := by decide +kernel
theorem d_Choice_lookAround_8 : decode prog_4_method_4_code 8 = .ok (.if_icmp .ge 22, 3) := by decide +kernel
theorem d_Choice_lookAround_11 : decode prog_4_method_4_code 11 = .ok (.aload_n 0, 1) := by decide +kernel
theorem d_Choice_lookAround_12 : decode prog_4_method_4_code 12 = .ok (.getfield 9, 3) := by decide +kernel
theorem d_Choice_lookAround_15 : decode prog_4_method_4_code 15 = .ok (.iload_n 3, 1) := by decide +kernel
theorem d_Choice_lookAround_16 : decode prog_4_method_4_code 16 = .ok (.aload_n 1, 1) := by decide +kernel
theorem d_Choice_lookAround_17 : decode prog_4_method_4_code 17 = .ok (.iload_n 3, 1) := by decide +kernel
theorem d_Choice_lookAround_18 : decode prog_4_method_4_code 18 = .ok (.iconst 0, 1) := by decide +kernel
theorem d_Choice_lookAround_19 : decode prog_4_method_4_code 19 = .ok (.iload_n 2, 1) := by decide +kernel
theorem d_Choice_lookAround_20 : decode prog_4_method_4_code 20 = .ok (.invokevirtual 32, 3) := by decide +kernel
theorem d_Choice_lookAround_23 : decode prog_4_method_4_code 23 = .ok (.iastore, 1) := by decide +kernel
theorem d_Choice_lookAround_24 : decode prog_4_method_4_code 24 = .ok (.iinc 3 1, 3) := by decide +kernel
theorem d_Choice_lookAround_27 : decode prog_4_method_4_code 27 = .ok (.goto (-25), 3) := by decide +kernel
theorem d_Choice_lookAround_30 : decode prog_4_method_4_code 30 = .ok (.return_, 1) := by decide +kernel
theorem d_Choice_standsApart_0 : decode prog_4_method_5_code 0 = .ok (.iconst 0, 1) := by decide +kernel
theorem d_Choice_standsApart_1 : decode prog_4_method_5_code 1 = .ok (.istore_n 2, 1) := by decide +kernel
theorem d_Choice_standsApart_2 : decode prog_4_method_5_code 2 = .ok (.iload_n 2, 1) := by decide +kernel
theorem d_Choice_standsApart_3 : decode prog_4_method_5_code 3 = .ok (.aload_n 0, 1) := by decide +kernel
theorem d_Choice_standsApart_4 : decode prog_4_method_5_code 4 = .ok (.getfield 9, 3) := by decide +kernel
theorem d_Choice_standsApart_7 : decode prog_4_method_5_code 7 = .ok (.arraylength, 1) := by decide +kernel
theorem d_Choice_standsApart_8 : decode prog_4_method_5_code 8 = .ok (.if_icmp .ge 33, 3) := by decide +kernel
theorem d_Choice_standsApart_11 : decode prog_4_method_5_code 11 = .ok (.iload_n 1, 1) := by decide +kernel
theorem d_Choice_standsApart_12 : decode prog_4_method_5_code 12 = .ok (.iload_n 2, 1) := by decide +kernel
theorem d_Choice_standsApart_13 : decode prog_4_method_5_code 13 = .ok (.invokestatic 38, 3) := by decide +kernel
theorem d_Choice_standsApart_16 : decode prog_4_method_5_code 16 = .ok (.ifCond .eq 19, 3) := by decide +kernel
theorem d_Choice_standsApart_19 : decode prog_4_method_5_code 19 = .ok (.aload_n 0, 1) := by decide +kernel
theorem d_Choice_standsApart_20 : decode prog_4_method_5_code 20 = .ok (.getfield 9, 3) := by decide +kernel
theorem d_Choice_standsApart_23 : decode prog_4_method_5_code 23 = .ok (.iload_n 2, 1) := by decide +kernel
theorem d_Choice_standsApart_24 : decode prog_4_method_5_code 24 = .ok (.iaload, 1) := by decide +kernel
theorem d_Choice_standsApart_25 : decode prog_4_method_5_code 25 = .ok (.iload_n 1, 1) := by decide +kernel
theorem d_Choice_standsApart_26 : decode prog_4_method_5_code 26 = .ok (.iand, 1) := by decide +kernel
theorem d_Choice_standsApart_27 : decode prog_4_method_5_code 27 = .ok (.iconst 1, 1) := by decide +kernel
theorem d_Choice_standsApart_28 : decode prog_4_method_5_code 28 = .ok (.iload_n 2, 1) := by decide +kernel
theorem d_Choice_standsApart_29 : decode prog_4_method_5_code 29 = .ok (.ishl, 1) := by decide +kernel
theorem d_Choice_standsApart_30 : decode prog_4_method_5_code 30 = .ok (.if_icmp .eq 5, 3) := by decide +kernel
theorem d_Choice_standsApart_33 : decode prog_4_method_5_code 33 = .ok (.iconst 0, 1) := by decide +kernel
theorem d_Choice_standsApart_34 : decode prog_4_method_5_code 34 = .ok (.ireturn, 1) := by decide +kernel
theorem d_Choice_standsApart_35 : decode prog_4_method_5_code 35 = .ok (.iinc 2 1, 3) := by decide +kernel
theorem d_Choice_standsApart_38 : decode prog_4_method_5_code 38 = .ok (.goto (-36), 3) := by decide +kernel
theorem d_Choice_standsApart_41 : decode prog_4_method_5_code 41 = .ok (.iconst 1, 1) := by decide +kernel
theorem d_Choice_standsApart_42 : decode prog_4_method_5_code 42 = .ok (.ireturn, 1) := by decide +kernel
theorem d_Choice_lightsAll_0 : decode prog_4_method_6_code 0 = .ok (.iconst 0, 1) := by decide +kernel
theorem d_Choice_lightsAll_1 : decode prog_4_method_6_code 1 = .ok (.istore_n 2, 1) := by decide +kernel
theorem d_Choice_lightsAll_2 : decode prog_4_method_6_code 2 = .ok (.iconst 0, 1) := by decide +kernel
theorem d_Choice_lightsAll_3 : decode prog_4_method_6_code 3 = .ok (.istore_n 3, 1) := by decide +kernel
theorem d_Choice_lightsAll_4 : decode prog_4_method_6_code 4 = .ok (.iload_n 3, 1) := by decide +kernel
theorem d_Choice_lightsAll_5 : decode prog_4_method_6_code 5 = .ok (.aload_n 0, 1) := by decide +kernel
theorem d_Choice_lightsAll_6 : decode prog_4_method_6_code 6 = .ok (.getfield 9, 3) := by decide +kernel
theorem d_Choice_lightsAll_9 : decode prog_4_method_6_code 9 = .ok (.arraylength, 1) := by decide +kernel
theorem d_Choice_lightsAll_10 : decode prog_4_method_6_code 10 = .ok (.if_icmp .ge 26, 3) := by decide +kernel
theorem d_Choice_lightsAll_13 : decode prog_4_method_6_code 13 = .ok (.iload_n 1, 1) := by decide +kernel
theorem d_Choice_lightsAll_14 : decode prog_4_method_6_code 14 = .ok (.iload_n 3, 1) := by decide +kernel
theorem d_Choice_lightsAll_15 : decode prog_4_method_6_code 15 = .ok (.invokestatic 38, 3) := by decide +kernel
theorem d_Choice_lightsAll_18 : decode prog_4_method_6_code 18 = .ok (.ifCond .eq 12, 3) := by decide +kernel
theorem d_Choice_lightsAll_21 : decode prog_4_method_6_code 21 = .ok (.iload_n 2, 1) := by decide +kernel
theorem d_Choice_lightsAll_22 : decode prog_4_method_6_code 22 = .ok (.aload_n 0, 1) := by decide +kernel
theorem d_Choice_lightsAll_23 : decode prog_4_method_6_code 23 = .ok (.getfield 9, 3) := by decide +kernel
theorem d_Choice_lightsAll_26 : decode prog_4_method_6_code 26 = .ok (.iload_n 3, 1) := by decide +kernel
theorem d_Choice_lightsAll_27 : decode prog_4_method_6_code 27 = .ok (.iaload, 1) := by decide +kernel
theorem d_Choice_lightsAll_28 : decode prog_4_method_6_code 28 = .ok (.ior, 1) := by decide +kernel
theorem d_Choice_lightsAll_29 : decode prog_4_method_6_code 29 = .ok (.istore_n 2, 1) := by decide +kernel
theorem d_Choice_lightsAll_30 : decode prog_4_method_6_code 30 = .ok (.iinc 3 1, 3) := by decide +kernel
theorem d_Choice_lightsAll_33 : decode prog_4_method_6_code 33 = .ok (.goto (-29), 3) := by decide +kernel
theorem d_Choice_lightsAll_36 : decode prog_4_method_6_code 36 = .ok (.iload_n 2, 1) := by decide +kernel
theorem d_Choice_lightsAll_37 : decode prog_4_method_6_code 37 = .ok (.sipush 4095, 3) := by decide +kernel
theorem d_Choice_lightsAll_40 : decode prog_4_method_6_code 40 = .ok (.if_icmp .ne 7, 3) := by decide +kernel
theorem d_Choice_lightsAll_43 : decode prog_4_method_6_code 43 = .ok (.iconst 1, 1) := by decide +kernel
theorem d_Choice_lightsAll_44 : decode prog_4_method_6_code 44 = .ok (.goto 4, 3) := by decide +kernel
theorem d_Choice_lightsAll_47 : decode prog_4_method_6_code 47 = .ok (.iconst 0, 1) := by decide +kernel
theorem d_Choice_lightsAll_48 : decode prog_4_method_6_code 48 = .ok (.ireturn, 1) := by decide +kernel
theorem d_Cutting_init_0 : decode prog_5_method_1_code 0 = .ok (.aload_n 0, 1) := by decide +kernel
theorem d_Cutting_init_1 : decode prog_5_method_1_code 1 = .ok (.invokespecial 3, 3) := by decide +kernel
theorem d_Cutting_init_4 : decode prog_5_method_1_code 4 = .ok (.aload_n 0, 1) := by decide +kernel
theorem d_Cutting_init_5 : decode prog_5_method_1_code 5 = .ok (.bipush 12, 2) := by decide +kernel
theorem d_Cutting_init_7 : decode prog_5_method_1_code 7 = .ok (.newarray .int, 2) := by decide +kernel
theorem d_Cutting_init_9 : decode prog_5_method_1_code 9 = .ok (.putfield 9, 3) := by decide +kernel
theorem d_Cutting_init_12 : decode prog_5_method_1_code 12 = .ok (.return_, 1) := by decide +kernel
theorem d_Cutting_worth_0 : decode prog_5_method_2_code 0 = .ok (.iconst 0, 1) := by decide +kernel
theorem d_Cutting_worth_1 : decode prog_5_method_2_code 1 = .ok (.istore_n 3, 1) := by decide +kernel
theorem d_Cutting_worth_2 : decode prog_5_method_2_code 2 = .ok (.iload_n 3, 1) := by decide +kernel
theorem d_Cutting_worth_3 : decode prog_5_method_2_code 3 = .ok (.aload_n 0, 1) := by decide +kernel
theorem d_Cutting_worth_4 : decode prog_5_method_2_code 4 = .ok (.getfield 9, 3) := by decide +kernel
theorem d_Cutting_worth_7 : decode prog_5_method_2_code 7 = .ok (.arraylength, 1) := by decide +kernel
theorem d_Cutting_worth_8 : decode prog_5_method_2_code 8 = .ok (.if_icmp .ge 16, 3) := by decide +kernel
theorem d_Cutting_worth_11 : decode prog_5_method_2_code 11 = .ok (.aload_n 0, 1) := by decide +kernel
theorem d_Cutting_worth_12 : decode prog_5_method_2_code 12 = .ok (.getfield 9, 3) := by decide +kernel
theorem d_Cutting_worth_15 : decode prog_5_method_2_code 15 = .ok (.iload_n 3, 1) := by decide +kernel
theorem d_Cutting_worth_16 : decode prog_5_method_2_code 16 = .ok (.iconst 0, 1) := by decide +kernel
theorem d_Cutting_worth_17 : decode prog_5_method_2_code 17 = .ok (.iastore, 1) := by decide +kernel
theorem d_Cutting_worth_18 : decode prog_5_method_2_code 18 = .ok (.iinc 3 1, 3) := by decide +kernel
theorem d_Cutting_worth_21 : decode prog_5_method_2_code 21 = .ok (.goto (-19), 3) := by decide +kernel
theorem d_Cutting_worth_24 : decode prog_5_method_2_code 24 = .ok (.aload_n 0, 1) := by decide +kernel
theorem d_Cutting_worth_25 : decode prog_5_method_2_code 25 = .ok (.getfield 9, 3) := by decide +kernel
theorem d_Cutting_worth_28 : decode prog_5_method_2_code 28 = .ok (.arraylength, 1) := by decide +kernel
theorem d_Cutting_worth_29 : decode prog_5_method_2_code 29 = .ok (.iconst 1, 1) := by decide +kernel
theorem d_Cutting_worth_30 : decode prog_5_method_2_code 30 = .ok (.isub, 1) := by decide +kernel
theorem d_Cutting_worth_31 : decode prog_5_method_2_code 31 = .ok (.istore_n 3, 1) := by decide +kernel
theorem d_Cutting_worth_32 : decode prog_5_method_2_code 32 = .ok (.iload_n 3, 1) := by decide +kernel
theorem d_Cutting_worth_33 : decode prog_5_method_2_code 33 = .ok (.ifCond .le 57, 3) := by decide +kernel
theorem d_Cutting_worth_36 : decode prog_5_method_2_code 36 = .ok (.aload_n 1, 1) := by decide +kernel
theorem d_Cutting_worth_37 : decode prog_5_method_2_code 37 = .ok (.iload_n 3, 1) := by decide +kernel
theorem d_Cutting_worth_38 : decode prog_5_method_2_code 38 = .ok (.invokevirtual 15, 3) := by decide +kernel
theorem d_Cutting_worth_41 : decode prog_5_method_2_code 41 = .ok (.istore 4, 2) := by decide +kernel
theorem d_Cutting_worth_43 : decode prog_5_method_2_code 43 = .ok (.iload_n 3, 1) := by decide +kernel
theorem d_Cutting_worth_44 : decode prog_5_method_2_code 44 = .ok (.iload_n 2, 1) := by decide +kernel
theorem d_Cutting_worth_45 : decode prog_5_method_2_code 45 = .ok (.if_icmp .eq 39, 3) := by decide +kernel
theorem d_Cutting_worth_48 : decode prog_5_method_2_code 48 = .ok (.iload 4, 2) := by decide +kernel
theorem d_Cutting_worth_50 : decode prog_5_method_2_code 50 = .ok (.ifCond .lt 34, 3) := by decide +kernel
theorem d_Cutting_worth_53 : decode prog_5_method_2_code 53 = .ok (.iload 4, 2) := by decide +kernel
theorem d_Cutting_worth_55 : decode prog_5_method_2_code 55 = .ok (.aload_n 0, 1) := by decide +kernel
theorem d_Cutting_worth_56 : decode prog_5_method_2_code 56 = .ok (.getfield 9, 3) := by decide +kernel
theorem d_Cutting_worth_59 : decode prog_5_method_2_code 59 = .ok (.arraylength, 1) := by decide +kernel
theorem d_Cutting_worth_60 : decode prog_5_method_2_code 60 = .ok (.if_icmp .lt 6, 3) := by decide +kernel
theorem d_Cutting_worth_63 : decode prog_5_method_2_code 63 = .ok (.goto 21, 3) := by decide +kernel
theorem d_Cutting_worth_66 : decode prog_5_method_2_code 66 = .ok (.aload_n 0, 1) := by decide +kernel
theorem d_Cutting_worth_67 : decode prog_5_method_2_code 67 = .ok (.getfield 9, 3) := by decide +kernel
theorem d_Cutting_worth_70 : decode prog_5_method_2_code 70 = .ok (.iload 4, 2) := by decide +kernel
theorem d_Cutting_worth_72 : decode prog_5_method_2_code 72 = .ok (.dup2, 1) := by decide +kernel
theorem d_Cutting_worth_73 : decode prog_5_method_2_code 73 = .ok (.iaload, 1) := by decide +kernel
theorem d_Cutting_worth_74 : decode prog_5_method_2_code 74 = .ok (.aload_n 0, 1) := by decide +kernel
theorem d_Cutting_worth_75 : decode prog_5_method_2_code 75 = .ok (.getfield 9, 3) := by decide +kernel
theorem d_Cutting_worth_78 : decode prog_5_method_2_code 78 = .ok (.iload_n 3, 1) := by decide +kernel
theorem d_Cutting_worth_79 : decode prog_5_method_2_code 79 = .ok (.iaload, 1) := by decide +kernel
theorem d_Cutting_worth_80 : decode prog_5_method_2_code 80 = .ok (.iconst 1, 1) := by decide +kernel
theorem d_Cutting_worth_81 : decode prog_5_method_2_code 81 = .ok (.iadd, 1) := by decide +kernel
theorem d_Cutting_worth_82 : decode prog_5_method_2_code 82 = .ok (.ixor, 1) := by decide +kernel
theorem d_Cutting_worth_83 : decode prog_5_method_2_code 83 = .ok (.iastore, 1) := by decide +kernel
theorem d_Cutting_worth_84 : decode prog_5_method_2_code 84 = .ok (.iinc 3 (-1), 3) := by decide +kernel
theorem d_Cutting_worth_87 : decode prog_5_method_2_code 87 = .ok (.goto (-55), 3) := by decide +kernel
theorem d_Cutting_worth_90 : decode prog_5_method_2_code 90 = .ok (.aload_n 0, 1) := by decide +kernel
theorem d_Cutting_worth_91 : decode prog_5_method_2_code 91 = .ok (.getfield 9, 3) := by decide +kernel
theorem d_Cutting_worth_94 : decode prog_5_method_2_code 94 = .ok (.arraylength, 1) := by decide +kernel
theorem d_Cutting_worth_95 : decode prog_5_method_2_code 95 = .ok (.ifCond .le 12, 3) := by decide +kernel
theorem d_Cutting_worth_98 : decode prog_5_method_2_code 98 = .ok (.aload_n 0, 1) := by decide +kernel
theorem d_Cutting_worth_99 : decode prog_5_method_2_code 99 = .ok (.getfield 9, 3) := by decide +kernel
theorem d_Cutting_worth_102 : decode prog_5_method_2_code 102 = .ok (.iconst 0, 1) := by decide +kernel
theorem d_Cutting_worth_103 : decode prog_5_method_2_code 103 = .ok (.iaload, 1) := by decide +kernel
theorem d_Cutting_worth_104 : decode prog_5_method_2_code 104 = .ok (.goto 4, 3) := by decide +kernel
theorem d_Cutting_worth_107 : decode prog_5_method_2_code 107 = .ok (.iconst 0, 1) := by decide +kernel
theorem d_Cutting_worth_108 : decode prog_5_method_2_code 108 = .ok (.ireturn, 1) := by decide +kernel
theorem d_Hill_init_0 : decode prog_6_method_1_code 0 = .ok (.aload_n 0, 1) := by decide +kernel
theorem d_Hill_init_1 : decode prog_6_method_1_code 1 = .ok (.invokespecial 3, 3) := by decide +kernel
theorem d_Hill_init_4 : decode prog_6_method_1_code 4 = .ok (.aload_n 0, 1) := by decide +kernel
theorem d_Hill_init_5 : decode prog_6_method_1_code 5 = .ok (.new 9, 3) := by decide +kernel
theorem d_Hill_init_8 : decode prog_6_method_1_code 8 = .ok (.dup, 1) := by decide +kernel
theorem d_Hill_init_9 : decode prog_6_method_1_code 9 = .ok (.invokespecial 11, 3) := by decide +kernel
theorem d_Hill_init_12 : decode prog_6_method_1_code 12 = .ok (.putfield 12, 3) := by decide +kernel
theorem d_Hill_init_15 : decode prog_6_method_1_code 15 = .ok (.aload_n 0, 1) := by decide +kernel
theorem d_Hill_init_16 : decode prog_6_method_1_code 16 = .ok (.bipush 6, 2) := by decide +kernel
theorem d_Hill_init_18 : decode prog_6_method_1_code 18 = .ok (.newarray .int, 2) := by decide +kernel
theorem d_Hill_init_20 : decode prog_6_method_1_code 20 = .ok (.putfield 18, 3) := by decide +kernel
theorem d_Hill_init_23 : decode prog_6_method_1_code 23 = .ok (.aload_n 0, 1) := by decide +kernel
theorem d_Hill_init_24 : decode prog_6_method_1_code 24 = .ok (.bipush 6, 2) := by decide +kernel
theorem d_Hill_init_26 : decode prog_6_method_1_code 26 = .ok (.newarray .int, 2) := by decide +kernel
theorem d_Hill_init_28 : decode prog_6_method_1_code 28 = .ok (.putfield 22, 3) := by decide +kernel
theorem d_Hill_init_31 : decode prog_6_method_1_code 31 = .ok (.aload_n 0, 1) := by decide +kernel
theorem d_Hill_init_32 : decode prog_6_method_1_code 32 = .ok (.iconst 0, 1) := by decide +kernel
theorem d_Hill_init_33 : decode prog_6_method_1_code 33 = .ok (.putfield 25, 3) := by decide +kernel
theorem d_Hill_init_36 : decode prog_6_method_1_code 36 = .ok (.aload_n 0, 1) := by decide +kernel
theorem d_Hill_init_37 : decode prog_6_method_1_code 37 = .ok (.iconst 0, 1) := by decide +kernel
theorem d_Hill_init_38 : decode prog_6_method_1_code 38 = .ok (.putfield 29, 3) := by decide +kernel
theorem d_Hill_init_41 : decode prog_6_method_1_code 41 = .ok (.iconst 0, 1) := by decide +kernel
theorem d_Hill_init_42 : decode prog_6_method_1_code 42 = .ok (.istore_n 1, 1) := by decide +kernel
theorem d_Hill_init_43 : decode prog_6_method_1_code 43 = .ok (.iload_n 1, 1) := by decide +kernel
theorem d_Hill_init_44 : decode prog_6_method_1_code 44 = .ok (.aload_n 0, 1) := by decide +kernel
theorem d_Hill_init_45 : decode prog_6_method_1_code 45 = .ok (.getfield 18, 3) := by decide +kernel
theorem d_Hill_init_48 : decode prog_6_method_1_code 48 = .ok (.arraylength, 1) := by decide +kernel
theorem d_Hill_init_49 : decode prog_6_method_1_code 49 = .ok (.if_icmp .ge 17, 3) := by decide +kernel
theorem d_Hill_init_52 : decode prog_6_method_1_code 52 = .ok (.aload_n 0, 1) := by decide +kernel
theorem d_Hill_init_53 : decode prog_6_method_1_code 53 = .ok (.getfield 18, 3) := by decide +kernel
theorem d_Hill_init_56 : decode prog_6_method_1_code 56 = .ok (.iload_n 1, 1) := by decide +kernel
theorem d_Hill_init_57 : decode prog_6_method_1_code 57 = .ok (.bipush (-6), 2) := by decide +kernel
theorem d_Hill_init_59 : decode prog_6_method_1_code 59 = .ok (.iastore, 1) := by decide +kernel
theorem d_Hill_init_60 : decode prog_6_method_1_code 60 = .ok (.iinc 1 1, 3) := by decide +kernel
theorem d_Hill_init_63 : decode prog_6_method_1_code 63 = .ok (.goto (-20), 3) := by decide +kernel
theorem d_Hill_init_66 : decode prog_6_method_1_code 66 = .ok (.return_, 1) := by decide +kernel
theorem d_Hill_tree_0 : decode prog_6_method_2_code 0 = .ok (.aload_n 0, 1) := by decide +kernel
theorem d_Hill_tree_1 : decode prog_6_method_2_code 1 = .ok (.getfield 12, 3) := by decide +kernel
theorem d_Hill_tree_4 : decode prog_6_method_2_code 4 = .ok (.areturn, 1) := by decide +kernel
theorem d_Hill_loopOf_0 : decode prog_6_method_3_code 0 = .ok (.iload_n 1, 1) := by decide +kernel
theorem d_Hill_loopOf_1 : decode prog_6_method_3_code 1 = .ok (.ifCond .lt 21, 3) := by decide +kernel
theorem d_Hill_loopOf_4 : decode prog_6_method_3_code 4 = .ok (.iload_n 1, 1) := by decide +kernel
theorem d_Hill_loopOf_5 : decode prog_6_method_3_code 5 = .ok (.aload_n 0, 1) := by decide +kernel
theorem d_Hill_loopOf_6 : decode prog_6_method_3_code 6 = .ok (.getfield 18, 3) := by decide +kernel
theorem d_Hill_loopOf_9 : decode prog_6_method_3_code 9 = .ok (.arraylength, 1) := by decide +kernel
theorem d_Hill_loopOf_10 : decode prog_6_method_3_code 10 = .ok (.if_icmp .ge 12, 3) := by decide +kernel
theorem d_Hill_loopOf_13 : decode prog_6_method_3_code 13 = .ok (.aload_n 0, 1) := by decide +kernel
theorem d_Hill_loopOf_14 : decode prog_6_method_3_code 14 = .ok (.getfield 18, 3) := by decide +kernel
theorem d_Hill_loopOf_17 : decode prog_6_method_3_code 17 = .ok (.iload_n 1, 1) := by decide +kernel
theorem d_Hill_loopOf_18 : decode prog_6_method_3_code 18 = .ok (.iaload, 1) := by decide +kernel
theorem d_Hill_loopOf_19 : decode prog_6_method_3_code 19 = .ok (.goto 5, 3) := by decide +kernel
theorem d_Hill_loopOf_22 : decode prog_6_method_3_code 22 = .ok (.bipush (-6), 2) := by decide +kernel
theorem d_Hill_loopOf_24 : decode prog_6_method_3_code 24 = .ok (.ireturn, 1) := by decide +kernel
theorem d_Hill_chipsOf_0 : decode prog_6_method_4_code 0 = .ok (.iload_n 1, 1) := by decide +kernel
theorem d_Hill_chipsOf_1 : decode prog_6_method_4_code 1 = .ok (.ifCond .lt 21, 3) := by decide +kernel
theorem d_Hill_chipsOf_4 : decode prog_6_method_4_code 4 = .ok (.iload_n 1, 1) := by decide +kernel
theorem d_Hill_chipsOf_5 : decode prog_6_method_4_code 5 = .ok (.aload_n 0, 1) := by decide +kernel
theorem d_Hill_chipsOf_6 : decode prog_6_method_4_code 6 = .ok (.getfield 22, 3) := by decide +kernel
theorem d_Hill_chipsOf_9 : decode prog_6_method_4_code 9 = .ok (.arraylength, 1) := by decide +kernel
theorem d_Hill_chipsOf_10 : decode prog_6_method_4_code 10 = .ok (.if_icmp .ge 12, 3) := by decide +kernel
theorem d_Hill_chipsOf_13 : decode prog_6_method_4_code 13 = .ok (.aload_n 0, 1) := by decide +kernel
theorem d_Hill_chipsOf_14 : decode prog_6_method_4_code 14 = .ok (.getfield 22, 3) := by decide +kernel
theorem d_Hill_chipsOf_17 : decode prog_6_method_4_code 17 = .ok (.iload_n 1, 1) := by decide +kernel
theorem d_Hill_chipsOf_18 : decode prog_6_method_4_code 18 = .ok (.iaload, 1) := by decide +kernel
theorem d_Hill_chipsOf_19 : decode prog_6_method_4_code 19 = .ok (.goto 4, 3) := by decide +kernel
theorem d_Hill_chipsOf_22 : decode prog_6_method_4_code 22 = .ok (.iconst 0, 1) := by decide +kernel
theorem d_Hill_chipsOf_23 : decode prog_6_method_4_code 23 = .ok (.ireturn, 1) := by decide +kernel
theorem d_Hill_isBroken_0 : decode prog_6_method_5_code 0 = .ok (.aload_n 0, 1) := by decide +kernel
theorem d_Hill_isBroken_1 : decode prog_6_method_5_code 1 = .ok (.getfield 25, 3) := by decide +kernel
theorem d_Hill_isBroken_4 : decode prog_6_method_5_code 4 = .ok (.iload_n 1, 1) := by decide +kernel
theorem d_Hill_isBroken_5 : decode prog_6_method_5_code 5 = .ok (.invokestatic 32, 3) := by decide +kernel
theorem d_Hill_isBroken_8 : decode prog_6_method_5_code 8 = .ok (.ireturn, 1) := by decide +kernel
theorem d_Hill_brokenBalls_0 : decode prog_6_method_6_code 0 = .ok (.aload_n 0, 1) := by decide +kernel
theorem d_Hill_brokenBalls_1 : decode prog_6_method_6_code 1 = .ok (.getfield 25, 3) := by decide +kernel
theorem d_Hill_brokenBalls_4 : decode prog_6_method_6_code 4 = .ok (.ireturn, 1) := by decide +kernel
theorem d_Hill_winter_0 : decode prog_6_method_7_code 0 = .ok (.aload_n 0, 1) := by decide +kernel
theorem d_Hill_winter_1 : decode prog_6_method_7_code 1 = .ok (.getfield 29, 3) := by decide +kernel
theorem d_Hill_winter_4 : decode prog_6_method_7_code 4 = .ok (.ireturn, 1) := by decide +kernel
theorem d_Hill_hungLoops_0 : decode prog_6_method_8_code 0 = .ok (.iconst 0, 1) := by decide +kernel
theorem d_Hill_hungLoops_1 : decode prog_6_method_8_code 1 = .ok (.istore_n 1, 1) := by decide +kernel
theorem d_Hill_hungLoops_2 : decode prog_6_method_8_code 2 = .ok (.iconst 0, 1) := by decide +kernel
theorem d_Hill_hungLoops_3 : decode prog_6_method_8_code 3 = .ok (.istore_n 2, 1) := by decide +kernel
theorem d_Hill_hungLoops_4 : decode prog_6_method_8_code 4 = .ok (.iload_n 2, 1) := by decide +kernel
theorem d_Hill_hungLoops_5 : decode prog_6_method_8_code 5 = .ok (.aload_n 0, 1) := by decide +kernel
theorem d_Hill_hungLoops_6 : decode prog_6_method_8_code 6 = .ok (.getfield 18, 3) := by decide +kernel
theorem d_Hill_hungLoops_9 : decode prog_6_method_8_code 9 = .ok (.arraylength, 1) := by decide +kernel
theorem d_Hill_hungLoops_10 : decode prog_6_method_8_code 10 = .ok (.if_icmp .ge 31, 3) := by decide +kernel
theorem d_Hill_hungLoops_13 : decode prog_6_method_8_code 13 = .ok (.aload_n 0, 1) := by decide +kernel
theorem d_Hill_hungLoops_14 : decode prog_6_method_8_code 14 = .ok (.getfield 18, 3) := by decide +kernel
theorem d_Hill_hungLoops_17 : decode prog_6_method_8_code 17 = .ok (.iload_n 2, 1) := by decide +kernel
theorem d_Hill_hungLoops_18 : decode prog_6_method_8_code 18 = .ok (.iaload, 1) := by decide +kernel
theorem d_Hill_hungLoops_19 : decode prog_6_method_8_code 19 = .ok (.bipush (-6), 2) := by decide +kernel
theorem d_Hill_hungLoops_21 : decode prog_6_method_8_code 21 = .ok (.if_icmp .eq 14, 3) := by decide +kernel
theorem d_Hill_hungLoops_24 : decode prog_6_method_8_code 24 = .ok (.iload_n 1, 1) := by decide +kernel
theorem d_Hill_hungLoops_25 : decode prog_6_method_8_code 25 = .ok (.iconst 1, 1) := by decide +kernel
theorem d_Hill_hungLoops_26 : decode prog_6_method_8_code 26 = .ok (.aload_n 0, 1) := by decide +kernel
theorem d_Hill_hungLoops_27 : decode prog_6_method_8_code 27 = .ok (.getfield 18, 3) := by decide +kernel
theorem d_Hill_hungLoops_30 : decode prog_6_method_8_code 30 = .ok (.iload_n 2, 1) := by decide +kernel
theorem d_Hill_hungLoops_31 : decode prog_6_method_8_code 31 = .ok (.iaload, 1) := by decide +kernel
theorem d_Hill_hungLoops_32 : decode prog_6_method_8_code 32 = .ok (.ishl, 1) := by decide +kernel
theorem d_Hill_hungLoops_33 : decode prog_6_method_8_code 33 = .ok (.ior, 1) := by decide +kernel
theorem d_Hill_hungLoops_34 : decode prog_6_method_8_code 34 = .ok (.istore_n 1, 1) := by decide +kernel
theorem d_Hill_hungLoops_35 : decode prog_6_method_8_code 35 = .ok (.iinc 2 1, 3) := by decide +kernel
theorem d_Hill_hungLoops_38 : decode prog_6_method_8_code 38 = .ok (.goto (-34), 3) := by decide +kernel
theorem d_Hill_hungLoops_41 : decode prog_6_method_8_code 41 = .ok (.iload_n 1, 1) := by decide +kernel
theorem d_Hill_hungLoops_42 : decode prog_6_method_8_code 42 = .ok (.ireturn, 1) := by decide +kernel
theorem d_Hill_allChips_0 : decode prog_6_method_9_code 0 = .ok (.iconst 0, 1) := by decide +kernel
theorem d_Hill_allChips_1 : decode prog_6_method_9_code 1 = .ok (.istore_n 1, 1) := by decide +kernel
theorem d_Hill_allChips_2 : decode prog_6_method_9_code 2 = .ok (.iconst 0, 1) := by decide +kernel
theorem d_Hill_allChips_3 : decode prog_6_method_9_code 3 = .ok (.istore_n 2, 1) := by decide +kernel
theorem d_Hill_allChips_4 : decode prog_6_method_9_code 4 = .ok (.iload_n 2, 1) := by decide +kernel
theorem d_Hill_allChips_5 : decode prog_6_method_9_code 5 = .ok (.aload_n 0, 1) := by decide +kernel
theorem d_Hill_allChips_6 : decode prog_6_method_9_code 6 = .ok (.getfield 22, 3) := by decide +kernel
theorem d_Hill_allChips_9 : decode prog_6_method_9_code 9 = .ok (.arraylength, 1) := by decide +kernel
theorem d_Hill_allChips_10 : decode prog_6_method_9_code 10 = .ok (.if_icmp .ge 18, 3) := by decide +kernel
theorem d_Hill_allChips_13 : decode prog_6_method_9_code 13 = .ok (.iload_n 1, 1) := by decide +kernel
theorem d_Hill_allChips_14 : decode prog_6_method_9_code 14 = .ok (.aload_n 0, 1) := by decide +kernel
theorem d_Hill_allChips_15 : decode prog_6_method_9_code 15 = .ok (.getfield 22, 3) := by decide +kernel
theorem d_Hill_allChips_18 : decode prog_6_method_9_code 18 = .ok (.iload_n 2, 1) := by decide +kernel
theorem d_Hill_allChips_19 : decode prog_6_method_9_code 19 = .ok (.iaload, 1) := by decide +kernel
theorem d_Hill_allChips_20 : decode prog_6_method_9_code 20 = .ok (.iadd, 1) := by decide +kernel
theorem d_Hill_allChips_21 : decode prog_6_method_9_code 21 = .ok (.istore_n 1, 1) := by decide +kernel
theorem d_Hill_allChips_22 : decode prog_6_method_9_code 22 = .ok (.iinc 2 1, 3) := by decide +kernel
theorem d_Hill_allChips_25 : decode prog_6_method_9_code 25 = .ok (.goto (-21), 3) := by decide +kernel
theorem d_Hill_allChips_28 : decode prog_6_method_9_code 28 = .ok (.iload_n 1, 1) := by decide +kernel
theorem d_Hill_allChips_29 : decode prog_6_method_9_code 29 = .ok (.ireturn, 1) := by decide +kernel
theorem d_Hill_anotherHangs_0 : decode prog_6_method_10_code 0 = .ok (.aload_n 0, 1) := by decide +kernel
theorem d_Hill_anotherHangs_1 : decode prog_6_method_10_code 1 = .ok (.iload_n 1, 1) := by decide +kernel
theorem d_Hill_anotherHangs_2 : decode prog_6_method_10_code 2 = .ok (.invokevirtual 36, 3) := by decide +kernel
theorem d_Hill_anotherHangs_5 : decode prog_6_method_10_code 5 = .ok (.iload_n 2, 1) := by decide +kernel
theorem d_Hill_anotherHangs_6 : decode prog_6_method_10_code 6 = .ok (.if_icmp .eq 18, 3) := by decide +kernel
theorem d_Hill_anotherHangs_9 : decode prog_6_method_10_code 9 = .ok (.aload_n 0, 1) := by decide +kernel
theorem d_Hill_anotherHangs_10 : decode prog_6_method_10_code 10 = .ok (.invokevirtual 40, 3) := by decide +kernel
theorem d_Hill_anotherHangs_13 : decode prog_6_method_10_code 13 = .ok (.iload_n 2, 1) := by decide +kernel
theorem d_Hill_anotherHangs_14 : decode prog_6_method_10_code 14 = .ok (.invokestatic 32, 3) := by decide +kernel
theorem d_Hill_anotherHangs_17 : decode prog_6_method_10_code 17 = .ok (.ifCond .eq 7, 3) := by decide +kernel
theorem d_Hill_anotherHangs_20 : decode prog_6_method_10_code 20 = .ok (.iconst 1, 1) := by decide +kernel
theorem d_Hill_anotherHangs_21 : decode prog_6_method_10_code 21 = .ok (.goto 4, 3) := by decide +kernel
theorem d_Hill_anotherHangs_24 : decode prog_6_method_10_code 24 = .ok (.iconst 0, 1) := by decide +kernel
theorem d_Hill_anotherHangs_25 : decode prog_6_method_10_code 25 = .ok (.ireturn, 1) := by decide +kernel
theorem d_Hill_put_0 : decode prog_6_method_11_code 0 = .ok (.iload_n 1, 1) := by decide +kernel
theorem d_Hill_put_1 : decode prog_6_method_11_code 1 = .ok (.ifCond .lt 21, 3) := by decide +kernel
theorem d_Hill_put_4 : decode prog_6_method_11_code 4 = .ok (.iload_n 1, 1) := by decide +kernel
theorem d_Hill_put_5 : decode prog_6_method_11_code 5 = .ok (.aload_n 0, 1) := by decide +kernel
theorem d_Hill_put_6 : decode prog_6_method_11_code 6 = .ok (.getfield 18, 3) := by decide +kernel
theorem d_Hill_put_9 : decode prog_6_method_11_code 9 = .ok (.arraylength, 1) := by decide +kernel
theorem d_Hill_put_10 : decode prog_6_method_11_code 10 = .ok (.if_icmp .ge 12, 3) := by decide +kernel
theorem d_Hill_put_13 : decode prog_6_method_11_code 13 = .ok (.iload_n 1, 1) := by decide +kernel
theorem d_Hill_put_14 : decode prog_6_method_11_code 14 = .ok (.aload_n 0, 1) := by decide +kernel
theorem d_Hill_put_15 : decode prog_6_method_11_code 15 = .ok (.getfield 22, 3) := by decide +kernel
theorem d_Hill_put_18 : decode prog_6_method_11_code 18 = .ok (.arraylength, 1) := by decide +kernel
theorem d_Hill_put_19 : decode prog_6_method_11_code 19 = .ok (.if_icmp .lt 4, 3) := by decide +kernel
theorem d_Hill_put_22 : decode prog_6_method_11_code 22 = .ok (.return_, 1) := by decide +kernel
theorem d_Hill_put_23 : decode prog_6_method_11_code 23 = .ok (.aload_n 0, 1) := by decide +kernel
theorem d_Hill_put_24 : decode prog_6_method_11_code 24 = .ok (.getfield 18, 3) := by decide +kernel
theorem d_Hill_put_27 : decode prog_6_method_11_code 27 = .ok (.iload_n 1, 1) := by decide +kernel
theorem d_Hill_put_28 : decode prog_6_method_11_code 28 = .ok (.iload_n 2, 1) := by decide +kernel
theorem d_Hill_put_29 : decode prog_6_method_11_code 29 = .ok (.iastore, 1) := by decide +kernel
theorem d_Hill_put_30 : decode prog_6_method_11_code 30 = .ok (.aload_n 0, 1) := by decide +kernel
theorem d_Hill_put_31 : decode prog_6_method_11_code 31 = .ok (.getfield 22, 3) := by decide +kernel
theorem d_Hill_put_34 : decode prog_6_method_11_code 34 = .ok (.iload_n 1, 1) := by decide +kernel
theorem d_Hill_put_35 : decode prog_6_method_11_code 35 = .ok (.iload_n 3, 1) := by decide +kernel
theorem d_Hill_put_36 : decode prog_6_method_11_code 36 = .ok (.iastore, 1) := by decide +kernel
theorem d_Hill_put_37 : decode prog_6_method_11_code 37 = .ok (.aload_n 0, 1) := by decide +kernel
theorem d_Hill_put_38 : decode prog_6_method_11_code 38 = .ok (.dup, 1) := by decide +kernel
theorem d_Hill_put_39 : decode prog_6_method_11_code 39 = .ok (.getfield 25, 3) := by decide +kernel
theorem d_Hill_put_42 : decode prog_6_method_11_code 42 = .ok (.iconst 1, 1) := by decide +kernel
theorem d_Hill_put_43 : decode prog_6_method_11_code 43 = .ok (.iload_n 1, 1) := by decide +kernel
theorem d_Hill_put_44 : decode prog_6_method_11_code 44 = .ok (.ishl, 1) := by decide +kernel
theorem d_Hill_put_45 : decode prog_6_method_11_code 45 = .ok (.iconst (-1), 1) := by decide +kernel
theorem d_Hill_put_46 : decode prog_6_method_11_code 46 = .ok (.ixor, 1) := by decide +kernel
theorem d_Hill_put_47 : decode prog_6_method_11_code 47 = .ok (.iand, 1) := by decide +kernel
theorem d_Hill_put_48 : decode prog_6_method_11_code 48 = .ok (.putfield 25, 3) := by decide +kernel
theorem d_Hill_put_51 : decode prog_6_method_11_code 51 = .ok (.return_, 1) := by decide +kernel
theorem d_Hill_copyFrom_0 : decode prog_6_method_12_code 0 = .ok (.aload_n 0, 1) := by decide +kernel
theorem d_Hill_copyFrom_1 : decode prog_6_method_12_code 1 = .ok (.getfield 12, 3) := by decide +kernel
theorem d_Hill_copyFrom_4 : decode prog_6_method_12_code 4 = .ok (.aload_n 1, 1) := by decide +kernel
theorem d_Hill_copyFrom_5 : decode prog_6_method_12_code 5 = .ok (.getfield 12, 3) := by decide +kernel
theorem d_Hill_copyFrom_8 : decode prog_6_method_12_code 8 = .ok (.invokevirtual 44, 3) := by decide +kernel
theorem d_Hill_copyFrom_11 : decode prog_6_method_12_code 11 = .ok (.aload_n 1, 1) := by decide +kernel
theorem d_Hill_copyFrom_12 : decode prog_6_method_12_code 12 = .ok (.getfield 18, 3) := by decide +kernel
theorem d_Hill_copyFrom_15 : decode prog_6_method_12_code 15 = .ok (.aload_n 0, 1) := by decide +kernel
theorem d_Hill_copyFrom_16 : decode prog_6_method_12_code 16 = .ok (.getfield 18, 3) := by decide +kernel
theorem d_Hill_copyFrom_19 : decode prog_6_method_12_code 19 = .ok (.invokestatic 48, 3) := by decide +kernel
theorem d_Hill_copyFrom_22 : decode prog_6_method_12_code 22 = .ok (.aload_n 1, 1) := by decide +kernel
theorem d_Hill_copyFrom_23 : decode prog_6_method_12_code 23 = .ok (.getfield 22, 3) := by decide +kernel
theorem d_Hill_copyFrom_26 : decode prog_6_method_12_code 26 = .ok (.aload_n 0, 1) := by decide +kernel
theorem d_Hill_copyFrom_27 : decode prog_6_method_12_code 27 = .ok (.getfield 22, 3) := by decide +kernel
theorem d_Hill_copyFrom_30 : decode prog_6_method_12_code 30 = .ok (.invokestatic 48, 3) := by decide +kernel
theorem d_Hill_copyFrom_33 : decode prog_6_method_12_code 33 = .ok (.aload_n 0, 1) := by decide +kernel
theorem d_Hill_copyFrom_34 : decode prog_6_method_12_code 34 = .ok (.aload_n 1, 1) := by decide +kernel
theorem d_Hill_copyFrom_35 : decode prog_6_method_12_code 35 = .ok (.getfield 25, 3) := by decide +kernel
theorem d_Hill_copyFrom_38 : decode prog_6_method_12_code 38 = .ok (.putfield 25, 3) := by decide +kernel
theorem d_Hill_copyFrom_41 : decode prog_6_method_12_code 41 = .ok (.aload_n 0, 1) := by decide +kernel
theorem d_Hill_copyFrom_42 : decode prog_6_method_12_code 42 = .ok (.aload_n 1, 1) := by decide +kernel
theorem d_Hill_copyFrom_43 : decode prog_6_method_12_code 43 = .ok (.getfield 29, 3) := by decide +kernel
theorem d_Hill_copyFrom_46 : decode prog_6_method_12_code 46 = .ok (.putfield 29, 3) := by decide +kernel
theorem d_Hill_copyFrom_49 : decode prog_6_method_12_code 49 = .ok (.return_, 1) := by decide +kernel
theorem d_Hill_seenFrom_0 : decode prog_6_method_13_code 0 = .ok (.aload_n 0, 1) := by decide +kernel
theorem d_Hill_seenFrom_1 : decode prog_6_method_13_code 1 = .ok (.iload_n 1, 1) := by decide +kernel
theorem d_Hill_seenFrom_2 : decode prog_6_method_13_code 2 = .ok (.invokevirtual 36, 3) := by decide +kernel
theorem d_Hill_seenFrom_5 : decode prog_6_method_13_code 5 = .ok (.istore_n 2, 1) := by decide +kernel
theorem d_Hill_seenFrom_6 : decode prog_6_method_13_code 6 = .ok (.aload_n 0, 1) := by decide +kernel
theorem d_Hill_seenFrom_7 : decode prog_6_method_13_code 7 = .ok (.invokevirtual 40, 3) := by decide +kernel
theorem d_Hill_seenFrom_10 : decode prog_6_method_13_code 10 = .ok (.istore_n 3, 1) := by decide +kernel
theorem d_Hill_seenFrom_11 : decode prog_6_method_13_code 11 = .ok (.iconst 0, 1) := by decide +kernel
theorem d_Hill_seenFrom_12 : decode prog_6_method_13_code 12 = .ok (.istore 4, 2) := by decide +kernel
theorem d_Hill_seenFrom_14 : decode prog_6_method_13_code 14 = .ok (.iconst 0, 1) := by decide +kernel
theorem d_Hill_seenFrom_15 : decode prog_6_method_13_code 15 = .ok (.istore 5, 2) := by decide +kernel
theorem d_Hill_seenFrom_17 : decode prog_6_method_13_code 17 = .ok (.iload 5, 2) := by decide +kernel
theorem d_Hill_seenFrom_19 : decode prog_6_method_13_code 19 = .ok (.bipush 6, 2) := by decide +kernel
theorem d_Hill_seenFrom_21 : decode prog_6_method_13_code 21 = .ok (.if_icmp .ge 69, 3) := by decide +kernel
theorem d_Hill_seenFrom_24 : decode prog_6_method_13_code 24 = .ok (.aload_n 0, 1) := by decide +kernel
theorem d_Hill_seenFrom_25 : decode prog_6_method_13_code 25 = .ok (.iload 5, 2) := by decide +kernel
theorem d_Hill_seenFrom_27 : decode prog_6_method_13_code 27 = .ok (.invokevirtual 36, 3) := by decide +kernel
theorem d_Hill_seenFrom_30 : decode prog_6_method_13_code 30 = .ok (.istore 6, 2) := by decide +kernel
theorem d_Hill_seenFrom_32 : decode prog_6_method_13_code 32 = .ok (.iload 5, 2) := by decide +kernel
theorem d_Hill_seenFrom_34 : decode prog_6_method_13_code 34 = .ok (.iload_n 1, 1) := by decide +kernel
theorem d_Hill_seenFrom_35 : decode prog_6_method_13_code 35 = .ok (.if_icmp .eq 49, 3) := by decide +kernel
theorem d_Hill_seenFrom_38 : decode prog_6_method_13_code 38 = .ok (.iload 6, 2) := by decide +kernel
theorem d_Hill_seenFrom_40 : decode prog_6_method_13_code 40 = .ok (.bipush (-6), 2) := by decide +kernel
theorem d_Hill_seenFrom_42 : decode prog_6_method_13_code 42 = .ok (.if_icmp .ne 6, 3) := by decide +kernel
theorem d_Hill_seenFrom_45 : decode prog_6_method_13_code 45 = .ok (.goto 39, 3) := by decide +kernel
theorem d_Hill_seenFrom_48 : decode prog_6_method_13_code 48 = .ok (.iconst 1, 1) := by decide +kernel
theorem d_Hill_seenFrom_49 : decode prog_6_method_13_code 49 = .ok (.iload_n 2, 1) := by decide +kernel
theorem d_Hill_seenFrom_50 : decode prog_6_method_13_code 50 = .ok (.ishl, 1) := by decide +kernel
theorem d_Hill_seenFrom_51 : decode prog_6_method_13_code 51 = .ok (.iconst 1, 1) := by decide +kernel
theorem d_Hill_seenFrom_52 : decode prog_6_method_13_code 52 = .ok (.iload 6, 2) := by decide +kernel
theorem d_Hill_seenFrom_54 : decode prog_6_method_13_code 54 = .ok (.ishl, 1) := by decide +kernel
theorem d_Hill_seenFrom_55 : decode prog_6_method_13_code 55 = .ok (.ior, 1) := by decide +kernel
theorem d_Hill_seenFrom_56 : decode prog_6_method_13_code 56 = .ok (.istore 7, 2) := by decide +kernel
theorem d_Hill_seenFrom_58 : decode prog_6_method_13_code 58 = .ok (.aload_n 0, 1) := by decide +kernel
theorem d_Hill_seenFrom_59 : decode prog_6_method_13_code 59 = .ok (.getfield 12, 3) := by decide +kernel
theorem d_Hill_seenFrom_62 : decode prog_6_method_13_code 62 = .ok (.iload_n 2, 1) := by decide +kernel
theorem d_Hill_seenFrom_63 : decode prog_6_method_13_code 63 = .ok (.iload 6, 2) := by decide +kernel
theorem d_Hill_seenFrom_65 : decode prog_6_method_13_code 65 = .ok (.invokevirtual 52, 3) := by decide +kernel
theorem d_Hill_seenFrom_68 : decode prog_6_method_13_code 68 = .ok (.iload_n 3, 1) := by decide +kernel
theorem d_Hill_seenFrom_69 : decode prog_6_method_13_code 69 = .ok (.iand, 1) := by decide +kernel
theorem d_Hill_seenFrom_70 : decode prog_6_method_13_code 70 = .ok (.iload 7, 2) := by decide +kernel
theorem d_Hill_seenFrom_72 : decode prog_6_method_13_code 72 = .ok (.if_icmp .ne 12, 3) := by decide +kernel
theorem d_Hill_seenFrom_75 : decode prog_6_method_13_code 75 = .ok (.iload 4, 2) := by decide +kernel
theorem d_Hill_seenFrom_77 : decode prog_6_method_13_code 77 = .ok (.iconst 1, 1) := by decide +kernel
theorem d_Hill_seenFrom_78 : decode prog_6_method_13_code 78 = .ok (.iload 5, 2) := by decide +kernel
theorem d_Hill_seenFrom_80 : decode prog_6_method_13_code 80 = .ok (.ishl, 1) := by decide +kernel
theorem d_Hill_seenFrom_81 : decode prog_6_method_13_code 81 = .ok (.ior, 1) := by decide +kernel
theorem d_Hill_seenFrom_82 : decode prog_6_method_13_code 82 = .ok (.istore 4, 2) := by decide +kernel
theorem d_Hill_seenFrom_84 : decode prog_6_method_13_code 84 = .ok (.iinc 5 1, 3) := by decide +kernel
theorem d_Hill_seenFrom_87 : decode prog_6_method_13_code 87 = .ok (.goto (-70), 3) := by decide +kernel
theorem d_Hill_seenFrom_90 : decode prog_6_method_13_code 90 = .ok (.iload 4, 2) := by decide +kernel
theorem d_Hill_seenFrom_92 : decode prog_6_method_13_code 92 = .ok (.ireturn, 1) := by decide +kernel
theorem d_Hill_whyNot_0 : decode prog_6_method_14_code 0 = .ok (.aload_n 1, 1) := by decide +kernel
theorem d_Hill_whyNot_1 : decode prog_6_method_14_code 1 = .ok (.invokevirtual 56, 3) := by decide +kernel
theorem d_Hill_whyNot_4 : decode prog_6_method_14_code 4 = .ok (.tableswitch 189 0 4 #[36, 87, 119, 136, 173], 36) := by decide +kernel
theorem d_Hill_whyNot_40 : decode prog_6_method_14_code 40 = .ok (.aload_n 0, 1) := by decide +kernel
theorem d_Hill_whyNot_41 : decode prog_6_method_14_code 41 = .ok (.aload_n 1, 1) := by decide +kernel
theorem d_Hill_whyNot_42 : decode prog_6_method_14_code 42 = .ok (.invokevirtual 61, 3) := by decide +kernel
theorem d_Hill_whyNot_45 : decode prog_6_method_14_code 45 = .ok (.invokevirtual 64, 3) := by decide +kernel
theorem d_Hill_whyNot_48 : decode prog_6_method_14_code 48 = .ok (.ifCond .eq 5, 3) := by decide +kernel
theorem d_Hill_whyNot_51 : decode prog_6_method_14_code 51 = .ok (.iconst 1, 1) := by decide +kernel
theorem d_Hill_whyNot_52 : decode prog_6_method_14_code 52 = .ok (.ireturn, 1) := by decide +kernel
theorem d_Hill_whyNot_53 : decode prog_6_method_14_code 53 = .ok (.aload_n 0, 1) := by decide +kernel
theorem d_Hill_whyNot_54 : decode prog_6_method_14_code 54 = .ok (.aload_n 1, 1) := by decide +kernel
theorem d_Hill_whyNot_55 : decode prog_6_method_14_code 55 = .ok (.invokevirtual 61, 3) := by decide +kernel
theorem d_Hill_whyNot_58 : decode prog_6_method_14_code 58 = .ok (.aload_n 1, 1) := by decide +kernel
theorem d_Hill_whyNot_59 : decode prog_6_method_14_code 59 = .ok (.invokevirtual 68, 3) := by decide +kernel
theorem d_Hill_whyNot_62 : decode prog_6_method_14_code 62 = .ok (.invokevirtual 71, 3) := by decide +kernel
theorem d_Hill_whyNot_65 : decode prog_6_method_14_code 65 = .ok (.ifCond .eq 5, 3) := by decide +kernel
theorem d_Hill_whyNot_68 : decode prog_6_method_14_code 68 = .ok (.iconst 2, 1) := by decide +kernel
theorem d_Hill_whyNot_69 : decode prog_6_method_14_code 69 = .ok (.ireturn, 1) := by decide +kernel
theorem d_Hill_whyNot_70 : decode prog_6_method_14_code 70 = .ok (.aload_n 0, 1) := by decide +kernel
theorem d_Hill_whyNot_71 : decode prog_6_method_14_code 71 = .ok (.aload_n 1, 1) := by decide +kernel
theorem d_Hill_whyNot_72 : decode prog_6_method_14_code 72 = .ok (.invokevirtual 61, 3) := by decide +kernel
theorem d_Hill_whyNot_75 : decode prog_6_method_14_code 75 = .ok (.invokevirtual 36, 3) := by decide +kernel
theorem d_Hill_whyNot_78 : decode prog_6_method_14_code 78 = .ok (.aload_n 1, 1) := by decide +kernel
theorem d_Hill_whyNot_79 : decode prog_6_method_14_code 79 = .ok (.invokevirtual 68, 3) := by decide +kernel
theorem d_Hill_whyNot_82 : decode prog_6_method_14_code 82 = .ok (.if_icmp .ne 7, 3) := by decide +kernel
theorem d_Hill_whyNot_85 : decode prog_6_method_14_code 85 = .ok (.iconst 3, 1) := by decide +kernel
theorem d_Hill_whyNot_86 : decode prog_6_method_14_code 86 = .ok (.goto 4, 3) := by decide +kernel
theorem d_Hill_whyNot_89 : decode prog_6_method_14_code 89 = .ok (.iconst 0, 1) := by decide +kernel
theorem d_Hill_whyNot_90 : decode prog_6_method_14_code 90 = .ok (.ireturn, 1) := by decide +kernel
theorem d_Hill_whyNot_91 : decode prog_6_method_14_code 91 = .ok (.aload_n 0, 1) := by decide +kernel
theorem d_Hill_whyNot_92 : decode prog_6_method_14_code 92 = .ok (.aload_n 1, 1) := by decide +kernel
theorem d_Hill_whyNot_93 : decode prog_6_method_14_code 93 = .ok (.invokevirtual 61, 3) := by decide +kernel
theorem d_Hill_whyNot_96 : decode prog_6_method_14_code 96 = .ok (.invokevirtual 64, 3) := by decide +kernel
theorem d_Hill_whyNot_99 : decode prog_6_method_14_code 99 = .ok (.ifCond .eq 5, 3) := by decide +kernel
theorem d_Hill_whyNot_102 : decode prog_6_method_14_code 102 = .ok (.iconst 1, 1) := by decide +kernel
theorem d_Hill_whyNot_103 : decode prog_6_method_14_code 103 = .ok (.ireturn, 1) := by decide +kernel
theorem d_Hill_whyNot_104 : decode prog_6_method_14_code 104 = .ok (.aload_n 0, 1) := by decide +kernel
theorem d_Hill_whyNot_105 : decode prog_6_method_14_code 105 = .ok (.aload_n 1, 1) := by decide +kernel
theorem d_Hill_whyNot_106 : decode prog_6_method_14_code 106 = .ok (.invokevirtual 61, 3) := by decide +kernel
theorem d_Hill_whyNot_109 : decode prog_6_method_14_code 109 = .ok (.invokevirtual 36, 3) := by decide +kernel
theorem d_Hill_whyNot_112 : decode prog_6_method_14_code 112 = .ok (.bipush (-6), 2) := by decide +kernel
theorem d_Hill_whyNot_114 : decode prog_6_method_14_code 114 = .ok (.if_icmp .ne 7, 3) := by decide +kernel
theorem d_Hill_whyNot_117 : decode prog_6_method_14_code 117 = .ok (.iconst 3, 1) := by decide +kernel
theorem d_Hill_whyNot_118 : decode prog_6_method_14_code 118 = .ok (.goto 4, 3) := by decide +kernel
theorem d_Hill_whyNot_121 : decode prog_6_method_14_code 121 = .ok (.iconst 0, 1) := by decide +kernel
theorem d_Hill_whyNot_122 : decode prog_6_method_14_code 122 = .ok (.ireturn, 1) := by decide +kernel
theorem d_Hill_whyNot_123 : decode prog_6_method_14_code 123 = .ok (.aload_n 0, 1) := by decide +kernel
theorem d_Hill_whyNot_124 : decode prog_6_method_14_code 124 = .ok (.invokevirtual 40, 3) := by decide +kernel
theorem d_Hill_whyNot_127 : decode prog_6_method_14_code 127 = .ok (.invokestatic 74, 3) := by decide +kernel
theorem d_Hill_whyNot_130 : decode prog_6_method_14_code 130 = .ok (.iconst 2, 1) := by decide +kernel
theorem d_Hill_whyNot_131 : decode prog_6_method_14_code 131 = .ok (.if_icmp .ge 7, 3) := by decide +kernel
theorem d_Hill_whyNot_134 : decode prog_6_method_14_code 134 = .ok (.iconst 4, 1) := by decide +kernel
theorem d_Hill_whyNot_135 : decode prog_6_method_14_code 135 = .ok (.goto 4, 3) := by decide +kernel
theorem d_Hill_whyNot_138 : decode prog_6_method_14_code 138 = .ok (.iconst 0, 1) := by decide +kernel
theorem d_Hill_whyNot_139 : decode prog_6_method_14_code 139 = .ok (.ireturn, 1) := by decide +kernel
theorem d_Hill_whyNot_140 : decode prog_6_method_14_code 140 = .ok (.aload_n 1, 1) := by decide +kernel
theorem d_Hill_whyNot_141 : decode prog_6_method_14_code 141 = .ok (.invokevirtual 68, 3) := by decide +kernel
theorem d_Hill_whyNot_144 : decode prog_6_method_14_code 144 = .ok (.aload_n 1, 1) := by decide +kernel
theorem d_Hill_whyNot_145 : decode prog_6_method_14_code 145 = .ok (.invokevirtual 61, 3) := by decide +kernel
theorem d_Hill_whyNot_148 : decode prog_6_method_14_code 148 = .ok (.if_icmp .lt 5, 3) := by decide +kernel
theorem d_Hill_whyNot_151 : decode prog_6_method_14_code 151 = .ok (.iconst 5, 1) := by decide +kernel
theorem d_Hill_whyNot_152 : decode prog_6_method_14_code 152 = .ok (.ireturn, 1) := by decide +kernel
theorem d_Hill_whyNot_153 : decode prog_6_method_14_code 153 = .ok (.aload_n 0, 1) := by decide +kernel
theorem d_Hill_whyNot_154 : decode prog_6_method_14_code 154 = .ok (.getfield 12, 3) := by decide +kernel
theorem d_Hill_whyNot_157 : decode prog_6_method_14_code 157 = .ok (.aload_n 1, 1) := by decide +kernel
theorem d_Hill_whyNot_158 : decode prog_6_method_14_code 158 = .ok (.invokevirtual 61, 3) := by decide +kernel
theorem d_Hill_whyNot_161 : decode prog_6_method_14_code 161 = .ok (.invokevirtual 79, 3) := by decide +kernel
theorem d_Hill_whyNot_164 : decode prog_6_method_14_code 164 = .ok (.aload_n 1, 1) := by decide +kernel
theorem d_Hill_whyNot_165 : decode prog_6_method_14_code 165 = .ok (.invokevirtual 68, 3) := by decide +kernel
theorem d_Hill_whyNot_168 : decode prog_6_method_14_code 168 = .ok (.if_icmp .ne 7, 3) := by decide +kernel
theorem d_Hill_whyNot_171 : decode prog_6_method_14_code 171 = .ok (.iconst 5, 1) := by decide +kernel
theorem d_Hill_whyNot_172 : decode prog_6_method_14_code 172 = .ok (.goto 4, 3) := by decide +kernel
theorem d_Hill_whyNot_175 : decode prog_6_method_14_code 175 = .ok (.iconst 0, 1) := by decide +kernel
theorem d_Hill_whyNot_176 : decode prog_6_method_14_code 176 = .ok (.ireturn, 1) := by decide +kernel
theorem d_Hill_whyNot_177 : decode prog_6_method_14_code 177 = .ok (.aload_n 0, 1) := by decide +kernel
theorem d_Hill_whyNot_178 : decode prog_6_method_14_code 178 = .ok (.getfield 29, 3) := by decide +kernel
theorem d_Hill_whyNot_181 : decode prog_6_method_14_code 181 = .ok (.bipush 99, 2) := by decide +kernel
theorem d_Hill_whyNot_183 : decode prog_6_method_14_code 183 = .ok (.if_icmp .lt 8, 3) := by decide +kernel
theorem d_Hill_whyNot_186 : decode prog_6_method_14_code 186 = .ok (.bipush 6, 2) := by decide +kernel
theorem d_Hill_whyNot_188 : decode prog_6_method_14_code 188 = .ok (.goto 4, 3) := by decide +kernel
theorem d_Hill_whyNot_191 : decode prog_6_method_14_code 191 = .ok (.iconst 0, 1) := by decide +kernel
theorem d_Hill_whyNot_192 : decode prog_6_method_14_code 192 = .ok (.ireturn, 1) := by decide +kernel
theorem d_Hill_whyNot_193 : decode prog_6_method_14_code 193 = .ok (.iconst 0, 1) := by decide +kernel
theorem d_Hill_whyNot_194 : decode prog_6_method_14_code 194 = .ok (.ireturn, 1) := by decide +kernel
theorem d_Hill_follow_0 : decode prog_6_method_15_code 0 = .ok (.aload_n 1, 1) := by decide +kernel
theorem d_Hill_follow_1 : decode prog_6_method_15_code 1 = .ok (.invokevirtual 56, 3) := by decide +kernel
theorem d_Hill_follow_4 : decode prog_6_method_15_code 4 = .ok (.tableswitch 126 0 4 #[36, 59, 80, 91, 109], 36) := by decide +kernel
theorem d_Hill_follow_40 : decode prog_6_method_15_code 40 = .ok (.aload_n 0, 1) := by decide +kernel
theorem d_Hill_follow_41 : decode prog_6_method_15_code 41 = .ok (.aload_n 1, 1) := by decide +kernel
theorem d_Hill_follow_42 : decode prog_6_method_15_code 42 = .ok (.invokevirtual 61, 3) := by decide +kernel
theorem d_Hill_follow_45 : decode prog_6_method_15_code 45 = .ok (.aload_n 1, 1) := by decide +kernel
theorem d_Hill_follow_46 : decode prog_6_method_15_code 46 = .ok (.invokevirtual 68, 3) := by decide +kernel
theorem d_Hill_follow_49 : decode prog_6_method_15_code 49 = .ok (.aload_n 0, 1) := by decide +kernel
theorem d_Hill_follow_50 : decode prog_6_method_15_code 50 = .ok (.aload_n 1, 1) := by decide +kernel
theorem d_Hill_follow_51 : decode prog_6_method_15_code 51 = .ok (.invokevirtual 61, 3) := by decide +kernel
theorem d_Hill_follow_54 : decode prog_6_method_15_code 54 = .ok (.invokevirtual 82, 3) := by decide +kernel
theorem d_Hill_follow_57 : decode prog_6_method_15_code 57 = .ok (.invokevirtual 85, 3) := by decide +kernel
theorem d_Hill_follow_60 : decode prog_6_method_15_code 60 = .ok (.goto 70, 3) := by decide +kernel
theorem d_Hill_follow_63 : decode prog_6_method_15_code 63 = .ok (.aload_n 0, 1) := by decide +kernel
theorem d_Hill_follow_64 : decode prog_6_method_15_code 64 = .ok (.aload_n 1, 1) := by decide +kernel
theorem d_Hill_follow_65 : decode prog_6_method_15_code 65 = .ok (.invokevirtual 61, 3) := by decide +kernel
theorem d_Hill_follow_68 : decode prog_6_method_15_code 68 = .ok (.bipush (-6), 2) := by decide +kernel
theorem d_Hill_follow_70 : decode prog_6_method_15_code 70 = .ok (.aload_n 0, 1) := by decide +kernel
theorem d_Hill_follow_71 : decode prog_6_method_15_code 71 = .ok (.aload_n 1, 1) := by decide +kernel
theorem d_Hill_follow_72 : decode prog_6_method_15_code 72 = .ok (.invokevirtual 61, 3) := by decide +kernel
theorem d_Hill_follow_75 : decode prog_6_method_15_code 75 = .ok (.invokevirtual 82, 3) := by decide +kernel
theorem d_Hill_follow_78 : decode prog_6_method_15_code 78 = .ok (.invokevirtual 85, 3) := by decide +kernel
theorem d_Hill_follow_81 : decode prog_6_method_15_code 81 = .ok (.goto 49, 3) := by decide +kernel
theorem d_Hill_follow_84 : decode prog_6_method_15_code 84 = .ok (.aload_n 0, 1) := by decide +kernel
theorem d_Hill_follow_85 : decode prog_6_method_15_code 85 = .ok (.aload_n 1, 1) := by decide +kernel
theorem d_Hill_follow_86 : decode prog_6_method_15_code 86 = .ok (.invokevirtual 61, 3) := by decide +kernel
theorem d_Hill_follow_89 : decode prog_6_method_15_code 89 = .ok (.invokevirtual 89, 3) := by decide +kernel
theorem d_Hill_follow_92 : decode prog_6_method_15_code 92 = .ok (.goto 38, 3) := by decide +kernel
theorem d_Hill_follow_95 : decode prog_6_method_15_code 95 = .ok (.aload_n 0, 1) := by decide +kernel
theorem d_Hill_follow_96 : decode prog_6_method_15_code 96 = .ok (.getfield 12, 3) := by decide +kernel
theorem d_Hill_follow_99 : decode prog_6_method_15_code 99 = .ok (.aload_n 1, 1) := by decide +kernel
theorem d_Hill_follow_100 : decode prog_6_method_15_code 100 = .ok (.invokevirtual 61, 3) := by decide +kernel
theorem d_Hill_follow_103 : decode prog_6_method_15_code 103 = .ok (.aload_n 1, 1) := by decide +kernel
theorem d_Hill_follow_104 : decode prog_6_method_15_code 104 = .ok (.invokevirtual 68, 3) := by decide +kernel
theorem d_Hill_follow_107 : decode prog_6_method_15_code 107 = .ok (.invokevirtual 93, 3) := by decide +kernel
theorem d_Hill_follow_110 : decode prog_6_method_15_code 110 = .ok (.goto 20, 3) := by decide +kernel
theorem d_Hill_follow_113 : decode prog_6_method_15_code 113 = .ok (.aload_n 0, 1) := by decide +kernel
theorem d_Hill_follow_114 : decode prog_6_method_15_code 114 = .ok (.invokevirtual 97, 3) := by decide +kernel
theorem d_Hill_follow_117 : decode prog_6_method_15_code 117 = .ok (.aload_n 0, 1) := by decide +kernel
theorem d_Hill_follow_118 : decode prog_6_method_15_code 118 = .ok (.dup, 1) := by decide +kernel
theorem d_Hill_follow_119 : decode prog_6_method_15_code 119 = .ok (.getfield 29, 3) := by decide +kernel
theorem d_Hill_follow_122 : decode prog_6_method_15_code 122 = .ok (.iconst 1, 1) := by decide +kernel
theorem d_Hill_follow_123 : decode prog_6_method_15_code 123 = .ok (.iadd, 1) := by decide +kernel
theorem d_Hill_follow_124 : decode prog_6_method_15_code 124 = .ok (.putfield 29, 3) := by decide +kernel
theorem d_Hill_follow_127 : decode prog_6_method_15_code 127 = .ok (.goto 3, 3) := by decide +kernel
theorem d_Hill_follow_130 : decode prog_6_method_15_code 130 = .ok (.return_, 1) := by decide +kernel
theorem d_Hill_blow_0 : decode prog_6_method_16_code 0 = .ok (.aload_n 0, 1) := by decide +kernel
theorem d_Hill_blow_1 : decode prog_6_method_16_code 1 = .ok (.invokevirtual 40, 3) := by decide +kernel
theorem d_Hill_blow_4 : decode prog_6_method_16_code 4 = .ok (.istore_n 2, 1) := by decide +kernel
theorem d_Hill_blow_5 : decode prog_6_method_16_code 5 = .ok (.iconst 0, 1) := by decide +kernel
theorem d_Hill_blow_6 : decode prog_6_method_16_code 6 = .ok (.istore_n 3, 1) := by decide +kernel
theorem d_Hill_blow_7 : decode prog_6_method_16_code 7 = .ok (.iload_n 3, 1) := by decide +kernel
theorem d_Hill_blow_8 : decode prog_6_method_16_code 8 = .ok (.aload_n 0, 1) := by decide +kernel
theorem d_Hill_blow_9 : decode prog_6_method_16_code 9 = .ok (.getfield 18, 3) := by decide +kernel
theorem d_Hill_blow_12 : decode prog_6_method_16_code 12 = .ok (.arraylength, 1) := by decide +kernel
theorem d_Hill_blow_13 : decode prog_6_method_16_code 13 = .ok (.if_icmp .ge 48, 3) := by decide +kernel
theorem d_Hill_blow_16 : decode prog_6_method_16_code 16 = .ok (.aload_n 0, 1) := by decide +kernel
theorem d_Hill_blow_17 : decode prog_6_method_16_code 17 = .ok (.getfield 18, 3) := by decide +kernel
theorem d_Hill_blow_20 : decode prog_6_method_16_code 20 = .ok (.iload_n 3, 1) := by decide +kernel
theorem d_Hill_blow_21 : decode prog_6_method_16_code 21 = .ok (.iaload, 1) := by decide +kernel
theorem d_Hill_blow_22 : decode prog_6_method_16_code 22 = .ok (.istore 4, 2) := by decide +kernel
theorem d_Hill_blow_24 : decode prog_6_method_16_code 24 = .ok (.iload 4, 2) := by decide +kernel
theorem d_Hill_blow_26 : decode prog_6_method_16_code 26 = .ok (.bipush (-6), 2) := by decide +kernel
theorem d_Hill_blow_28 : decode prog_6_method_16_code 28 = .ok (.if_icmp .ne 6, 3) := by decide +kernel
theorem d_Hill_blow_31 : decode prog_6_method_16_code 31 = .ok (.goto 24, 3) := by decide +kernel
theorem d_Hill_blow_34 : decode prog_6_method_16_code 34 = .ok (.aload_n 0, 1) := by decide +kernel
theorem d_Hill_blow_35 : decode prog_6_method_16_code 35 = .ok (.iload_n 3, 1) := by decide +kernel
theorem d_Hill_blow_36 : decode prog_6_method_16_code 36 = .ok (.aload_n 0, 1) := by decide +kernel
theorem d_Hill_blow_37 : decode prog_6_method_16_code 37 = .ok (.getfield 12, 3) := by decide +kernel
theorem d_Hill_blow_40 : decode prog_6_method_16_code 40 = .ok (.iload 4, 2) := by decide +kernel
theorem d_Hill_blow_42 : decode prog_6_method_16_code 42 = .ok (.iconst 1, 1) := by decide +kernel
theorem d_Hill_blow_43 : decode prog_6_method_16_code 43 = .ok (.iload_n 1, 1) := by decide +kernel
theorem d_Hill_blow_44 : decode prog_6_method_16_code 44 = .ok (.invokevirtual 100, 3) := by decide +kernel
theorem d_Hill_blow_47 : decode prog_6_method_16_code 47 = .ok (.iload_n 2, 1) := by decide +kernel
theorem d_Hill_blow_48 : decode prog_6_method_16_code 48 = .ok (.iand, 1) := by decide +kernel
theorem d_Hill_blow_49 : decode prog_6_method_16_code 49 = .ok (.invokestatic 74, 3) := by decide +kernel
theorem d_Hill_blow_52 : decode prog_6_method_16_code 52 = .ok (.invokevirtual 104, 3) := by decide +kernel
theorem d_Hill_blow_55 : decode prog_6_method_16_code 55 = .ok (.iinc 3 1, 3) := by decide +kernel
theorem d_Hill_blow_58 : decode prog_6_method_16_code 58 = .ok (.goto (-51), 3) := by decide +kernel
theorem d_Hill_blow_61 : decode prog_6_method_16_code 61 = .ok (.return_, 1) := by decide +kernel
theorem d_Hill_chip_0 : decode prog_6_method_17_code 0 = .ok (.aload_n 0, 1) := by decide +kernel
theorem d_Hill_chip_1 : decode prog_6_method_17_code 1 = .ok (.iload_n 1, 1) := by decide +kernel
theorem d_Hill_chip_2 : decode prog_6_method_17_code 2 = .ok (.invokevirtual 82, 3) := by decide +kernel
theorem d_Hill_chip_5 : decode prog_6_method_17_code 5 = .ok (.iload_n 2, 1) := by decide +kernel
theorem d_Hill_chip_6 : decode prog_6_method_17_code 6 = .ok (.iadd, 1) := by decide +kernel
theorem d_Hill_chip_7 : decode prog_6_method_17_code 7 = .ok (.bipush 9, 2) := by decide +kernel
theorem d_Hill_chip_9 : decode prog_6_method_17_code 9 = .ok (.invokestatic 107, 3) := by decide +kernel
theorem d_Hill_chip_12 : decode prog_6_method_17_code 12 = .ok (.istore_n 3, 1) := by decide +kernel
theorem d_Hill_chip_13 : decode prog_6_method_17_code 13 = .ok (.iload_n 3, 1) := by decide +kernel
theorem d_Hill_chip_14 : decode prog_6_method_17_code 14 = .ok (.bipush 9, 2) := by decide +kernel
theorem d_Hill_chip_16 : decode prog_6_method_17_code 16 = .ok (.if_icmp .ge 17, 3) := by decide +kernel
theorem d_Hill_chip_19 : decode prog_6_method_17_code 19 = .ok (.aload_n 0, 1) := by decide +kernel
theorem d_Hill_chip_20 : decode prog_6_method_17_code 20 = .ok (.iload_n 1, 1) := by decide +kernel
theorem d_Hill_chip_21 : decode prog_6_method_17_code 21 = .ok (.aload_n 0, 1) := by decide +kernel
theorem d_Hill_chip_22 : decode prog_6_method_17_code 22 = .ok (.iload_n 1, 1) := by decide +kernel
theorem d_Hill_chip_23 : decode prog_6_method_17_code 23 = .ok (.invokevirtual 36, 3) := by decide +kernel
theorem d_Hill_chip_26 : decode prog_6_method_17_code 26 = .ok (.iload_n 3, 1) := by decide +kernel
theorem d_Hill_chip_27 : decode prog_6_method_17_code 27 = .ok (.invokevirtual 85, 3) := by decide +kernel
theorem d_Hill_chip_30 : decode prog_6_method_17_code 30 = .ok (.goto 23, 3) := by decide +kernel
theorem d_Hill_chip_33 : decode prog_6_method_17_code 33 = .ok (.aload_n 0, 1) := by decide +kernel
theorem d_Hill_chip_34 : decode prog_6_method_17_code 34 = .ok (.iload_n 1, 1) := by decide +kernel
theorem d_Hill_chip_35 : decode prog_6_method_17_code 35 = .ok (.bipush (-6), 2) := by decide +kernel
theorem d_Hill_chip_37 : decode prog_6_method_17_code 37 = .ok (.iload_n 3, 1) := by decide +kernel
theorem d_Hill_chip_38 : decode prog_6_method_17_code 38 = .ok (.invokevirtual 85, 3) := by decide +kernel
theorem d_Hill_chip_41 : decode prog_6_method_17_code 41 = .ok (.aload_n 0, 1) := by decide +kernel
theorem d_Hill_chip_42 : decode prog_6_method_17_code 42 = .ok (.dup, 1) := by decide +kernel
theorem d_Hill_chip_43 : decode prog_6_method_17_code 43 = .ok (.getfield 25, 3) := by decide +kernel
theorem d_Hill_chip_46 : decode prog_6_method_17_code 46 = .ok (.iconst 1, 1) := by decide +kernel
theorem d_Hill_chip_47 : decode prog_6_method_17_code 47 = .ok (.iload_n 1, 1) := by decide +kernel
theorem d_Hill_chip_48 : decode prog_6_method_17_code 48 = .ok (.ishl, 1) := by decide +kernel
theorem d_Hill_chip_49 : decode prog_6_method_17_code 49 = .ok (.ior, 1) := by decide +kernel
theorem d_Hill_chip_50 : decode prog_6_method_17_code 50 = .ok (.putfield 25, 3) := by decide +kernel
theorem d_Hill_chip_53 : decode prog_6_method_17_code 53 = .ok (.return_, 1) := by decide +kernel
theorem d_Hill_packAll_0 : decode prog_6_method_18_code 0 = .ok (.iconst 0, 1) := by decide +kernel
theorem d_Hill_packAll_1 : decode prog_6_method_18_code 1 = .ok (.istore_n 1, 1) := by decide +kernel
theorem d_Hill_packAll_2 : decode prog_6_method_18_code 2 = .ok (.iload_n 1, 1) := by decide +kernel
theorem d_Hill_packAll_3 : decode prog_6_method_18_code 3 = .ok (.aload_n 0, 1) := by decide +kernel
theorem d_Hill_packAll_4 : decode prog_6_method_18_code 4 = .ok (.getfield 18, 3) := by decide +kernel
theorem d_Hill_packAll_7 : decode prog_6_method_18_code 7 = .ok (.arraylength, 1) := by decide +kernel
theorem d_Hill_packAll_8 : decode prog_6_method_18_code 8 = .ok (.if_icmp .ge 17, 3) := by decide +kernel
theorem d_Hill_packAll_11 : decode prog_6_method_18_code 11 = .ok (.aload_n 0, 1) := by decide +kernel
theorem d_Hill_packAll_12 : decode prog_6_method_18_code 12 = .ok (.getfield 18, 3) := by decide +kernel
theorem d_Hill_packAll_15 : decode prog_6_method_18_code 15 = .ok (.iload_n 1, 1) := by decide +kernel
theorem d_Hill_packAll_16 : decode prog_6_method_18_code 16 = .ok (.bipush (-6), 2) := by decide +kernel
theorem d_Hill_packAll_18 : decode prog_6_method_18_code 18 = .ok (.iastore, 1) := by decide +kernel
theorem d_Hill_packAll_19 : decode prog_6_method_18_code 19 = .ok (.iinc 1 1, 3) := by decide +kernel
theorem d_Hill_packAll_22 : decode prog_6_method_18_code 22 = .ok (.goto (-20), 3) := by decide +kernel
theorem d_Hill_packAll_25 : decode prog_6_method_18_code 25 = .ok (.return_, 1) := by decide +kernel
theorem d_Image_init_0 : decode prog_7_method_1_code 0 = .ok (.aload_n 0, 1) := by decide +kernel
theorem d_Image_init_1 : decode prog_7_method_1_code 1 = .ok (.invokespecial 1, 3) := by decide +kernel
theorem d_Image_init_4 : decode prog_7_method_1_code 4 = .ok (.aload_n 0, 1) := by decide +kernel
theorem d_Image_init_5 : decode prog_7_method_1_code 5 = .ok (.new 7, 3) := by decide +kernel
theorem d_Image_init_8 : decode prog_7_method_1_code 8 = .ok (.dup, 1) := by decide +kernel
theorem d_Image_init_9 : decode prog_7_method_1_code 9 = .ok (.invokespecial 9, 3) := by decide +kernel
theorem d_Image_init_12 : decode prog_7_method_1_code 12 = .ok (.putfield 10, 3) := by decide +kernel
theorem d_Image_init_15 : decode prog_7_method_1_code 15 = .ok (.aload_n 0, 1) := by decide +kernel
theorem d_Image_init_16 : decode prog_7_method_1_code 16 = .ok (.new 16, 3) := by decide +kernel
theorem d_Image_init_19 : decode prog_7_method_1_code 19 = .ok (.dup, 1) := by decide +kernel
theorem d_Image_init_20 : decode prog_7_method_1_code 20 = .ok (.invokespecial 18, 3) := by decide +kernel
theorem d_Image_init_23 : decode prog_7_method_1_code 23 = .ok (.putfield 19, 3) := by decide +kernel
theorem d_Image_init_26 : decode prog_7_method_1_code 26 = .ok (.aload_n 0, 1) := by decide +kernel
theorem d_Image_init_27 : decode prog_7_method_1_code 27 = .ok (.iconst 0, 1) := by decide +kernel
theorem d_Image_init_28 : decode prog_7_method_1_code 28 = .ok (.putfield 23, 3) := by decide +kernel
theorem d_Image_init_31 : decode prog_7_method_1_code 31 = .ok (.return_, 1) := by decide +kernel
theorem d_Image_isKept_0 : decode prog_7_method_2_code 0 = .ok (.aload_n 0, 1) := by decide +kernel
theorem d_Image_isKept_1 : decode prog_7_method_2_code 1 = .ok (.getfield 23, 3) := by decide +kernel
theorem d_Image_isKept_4 : decode prog_7_method_2_code 4 = .ok (.ireturn, 1) := by decide +kernel
theorem d_Image_keep_0 : decode prog_7_method_3_code 0 = .ok (.aload_n 0, 1) := by decide +kernel
theorem d_Image_keep_1 : decode prog_7_method_3_code 1 = .ok (.getfield 10, 3) := by decide +kernel
theorem d_Image_keep_4 : decode prog_7_method_3_code 4 = .ok (.aload_n 1, 1) := by decide +kernel
theorem d_Image_keep_5 : decode prog_7_method_3_code 5 = .ok (.invokevirtual 27, 3) := by decide +kernel
theorem d_Image_keep_8 : decode prog_7_method_3_code 8 = .ok (.aload_n 0, 1) := by decide +kernel
theorem d_Image_keep_9 : decode prog_7_method_3_code 9 = .ok (.getfield 19, 3) := by decide +kernel
theorem d_Image_keep_12 : decode prog_7_method_3_code 12 = .ok (.aload_n 2, 1) := by decide +kernel
theorem d_Image_keep_13 : decode prog_7_method_3_code 13 = .ok (.invokevirtual 31, 3) := by decide +kernel
theorem d_Image_keep_16 : decode prog_7_method_3_code 16 = .ok (.aload_n 0, 1) := by decide +kernel
theorem d_Image_keep_17 : decode prog_7_method_3_code 17 = .ok (.iconst 1, 1) := by decide +kernel
theorem d_Image_keep_18 : decode prog_7_method_3_code 18 = .ok (.putfield 23, 3) := by decide +kernel
theorem d_Image_keep_21 : decode prog_7_method_3_code 21 = .ok (.return_, 1) := by decide +kernel
theorem d_Image_bringBack_0 : decode prog_7_method_4_code 0 = .ok (.aload_n 1, 1) := by decide +kernel
theorem d_Image_bringBack_1 : decode prog_7_method_4_code 1 = .ok (.aload_n 0, 1) := by decide +kernel
theorem d_Image_bringBack_2 : decode prog_7_method_4_code 2 = .ok (.getfield 10, 3) := by decide +kernel
theorem d_Image_bringBack_5 : decode prog_7_method_4_code 5 = .ok (.invokevirtual 27, 3) := by decide +kernel
theorem d_Image_bringBack_8 : decode prog_7_method_4_code 8 = .ok (.aload_n 2, 1) := by decide +kernel
theorem d_Image_bringBack_9 : decode prog_7_method_4_code 9 = .ok (.aload_n 0, 1) := by decide +kernel
theorem d_Image_bringBack_10 : decode prog_7_method_4_code 10 = .ok (.getfield 19, 3) := by decide +kernel
theorem d_Image_bringBack_13 : decode prog_7_method_4_code 13 = .ok (.invokevirtual 31, 3) := by decide +kernel
theorem d_Image_bringBack_16 : decode prog_7_method_4_code 16 = .ok (.return_, 1) := by decide +kernel
theorem d_Pad_init_0 : decode prog_8_method_1_code 0 = .ok (.aload_n 0, 1) := by decide +kernel
theorem d_Pad_init_1 : decode prog_8_method_1_code 1 = .ok (.invokespecial 3, 3) := by decide +kernel
theorem d_Pad_init_4 : decode prog_8_method_1_code 4 = .ok (.aload_n 0, 1) := by decide +kernel
theorem d_Pad_init_5 : decode prog_8_method_1_code 5 = .ok (.bipush 60, 2) := by decide +kernel
theorem d_Pad_init_7 : decode prog_8_method_1_code 7 = .ok (.newarray .int, 2) := by decide +kernel
theorem d_Pad_init_9 : decode prog_8_method_1_code 9 = .ok (.putfield 9, 3) := by decide +kernel
theorem d_Pad_init_12 : decode prog_8_method_1_code 12 = .ok (.aload_n 0, 1) := by decide +kernel
theorem d_Pad_init_13 : decode prog_8_method_1_code 13 = .ok (.iconst 0, 1) := by decide +kernel
theorem d_Pad_init_14 : decode prog_8_method_1_code 14 = .ok (.putfield 15, 3) := by decide +kernel
theorem d_Pad_init_17 : decode prog_8_method_1_code 17 = .ok (.return_, 1) := by decide +kernel
theorem d_Pad_size_0 : decode prog_8_method_2_code 0 = .ok (.aload_n 0, 1) := by decide +kernel
theorem d_Pad_size_1 : decode prog_8_method_2_code 1 = .ok (.getfield 15, 3) := by decide +kernel
theorem d_Pad_size_4 : decode prog_8_method_2_code 4 = .ok (.ireturn, 1) := by decide +kernel
theorem d_Pad_add_0 : decode prog_8_method_3_code 0 = .ok (.aload_n 0, 1) := by decide +kernel
theorem d_Pad_add_1 : decode prog_8_method_3_code 1 = .ok (.getfield 15, 3) := by decide +kernel
theorem d_Pad_add_4 : decode prog_8_method_3_code 4 = .ok (.ifCond .lt 15, 3) := by decide +kernel
theorem d_Pad_add_7 : decode prog_8_method_3_code 7 = .ok (.aload_n 0, 1) := by decide +kernel
theorem d_Pad_add_8 : decode prog_8_method_3_code 8 = .ok (.getfield 15, 3) := by decide +kernel
theorem d_Pad_add_11 : decode prog_8_method_3_code 11 = .ok (.aload_n 0, 1) := by decide +kernel
theorem d_Pad_add_12 : decode prog_8_method_3_code 12 = .ok (.getfield 9, 3) := by decide +kernel
theorem d_Pad_add_15 : decode prog_8_method_3_code 15 = .ok (.arraylength, 1) := by decide +kernel
theorem d_Pad_add_16 : decode prog_8_method_3_code 16 = .ok (.if_icmp .lt 4, 3) := by decide +kernel
theorem d_Pad_add_19 : decode prog_8_method_3_code 19 = .ok (.return_, 1) := by decide +kernel
theorem d_Pad_add_20 : decode prog_8_method_3_code 20 = .ok (.aload_n 0, 1) := by decide +kernel
theorem d_Pad_add_21 : decode prog_8_method_3_code 21 = .ok (.getfield 9, 3) := by decide +kernel
theorem d_Pad_add_24 : decode prog_8_method_3_code 24 = .ok (.aload_n 0, 1) := by decide +kernel
theorem d_Pad_add_25 : decode prog_8_method_3_code 25 = .ok (.getfield 15, 3) := by decide +kernel
theorem d_Pad_add_28 : decode prog_8_method_3_code 28 = .ok (.iload_n 1, 1) := by decide +kernel
theorem d_Pad_add_29 : decode prog_8_method_3_code 29 = .ok (.iastore, 1) := by decide +kernel
theorem d_Pad_add_30 : decode prog_8_method_3_code 30 = .ok (.aload_n 0, 1) := by decide +kernel
theorem d_Pad_add_31 : decode prog_8_method_3_code 31 = .ok (.dup, 1) := by decide +kernel
theorem d_Pad_add_32 : decode prog_8_method_3_code 32 = .ok (.getfield 15, 3) := by decide +kernel
theorem d_Pad_add_35 : decode prog_8_method_3_code 35 = .ok (.iconst 1, 1) := by decide +kernel
theorem d_Pad_add_36 : decode prog_8_method_3_code 36 = .ok (.iadd, 1) := by decide +kernel
theorem d_Pad_add_37 : decode prog_8_method_3_code 37 = .ok (.putfield 15, 3) := by decide +kernel
theorem d_Pad_add_40 : decode prog_8_method_3_code 40 = .ok (.return_, 1) := by decide +kernel
theorem d_Pad_clear_0 : decode prog_8_method_4_code 0 = .ok (.aload_n 0, 1) := by decide +kernel
theorem d_Pad_clear_1 : decode prog_8_method_4_code 1 = .ok (.iconst 0, 1) := by decide +kernel
theorem d_Pad_clear_2 : decode prog_8_method_4_code 2 = .ok (.putfield 15, 3) := by decide +kernel
theorem d_Pad_clear_5 : decode prog_8_method_4_code 5 = .ok (.return_, 1) := by decide +kernel
theorem d_Pad_firstWrong_0 : decode prog_8_method_5_code 0 = .ok (.iconst 0, 1) := by decide +kernel
theorem d_Pad_firstWrong_1 : decode prog_8_method_5_code 1 = .ok (.istore_n 1, 1) := by decide +kernel
theorem d_Pad_firstWrong_2 : decode prog_8_method_5_code 2 = .ok (.iconst 0, 1) := by decide +kernel
theorem d_Pad_firstWrong_3 : decode prog_8_method_5_code 3 = .ok (.istore_n 2, 1) := by decide +kernel
theorem d_Pad_firstWrong_4 : decode prog_8_method_5_code 4 = .ok (.iconst 0, 1) := by decide +kernel
theorem d_Pad_firstWrong_5 : decode prog_8_method_5_code 5 = .ok (.istore_n 3, 1) := by decide +kernel
theorem d_Pad_firstWrong_6 : decode prog_8_method_5_code 6 = .ok (.iload_n 3, 1) := by decide +kernel
theorem d_Pad_firstWrong_7 : decode prog_8_method_5_code 7 = .ok (.aload_n 0, 1) := by decide +kernel
theorem d_Pad_firstWrong_8 : decode prog_8_method_5_code 8 = .ok (.getfield 15, 3) := by decide +kernel
theorem d_Pad_firstWrong_11 : decode prog_8_method_5_code 11 = .ok (.if_icmp .ge 66, 3) := by decide +kernel
theorem d_Pad_firstWrong_14 : decode prog_8_method_5_code 14 = .ok (.iload_n 3, 1) := by decide +kernel
theorem d_Pad_firstWrong_15 : decode prog_8_method_5_code 15 = .ok (.aload_n 0, 1) := by decide +kernel
theorem d_Pad_firstWrong_16 : decode prog_8_method_5_code 16 = .ok (.getfield 9, 3) := by decide +kernel
theorem d_Pad_firstWrong_19 : decode prog_8_method_5_code 19 = .ok (.arraylength, 1) := by decide +kernel
theorem d_Pad_firstWrong_20 : decode prog_8_method_5_code 20 = .ok (.if_icmp .ge 57, 3) := by decide +kernel
theorem d_Pad_firstWrong_23 : decode prog_8_method_5_code 23 = .ok (.aload_n 0, 1) := by decide +kernel
theorem d_Pad_firstWrong_24 : decode prog_8_method_5_code 24 = .ok (.getfield 9, 3) := by decide +kernel
theorem d_Pad_firstWrong_27 : decode prog_8_method_5_code 27 = .ok (.iload_n 3, 1) := by decide +kernel
theorem d_Pad_firstWrong_28 : decode prog_8_method_5_code 28 = .ok (.iaload, 1) := by decide +kernel
theorem d_Pad_firstWrong_29 : decode prog_8_method_5_code 29 = .ok (.istore 4, 2) := by decide +kernel
theorem d_Pad_firstWrong_31 : decode prog_8_method_5_code 31 = .ok (.iload_n 2, 1) := by decide +kernel
theorem d_Pad_firstWrong_32 : decode prog_8_method_5_code 32 = .ok (.ifCond .le 20, 3) := by decide +kernel
theorem d_Pad_firstWrong_35 : decode prog_8_method_5_code 35 = .ok (.iload_n 1, 1) := by decide +kernel
theorem d_Pad_firstWrong_36 : decode prog_8_method_5_code 36 = .ok (.iload 4, 2) := by decide +kernel
theorem d_Pad_firstWrong_38 : decode prog_8_method_5_code 38 = .ok (.invokestatic 19, 3) := by decide +kernel
theorem d_Pad_firstWrong_41 : decode prog_8_method_5_code 41 = .ok (.ifCond .ne 5, 3) := by decide +kernel
theorem d_Pad_firstWrong_44 : decode prog_8_method_5_code 44 = .ok (.iload_n 3, 1) := by decide +kernel
theorem d_Pad_firstWrong_45 : decode prog_8_method_5_code 45 = .ok (.ireturn, 1) := by decide +kernel
theorem d_Pad_firstWrong_46 : decode prog_8_method_5_code 46 = .ok (.iinc 2 (-1), 3) := by decide +kernel
theorem d_Pad_firstWrong_49 : decode prog_8_method_5_code 49 = .ok (.goto 22, 3) := by decide +kernel
theorem d_Pad_firstWrong_52 : decode prog_8_method_5_code 52 = .ok (.iload 4, 2) := by decide +kernel
theorem d_Pad_firstWrong_54 : decode prog_8_method_5_code 54 = .ok (.invokestatic 23, 3) := by decide +kernel
theorem d_Pad_firstWrong_57 : decode prog_8_method_5_code 57 = .ok (.ifCond .ne 5, 3) := by decide +kernel
theorem d_Pad_firstWrong_60 : decode prog_8_method_5_code 60 = .ok (.iload_n 3, 1) := by decide +kernel
theorem d_Pad_firstWrong_61 : decode prog_8_method_5_code 61 = .ok (.ireturn, 1) := by decide +kernel
theorem d_Pad_firstWrong_62 : decode prog_8_method_5_code 62 = .ok (.iload 4, 2) := by decide +kernel
theorem d_Pad_firstWrong_64 : decode prog_8_method_5_code 64 = .ok (.istore_n 1, 1) := by decide +kernel
theorem d_Pad_firstWrong_65 : decode prog_8_method_5_code 65 = .ok (.iload 4, 2) := by decide +kernel
theorem d_Pad_firstWrong_67 : decode prog_8_method_5_code 67 = .ok (.invokestatic 27, 3) := by decide +kernel
theorem d_Pad_firstWrong_70 : decode prog_8_method_5_code 70 = .ok (.istore_n 2, 1) := by decide +kernel
theorem d_Pad_firstWrong_71 : decode prog_8_method_5_code 71 = .ok (.iinc 3 1, 3) := by decide +kernel
theorem d_Pad_firstWrong_74 : decode prog_8_method_5_code 74 = .ok (.goto (-68), 3) := by decide +kernel
theorem d_Pad_firstWrong_77 : decode prog_8_method_5_code 77 = .ok (.iload_n 2, 1) := by decide +kernel
theorem d_Pad_firstWrong_78 : decode prog_8_method_5_code 78 = .ok (.ifCond .le 10, 3) := by decide +kernel
theorem d_Pad_firstWrong_81 : decode prog_8_method_5_code 81 = .ok (.aload_n 0, 1) := by decide +kernel
theorem d_Pad_firstWrong_82 : decode prog_8_method_5_code 82 = .ok (.getfield 15, 3) := by decide +kernel
theorem d_Pad_firstWrong_85 : decode prog_8_method_5_code 85 = .ok (.goto 5, 3) := by decide +kernel
theorem d_Pad_firstWrong_88 : decode prog_8_method_5_code 88 = .ok (.bipush (-6), 2) := by decide +kernel
theorem d_Pad_firstWrong_90 : decode prog_8_method_5_code 90 = .ok (.ireturn, 1) := by decide +kernel
theorem d_Pad_read_0 : decode prog_8_method_6_code 0 = .ok (.aload_n 0, 1) := by decide +kernel
theorem d_Pad_read_1 : decode prog_8_method_6_code 1 = .ok (.iload_n 1, 1) := by decide +kernel
theorem d_Pad_read_2 : decode prog_8_method_6_code 2 = .ok (.invokevirtual 31, 3) := by decide +kernel
theorem d_Pad_read_5 : decode prog_8_method_6_code 5 = .ok (.istore_n 3, 1) := by decide +kernel
theorem d_Pad_read_6 : decode prog_8_method_6_code 6 = .ok (.aload_n 0, 1) := by decide +kernel
theorem d_Pad_read_7 : decode prog_8_method_6_code 7 = .ok (.iload_n 1, 1) := by decide +kernel
theorem d_Pad_read_8 : decode prog_8_method_6_code 8 = .ok (.iconst 1, 1) := by decide +kernel
theorem d_Pad_read_9 : decode prog_8_method_6_code 9 = .ok (.iadd, 1) := by decide +kernel
theorem d_Pad_read_10 : decode prog_8_method_6_code 10 = .ok (.invokevirtual 31, 3) := by decide +kernel
theorem d_Pad_read_13 : decode prog_8_method_6_code 13 = .ok (.istore 4, 2) := by decide +kernel
theorem d_Pad_read_15 : decode prog_8_method_6_code 15 = .ok (.iload_n 3, 1) := by decide +kernel
theorem d_Pad_read_16 : decode prog_8_method_6_code 16 = .ok (.invokestatic 34, 3) := by decide +kernel
theorem d_Pad_read_19 : decode prog_8_method_6_code 19 = .ok (.ifCond .eq 40, 3) := by decide +kernel
theorem d_Pad_read_22 : decode prog_8_method_6_code 22 = .ok (.iload 4, 2) := by decide +kernel
theorem d_Pad_read_24 : decode prog_8_method_6_code 24 = .ok (.bipush 95, 2) := by decide +kernel
theorem d_Pad_read_26 : decode prog_8_method_6_code 26 = .ok (.if_icmp .ne 16, 3) := by decide +kernel
theorem d_Pad_read_29 : decode prog_8_method_6_code 29 = .ok (.aload_n 2, 1) := by decide +kernel
theorem d_Pad_read_30 : decode prog_8_method_6_code 30 = .ok (.iconst 1, 1) := by decide +kernel
theorem d_Pad_read_31 : decode prog_8_method_6_code 31 = .ok (.iload_n 3, 1) := by decide +kernel
theorem d_Pad_read_32 : decode prog_8_method_6_code 32 = .ok (.bipush 65, 2) := by decide +kernel
theorem d_Pad_read_34 : decode prog_8_method_6_code 34 = .ok (.isub, 1) := by decide +kernel
theorem d_Pad_read_35 : decode prog_8_method_6_code 35 = .ok (.iconst 0, 1) := by decide +kernel
theorem d_Pad_read_36 : decode prog_8_method_6_code 36 = .ok (.invokevirtual 39, 3) := by decide +kernel
theorem d_Pad_read_39 : decode prog_8_method_6_code 39 = .ok (.goto 76, 3) := by decide +kernel
theorem d_Pad_read_42 : decode prog_8_method_6_code 42 = .ok (.aload_n 2, 1) := by decide +kernel
theorem d_Pad_read_43 : decode prog_8_method_6_code 43 = .ok (.iconst 0, 1) := by decide +kernel
theorem d_Pad_read_44 : decode prog_8_method_6_code 44 = .ok (.iload_n 3, 1) := by decide +kernel
theorem d_Pad_read_45 : decode prog_8_method_6_code 45 = .ok (.bipush 65, 2) := by decide +kernel
theorem d_Pad_read_47 : decode prog_8_method_6_code 47 = .ok (.isub, 1) := by decide +kernel
theorem d_Pad_read_48 : decode prog_8_method_6_code 48 = .ok (.iload 4, 2) := by decide +kernel
theorem d_Pad_read_50 : decode prog_8_method_6_code 50 = .ok (.bipush 97, 2) := by decide +kernel
theorem d_Pad_read_52 : decode prog_8_method_6_code 52 = .ok (.isub, 1) := by decide +kernel
theorem d_Pad_read_53 : decode prog_8_method_6_code 53 = .ok (.invokevirtual 39, 3) := by decide +kernel
theorem d_Pad_read_56 : decode prog_8_method_6_code 56 = .ok (.goto 59, 3) := by decide +kernel
theorem d_Pad_read_59 : decode prog_8_method_6_code 59 = .ok (.iload_n 3, 1) := by decide +kernel
theorem d_Pad_read_60 : decode prog_8_method_6_code 60 = .ok (.bipush 100, 2) := by decide +kernel
theorem d_Pad_read_62 : decode prog_8_method_6_code 62 = .ok (.if_icmp .ne 17, 3) := by decide +kernel
theorem d_Pad_read_65 : decode prog_8_method_6_code 65 = .ok (.aload_n 2, 1) := by decide +kernel
theorem d_Pad_read_66 : decode prog_8_method_6_code 66 = .ok (.iconst 2, 1) := by decide +kernel
theorem d_Pad_read_67 : decode prog_8_method_6_code 67 = .ok (.iload 4, 2) := by decide +kernel
theorem d_Pad_read_69 : decode prog_8_method_6_code 69 = .ok (.bipush 48, 2) := by decide +kernel
theorem d_Pad_read_71 : decode prog_8_method_6_code 71 = .ok (.isub, 1) := by decide +kernel
theorem d_Pad_read_72 : decode prog_8_method_6_code 72 = .ok (.iconst 0, 1) := by decide +kernel
theorem d_Pad_read_73 : decode prog_8_method_6_code 73 = .ok (.invokevirtual 39, 3) := by decide +kernel
theorem d_Pad_read_76 : decode prog_8_method_6_code 76 = .ok (.goto 39, 3) := by decide +kernel
theorem d_Pad_read_79 : decode prog_8_method_6_code 79 = .ok (.iload_n 3, 1) := by decide +kernel
theorem d_Pad_read_80 : decode prog_8_method_6_code 80 = .ok (.bipush 98, 2) := by decide +kernel
theorem d_Pad_read_82 : decode prog_8_method_6_code 82 = .ok (.if_icmp .ne 26, 3) := by decide +kernel
theorem d_Pad_read_85 : decode prog_8_method_6_code 85 = .ok (.aload_n 2, 1) := by decide +kernel
theorem d_Pad_read_86 : decode prog_8_method_6_code 86 = .ok (.iconst 3, 1) := by decide +kernel
theorem d_Pad_read_87 : decode prog_8_method_6_code 87 = .ok (.iload 4, 2) := by decide +kernel
theorem d_Pad_read_89 : decode prog_8_method_6_code 89 = .ok (.bipush 97, 2) := by decide +kernel
theorem d_Pad_read_91 : decode prog_8_method_6_code 91 = .ok (.isub, 1) := by decide +kernel
theorem d_Pad_read_92 : decode prog_8_method_6_code 92 = .ok (.aload_n 0, 1) := by decide +kernel
theorem d_Pad_read_93 : decode prog_8_method_6_code 93 = .ok (.iload_n 1, 1) := by decide +kernel
theorem d_Pad_read_94 : decode prog_8_method_6_code 94 = .ok (.iconst 2, 1) := by decide +kernel
theorem d_Pad_read_95 : decode prog_8_method_6_code 95 = .ok (.iadd, 1) := by decide +kernel
theorem d_Pad_read_96 : decode prog_8_method_6_code 96 = .ok (.invokevirtual 31, 3) := by decide +kernel
theorem d_Pad_read_99 : decode prog_8_method_6_code 99 = .ok (.bipush 97, 2) := by decide +kernel
theorem d_Pad_read_101 : decode prog_8_method_6_code 101 = .ok (.isub, 1) := by decide +kernel
theorem d_Pad_read_102 : decode prog_8_method_6_code 102 = .ok (.invokevirtual 39, 3) := by decide +kernel
theorem d_Pad_read_105 : decode prog_8_method_6_code 105 = .ok (.goto 10, 3) := by decide +kernel
theorem d_Pad_read_108 : decode prog_8_method_6_code 108 = .ok (.aload_n 2, 1) := by decide +kernel
theorem d_Pad_read_109 : decode prog_8_method_6_code 109 = .ok (.iconst 4, 1) := by decide +kernel
theorem d_Pad_read_110 : decode prog_8_method_6_code 110 = .ok (.iconst 0, 1) := by decide +kernel
theorem d_Pad_read_111 : decode prog_8_method_6_code 111 = .ok (.iconst 0, 1) := by decide +kernel
theorem d_Pad_read_112 : decode prog_8_method_6_code 112 = .ok (.invokevirtual 39, 3) := by decide +kernel
theorem d_Pad_read_115 : decode prog_8_method_6_code 115 = .ok (.iload_n 1, 1) := by decide +kernel
theorem d_Pad_read_116 : decode prog_8_method_6_code 116 = .ok (.iconst 1, 1) := by decide +kernel
theorem d_Pad_read_117 : decode prog_8_method_6_code 117 = .ok (.iadd, 1) := by decide +kernel
theorem d_Pad_read_118 : decode prog_8_method_6_code 118 = .ok (.iload_n 3, 1) := by decide +kernel
theorem d_Pad_read_119 : decode prog_8_method_6_code 119 = .ok (.invokestatic 27, 3) := by decide +kernel
theorem d_Pad_read_122 : decode prog_8_method_6_code 122 = .ok (.iadd, 1) := by decide +kernel
theorem d_Pad_read_123 : decode prog_8_method_6_code 123 = .ok (.ireturn, 1) := by decide +kernel
theorem d_Pad_signAt_0 : decode prog_8_method_7_code 0 = .ok (.iload_n 1, 1) := by decide +kernel
theorem d_Pad_signAt_1 : decode prog_8_method_7_code 1 = .ok (.ifCond .lt 29, 3) := by decide +kernel
theorem d_Pad_signAt_4 : decode prog_8_method_7_code 4 = .ok (.iload_n 1, 1) := by decide +kernel
theorem d_Pad_signAt_5 : decode prog_8_method_7_code 5 = .ok (.aload_n 0, 1) := by decide +kernel
theorem d_Pad_signAt_6 : decode prog_8_method_7_code 6 = .ok (.getfield 15, 3) := by decide +kernel
theorem d_Pad_signAt_9 : decode prog_8_method_7_code 9 = .ok (.if_icmp .ge 21, 3) := by decide +kernel
theorem d_Pad_signAt_12 : decode prog_8_method_7_code 12 = .ok (.iload_n 1, 1) := by decide +kernel
theorem d_Pad_signAt_13 : decode prog_8_method_7_code 13 = .ok (.aload_n 0, 1) := by decide +kernel
theorem d_Pad_signAt_14 : decode prog_8_method_7_code 14 = .ok (.getfield 9, 3) := by decide +kernel
theorem d_Pad_signAt_17 : decode prog_8_method_7_code 17 = .ok (.arraylength, 1) := by decide +kernel
theorem d_Pad_signAt_18 : decode prog_8_method_7_code 18 = .ok (.if_icmp .ge 12, 3) := by decide +kernel
theorem d_Pad_signAt_21 : decode prog_8_method_7_code 21 = .ok (.aload_n 0, 1) := by decide +kernel
theorem d_Pad_signAt_22 : decode prog_8_method_7_code 22 = .ok (.getfield 9, 3) := by decide +kernel
theorem d_Pad_signAt_25 : decode prog_8_method_7_code 25 = .ok (.iload_n 1, 1) := by decide +kernel
theorem d_Pad_signAt_26 : decode prog_8_method_7_code 26 = .ok (.iaload, 1) := by decide +kernel
theorem d_Pad_signAt_27 : decode prog_8_method_7_code 27 = .ok (.goto 4, 3) := by decide +kernel
theorem d_Pad_signAt_30 : decode prog_8_method_7_code 30 = .ok (.iconst 0, 1) := by decide +kernel
theorem d_Pad_signAt_31 : decode prog_8_method_7_code 31 = .ok (.ireturn, 1) := by decide +kernel
theorem d_Pad_isHead_0 : decode prog_8_method_8_code 0 = .ok (.iload_n 0, 1) := by decide +kernel
theorem d_Pad_isHead_1 : decode prog_8_method_8_code 1 = .ok (.invokestatic 34, 3) := by decide +kernel
theorem d_Pad_isHead_4 : decode prog_8_method_8_code 4 = .ok (.ifCond .ne 21, 3) := by decide +kernel
theorem d_Pad_isHead_7 : decode prog_8_method_8_code 7 = .ok (.iload_n 0, 1) := by decide +kernel
theorem d_Pad_isHead_8 : decode prog_8_method_8_code 8 = .ok (.bipush 100, 2) := by decide +kernel
theorem d_Pad_isHead_10 : decode prog_8_method_8_code 10 = .ok (.if_icmp .eq 15, 3) := by decide +kernel
theorem d_Pad_isHead_13 : decode prog_8_method_8_code 13 = .ok (.iload_n 0, 1) := by decide +kernel
theorem d_Pad_isHead_14 : decode prog_8_method_8_code 14 = .ok (.bipush 98, 2) := by decide +kernel
theorem d_Pad_isHead_16 : decode prog_8_method_8_code 16 = .ok (.if_icmp .eq 9, 3) := by decide +kernel
theorem d_Pad_isHead_19 : decode prog_8_method_8_code 19 = .ok (.iload_n 0, 1) := by decide +kernel
theorem d_Pad_isHead_20 : decode prog_8_method_8_code 20 = .ok (.bipush 46, 2) := by decide +kernel
theorem d_Pad_isHead_22 : decode prog_8_method_8_code 22 = .ok (.if_icmp .ne 7, 3) := by decide +kernel
theorem d_Pad_isHead_25 : decode prog_8_method_8_code 25 = .ok (.iconst 1, 1) := by decide +kernel
theorem d_Pad_isHead_26 : decode prog_8_method_8_code 26 = .ok (.goto 4, 3) := by decide +kernel
theorem d_Pad_isHead_29 : decode prog_8_method_8_code 29 = .ok (.iconst 0, 1) := by decide +kernel
theorem d_Pad_isHead_30 : decode prog_8_method_8_code 30 = .ok (.ireturn, 1) := by decide +kernel
theorem d_Pad_signsAfter_0 : decode prog_8_method_9_code 0 = .ok (.iload_n 0, 1) := by decide +kernel
theorem d_Pad_signsAfter_1 : decode prog_8_method_9_code 1 = .ok (.bipush 98, 2) := by decide +kernel
theorem d_Pad_signsAfter_3 : decode prog_8_method_9_code 3 = .ok (.if_icmp .ne 5, 3) := by decide +kernel
theorem d_Pad_signsAfter_6 : decode prog_8_method_9_code 6 = .ok (.iconst 2, 1) := by decide +kernel
theorem d_Pad_signsAfter_7 : decode prog_8_method_9_code 7 = .ok (.ireturn, 1) := by decide +kernel
theorem d_Pad_signsAfter_8 : decode prog_8_method_9_code 8 = .ok (.iload_n 0, 1) := by decide +kernel
theorem d_Pad_signsAfter_9 : decode prog_8_method_9_code 9 = .ok (.bipush 46, 2) := by decide +kernel
theorem d_Pad_signsAfter_11 : decode prog_8_method_9_code 11 = .ok (.if_icmp .ne 7, 3) := by decide +kernel
theorem d_Pad_signsAfter_14 : decode prog_8_method_9_code 14 = .ok (.iconst 0, 1) := by decide +kernel
theorem d_Pad_signsAfter_15 : decode prog_8_method_9_code 15 = .ok (.goto 4, 3) := by decide +kernel
theorem d_Pad_signsAfter_18 : decode prog_8_method_9_code 18 = .ok (.iconst 1, 1) := by decide +kernel
theorem d_Pad_signsAfter_19 : decode prog_8_method_9_code 19 = .ok (.ireturn, 1) := by decide +kernel
theorem d_Pad_mayFollow_0 : decode prog_8_method_10_code 0 = .ok (.iload_n 0, 1) := by decide +kernel
theorem d_Pad_mayFollow_1 : decode prog_8_method_10_code 1 = .ok (.bipush 100, 2) := by decide +kernel
theorem d_Pad_mayFollow_3 : decode prog_8_method_10_code 3 = .ok (.if_icmp .ne 21, 3) := by decide +kernel
theorem d_Pad_mayFollow_6 : decode prog_8_method_10_code 6 = .ok (.iload_n 1, 1) := by decide +kernel
theorem d_Pad_mayFollow_7 : decode prog_8_method_10_code 7 = .ok (.bipush 49, 2) := by decide +kernel
theorem d_Pad_mayFollow_9 : decode prog_8_method_10_code 9 = .ok (.if_icmp .lt 13, 3) := by decide +kernel
theorem d_Pad_mayFollow_12 : decode prog_8_method_10_code 12 = .ok (.iload_n 1, 1) := by decide +kernel
theorem d_Pad_mayFollow_13 : decode prog_8_method_10_code 13 = .ok (.bipush 57, 2) := by decide +kernel
theorem d_Pad_mayFollow_15 : decode prog_8_method_10_code 15 = .ok (.if_icmp .gt 7, 3) := by decide +kernel
theorem d_Pad_mayFollow_18 : decode prog_8_method_10_code 18 = .ok (.iconst 1, 1) := by decide +kernel
theorem d_Pad_mayFollow_19 : decode prog_8_method_10_code 19 = .ok (.goto 4, 3) := by decide +kernel
theorem d_Pad_mayFollow_22 : decode prog_8_method_10_code 22 = .ok (.iconst 0, 1) := by decide +kernel
theorem d_Pad_mayFollow_23 : decode prog_8_method_10_code 23 = .ok (.ireturn, 1) := by decide +kernel
theorem d_Pad_mayFollow_24 : decode prog_8_method_10_code 24 = .ok (.iload_n 1, 1) := by decide +kernel
theorem d_Pad_mayFollow_25 : decode prog_8_method_10_code 25 = .ok (.bipush 97, 2) := by decide +kernel
theorem d_Pad_mayFollow_27 : decode prog_8_method_10_code 27 = .ok (.isub, 1) := by decide +kernel
theorem d_Pad_mayFollow_28 : decode prog_8_method_10_code 28 = .ok (.invokestatic 43, 3) := by decide +kernel
theorem d_Pad_mayFollow_31 : decode prog_8_method_10_code 31 = .ok (.ifCond .ne 16, 3) := by decide +kernel
theorem d_Pad_mayFollow_34 : decode prog_8_method_10_code 34 = .ok (.iload_n 0, 1) := by decide +kernel
theorem d_Pad_mayFollow_35 : decode prog_8_method_10_code 35 = .ok (.invokestatic 34, 3) := by decide +kernel
theorem d_Pad_mayFollow_38 : decode prog_8_method_10_code 38 = .ok (.ifCond .eq 13, 3) := by decide +kernel
theorem d_Pad_mayFollow_41 : decode prog_8_method_10_code 41 = .ok (.iload_n 1, 1) := by decide +kernel
theorem d_Pad_mayFollow_42 : decode prog_8_method_10_code 42 = .ok (.bipush 95, 2) := by decide +kernel
theorem d_Pad_mayFollow_44 : decode prog_8_method_10_code 44 = .ok (.if_icmp .ne 7, 3) := by decide +kernel
theorem d_Pad_mayFollow_47 : decode prog_8_method_10_code 47 = .ok (.iconst 1, 1) := by decide +kernel
theorem d_Pad_mayFollow_48 : decode prog_8_method_10_code 48 = .ok (.goto 4, 3) := by decide +kernel
theorem d_Pad_mayFollow_51 : decode prog_8_method_10_code 51 = .ok (.iconst 0, 1) := by decide +kernel
theorem d_Pad_mayFollow_52 : decode prog_8_method_10_code 52 = .ok (.ireturn, 1) := by decide +kernel
theorem d_Pad_isBallLetter_0 : decode prog_8_method_11_code 0 = .ok (.iload_n 0, 1) := by decide +kernel
theorem d_Pad_isBallLetter_1 : decode prog_8_method_11_code 1 = .ok (.bipush 65, 2) := by decide +kernel
theorem d_Pad_isBallLetter_3 : decode prog_8_method_11_code 3 = .ok (.isub, 1) := by decide +kernel
theorem d_Pad_isBallLetter_4 : decode prog_8_method_11_code 4 = .ok (.invokestatic 46, 3) := by decide +kernel
theorem d_Pad_isBallLetter_7 : decode prog_8_method_11_code 7 = .ok (.ireturn, 1) := by decide +kernel
theorem d_Sights_init_0 : decode prog_9_method_1_code 0 = .ok (.aload_n 0, 1) := by decide +kernel
theorem d_Sights_init_1 : decode prog_9_method_1_code 1 = .ok (.invokespecial 3, 3) := by decide +kernel
theorem d_Sights_init_4 : decode prog_9_method_1_code 4 = .ok (.aload_n 0, 1) := by decide +kernel
theorem d_Sights_init_5 : decode prog_9_method_1_code 5 = .ok (.bipush 8, 2) := by decide +kernel
theorem d_Sights_init_7 : decode prog_9_method_1_code 7 = .ok (.newarray .int, 2) := by decide +kernel
theorem d_Sights_init_9 : decode prog_9_method_1_code 9 = .ok (.putfield 9, 3) := by decide +kernel
theorem d_Sights_init_12 : decode prog_9_method_1_code 12 = .ok (.aload_n 0, 1) := by decide +kernel
theorem d_Sights_init_13 : decode prog_9_method_1_code 13 = .ok (.bipush 8, 2) := by decide +kernel
theorem d_Sights_init_15 : decode prog_9_method_1_code 15 = .ok (.newarray .int, 2) := by decide +kernel
theorem d_Sights_init_17 : decode prog_9_method_1_code 17 = .ok (.putfield 15, 3) := by decide +kernel
theorem d_Sights_init_20 : decode prog_9_method_1_code 20 = .ok (.aload_n 0, 1) := by decide +kernel
theorem d_Sights_init_21 : decode prog_9_method_1_code 21 = .ok (.iconst 0, 1) := by decide +kernel
theorem d_Sights_init_22 : decode prog_9_method_1_code 22 = .ok (.putfield 18, 3) := by decide +kernel
theorem d_Sights_init_25 : decode prog_9_method_1_code 25 = .ok (.return_, 1) := by decide +kernel
theorem d_Sights_size_0 : decode prog_9_method_2_code 0 = .ok (.aload_n 0, 1) := by decide +kernel
theorem d_Sights_size_1 : decode prog_9_method_2_code 1 = .ok (.getfield 18, 3) := by decide +kernel
theorem d_Sights_size_4 : decode prog_9_method_2_code 4 = .ok (.ireturn, 1) := by decide +kernel
theorem d_Sights_add_0 : decode prog_9_method_3_code 0 = .ok (.aload_n 0, 1) := by decide +kernel
theorem d_Sights_add_1 : decode prog_9_method_3_code 1 = .ok (.getfield 18, 3) := by decide +kernel
theorem d_Sights_add_4 : decode prog_9_method_3_code 4 = .ok (.ifCond .lt 27, 3) := by decide +kernel
theorem d_Sights_add_7 : decode prog_9_method_3_code 7 = .ok (.aload_n 0, 1) := by decide +kernel
theorem d_Sights_add_8 : decode prog_9_method_3_code 8 = .ok (.getfield 18, 3) := by decide +kernel
theorem d_Sights_add_11 : decode prog_9_method_3_code 11 = .ok (.aload_n 0, 1) := by decide +kernel
theorem d_Sights_add_12 : decode prog_9_method_3_code 12 = .ok (.getfield 9, 3) := by decide +kernel
theorem d_Sights_add_15 : decode prog_9_method_3_code 15 = .ok (.arraylength, 1) := by decide +kernel
theorem d_Sights_add_16 : decode prog_9_method_3_code 16 = .ok (.if_icmp .ge 15, 3) := by decide +kernel
theorem d_Sights_add_19 : decode prog_9_method_3_code 19 = .ok (.aload_n 0, 1) := by decide +kernel
theorem d_Sights_add_20 : decode prog_9_method_3_code 20 = .ok (.getfield 18, 3) := by decide +kernel
theorem d_Sights_add_23 : decode prog_9_method_3_code 23 = .ok (.aload_n 0, 1) := by decide +kernel
theorem d_Sights_add_24 : decode prog_9_method_3_code 24 = .ok (.getfield 15, 3) := by decide +kernel
theorem d_Sights_add_27 : decode prog_9_method_3_code 27 = .ok (.arraylength, 1) := by decide +kernel
theorem d_Sights_add_28 : decode prog_9_method_3_code 28 = .ok (.if_icmp .lt 4, 3) := by decide +kernel
theorem d_Sights_add_31 : decode prog_9_method_3_code 31 = .ok (.return_, 1) := by decide +kernel
theorem d_Sights_add_32 : decode prog_9_method_3_code 32 = .ok (.aload_n 0, 1) := by decide +kernel
theorem d_Sights_add_33 : decode prog_9_method_3_code 33 = .ok (.getfield 9, 3) := by decide +kernel
theorem d_Sights_add_36 : decode prog_9_method_3_code 36 = .ok (.aload_n 0, 1) := by decide +kernel
theorem d_Sights_add_37 : decode prog_9_method_3_code 37 = .ok (.getfield 18, 3) := by decide +kernel
theorem d_Sights_add_40 : decode prog_9_method_3_code 40 = .ok (.iload_n 1, 1) := by decide +kernel
theorem d_Sights_add_41 : decode prog_9_method_3_code 41 = .ok (.iastore, 1) := by decide +kernel
theorem d_Sights_add_42 : decode prog_9_method_3_code 42 = .ok (.aload_n 0, 1) := by decide +kernel
theorem d_Sights_add_43 : decode prog_9_method_3_code 43 = .ok (.getfield 15, 3) := by decide +kernel
theorem d_Sights_add_46 : decode prog_9_method_3_code 46 = .ok (.aload_n 0, 1) := by decide +kernel
theorem d_Sights_add_47 : decode prog_9_method_3_code 47 = .ok (.getfield 18, 3) := by decide +kernel
theorem d_Sights_add_50 : decode prog_9_method_3_code 50 = .ok (.iload_n 2, 1) := by decide +kernel
theorem d_Sights_add_51 : decode prog_9_method_3_code 51 = .ok (.iastore, 1) := by decide +kernel
theorem d_Sights_add_52 : decode prog_9_method_3_code 52 = .ok (.aload_n 0, 1) := by decide +kernel
theorem d_Sights_add_53 : decode prog_9_method_3_code 53 = .ok (.dup, 1) := by decide +kernel
theorem d_Sights_add_54 : decode prog_9_method_3_code 54 = .ok (.getfield 18, 3) := by decide +kernel
theorem d_Sights_add_57 : decode prog_9_method_3_code 57 = .ok (.iconst 1, 1) := by decide +kernel
theorem d_Sights_add_58 : decode prog_9_method_3_code 58 = .ok (.iadd, 1) := by decide +kernel
theorem d_Sights_add_59 : decode prog_9_method_3_code 59 = .ok (.putfield 18, 3) := by decide +kernel
theorem d_Sights_add_62 : decode prog_9_method_3_code 62 = .ok (.return_, 1) := by decide +kernel
theorem d_Sights_clear_0 : decode prog_9_method_4_code 0 = .ok (.aload_n 0, 1) := by decide +kernel
theorem d_Sights_clear_1 : decode prog_9_method_4_code 1 = .ok (.iconst 0, 1) := by decide +kernel
theorem d_Sights_clear_2 : decode prog_9_method_4_code 2 = .ok (.putfield 18, 3) := by decide +kernel
theorem d_Sights_clear_5 : decode prog_9_method_4_code 5 = .ok (.return_, 1) := by decide +kernel
theorem d_Sights_copyFrom_0 : decode prog_9_method_5_code 0 = .ok (.aload_n 1, 1) := by decide +kernel
theorem d_Sights_copyFrom_1 : decode prog_9_method_5_code 1 = .ok (.getfield 9, 3) := by decide +kernel
theorem d_Sights_copyFrom_4 : decode prog_9_method_5_code 4 = .ok (.aload_n 0, 1) := by decide +kernel
theorem d_Sights_copyFrom_5 : decode prog_9_method_5_code 5 = .ok (.getfield 9, 3) := by decide +kernel
theorem d_Sights_copyFrom_8 : decode prog_9_method_5_code 8 = .ok (.invokestatic 22, 3) := by decide +kernel
theorem d_Sights_copyFrom_11 : decode prog_9_method_5_code 11 = .ok (.aload_n 1, 1) := by decide +kernel
theorem d_Sights_copyFrom_12 : decode prog_9_method_5_code 12 = .ok (.getfield 15, 3) := by decide +kernel
theorem d_Sights_copyFrom_15 : decode prog_9_method_5_code 15 = .ok (.aload_n 0, 1) := by decide +kernel
theorem d_Sights_copyFrom_16 : decode prog_9_method_5_code 16 = .ok (.getfield 15, 3) := by decide +kernel
theorem d_Sights_copyFrom_19 : decode prog_9_method_5_code 19 = .ok (.invokestatic 22, 3) := by decide +kernel
theorem d_Sights_copyFrom_22 : decode prog_9_method_5_code 22 = .ok (.aload_n 0, 1) := by decide +kernel
theorem d_Sights_copyFrom_23 : decode prog_9_method_5_code 23 = .ok (.aload_n 1, 1) := by decide +kernel
theorem d_Sights_copyFrom_24 : decode prog_9_method_5_code 24 = .ok (.getfield 18, 3) := by decide +kernel
theorem d_Sights_copyFrom_27 : decode prog_9_method_5_code 27 = .ok (.putfield 18, 3) := by decide +kernel
theorem d_Sights_copyFrom_30 : decode prog_9_method_5_code 30 = .ok (.return_, 1) := by decide +kernel
theorem d_Sights_fitting_0 : decode prog_9_method_6_code 0 = .ok (.sipush 4095, 3) := by decide +kernel
theorem d_Sights_fitting_3 : decode prog_9_method_6_code 3 = .ok (.istore_n 2, 1) := by decide +kernel
theorem d_Sights_fitting_4 : decode prog_9_method_6_code 4 = .ok (.iconst 0, 1) := by decide +kernel
theorem d_Sights_fitting_5 : decode prog_9_method_6_code 5 = .ok (.istore_n 3, 1) := by decide +kernel
theorem d_Sights_fitting_6 : decode prog_9_method_6_code 6 = .ok (.iload_n 3, 1) := by decide +kernel
theorem d_Sights_fitting_7 : decode prog_9_method_6_code 7 = .ok (.aload_n 0, 1) := by decide +kernel
theorem d_Sights_fitting_8 : decode prog_9_method_6_code 8 = .ok (.getfield 18, 3) := by decide +kernel
theorem d_Sights_fitting_11 : decode prog_9_method_6_code 11 = .ok (.if_icmp .ge 52, 3) := by decide +kernel
theorem d_Sights_fitting_14 : decode prog_9_method_6_code 14 = .ok (.iload_n 3, 1) := by decide +kernel
theorem d_Sights_fitting_15 : decode prog_9_method_6_code 15 = .ok (.aload_n 0, 1) := by decide +kernel
theorem d_Sights_fitting_16 : decode prog_9_method_6_code 16 = .ok (.getfield 9, 3) := by decide +kernel
theorem d_Sights_fitting_19 : decode prog_9_method_6_code 19 = .ok (.arraylength, 1) := by decide +kernel
theorem d_Sights_fitting_20 : decode prog_9_method_6_code 20 = .ok (.if_icmp .ge 43, 3) := by decide +kernel
theorem d_Sights_fitting_23 : decode prog_9_method_6_code 23 = .ok (.iload_n 3, 1) := by decide +kernel
theorem d_Sights_fitting_24 : decode prog_9_method_6_code 24 = .ok (.aload_n 0, 1) := by decide +kernel
theorem d_Sights_fitting_25 : decode prog_9_method_6_code 25 = .ok (.getfield 15, 3) := by decide +kernel
theorem d_Sights_fitting_28 : decode prog_9_method_6_code 28 = .ok (.arraylength, 1) := by decide +kernel
theorem d_Sights_fitting_29 : decode prog_9_method_6_code 29 = .ok (.if_icmp .ge 34, 3) := by decide +kernel
theorem d_Sights_fitting_32 : decode prog_9_method_6_code 32 = .ok (.iload_n 2, 1) := by decide +kernel
theorem d_Sights_fitting_33 : decode prog_9_method_6_code 33 = .ok (.aload_n 1, 1) := by decide +kernel
theorem d_Sights_fitting_34 : decode prog_9_method_6_code 34 = .ok (.aload_n 0, 1) := by decide +kernel
theorem d_Sights_fitting_35 : decode prog_9_method_6_code 35 = .ok (.getfield 9, 3) := by decide +kernel
theorem d_Sights_fitting_38 : decode prog_9_method_6_code 38 = .ok (.iload_n 3, 1) := by decide +kernel
theorem d_Sights_fitting_39 : decode prog_9_method_6_code 39 = .ok (.iaload, 1) := by decide +kernel
theorem d_Sights_fitting_40 : decode prog_9_method_6_code 40 = .ok (.aload_n 0, 1) := by decide +kernel
theorem d_Sights_fitting_41 : decode prog_9_method_6_code 41 = .ok (.getfield 15, 3) := by decide +kernel
theorem d_Sights_fitting_44 : decode prog_9_method_6_code 44 = .ok (.iload_n 3, 1) := by decide +kernel
theorem d_Sights_fitting_45 : decode prog_9_method_6_code 45 = .ok (.iaload, 1) := by decide +kernel
theorem d_Sights_fitting_46 : decode prog_9_method_6_code 46 = .ok (.aload_n 0, 1) := by decide +kernel
theorem d_Sights_fitting_47 : decode prog_9_method_6_code 47 = .ok (.getfield 15, 3) := by decide +kernel
theorem d_Sights_fitting_50 : decode prog_9_method_6_code 50 = .ok (.iload_n 3, 1) := by decide +kernel
theorem d_Sights_fitting_51 : decode prog_9_method_6_code 51 = .ok (.iaload, 1) := by decide +kernel
theorem d_Sights_fitting_52 : decode prog_9_method_6_code 52 = .ok (.invokevirtual 26, 3) := by decide +kernel
theorem d_Sights_fitting_55 : decode prog_9_method_6_code 55 = .ok (.iand, 1) := by decide +kernel
theorem d_Sights_fitting_56 : decode prog_9_method_6_code 56 = .ok (.istore_n 2, 1) := by decide +kernel
theorem d_Sights_fitting_57 : decode prog_9_method_6_code 57 = .ok (.iinc 3 1, 3) := by decide +kernel
theorem d_Sights_fitting_60 : decode prog_9_method_6_code 60 = .ok (.goto (-54), 3) := by decide +kernel
theorem d_Sights_fitting_63 : decode prog_9_method_6_code 63 = .ok (.iload_n 2, 1) := by decide +kernel
theorem d_Sights_fitting_64 : decode prog_9_method_6_code 64 = .ok (.ireturn, 1) := by decide +kernel
theorem d_Telling_init_0 : decode prog_10_method_1_code 0 = .ok (.aload_n 0, 1) := by decide +kernel
theorem d_Telling_init_1 : decode prog_10_method_1_code 1 = .ok (.invokespecial 3, 3) := by decide +kernel
theorem d_Telling_init_4 : decode prog_10_method_1_code 4 = .ok (.aload_n 0, 1) := by decide +kernel
theorem d_Telling_init_5 : decode prog_10_method_1_code 5 = .ok (.new 9, 3) := by decide +kernel
theorem d_Telling_init_8 : decode prog_10_method_1_code 8 = .ok (.dup, 1) := by decide +kernel
theorem d_Telling_init_9 : decode prog_10_method_1_code 9 = .ok (.invokespecial 11, 3) := by decide +kernel
theorem d_Telling_init_12 : decode prog_10_method_1_code 12 = .ok (.putfield 12, 3) := by decide +kernel
theorem d_Telling_init_15 : decode prog_10_method_1_code 15 = .ok (.aload_n 0, 1) := by decide +kernel
theorem d_Telling_init_16 : decode prog_10_method_1_code 16 = .ok (.new 18, 3) := by decide +kernel
theorem d_Telling_init_19 : decode prog_10_method_1_code 19 = .ok (.dup, 1) := by decide +kernel
theorem d_Telling_init_20 : decode prog_10_method_1_code 20 = .ok (.invokespecial 20, 3) := by decide +kernel
theorem d_Telling_init_23 : decode prog_10_method_1_code 23 = .ok (.putfield 21, 3) := by decide +kernel
theorem d_Telling_init_26 : decode prog_10_method_1_code 26 = .ok (.aload_n 0, 1) := by decide +kernel
theorem d_Telling_init_27 : decode prog_10_method_1_code 27 = .ok (.iconst 0, 1) := by decide +kernel
theorem d_Telling_init_28 : decode prog_10_method_1_code 28 = .ok (.putfield 25, 3) := by decide +kernel
theorem d_Telling_init_31 : decode prog_10_method_1_code 31 = .ok (.aload_n 0, 1) := by decide +kernel
theorem d_Telling_init_32 : decode prog_10_method_1_code 32 = .ok (.iconst 0, 1) := by decide +kernel
theorem d_Telling_init_33 : decode prog_10_method_1_code 33 = .ok (.putfield 29, 3) := by decide +kernel
theorem d_Telling_init_36 : decode prog_10_method_1_code 36 = .ok (.aload_n 0, 1) := by decide +kernel
theorem d_Telling_init_37 : decode prog_10_method_1_code 37 = .ok (.bipush (-6), 2) := by decide +kernel
theorem d_Telling_init_39 : decode prog_10_method_1_code 39 = .ok (.putfield 32, 3) := by decide +kernel
theorem d_Telling_init_42 : decode prog_10_method_1_code 42 = .ok (.aload_n 0, 1) := by decide +kernel
theorem d_Telling_init_43 : decode prog_10_method_1_code 43 = .ok (.bipush (-6), 2) := by decide +kernel
theorem d_Telling_init_45 : decode prog_10_method_1_code 45 = .ok (.putfield 35, 3) := by decide +kernel
theorem d_Telling_init_48 : decode prog_10_method_1_code 48 = .ok (.return_, 1) := by decide +kernel
theorem d_Telling_tell_0 : decode prog_10_method_2_code 0 = .ok (.aload_n 0, 1) := by decide +kernel
theorem d_Telling_tell_1 : decode prog_10_method_2_code 1 = .ok (.getfield 12, 3) := by decide +kernel
theorem d_Telling_tell_4 : decode prog_10_method_2_code 4 = .ok (.aload_n 2, 1) := by decide +kernel
theorem d_Telling_tell_5 : decode prog_10_method_2_code 5 = .ok (.invokevirtual 38, 3) := by decide +kernel
theorem d_Telling_tell_8 : decode prog_10_method_2_code 8 = .ok (.aload_n 0, 1) := by decide +kernel
theorem d_Telling_tell_9 : decode prog_10_method_2_code 9 = .ok (.iconst 0, 1) := by decide +kernel
theorem d_Telling_tell_10 : decode prog_10_method_2_code 10 = .ok (.putfield 25, 3) := by decide +kernel
theorem d_Telling_tell_13 : decode prog_10_method_2_code 13 = .ok (.aload_n 0, 1) := by decide +kernel
theorem d_Telling_tell_14 : decode prog_10_method_2_code 14 = .ok (.iconst 0, 1) := by decide +kernel
theorem d_Telling_tell_15 : decode prog_10_method_2_code 15 = .ok (.putfield 29, 3) := by decide +kernel
theorem d_Telling_tell_18 : decode prog_10_method_2_code 18 = .ok (.aload_n 0, 1) := by decide +kernel
theorem d_Telling_tell_19 : decode prog_10_method_2_code 19 = .ok (.bipush (-6), 2) := by decide +kernel
theorem d_Telling_tell_21 : decode prog_10_method_2_code 21 = .ok (.putfield 32, 3) := by decide +kernel
theorem d_Telling_tell_24 : decode prog_10_method_2_code 24 = .ok (.aload_n 0, 1) := by decide +kernel
theorem d_Telling_tell_25 : decode prog_10_method_2_code 25 = .ok (.bipush (-6), 2) := by decide +kernel
theorem d_Telling_tell_27 : decode prog_10_method_2_code 27 = .ok (.putfield 35, 3) := by decide +kernel
theorem d_Telling_tell_30 : decode prog_10_method_2_code 30 = .ok (.aload_n 1, 1) := by decide +kernel
theorem d_Telling_tell_31 : decode prog_10_method_2_code 31 = .ok (.invokevirtual 42, 3) := by decide +kernel
theorem d_Telling_tell_34 : decode prog_10_method_2_code 34 = .ok (.bipush (-6), 2) := by decide +kernel
theorem d_Telling_tell_36 : decode prog_10_method_2_code 36 = .ok (.if_icmp .eq 5, 3) := by decide +kernel
theorem d_Telling_tell_39 : decode prog_10_method_2_code 39 = .ok (.iconst 0, 1) := by decide +kernel
theorem d_Telling_tell_40 : decode prog_10_method_2_code 40 = .ok (.ireturn, 1) := by decide +kernel
theorem d_Telling_tell_41 : decode prog_10_method_2_code 41 = .ok (.iconst 0, 1) := by decide +kernel
theorem d_Telling_tell_42 : decode prog_10_method_2_code 42 = .ok (.istore_n 3, 1) := by decide +kernel
theorem d_Telling_tell_43 : decode prog_10_method_2_code 43 = .ok (.iconst 0, 1) := by decide +kernel
theorem d_Telling_tell_44 : decode prog_10_method_2_code 44 = .ok (.istore 4, 2) := by decide +kernel
theorem d_Telling_tell_46 : decode prog_10_method_2_code 46 = .ok (.iload 4, 2) := by decide +kernel
theorem d_Telling_tell_48 : decode prog_10_method_2_code 48 = .ok (.bipush 60, 2) := by decide +kernel
theorem d_Telling_tell_50 : decode prog_10_method_2_code 50 = .ok (.if_icmp .ge 97, 3) := by decide +kernel
theorem d_Telling_tell_53 : decode prog_10_method_2_code 53 = .ok (.iload_n 3, 1) := by decide +kernel
theorem d_Telling_tell_54 : decode prog_10_method_2_code 54 = .ok (.aload_n 1, 1) := by decide +kernel
theorem d_Telling_tell_55 : decode prog_10_method_2_code 55 = .ok (.invokevirtual 48, 3) := by decide +kernel
theorem d_Telling_tell_58 : decode prog_10_method_2_code 58 = .ok (.if_icmp .ge 89, 3) := by decide +kernel
theorem d_Telling_tell_61 : decode prog_10_method_2_code 61 = .ok (.aload_n 1, 1) := by decide +kernel
theorem d_Telling_tell_62 : decode prog_10_method_2_code 62 = .ok (.iload_n 3, 1) := by decide +kernel
theorem d_Telling_tell_63 : decode prog_10_method_2_code 63 = .ok (.aload_n 0, 1) := by decide +kernel
theorem d_Telling_tell_64 : decode prog_10_method_2_code 64 = .ok (.getfield 21, 3) := by decide +kernel
theorem d_Telling_tell_67 : decode prog_10_method_2_code 67 = .ok (.invokevirtual 51, 3) := by decide +kernel
theorem d_Telling_tell_70 : decode prog_10_method_2_code 70 = .ok (.istore_n 3, 1) := by decide +kernel
theorem d_Telling_tell_71 : decode prog_10_method_2_code 71 = .ok (.aload_n 0, 1) := by decide +kernel
theorem d_Telling_tell_72 : decode prog_10_method_2_code 72 = .ok (.aload_n 0, 1) := by decide +kernel
theorem d_Telling_tell_73 : decode prog_10_method_2_code 73 = .ok (.getfield 12, 3) := by decide +kernel
theorem d_Telling_tell_76 : decode prog_10_method_2_code 76 = .ok (.aload_n 0, 1) := by decide +kernel
theorem d_Telling_tell_77 : decode prog_10_method_2_code 77 = .ok (.getfield 21, 3) := by decide +kernel
theorem d_Telling_tell_80 : decode prog_10_method_2_code 80 = .ok (.invokevirtual 55, 3) := by decide +kernel
theorem d_Telling_tell_83 : decode prog_10_method_2_code 83 = .ok (.putfield 29, 3) := by decide +kernel
theorem d_Telling_tell_86 : decode prog_10_method_2_code 86 = .ok (.aload_n 0, 1) := by decide +kernel
theorem d_Telling_tell_87 : decode prog_10_method_2_code 87 = .ok (.getfield 29, 3) := by decide +kernel
theorem d_Telling_tell_90 : decode prog_10_method_2_code 90 = .ok (.ifCond .eq 5, 3) := by decide +kernel
theorem d_Telling_tell_93 : decode prog_10_method_2_code 93 = .ok (.iconst 0, 1) := by decide +kernel
theorem d_Telling_tell_94 : decode prog_10_method_2_code 94 = .ok (.ireturn, 1) := by decide +kernel
theorem d_Telling_tell_95 : decode prog_10_method_2_code 95 = .ok (.aload_n 0, 1) := by decide +kernel
theorem d_Telling_tell_96 : decode prog_10_method_2_code 96 = .ok (.getfield 12, 3) := by decide +kernel
theorem d_Telling_tell_99 : decode prog_10_method_2_code 99 = .ok (.invokevirtual 59, 3) := by decide +kernel
theorem d_Telling_tell_102 : decode prog_10_method_2_code 102 = .ok (.istore 5, 2) := by decide +kernel
theorem d_Telling_tell_104 : decode prog_10_method_2_code 104 = .ok (.aload_n 0, 1) := by decide +kernel
theorem d_Telling_tell_105 : decode prog_10_method_2_code 105 = .ok (.getfield 12, 3) := by decide +kernel
theorem d_Telling_tell_108 : decode prog_10_method_2_code 108 = .ok (.aload_n 0, 1) := by decide +kernel
theorem d_Telling_tell_109 : decode prog_10_method_2_code 109 = .ok (.getfield 21, 3) := by decide +kernel
theorem d_Telling_tell_112 : decode prog_10_method_2_code 112 = .ok (.invokevirtual 62, 3) := by decide +kernel
theorem d_Telling_tell_115 : decode prog_10_method_2_code 115 = .ok (.aload_n 0, 1) := by decide +kernel
theorem d_Telling_tell_116 : decode prog_10_method_2_code 116 = .ok (.aload_n 0, 1) := by decide +kernel
theorem d_Telling_tell_117 : decode prog_10_method_2_code 117 = .ok (.getfield 12, 3) := by decide +kernel
theorem d_Telling_tell_120 : decode prog_10_method_2_code 120 = .ok (.invokevirtual 59, 3) := by decide +kernel
theorem d_Telling_tell_123 : decode prog_10_method_2_code 123 = .ok (.iload 5, 2) := by decide +kernel
theorem d_Telling_tell_125 : decode prog_10_method_2_code 125 = .ok (.iconst (-1), 1) := by decide +kernel
theorem d_Telling_tell_126 : decode prog_10_method_2_code 126 = .ok (.ixor, 1) := by decide +kernel
theorem d_Telling_tell_127 : decode prog_10_method_2_code 127 = .ok (.iand, 1) := by decide +kernel
theorem d_Telling_tell_128 : decode prog_10_method_2_code 128 = .ok (.invokevirtual 66, 3) := by decide +kernel
theorem d_Telling_tell_131 : decode prog_10_method_2_code 131 = .ok (.aload_n 0, 1) := by decide +kernel
theorem d_Telling_tell_132 : decode prog_10_method_2_code 132 = .ok (.dup, 1) := by decide +kernel
theorem d_Telling_tell_133 : decode prog_10_method_2_code 133 = .ok (.getfield 25, 3) := by decide +kernel
theorem d_Telling_tell_136 : decode prog_10_method_2_code 136 = .ok (.iconst 1, 1) := by decide +kernel
theorem d_Telling_tell_137 : decode prog_10_method_2_code 137 = .ok (.iadd, 1) := by decide +kernel
theorem d_Telling_tell_138 : decode prog_10_method_2_code 138 = .ok (.putfield 25, 3) := by decide +kernel
theorem d_Telling_tell_141 : decode prog_10_method_2_code 141 = .ok (.iinc 4 1, 3) := by decide +kernel
theorem d_Telling_tell_144 : decode prog_10_method_2_code 144 = .ok (.goto (-98), 3) := by decide +kernel
theorem d_Telling_tell_147 : decode prog_10_method_2_code 147 = .ok (.iconst 1, 1) := by decide +kernel
theorem d_Telling_tell_148 : decode prog_10_method_2_code 148 = .ok (.ireturn, 1) := by decide +kernel
theorem d_Telling_noteBroken_0 : decode prog_10_method_3_code 0 = .ok (.iload_n 1, 1) := by decide +kernel
theorem d_Telling_noteBroken_1 : decode prog_10_method_3_code 1 = .ok (.ifCond .eq 12, 3) := by decide +kernel
theorem d_Telling_noteBroken_4 : decode prog_10_method_3_code 4 = .ok (.aload_n 0, 1) := by decide +kernel
theorem d_Telling_noteBroken_5 : decode prog_10_method_3_code 5 = .ok (.getfield 32, 3) := by decide +kernel
theorem d_Telling_noteBroken_8 : decode prog_10_method_3_code 8 = .ok (.bipush (-6), 2) := by decide +kernel
theorem d_Telling_noteBroken_10 : decode prog_10_method_3_code 10 = .ok (.if_icmp .eq 4, 3) := by decide +kernel
theorem d_Telling_noteBroken_13 : decode prog_10_method_3_code 13 = .ok (.return_, 1) := by decide +kernel
theorem d_Telling_noteBroken_14 : decode prog_10_method_3_code 14 = .ok (.aload_n 0, 1) := by decide +kernel
theorem d_Telling_noteBroken_15 : decode prog_10_method_3_code 15 = .ok (.aload_n 0, 1) := by decide +kernel
theorem d_Telling_noteBroken_16 : decode prog_10_method_3_code 16 = .ok (.getfield 25, 3) := by decide +kernel
theorem d_Telling_noteBroken_19 : decode prog_10_method_3_code 19 = .ok (.putfield 32, 3) := by decide +kernel
theorem d_Telling_noteBroken_22 : decode prog_10_method_3_code 22 = .ok (.aload_n 0, 1) := by decide +kernel
theorem d_Telling_noteBroken_23 : decode prog_10_method_3_code 23 = .ok (.iload_n 1, 1) := by decide +kernel
theorem d_Telling_noteBroken_24 : decode prog_10_method_3_code 24 = .ok (.iconst 0, 1) := by decide +kernel
theorem d_Telling_noteBroken_25 : decode prog_10_method_3_code 25 = .ok (.invokestatic 70, 3) := by decide +kernel
theorem d_Telling_noteBroken_28 : decode prog_10_method_3_code 28 = .ok (.putfield 35, 3) := by decide +kernel
theorem d_Telling_noteBroken_31 : decode prog_10_method_3_code 31 = .ok (.return_, 1) := by decide +kernel
theorem d_Telling_hill_0 : decode prog_10_method_4_code 0 = .ok (.aload_n 0, 1) := by decide +kernel
theorem d_Telling_hill_1 : decode prog_10_method_4_code 1 = .ok (.getfield 12, 3) := by decide +kernel
theorem d_Telling_hill_4 : decode prog_10_method_4_code 4 = .ok (.areturn, 1) := by decide +kernel
theorem d_Telling_acts_0 : decode prog_10_method_5_code 0 = .ok (.aload_n 0, 1) := by decide +kernel
theorem d_Telling_acts_1 : decode prog_10_method_5_code 1 = .ok (.getfield 25, 3) := by decide +kernel
theorem d_Telling_acts_4 : decode prog_10_method_5_code 4 = .ok (.ireturn, 1) := by decide +kernel
theorem d_Telling_why_0 : decode prog_10_method_6_code 0 = .ok (.aload_n 0, 1) := by decide +kernel
theorem d_Telling_why_1 : decode prog_10_method_6_code 1 = .ok (.getfield 29, 3) := by decide +kernel
theorem d_Telling_why_4 : decode prog_10_method_6_code 4 = .ok (.ireturn, 1) := by decide +kernel
theorem d_Telling_actThatBroke_0 : decode prog_10_method_7_code 0 = .ok (.aload_n 0, 1) := by decide +kernel
theorem d_Telling_actThatBroke_1 : decode prog_10_method_7_code 1 = .ok (.getfield 32, 3) := by decide +kernel
theorem d_Telling_actThatBroke_4 : decode prog_10_method_7_code 4 = .ok (.ireturn, 1) := by decide +kernel
theorem d_Telling_ballThatBroke_0 : decode prog_10_method_8_code 0 = .ok (.aload_n 0, 1) := by decide +kernel
theorem d_Telling_ballThatBroke_1 : decode prog_10_method_8_code 1 = .ok (.getfield 35, 3) := by decide +kernel
theorem d_Telling_ballThatBroke_4 : decode prog_10_method_8_code 4 = .ok (.ireturn, 1) := by decide +kernel
theorem d_Tree_init_0 : decode prog_11_method_1_code 0 = .ok (.aload_n 0, 1) := by decide +kernel
theorem d_Tree_init_1 : decode prog_11_method_1_code 1 = .ok (.invokespecial 3, 3) := by decide +kernel
theorem d_Tree_init_4 : decode prog_11_method_1_code 4 = .ok (.aload_n 0, 1) := by decide +kernel
theorem d_Tree_init_5 : decode prog_11_method_1_code 5 = .ok (.bipush 12, 2) := by decide +kernel
theorem d_Tree_init_7 : decode prog_11_method_1_code 7 = .ok (.newarray .int, 2) := by decide +kernel
theorem d_Tree_init_9 : decode prog_11_method_1_code 9 = .ok (.putfield 9, 3) := by decide +kernel
theorem d_Tree_init_12 : decode prog_11_method_1_code 12 = .ok (.iconst 1, 1) := by decide +kernel
theorem d_Tree_init_13 : decode prog_11_method_1_code 13 = .ok (.istore_n 1, 1) := by decide +kernel
theorem d_Tree_init_14 : decode prog_11_method_1_code 14 = .ok (.iload_n 1, 1) := by decide +kernel
theorem d_Tree_init_15 : decode prog_11_method_1_code 15 = .ok (.aload_n 0, 1) := by decide +kernel
theorem d_Tree_init_16 : decode prog_11_method_1_code 16 = .ok (.getfield 9, 3) := by decide +kernel
theorem d_Tree_init_19 : decode prog_11_method_1_code 19 = .ok (.arraylength, 1) := by decide +kernel
theorem d_Tree_init_20 : decode prog_11_method_1_code 20 = .ok (.if_icmp .ge 20, 3) := by decide +kernel
theorem d_Tree_init_23 : decode prog_11_method_1_code 23 = .ok (.aload_n 0, 1) := by decide +kernel
theorem d_Tree_init_24 : decode prog_11_method_1_code 24 = .ok (.getfield 9, 3) := by decide +kernel
theorem d_Tree_init_27 : decode prog_11_method_1_code 27 = .ok (.iload_n 1, 1) := by decide +kernel
theorem d_Tree_init_28 : decode prog_11_method_1_code 28 = .ok (.iload_n 1, 1) := by decide +kernel
theorem d_Tree_init_29 : decode prog_11_method_1_code 29 = .ok (.iconst 1, 1) := by decide +kernel
theorem d_Tree_init_30 : decode prog_11_method_1_code 30 = .ok (.isub, 1) := by decide +kernel
theorem d_Tree_init_31 : decode prog_11_method_1_code 31 = .ok (.iconst 2, 1) := by decide +kernel
theorem d_Tree_init_32 : decode prog_11_method_1_code 32 = .ok (.idiv, 1) := by decide +kernel
theorem d_Tree_init_33 : decode prog_11_method_1_code 33 = .ok (.iastore, 1) := by decide +kernel
theorem d_Tree_init_34 : decode prog_11_method_1_code 34 = .ok (.iinc 1 1, 3) := by decide +kernel
theorem d_Tree_init_37 : decode prog_11_method_1_code 37 = .ok (.goto (-23), 3) := by decide +kernel
theorem d_Tree_init_40 : decode prog_11_method_1_code 40 = .ok (.return_, 1) := by decide +kernel
theorem d_Tree_parentOf_0 : decode prog_11_method_2_code 0 = .ok (.iload_n 1, 1) := by decide +kernel
theorem d_Tree_parentOf_1 : decode prog_11_method_2_code 1 = .ok (.ifCond .lt 21, 3) := by decide +kernel
theorem d_Tree_parentOf_4 : decode prog_11_method_2_code 4 = .ok (.iload_n 1, 1) := by decide +kernel
theorem d_Tree_parentOf_5 : decode prog_11_method_2_code 5 = .ok (.aload_n 0, 1) := by decide +kernel
theorem d_Tree_parentOf_6 : decode prog_11_method_2_code 6 = .ok (.getfield 9, 3) := by decide +kernel
theorem d_Tree_parentOf_9 : decode prog_11_method_2_code 9 = .ok (.arraylength, 1) := by decide +kernel
theorem d_Tree_parentOf_10 : decode prog_11_method_2_code 10 = .ok (.if_icmp .ge 12, 3) := by decide +kernel
theorem d_Tree_parentOf_13 : decode prog_11_method_2_code 13 = .ok (.aload_n 0, 1) := by decide +kernel
theorem d_Tree_parentOf_14 : decode prog_11_method_2_code 14 = .ok (.getfield 9, 3) := by decide +kernel
theorem d_Tree_parentOf_17 : decode prog_11_method_2_code 17 = .ok (.iload_n 1, 1) := by decide +kernel
theorem d_Tree_parentOf_18 : decode prog_11_method_2_code 18 = .ok (.iaload, 1) := by decide +kernel
theorem d_Tree_parentOf_19 : decode prog_11_method_2_code 19 = .ok (.goto 4, 3) := by decide +kernel
theorem d_Tree_parentOf_22 : decode prog_11_method_2_code 22 = .ok (.iconst 0, 1) := by decide +kernel
theorem d_Tree_parentOf_23 : decode prog_11_method_2_code 23 = .ok (.ireturn, 1) := by decide +kernel
theorem d_Tree_bend_0 : decode prog_11_method_3_code 0 = .ok (.iload_n 1, 1) := by decide +kernel
theorem d_Tree_bend_1 : decode prog_11_method_3_code 1 = .ok (.ifCond .lt 19, 3) := by decide +kernel
theorem d_Tree_bend_4 : decode prog_11_method_3_code 4 = .ok (.iload_n 1, 1) := by decide +kernel
theorem d_Tree_bend_5 : decode prog_11_method_3_code 5 = .ok (.aload_n 0, 1) := by decide +kernel
theorem d_Tree_bend_6 : decode prog_11_method_3_code 6 = .ok (.getfield 9, 3) := by decide +kernel
theorem d_Tree_bend_9 : decode prog_11_method_3_code 9 = .ok (.arraylength, 1) := by decide +kernel
theorem d_Tree_bend_10 : decode prog_11_method_3_code 10 = .ok (.if_icmp .ge 10, 3) := by decide +kernel
theorem d_Tree_bend_13 : decode prog_11_method_3_code 13 = .ok (.aload_n 0, 1) := by decide +kernel
theorem d_Tree_bend_14 : decode prog_11_method_3_code 14 = .ok (.getfield 9, 3) := by decide +kernel
theorem d_Tree_bend_17 : decode prog_11_method_3_code 17 = .ok (.iload_n 1, 1) := by decide +kernel
theorem d_Tree_bend_18 : decode prog_11_method_3_code 18 = .ok (.iload_n 2, 1) := by decide +kernel
theorem d_Tree_bend_19 : decode prog_11_method_3_code 19 = .ok (.iastore, 1) := by decide +kernel
theorem d_Tree_bend_20 : decode prog_11_method_3_code 20 = .ok (.return_, 1) := by decide +kernel
theorem d_Tree_copyFrom_0 : decode prog_11_method_4_code 0 = .ok (.aload_n 1, 1) := by decide +kernel
theorem d_Tree_copyFrom_1 : decode prog_11_method_4_code 1 = .ok (.getfield 9, 3) := by decide +kernel
theorem d_Tree_copyFrom_4 : decode prog_11_method_4_code 4 = .ok (.aload_n 0, 1) := by decide +kernel
theorem d_Tree_copyFrom_5 : decode prog_11_method_4_code 5 = .ok (.getfield 9, 3) := by decide +kernel
theorem d_Tree_copyFrom_8 : decode prog_11_method_4_code 8 = .ok (.invokestatic 15, 3) := by decide +kernel
theorem d_Tree_copyFrom_11 : decode prog_11_method_4_code 11 = .ok (.return_, 1) := by decide +kernel
theorem d_Tree_distance_0 : decode prog_11_method_5_code 0 = .ok (.iconst 0, 1) := by decide +kernel
theorem d_Tree_distance_1 : decode prog_11_method_5_code 1 = .ok (.istore_n 3, 1) := by decide +kernel
theorem d_Tree_distance_2 : decode prog_11_method_5_code 2 = .ok (.iload_n 1, 1) := by decide +kernel
theorem d_Tree_distance_3 : decode prog_11_method_5_code 3 = .ok (.iload_n 2, 1) := by decide +kernel
theorem d_Tree_distance_4 : decode prog_11_method_5_code 4 = .ok (.invokestatic 19, 3) := by decide +kernel
theorem d_Tree_distance_7 : decode prog_11_method_5_code 7 = .ok (.istore 4, 2) := by decide +kernel
theorem d_Tree_distance_9 : decode prog_11_method_5_code 9 = .ok (.iload_n 1, 1) := by decide +kernel
theorem d_Tree_distance_10 : decode prog_11_method_5_code 10 = .ok (.iload_n 2, 1) := by decide +kernel
theorem d_Tree_distance_11 : decode prog_11_method_5_code 11 = .ok (.invokestatic 25, 3) := by decide +kernel
theorem d_Tree_distance_14 : decode prog_11_method_5_code 14 = .ok (.istore 5, 2) := by decide +kernel
theorem d_Tree_distance_16 : decode prog_11_method_5_code 16 = .ok (.iconst 0, 1) := by decide +kernel
theorem d_Tree_distance_17 : decode prog_11_method_5_code 17 = .ok (.istore 6, 2) := by decide +kernel
theorem d_Tree_distance_19 : decode prog_11_method_5_code 19 = .ok (.iload 6, 2) := by decide +kernel
theorem d_Tree_distance_21 : decode prog_11_method_5_code 21 = .ok (.bipush 24, 2) := by decide +kernel
theorem d_Tree_distance_23 : decode prog_11_method_5_code 23 = .ok (.if_icmp .ge 45, 3) := by decide +kernel
theorem d_Tree_distance_26 : decode prog_11_method_5_code 26 = .ok (.iload 4, 2) := by decide +kernel
theorem d_Tree_distance_28 : decode prog_11_method_5_code 28 = .ok (.iload 5, 2) := by decide +kernel
theorem d_Tree_distance_30 : decode prog_11_method_5_code 30 = .ok (.if_icmp .eq 38, 3) := by decide +kernel
theorem d_Tree_distance_33 : decode prog_11_method_5_code 33 = .ok (.aload_n 0, 1) := by decide +kernel
theorem d_Tree_distance_34 : decode prog_11_method_5_code 34 = .ok (.iload 5, 2) := by decide +kernel
theorem d_Tree_distance_36 : decode prog_11_method_5_code 36 = .ok (.invokevirtual 28, 3) := by decide +kernel
theorem d_Tree_distance_39 : decode prog_11_method_5_code 39 = .ok (.istore 7, 2) := by decide +kernel
theorem d_Tree_distance_41 : decode prog_11_method_5_code 41 = .ok (.iload 4, 2) := by decide +kernel
theorem d_Tree_distance_43 : decode prog_11_method_5_code 43 = .ok (.iload 7, 2) := by decide +kernel
theorem d_Tree_distance_45 : decode prog_11_method_5_code 45 = .ok (.invokestatic 25, 3) := by decide +kernel
theorem d_Tree_distance_48 : decode prog_11_method_5_code 48 = .ok (.istore 5, 2) := by decide +kernel
theorem d_Tree_distance_50 : decode prog_11_method_5_code 50 = .ok (.iload 4, 2) := by decide +kernel
theorem d_Tree_distance_52 : decode prog_11_method_5_code 52 = .ok (.iload 7, 2) := by decide +kernel
theorem d_Tree_distance_54 : decode prog_11_method_5_code 54 = .ok (.invokestatic 19, 3) := by decide +kernel
theorem d_Tree_distance_57 : decode prog_11_method_5_code 57 = .ok (.istore 4, 2) := by decide +kernel
theorem d_Tree_distance_59 : decode prog_11_method_5_code 59 = .ok (.iinc 3 1, 3) := by decide +kernel
theorem d_Tree_distance_62 : decode prog_11_method_5_code 62 = .ok (.iinc 6 1, 3) := by decide +kernel
theorem d_Tree_distance_65 : decode prog_11_method_5_code 65 = .ok (.goto (-46), 3) := by decide +kernel
theorem d_Tree_distance_68 : decode prog_11_method_5_code 68 = .ok (.iload_n 3, 1) := by decide +kernel
theorem d_Tree_distance_69 : decode prog_11_method_5_code 69 = .ok (.ireturn, 1) := by decide +kernel
theorem d_Tree_way_0 : decode prog_11_method_6_code 0 = .ok (.aload_n 0, 1) := by decide +kernel
theorem d_Tree_way_1 : decode prog_11_method_6_code 1 = .ok (.iload_n 1, 1) := by decide +kernel
theorem d_Tree_way_2 : decode prog_11_method_6_code 2 = .ok (.iload_n 2, 1) := by decide +kernel
theorem d_Tree_way_3 : decode prog_11_method_6_code 3 = .ok (.invokevirtual 32, 3) := by decide +kernel
theorem d_Tree_way_6 : decode prog_11_method_6_code 6 = .ok (.istore_n 3, 1) := by decide +kernel
theorem d_Tree_way_7 : decode prog_11_method_6_code 7 = .ok (.iconst 0, 1) := by decide +kernel
theorem d_Tree_way_8 : decode prog_11_method_6_code 8 = .ok (.istore 4, 2) := by decide +kernel
theorem d_Tree_way_10 : decode prog_11_method_6_code 10 = .ok (.iconst 0, 1) := by decide +kernel
theorem d_Tree_way_11 : decode prog_11_method_6_code 11 = .ok (.istore 5, 2) := by decide +kernel
theorem d_Tree_way_13 : decode prog_11_method_6_code 13 = .ok (.iload 5, 2) := by decide +kernel
theorem d_Tree_way_15 : decode prog_11_method_6_code 15 = .ok (.bipush 12, 2) := by decide +kernel
theorem d_Tree_way_17 : decode prog_11_method_6_code 17 = .ok (.if_icmp .ge 37, 3) := by decide +kernel
theorem d_Tree_way_20 : decode prog_11_method_6_code 20 = .ok (.aload_n 0, 1) := by decide +kernel
theorem d_Tree_way_21 : decode prog_11_method_6_code 21 = .ok (.iload_n 1, 1) := by decide +kernel
theorem d_Tree_way_22 : decode prog_11_method_6_code 22 = .ok (.iload 5, 2) := by decide +kernel
theorem d_Tree_way_24 : decode prog_11_method_6_code 24 = .ok (.invokevirtual 32, 3) := by decide +kernel
theorem d_Tree_way_27 : decode prog_11_method_6_code 27 = .ok (.aload_n 0, 1) := by decide +kernel
theorem d_Tree_way_28 : decode prog_11_method_6_code 28 = .ok (.iload 5, 2) := by decide +kernel
theorem d_Tree_way_30 : decode prog_11_method_6_code 30 = .ok (.iload_n 2, 1) := by decide +kernel
theorem d_Tree_way_31 : decode prog_11_method_6_code 31 = .ok (.invokevirtual 32, 3) := by decide +kernel
theorem d_Tree_way_34 : decode prog_11_method_6_code 34 = .ok (.iadd, 1) := by decide +kernel
theorem d_Tree_way_35 : decode prog_11_method_6_code 35 = .ok (.iload_n 3, 1) := by decide +kernel
theorem d_Tree_way_36 : decode prog_11_method_6_code 36 = .ok (.if_icmp .ne 12, 3) := by decide +kernel
theorem d_Tree_way_39 : decode prog_11_method_6_code 39 = .ok (.iload 4, 2) := by decide +kernel
theorem d_Tree_way_41 : decode prog_11_method_6_code 41 = .ok (.iconst 1, 1) := by decide +kernel
theorem d_Tree_way_42 : decode prog_11_method_6_code 42 = .ok (.iload 5, 2) := by decide +kernel
theorem d_Tree_way_44 : decode prog_11_method_6_code 44 = .ok (.ishl, 1) := by decide +kernel
theorem d_Tree_way_45 : decode prog_11_method_6_code 45 = .ok (.ior, 1) := by decide +kernel
theorem d_Tree_way_46 : decode prog_11_method_6_code 46 = .ok (.istore 4, 2) := by decide +kernel
theorem d_Tree_way_48 : decode prog_11_method_6_code 48 = .ok (.iinc 5 1, 3) := by decide +kernel
theorem d_Tree_way_51 : decode prog_11_method_6_code 51 = .ok (.goto (-38), 3) := by decide +kernel
theorem d_Tree_way_54 : decode prog_11_method_6_code 54 = .ok (.iload 4, 2) := by decide +kernel
theorem d_Tree_way_56 : decode prog_11_method_6_code 56 = .ok (.ireturn, 1) := by decide +kernel
theorem d_Tree_ring_0 : decode prog_11_method_7_code 0 = .ok (.iconst 0, 1) := by decide +kernel
theorem d_Tree_ring_1 : decode prog_11_method_7_code 1 = .ok (.istore 4, 2) := by decide +kernel
theorem d_Tree_ring_3 : decode prog_11_method_7_code 3 = .ok (.iconst 0, 1) := by decide +kernel
theorem d_Tree_ring_4 : decode prog_11_method_7_code 4 = .ok (.istore 5, 2) := by decide +kernel
theorem d_Tree_ring_6 : decode prog_11_method_7_code 6 = .ok (.iload 5, 2) := by decide +kernel
theorem d_Tree_ring_8 : decode prog_11_method_7_code 8 = .ok (.bipush 12, 2) := by decide +kernel
theorem d_Tree_ring_10 : decode prog_11_method_7_code 10 = .ok (.if_icmp .ge 39, 3) := by decide +kernel
theorem d_Tree_ring_13 : decode prog_11_method_7_code 13 = .ok (.aload_n 0, 1) := by decide +kernel
theorem d_Tree_ring_14 : decode prog_11_method_7_code 14 = .ok (.iload_n 1, 1) := by decide +kernel
theorem d_Tree_ring_15 : decode prog_11_method_7_code 15 = .ok (.iload 5, 2) := by decide +kernel
theorem d_Tree_ring_17 : decode prog_11_method_7_code 17 = .ok (.invokevirtual 32, 3) := by decide +kernel
theorem d_Tree_ring_20 : decode prog_11_method_7_code 20 = .ok (.istore 6, 2) := by decide +kernel
theorem d_Tree_ring_22 : decode prog_11_method_7_code 22 = .ok (.iload 6, 2) := by decide +kernel
theorem d_Tree_ring_24 : decode prog_11_method_7_code 24 = .ok (.iload_n 2, 1) := by decide +kernel
theorem d_Tree_ring_25 : decode prog_11_method_7_code 25 = .ok (.if_icmp .lt 18, 3) := by decide +kernel
theorem d_Tree_ring_28 : decode prog_11_method_7_code 28 = .ok (.iload 6, 2) := by decide +kernel
theorem d_Tree_ring_30 : decode prog_11_method_7_code 30 = .ok (.iload_n 3, 1) := by decide +kernel
theorem d_Tree_ring_31 : decode prog_11_method_7_code 31 = .ok (.if_icmp .gt 12, 3) := by decide +kernel
theorem d_Tree_ring_34 : decode prog_11_method_7_code 34 = .ok (.iload 4, 2) := by decide +kernel
theorem d_Tree_ring_36 : decode prog_11_method_7_code 36 = .ok (.iconst 1, 1) := by decide +kernel
theorem d_Tree_ring_37 : decode prog_11_method_7_code 37 = .ok (.iload 5, 2) := by decide +kernel
theorem d_Tree_ring_39 : decode prog_11_method_7_code 39 = .ok (.ishl, 1) := by decide +kernel
theorem d_Tree_ring_40 : decode prog_11_method_7_code 40 = .ok (.ior, 1) := by decide +kernel
theorem d_Tree_ring_41 : decode prog_11_method_7_code 41 = .ok (.istore 4, 2) := by decide +kernel
theorem d_Tree_ring_43 : decode prog_11_method_7_code 43 = .ok (.iinc 5 1, 3) := by decide +kernel
theorem d_Tree_ring_46 : decode prog_11_method_7_code 46 = .ok (.goto (-40), 3) := by decide +kernel
theorem d_Tree_ring_49 : decode prog_11_method_7_code 49 = .ok (.iload 4, 2) := by decide +kernel
theorem d_Tree_ring_51 : decode prog_11_method_7_code 51 = .ok (.ireturn, 1) := by decide +kernel
theorem d_Tree_howFar_0 : decode prog_11_method_8_code 0 = .ok (.iconst 0, 1) := by decide +kernel
theorem d_Tree_howFar_1 : decode prog_11_method_8_code 1 = .ok (.istore 4, 2) := by decide +kernel
theorem d_Tree_howFar_3 : decode prog_11_method_8_code 3 = .ok (.iconst 0, 1) := by decide +kernel
theorem d_Tree_howFar_4 : decode prog_11_method_8_code 4 = .ok (.istore 5, 2) := by decide +kernel
theorem d_Tree_howFar_6 : decode prog_11_method_8_code 6 = .ok (.iload 5, 2) := by decide +kernel
theorem d_Tree_howFar_8 : decode prog_11_method_8_code 8 = .ok (.bipush 12, 2) := by decide +kernel
theorem d_Tree_howFar_10 : decode prog_11_method_8_code 10 = .ok (.if_icmp .ge 51, 3) := by decide +kernel
theorem d_Tree_howFar_13 : decode prog_11_method_8_code 13 = .ok (.iload_n 2, 1) := by decide +kernel
theorem d_Tree_howFar_14 : decode prog_11_method_8_code 14 = .ok (.iload 5, 2) := by decide +kernel
theorem d_Tree_howFar_16 : decode prog_11_method_8_code 16 = .ok (.invokestatic 35, 3) := by decide +kernel
theorem d_Tree_howFar_19 : decode prog_11_method_8_code 19 = .ok (.ifCond .ne 6, 3) := by decide +kernel
theorem d_Tree_howFar_22 : decode prog_11_method_8_code 22 = .ok (.goto 33, 3) := by decide +kernel
theorem d_Tree_howFar_25 : decode prog_11_method_8_code 25 = .ok (.aload_n 0, 1) := by decide +kernel
theorem d_Tree_howFar_26 : decode prog_11_method_8_code 26 = .ok (.iload_n 1, 1) := by decide +kernel
theorem d_Tree_howFar_27 : decode prog_11_method_8_code 27 = .ok (.iload 5, 2) := by decide +kernel
theorem d_Tree_howFar_29 : decode prog_11_method_8_code 29 = .ok (.invokevirtual 32, 3) := by decide +kernel
theorem d_Tree_howFar_32 : decode prog_11_method_8_code 32 = .ok (.istore 6, 2) := by decide +kernel
theorem d_Tree_howFar_34 : decode prog_11_method_8_code 34 = .ok (.iload_n 3, 1) := by decide +kernel
theorem d_Tree_howFar_35 : decode prog_11_method_8_code 35 = .ok (.ifCond .eq 13, 3) := by decide +kernel
theorem d_Tree_howFar_38 : decode prog_11_method_8_code 38 = .ok (.iload 4, 2) := by decide +kernel
theorem d_Tree_howFar_40 : decode prog_11_method_8_code 40 = .ok (.iload 6, 2) := by decide +kernel
theorem d_Tree_howFar_42 : decode prog_11_method_8_code 42 = .ok (.invokestatic 25, 3) := by decide +kernel
theorem d_Tree_howFar_45 : decode prog_11_method_8_code 45 = .ok (.goto 8, 3) := by decide +kernel
theorem d_Tree_howFar_48 : decode prog_11_method_8_code 48 = .ok (.iload 4, 2) := by decide +kernel
theorem d_Tree_howFar_50 : decode prog_11_method_8_code 50 = .ok (.iload 6, 2) := by decide +kernel
theorem d_Tree_howFar_52 : decode prog_11_method_8_code 52 = .ok (.iadd, 1) := by decide +kernel
theorem d_Tree_howFar_53 : decode prog_11_method_8_code 53 = .ok (.istore 4, 2) := by decide +kernel
theorem d_Tree_howFar_55 : decode prog_11_method_8_code 55 = .ok (.iinc 5 1, 3) := by decide +kernel
theorem d_Tree_howFar_58 : decode prog_11_method_8_code 58 = .ok (.goto (-52), 3) := by decide +kernel
theorem d_Tree_howFar_61 : decode prog_11_method_8_code 61 = .ok (.iload 4, 2) := by decide +kernel
theorem d_Tree_howFar_63 : decode prog_11_method_8_code 63 = .ok (.ireturn, 1) := by decide +kernel
theorem d_Tree_mostLeft_0 : decode prog_11_method_9_code 0 = .ok (.iconst 0, 1) := by decide +kernel
theorem d_Tree_mostLeft_1 : decode prog_11_method_9_code 1 = .ok (.istore_n 3, 1) := by decide +kernel
theorem d_Tree_mostLeft_2 : decode prog_11_method_9_code 2 = .ok (.iconst 0, 1) := by decide +kernel
theorem d_Tree_mostLeft_3 : decode prog_11_method_9_code 3 = .ok (.istore 4, 2) := by decide +kernel
theorem d_Tree_mostLeft_5 : decode prog_11_method_9_code 5 = .ok (.iload 4, 2) := by decide +kernel
theorem d_Tree_mostLeft_7 : decode prog_11_method_9_code 7 = .ok (.bipush 11, 2) := by decide +kernel
theorem d_Tree_mostLeft_9 : decode prog_11_method_9_code 9 = .ok (.if_icmp .gt 28, 3) := by decide +kernel
theorem d_Tree_mostLeft_12 : decode prog_11_method_9_code 12 = .ok (.iload_n 3, 1) := by decide +kernel
theorem d_Tree_mostLeft_13 : decode prog_11_method_9_code 13 = .ok (.aload_n 0, 1) := by decide +kernel
theorem d_Tree_mostLeft_14 : decode prog_11_method_9_code 14 = .ok (.iload_n 1, 1) := by decide +kernel
theorem d_Tree_mostLeft_15 : decode prog_11_method_9_code 15 = .ok (.iload 4, 2) := by decide +kernel
theorem d_Tree_mostLeft_17 : decode prog_11_method_9_code 17 = .ok (.iload 4, 2) := by decide +kernel
theorem d_Tree_mostLeft_19 : decode prog_11_method_9_code 19 = .ok (.invokevirtual 39, 3) := by decide +kernel
theorem d_Tree_mostLeft_22 : decode prog_11_method_9_code 22 = .ok (.iload_n 2, 1) := by decide +kernel
theorem d_Tree_mostLeft_23 : decode prog_11_method_9_code 23 = .ok (.iand, 1) := by decide +kernel
theorem d_Tree_mostLeft_24 : decode prog_11_method_9_code 24 = .ok (.invokestatic 43, 3) := by decide +kernel
theorem d_Tree_mostLeft_27 : decode prog_11_method_9_code 27 = .ok (.invokestatic 25, 3) := by decide +kernel
theorem d_Tree_mostLeft_30 : decode prog_11_method_9_code 30 = .ok (.istore_n 3, 1) := by decide +kernel
theorem d_Tree_mostLeft_31 : decode prog_11_method_9_code 31 = .ok (.iinc 4 1, 3) := by decide +kernel
theorem d_Tree_mostLeft_34 : decode prog_11_method_9_code 34 = .ok (.goto (-29), 3) := by decide +kernel
theorem d_Tree_mostLeft_37 : decode prog_11_method_9_code 37 = .ok (.iload_n 3, 1) := by decide +kernel
theorem d_Tree_mostLeft_38 : decode prog_11_method_9_code 38 = .ok (.ireturn, 1) := by decide +kernel
theorem d_Year_init_0 : decode prog_12_method_1_code 0 = .ok (.aload_n 0, 1) := by decide +kernel
theorem d_Year_init_1 : decode prog_12_method_1_code 1 = .ok (.invokespecial 1, 3) := by decide +kernel
theorem d_Year_init_4 : decode prog_12_method_1_code 4 = .ok (.aload_n 0, 1) := by decide +kernel
theorem d_Year_init_5 : decode prog_12_method_1_code 5 = .ok (.new 7, 3) := by decide +kernel
theorem d_Year_init_8 : decode prog_12_method_1_code 8 = .ok (.dup, 1) := by decide +kernel
theorem d_Year_init_9 : decode prog_12_method_1_code 9 = .ok (.invokespecial 9, 3) := by decide +kernel
theorem d_Year_init_12 : decode prog_12_method_1_code 12 = .ok (.putfield 10, 3) := by decide +kernel
theorem d_Year_init_15 : decode prog_12_method_1_code 15 = .ok (.aload_n 0, 1) := by decide +kernel
theorem d_Year_init_16 : decode prog_12_method_1_code 16 = .ok (.new 16, 3) := by decide +kernel
theorem d_Year_init_19 : decode prog_12_method_1_code 19 = .ok (.dup, 1) := by decide +kernel
theorem d_Year_init_20 : decode prog_12_method_1_code 20 = .ok (.invokespecial 18, 3) := by decide +kernel
theorem d_Year_init_23 : decode prog_12_method_1_code 23 = .ok (.putfield 19, 3) := by decide +kernel
theorem d_Year_init_26 : decode prog_12_method_1_code 26 = .ok (.return_, 1) := by decide +kernel
theorem d_Year_pass_0 : decode prog_12_method_2_code 0 = .ok (.aload_n 0, 1) := by decide +kernel
theorem d_Year_pass_1 : decode prog_12_method_2_code 1 = .ok (.getfield 10, 3) := by decide +kernel
theorem d_Year_pass_4 : decode prog_12_method_2_code 4 = .ok (.aload_n 1, 1) := by decide +kernel
theorem d_Year_pass_5 : decode prog_12_method_2_code 5 = .ok (.invokevirtual 23, 3) := by decide +kernel
theorem d_Year_pass_8 : decode prog_12_method_2_code 8 = .ok (.iload_n 2, 1) := by decide +kernel
theorem d_Year_pass_9 : decode prog_12_method_2_code 9 = .ok (.istore 4, 2) := by decide +kernel
theorem d_Year_pass_11 : decode prog_12_method_2_code 11 = .ok (.iconst 0, 1) := by decide +kernel
theorem d_Year_pass_12 : decode prog_12_method_2_code 12 = .ok (.istore 5, 2) := by decide +kernel
theorem d_Year_pass_14 : decode prog_12_method_2_code 14 = .ok (.iload 5, 2) := by decide +kernel
theorem d_Year_pass_16 : decode prog_12_method_2_code 16 = .ok (.iload_n 3, 1) := by decide +kernel
theorem d_Year_pass_17 : decode prog_12_method_2_code 17 = .ok (.if_icmp .ge 53, 3) := by decide +kernel
theorem d_Year_pass_20 : decode prog_12_method_2_code 20 = .ok (.bipush 75, 2) := by decide +kernel
theorem d_Year_pass_22 : decode prog_12_method_2_code 22 = .ok (.iload 4, 2) := by decide +kernel
theorem d_Year_pass_24 : decode prog_12_method_2_code 24 = .ok (.imul, 1) := by decide +kernel
theorem d_Year_pass_25 : decode prog_12_method_2_code 25 = .ok (.bipush 74, 2) := by decide +kernel
theorem d_Year_pass_27 : decode prog_12_method_2_code 27 = .ok (.iadd, 1) := by decide +kernel
theorem d_Year_pass_28 : decode prog_12_method_2_code 28 = .ok (.ldc 27, 2) := by decide +kernel
theorem d_Year_pass_30 : decode prog_12_method_2_code 30 = .ok (.irem, 1) := by decide +kernel
theorem d_Year_pass_31 : decode prog_12_method_2_code 31 = .ok (.istore 4, 2) := by decide +kernel
theorem d_Year_pass_33 : decode prog_12_method_2_code 33 = .ok (.aload_n 0, 1) := by decide +kernel
theorem d_Year_pass_34 : decode prog_12_method_2_code 34 = .ok (.iload 4, 2) := by decide +kernel
theorem d_Year_pass_36 : decode prog_12_method_2_code 36 = .ok (.invokevirtual 28, 3) := by decide +kernel
theorem d_Year_pass_39 : decode prog_12_method_2_code 39 = .ok (.aload_n 0, 1) := by decide +kernel
theorem d_Year_pass_40 : decode prog_12_method_2_code 40 = .ok (.getfield 10, 3) := by decide +kernel
theorem d_Year_pass_43 : decode prog_12_method_2_code 43 = .ok (.aload_n 0, 1) := by decide +kernel
theorem d_Year_pass_44 : decode prog_12_method_2_code 44 = .ok (.getfield 19, 3) := by decide +kernel
theorem d_Year_pass_47 : decode prog_12_method_2_code 47 = .ok (.invokevirtual 32, 3) := by decide +kernel
theorem d_Year_pass_50 : decode prog_12_method_2_code 50 = .ok (.ifCond .ne 14, 3) := by decide +kernel
theorem d_Year_pass_53 : decode prog_12_method_2_code 53 = .ok (.aload_n 0, 1) := by decide +kernel
theorem d_Year_pass_54 : decode prog_12_method_2_code 54 = .ok (.getfield 10, 3) := by decide +kernel
theorem d_Year_pass_57 : decode prog_12_method_2_code 57 = .ok (.aload_n 0, 1) := by decide +kernel
theorem d_Year_pass_58 : decode prog_12_method_2_code 58 = .ok (.getfield 19, 3) := by decide +kernel
theorem d_Year_pass_61 : decode prog_12_method_2_code 61 = .ok (.invokevirtual 36, 3) := by decide +kernel
theorem d_Year_pass_64 : decode prog_12_method_2_code 64 = .ok (.iinc 5 1, 3) := by decide +kernel
theorem d_Year_pass_67 : decode prog_12_method_2_code 67 = .ok (.goto (-53), 3) := by decide +kernel
theorem d_Year_pass_70 : decode prog_12_method_2_code 70 = .ok (.aload_n 0, 1) := by decide +kernel
theorem d_Year_pass_71 : decode prog_12_method_2_code 71 = .ok (.getfield 10, 3) := by decide +kernel
theorem d_Year_pass_74 : decode prog_12_method_2_code 74 = .ok (.areturn, 1) := by decide +kernel
theorem d_Year_draw_0 : decode prog_12_method_3_code 0 = .ok (.iload_n 1, 1) := by decide +kernel
theorem d_Year_draw_1 : decode prog_12_method_3_code 1 = .ok (.bipush 6, 2) := by decide +kernel
theorem d_Year_draw_3 : decode prog_12_method_3_code 3 = .ok (.irem, 1) := by decide +kernel
theorem d_Year_draw_4 : decode prog_12_method_3_code 4 = .ok (.istore_n 2, 1) := by decide +kernel
theorem d_Year_draw_5 : decode prog_12_method_3_code 5 = .ok (.iload_n 1, 1) := by decide +kernel
theorem d_Year_draw_6 : decode prog_12_method_3_code 6 = .ok (.bipush 48, 2) := by decide +kernel
theorem d_Year_draw_8 : decode prog_12_method_3_code 8 = .ok (.idiv, 1) := by decide +kernel
theorem d_Year_draw_9 : decode prog_12_method_3_code 9 = .ok (.istore_n 3, 1) := by decide +kernel
theorem d_Year_draw_10 : decode prog_12_method_3_code 10 = .ok (.iload_n 1, 1) := by decide +kernel
theorem d_Year_draw_11 : decode prog_12_method_3_code 11 = .ok (.bipush 6, 2) := by decide +kernel
theorem d_Year_draw_13 : decode prog_12_method_3_code 13 = .ok (.idiv, 1) := by decide +kernel
theorem d_Year_draw_14 : decode prog_12_method_3_code 14 = .ok (.bipush 8, 2) := by decide +kernel
theorem d_Year_draw_16 : decode prog_12_method_3_code 16 = .ok (.irem, 1) := by decide +kernel
theorem d_Year_draw_17 : decode prog_12_method_3_code 17 = .ok (.tableswitch 108 4 7 #[31, 44, 62, 84], 31) := by decide +kernel
theorem d_Year_draw_48 : decode prog_12_method_3_code 48 = .ok (.aload_n 0, 1) := by decide +kernel
theorem d_Year_draw_49 : decode prog_12_method_3_code 49 = .ok (.getfield 19, 3) := by decide +kernel
theorem d_Year_draw_52 : decode prog_12_method_3_code 52 = .ok (.iconst 1, 1) := by decide +kernel
theorem d_Year_draw_53 : decode prog_12_method_3_code 53 = .ok (.iload_n 2, 1) := by decide +kernel
theorem d_Year_draw_54 : decode prog_12_method_3_code 54 = .ok (.iconst 0, 1) := by decide +kernel
theorem d_Year_draw_55 : decode prog_12_method_3_code 55 = .ok (.invokevirtual 40, 3) := by decide +kernel
theorem d_Year_draw_58 : decode prog_12_method_3_code 58 = .ok (.goto 80, 3) := by decide +kernel
theorem d_Year_draw_61 : decode prog_12_method_3_code 61 = .ok (.aload_n 0, 1) := by decide +kernel
theorem d_Year_draw_62 : decode prog_12_method_3_code 62 = .ok (.getfield 19, 3) := by decide +kernel
theorem d_Year_draw_65 : decode prog_12_method_3_code 65 = .ok (.iconst 2, 1) := by decide +kernel
theorem d_Year_draw_66 : decode prog_12_method_3_code 66 = .ok (.iconst 1, 1) := by decide +kernel
theorem d_Year_draw_67 : decode prog_12_method_3_code 67 = .ok (.iload_n 3, 1) := by decide +kernel
theorem d_Year_draw_68 : decode prog_12_method_3_code 68 = .ok (.bipush 9, 2) := by decide +kernel
theorem d_Year_draw_70 : decode prog_12_method_3_code 70 = .ok (.irem, 1) := by decide +kernel
theorem d_Year_draw_71 : decode prog_12_method_3_code 71 = .ok (.iadd, 1) := by decide +kernel
theorem d_Year_draw_72 : decode prog_12_method_3_code 72 = .ok (.iconst 0, 1) := by decide +kernel
theorem d_Year_draw_73 : decode prog_12_method_3_code 73 = .ok (.invokevirtual 40, 3) := by decide +kernel
theorem d_Year_draw_76 : decode prog_12_method_3_code 76 = .ok (.goto 62, 3) := by decide +kernel
theorem d_Year_draw_79 : decode prog_12_method_3_code 79 = .ok (.aload_n 0, 1) := by decide +kernel
theorem d_Year_draw_80 : decode prog_12_method_3_code 80 = .ok (.getfield 19, 3) := by decide +kernel
theorem d_Year_draw_83 : decode prog_12_method_3_code 83 = .ok (.iconst 3, 1) := by decide +kernel
theorem d_Year_draw_84 : decode prog_12_method_3_code 84 = .ok (.iload_n 3, 1) := by decide +kernel
theorem d_Year_draw_85 : decode prog_12_method_3_code 85 = .ok (.bipush 12, 2) := by decide +kernel
theorem d_Year_draw_87 : decode prog_12_method_3_code 87 = .ok (.irem, 1) := by decide +kernel
theorem d_Year_draw_88 : decode prog_12_method_3_code 88 = .ok (.iload_n 3, 1) := by decide +kernel
theorem d_Year_draw_89 : decode prog_12_method_3_code 89 = .ok (.bipush 12, 2) := by decide +kernel
theorem d_Year_draw_91 : decode prog_12_method_3_code 91 = .ok (.idiv, 1) := by decide +kernel
theorem d_Year_draw_92 : decode prog_12_method_3_code 92 = .ok (.bipush 12, 2) := by decide +kernel
theorem d_Year_draw_94 : decode prog_12_method_3_code 94 = .ok (.irem, 1) := by decide +kernel
theorem d_Year_draw_95 : decode prog_12_method_3_code 95 = .ok (.invokevirtual 40, 3) := by decide +kernel
theorem d_Year_draw_98 : decode prog_12_method_3_code 98 = .ok (.goto 40, 3) := by decide +kernel
theorem d_Year_draw_101 : decode prog_12_method_3_code 101 = .ok (.aload_n 0, 1) := by decide +kernel
theorem d_Year_draw_102 : decode prog_12_method_3_code 102 = .ok (.getfield 19, 3) := by decide +kernel
theorem d_Year_draw_105 : decode prog_12_method_3_code 105 = .ok (.iload_n 3, 1) := by decide +kernel
theorem d_Year_draw_106 : decode prog_12_method_3_code 106 = .ok (.bipush 8, 2) := by decide +kernel
theorem d_Year_draw_108 : decode prog_12_method_3_code 108 = .ok (.irem, 1) := by decide +kernel
theorem d_Year_draw_109 : decode prog_12_method_3_code 109 = .ok (.ifCond .ne 7, 3) := by decide +kernel
theorem d_Year_draw_112 : decode prog_12_method_3_code 112 = .ok (.iconst 4, 1) := by decide +kernel
theorem d_Year_draw_113 : decode prog_12_method_3_code 113 = .ok (.goto 4, 3) := by decide +kernel
theorem d_Year_draw_116 : decode prog_12_method_3_code 116 = .ok (.iconst 5, 1) := by decide +kernel
theorem d_Year_draw_117 : decode prog_12_method_3_code 117 = .ok (.iconst 0, 1) := by decide +kernel
theorem d_Year_draw_118 : decode prog_12_method_3_code 118 = .ok (.iconst 0, 1) := by decide +kernel
theorem d_Year_draw_119 : decode prog_12_method_3_code 119 = .ok (.invokevirtual 40, 3) := by decide +kernel
theorem d_Year_draw_122 : decode prog_12_method_3_code 122 = .ok (.goto 16, 3) := by decide +kernel
theorem d_Year_draw_125 : decode prog_12_method_3_code 125 = .ok (.aload_n 0, 1) := by decide +kernel
theorem d_Year_draw_126 : decode prog_12_method_3_code 126 = .ok (.getfield 19, 3) := by decide +kernel
theorem d_Year_draw_129 : decode prog_12_method_3_code 129 = .ok (.iconst 0, 1) := by decide +kernel
theorem d_Year_draw_130 : decode prog_12_method_3_code 130 = .ok (.iload_n 2, 1) := by decide +kernel
theorem d_Year_draw_131 : decode prog_12_method_3_code 131 = .ok (.iload_n 3, 1) := by decide +kernel
theorem d_Year_draw_132 : decode prog_12_method_3_code 132 = .ok (.bipush 12, 2) := by decide +kernel
theorem d_Year_draw_134 : decode prog_12_method_3_code 134 = .ok (.irem, 1) := by decide +kernel
theorem d_Year_draw_135 : decode prog_12_method_3_code 135 = .ok (.invokevirtual 40, 3) := by decide +kernel
theorem d_Year_draw_138 : decode prog_12_method_3_code 138 = .ok (.return_, 1) := by decide +kernel
theorem d_BH_init_0 : decode prog_1_method_1_code 0 = .ok (.aload_n 0, 1) := by decide +kernel
theorem d_BH_init_1 : decode prog_1_method_1_code 1 = .ok (.invokespecial 3, 3) := by decide +kernel
theorem d_BH_init_4 : decode prog_1_method_1_code 4 = .ok (.aload_n 0, 1) := by decide +kernel
theorem d_BH_init_5 : decode prog_1_method_1_code 5 = .ok (.new 9, 3) := by decide +kernel
theorem d_BH_init_8 : decode prog_1_method_1_code 8 = .ok (.dup, 1) := by decide +kernel
theorem d_BH_init_9 : decode prog_1_method_1_code 9 = .ok (.invokespecial 11, 3) := by decide +kernel
theorem d_BH_init_12 : decode prog_1_method_1_code 12 = .ok (.putfield 12, 3) := by decide +kernel
theorem d_BH_init_15 : decode prog_1_method_1_code 15 = .ok (.aload_n 0, 1) := by decide +kernel
theorem d_BH_init_16 : decode prog_1_method_1_code 16 = .ok (.new 16, 3) := by decide +kernel
theorem d_BH_init_19 : decode prog_1_method_1_code 19 = .ok (.dup, 1) := by decide +kernel
theorem d_BH_init_20 : decode prog_1_method_1_code 20 = .ok (.invokespecial 18, 3) := by decide +kernel
theorem d_BH_init_23 : decode prog_1_method_1_code 23 = .ok (.putfield 19, 3) := by decide +kernel
theorem d_BH_init_26 : decode prog_1_method_1_code 26 = .ok (.aload_n 0, 1) := by decide +kernel
theorem d_BH_init_27 : decode prog_1_method_1_code 27 = .ok (.new 23, 3) := by decide +kernel
theorem d_BH_init_30 : decode prog_1_method_1_code 30 = .ok (.dup, 1) := by decide +kernel
theorem d_BH_init_31 : decode prog_1_method_1_code 31 = .ok (.invokespecial 25, 3) := by decide +kernel
theorem d_BH_init_34 : decode prog_1_method_1_code 34 = .ok (.putfield 26, 3) := by decide +kernel
theorem d_BH_init_37 : decode prog_1_method_1_code 37 = .ok (.aload_n 0, 1) := by decide +kernel
theorem d_BH_init_38 : decode prog_1_method_1_code 38 = .ok (.new 30, 3) := by decide +kernel
theorem d_BH_init_41 : decode prog_1_method_1_code 41 = .ok (.dup, 1) := by decide +kernel
theorem d_BH_init_42 : decode prog_1_method_1_code 42 = .ok (.invokespecial 32, 3) := by decide +kernel
theorem d_BH_init_45 : decode prog_1_method_1_code 45 = .ok (.putfield 33, 3) := by decide +kernel
theorem d_BH_init_48 : decode prog_1_method_1_code 48 = .ok (.aload_n 0, 1) := by decide +kernel
theorem d_BH_init_49 : decode prog_1_method_1_code 49 = .ok (.new 37, 3) := by decide +kernel
theorem d_BH_init_52 : decode prog_1_method_1_code 52 = .ok (.dup, 1) := by decide +kernel
theorem d_BH_init_53 : decode prog_1_method_1_code 53 = .ok (.invokespecial 39, 3) := by decide +kernel
theorem d_BH_init_56 : decode prog_1_method_1_code 56 = .ok (.putfield 40, 3) := by decide +kernel
theorem d_BH_init_59 : decode prog_1_method_1_code 59 = .ok (.aload_n 0, 1) := by decide +kernel
theorem d_BH_init_60 : decode prog_1_method_1_code 60 = .ok (.new 44, 3) := by decide +kernel
theorem d_BH_init_63 : decode prog_1_method_1_code 63 = .ok (.dup, 1) := by decide +kernel
theorem d_BH_init_64 : decode prog_1_method_1_code 64 = .ok (.invokespecial 46, 3) := by decide +kernel
theorem d_BH_init_67 : decode prog_1_method_1_code 67 = .ok (.putfield 47, 3) := by decide +kernel
theorem d_BH_init_70 : decode prog_1_method_1_code 70 = .ok (.aload_n 0, 1) := by decide +kernel
theorem d_BH_init_71 : decode prog_1_method_1_code 71 = .ok (.new 51, 3) := by decide +kernel
theorem d_BH_init_74 : decode prog_1_method_1_code 74 = .ok (.dup, 1) := by decide +kernel
theorem d_BH_init_75 : decode prog_1_method_1_code 75 = .ok (.invokespecial 53, 3) := by decide +kernel
theorem d_BH_init_78 : decode prog_1_method_1_code 78 = .ok (.putfield 54, 3) := by decide +kernel
theorem d_BH_init_81 : decode prog_1_method_1_code 81 = .ok (.aload_n 0, 1) := by decide +kernel
theorem d_BH_init_82 : decode prog_1_method_1_code 82 = .ok (.new 58, 3) := by decide +kernel
theorem d_BH_init_85 : decode prog_1_method_1_code 85 = .ok (.dup, 1) := by decide +kernel
theorem d_BH_init_86 : decode prog_1_method_1_code 86 = .ok (.invokespecial 60, 3) := by decide +kernel
theorem d_BH_init_89 : decode prog_1_method_1_code 89 = .ok (.putfield 61, 3) := by decide +kernel
theorem d_BH_init_92 : decode prog_1_method_1_code 92 = .ok (.aload_n 0, 1) := by decide +kernel
theorem d_BH_init_93 : decode prog_1_method_1_code 93 = .ok (.new 58, 3) := by decide +kernel
theorem d_BH_init_96 : decode prog_1_method_1_code 96 = .ok (.dup, 1) := by decide +kernel
theorem d_BH_init_97 : decode prog_1_method_1_code 97 = .ok (.invokespecial 60, 3) := by decide +kernel
theorem d_BH_init_100 : decode prog_1_method_1_code 100 = .ok (.putfield 65, 3) := by decide +kernel
theorem d_BH_init_103 : decode prog_1_method_1_code 103 = .ok (.return_, 1) := by decide +kernel
theorem d_BH_branch_0 : decode prog_1_method_2_code 0 = .ok (.iload_n 1, 1) := by decide +kernel
theorem d_BH_branch_1 : decode prog_1_method_2_code 1 = .ok (.invokestatic 68, 3) := by decide +kernel
theorem d_BH_branch_4 : decode prog_1_method_2_code 4 = .ok (.ifCond .eq 14, 3) := by decide +kernel
theorem d_BH_branch_7 : decode prog_1_method_2_code 7 = .ok (.iload_n 2, 1) := by decide +kernel
theorem d_BH_branch_8 : decode prog_1_method_2_code 8 = .ok (.invokestatic 68, 3) := by decide +kernel
theorem d_BH_branch_11 : decode prog_1_method_2_code 11 = .ok (.ifCond .eq 7, 3) := by decide +kernel
theorem d_BH_branch_14 : decode prog_1_method_2_code 14 = .ok (.iload_n 1, 1) := by decide +kernel
theorem d_BH_branch_15 : decode prog_1_method_2_code 15 = .ok (.ifCond .ne 5, 3) := by decide +kernel
theorem d_BH_branch_18 : decode prog_1_method_2_code 18 = .ok (.iconst (-1), 1) := by decide +kernel
theorem d_BH_branch_19 : decode prog_1_method_2_code 19 = .ok (.ireturn, 1) := by decide +kernel
theorem d_BH_branch_20 : decode prog_1_method_2_code 20 = .ok (.iload_n 2, 1) := by decide +kernel
theorem d_BH_branch_21 : decode prog_1_method_2_code 21 = .ok (.iload_n 1, 1) := by decide +kernel
theorem d_BH_branch_22 : decode prog_1_method_2_code 22 = .ok (.if_icmp .lt 6, 3) := by decide +kernel
theorem d_BH_branch_25 : decode prog_1_method_2_code 25 = .ok (.bipush (-2), 2) := by decide +kernel
theorem d_BH_branch_27 : decode prog_1_method_2_code 27 = .ok (.ireturn, 1) := by decide +kernel
theorem d_BH_branch_28 : decode prog_1_method_2_code 28 = .ok (.aload_n 0, 1) := by decide +kernel
theorem d_BH_branch_29 : decode prog_1_method_2_code 29 = .ok (.getfield 12, 3) := by decide +kernel
theorem d_BH_branch_32 : decode prog_1_method_2_code 32 = .ok (.invokevirtual 72, 3) := by decide +kernel
theorem d_BH_branch_35 : decode prog_1_method_2_code 35 = .ok (.iload_n 1, 1) := by decide +kernel
theorem d_BH_branch_36 : decode prog_1_method_2_code 36 = .ok (.invokevirtual 76, 3) := by decide +kernel
theorem d_BH_branch_39 : decode prog_1_method_2_code 39 = .ok (.istore_n 3, 1) := by decide +kernel
theorem d_BH_branch_40 : decode prog_1_method_2_code 40 = .ok (.aload_n 0, 1) := by decide +kernel
theorem d_BH_branch_41 : decode prog_1_method_2_code 41 = .ok (.getfield 12, 3) := by decide +kernel
theorem d_BH_branch_44 : decode prog_1_method_2_code 44 = .ok (.invokevirtual 72, 3) := by decide +kernel
theorem d_BH_branch_47 : decode prog_1_method_2_code 47 = .ok (.iload_n 1, 1) := by decide +kernel
theorem d_BH_branch_48 : decode prog_1_method_2_code 48 = .ok (.iload_n 2, 1) := by decide +kernel
theorem d_BH_branch_49 : decode prog_1_method_2_code 49 = .ok (.invokevirtual 82, 3) := by decide +kernel
theorem d_BH_branch_52 : decode prog_1_method_2_code 52 = .ok (.iload_n 3, 1) := by decide +kernel
theorem d_BH_branch_53 : decode prog_1_method_2_code 53 = .ok (.ireturn, 1) := by decide +kernel
theorem d_BH_ball_0 : decode prog_1_method_3_code 0 = .ok (.iload_n 1, 1) := by decide +kernel
theorem d_BH_ball_1 : decode prog_1_method_3_code 1 = .ok (.invokestatic 86, 3) := by decide +kernel
theorem d_BH_ball_4 : decode prog_1_method_3_code 4 = .ok (.ifCond .eq 15, 3) := by decide +kernel
theorem d_BH_ball_7 : decode prog_1_method_3_code 7 = .ok (.iload_n 2, 1) := by decide +kernel
theorem d_BH_ball_8 : decode prog_1_method_3_code 8 = .ok (.iconst (-1), 1) := by decide +kernel
theorem d_BH_ball_9 : decode prog_1_method_3_code 9 = .ok (.if_icmp .eq 12, 3) := by decide +kernel
theorem d_BH_ball_12 : decode prog_1_method_3_code 12 = .ok (.iload_n 2, 1) := by decide +kernel
theorem d_BH_ball_13 : decode prog_1_method_3_code 13 = .ok (.invokestatic 68, 3) := by decide +kernel
theorem d_BH_ball_16 : decode prog_1_method_3_code 16 = .ok (.ifCond .ne 5, 3) := by decide +kernel
theorem d_BH_ball_19 : decode prog_1_method_3_code 19 = .ok (.iconst (-1), 1) := by decide +kernel
theorem d_BH_ball_20 : decode prog_1_method_3_code 20 = .ok (.ireturn, 1) := by decide +kernel
theorem d_BH_ball_21 : decode prog_1_method_3_code 21 = .ok (.iload_n 3, 1) := by decide +kernel
theorem d_BH_ball_22 : decode prog_1_method_3_code 22 = .ok (.ifCond .lt 9, 3) := by decide +kernel
theorem d_BH_ball_25 : decode prog_1_method_3_code 25 = .ok (.iload_n 3, 1) := by decide +kernel
theorem d_BH_ball_26 : decode prog_1_method_3_code 26 = .ok (.bipush 9, 2) := by decide +kernel
theorem d_BH_ball_28 : decode prog_1_method_3_code 28 = .ok (.if_icmp .lt 6, 3) := by decide +kernel
theorem d_BH_ball_31 : decode prog_1_method_3_code 31 = .ok (.bipush (-2), 2) := by decide +kernel
theorem d_BH_ball_33 : decode prog_1_method_3_code 33 = .ok (.ireturn, 1) := by decide +kernel
theorem d_BH_ball_34 : decode prog_1_method_3_code 34 = .ok (.iload_n 2, 1) := by decide +kernel
theorem d_BH_ball_35 : decode prog_1_method_3_code 35 = .ok (.iconst (-1), 1) := by decide +kernel
theorem d_BH_ball_36 : decode prog_1_method_3_code 36 = .ok (.if_icmp .eq 18, 3) := by decide +kernel
theorem d_BH_ball_39 : decode prog_1_method_3_code 39 = .ok (.aload_n 0, 1) := by decide +kernel
theorem d_BH_ball_40 : decode prog_1_method_3_code 40 = .ok (.getfield 12, 3) := by decide +kernel
theorem d_BH_ball_43 : decode prog_1_method_3_code 43 = .ok (.iload_n 1, 1) := by decide +kernel
theorem d_BH_ball_44 : decode prog_1_method_3_code 44 = .ok (.iload_n 2, 1) := by decide +kernel
theorem d_BH_ball_45 : decode prog_1_method_3_code 45 = .ok (.invokevirtual 89, 3) := by decide +kernel
theorem d_BH_ball_48 : decode prog_1_method_3_code 48 = .ok (.ifCond .eq 6, 3) := by decide +kernel
theorem d_BH_ball_51 : decode prog_1_method_3_code 51 = .ok (.bipush (-3), 2) := by decide +kernel
theorem d_BH_ball_53 : decode prog_1_method_3_code 53 = .ok (.ireturn, 1) := by decide +kernel
theorem d_BH_ball_54 : decode prog_1_method_3_code 54 = .ok (.aload_n 0, 1) := by decide +kernel
theorem d_BH_ball_55 : decode prog_1_method_3_code 55 = .ok (.getfield 12, 3) := by decide +kernel
theorem d_BH_ball_58 : decode prog_1_method_3_code 58 = .ok (.iload_n 1, 1) := by decide +kernel
theorem d_BH_ball_59 : decode prog_1_method_3_code 59 = .ok (.invokevirtual 93, 3) := by decide +kernel
theorem d_BH_ball_62 : decode prog_1_method_3_code 62 = .ok (.istore 4, 2) := by decide +kernel
theorem d_BH_ball_64 : decode prog_1_method_3_code 64 = .ok (.aload_n 0, 1) := by decide +kernel
theorem d_BH_ball_65 : decode prog_1_method_3_code 65 = .ok (.getfield 12, 3) := by decide +kernel
theorem d_BH_ball_68 : decode prog_1_method_3_code 68 = .ok (.iload_n 1, 1) := by decide +kernel
theorem d_BH_ball_69 : decode prog_1_method_3_code 69 = .ok (.iload_n 2, 1) := by decide +kernel
theorem d_BH_ball_70 : decode prog_1_method_3_code 70 = .ok (.iconst (-1), 1) := by decide +kernel
theorem d_BH_ball_71 : decode prog_1_method_3_code 71 = .ok (.if_icmp .ne 8, 3) := by decide +kernel
theorem d_BH_ball_74 : decode prog_1_method_3_code 74 = .ok (.bipush (-6), 2) := by decide +kernel
theorem d_BH_ball_76 : decode prog_1_method_3_code 76 = .ok (.goto 4, 3) := by decide +kernel
theorem d_BH_ball_79 : decode prog_1_method_3_code 79 = .ok (.iload_n 2, 1) := by decide +kernel
theorem d_BH_ball_80 : decode prog_1_method_3_code 80 = .ok (.iload_n 3, 1) := by decide +kernel
theorem d_BH_ball_81 : decode prog_1_method_3_code 81 = .ok (.invokevirtual 96, 3) := by decide +kernel
theorem d_BH_ball_84 : decode prog_1_method_3_code 84 = .ok (.iload 4, 2) := by decide +kernel
theorem d_BH_ball_86 : decode prog_1_method_3_code 86 = .ok (.ireturn, 1) := by decide +kernel
theorem d_BH_say_0 : decode prog_1_method_4_code 0 = .ok (.iload_n 1, 1) := by decide +kernel
theorem d_BH_say_1 : decode prog_1_method_4_code 1 = .ok (.bipush 33, 2) := by decide +kernel
theorem d_BH_say_3 : decode prog_1_method_4_code 3 = .ok (.if_icmp .lt 9, 3) := by decide +kernel
theorem d_BH_say_6 : decode prog_1_method_4_code 6 = .ok (.iload_n 1, 1) := by decide +kernel
theorem d_BH_say_7 : decode prog_1_method_4_code 7 = .ok (.bipush 126, 2) := by decide +kernel
theorem d_BH_say_9 : decode prog_1_method_4_code 9 = .ok (.if_icmp .le 6, 3) := by decide +kernel
theorem d_BH_say_12 : decode prog_1_method_4_code 12 = .ok (.bipush (-2), 2) := by decide +kernel
theorem d_BH_say_14 : decode prog_1_method_4_code 14 = .ok (.ireturn, 1) := by decide +kernel
theorem d_BH_say_15 : decode prog_1_method_4_code 15 = .ok (.aload_n 0, 1) := by decide +kernel
theorem d_BH_say_16 : decode prog_1_method_4_code 16 = .ok (.getfield 26, 3) := by decide +kernel
theorem d_BH_say_19 : decode prog_1_method_4_code 19 = .ok (.invokevirtual 100, 3) := by decide +kernel
theorem d_BH_say_22 : decode prog_1_method_4_code 22 = .ok (.bipush 60, 2) := by decide +kernel
theorem d_BH_say_24 : decode prog_1_method_4_code 24 = .ok (.if_icmp .lt 6, 3) := by decide +kernel
theorem d_BH_say_27 : decode prog_1_method_4_code 27 = .ok (.bipush (-4), 2) := by decide +kernel
theorem d_BH_say_29 : decode prog_1_method_4_code 29 = .ok (.ireturn, 1) := by decide +kernel
theorem d_BH_say_30 : decode prog_1_method_4_code 30 = .ok (.aload_n 0, 1) := by decide +kernel
theorem d_BH_say_31 : decode prog_1_method_4_code 31 = .ok (.getfield 26, 3) := by decide +kernel
theorem d_BH_say_34 : decode prog_1_method_4_code 34 = .ok (.iload_n 1, 1) := by decide +kernel
theorem d_BH_say_35 : decode prog_1_method_4_code 35 = .ok (.invokevirtual 104, 3) := by decide +kernel
theorem d_BH_say_38 : decode prog_1_method_4_code 38 = .ok (.aload_n 0, 1) := by decide +kernel
theorem d_BH_say_39 : decode prog_1_method_4_code 39 = .ok (.getfield 26, 3) := by decide +kernel
theorem d_BH_say_42 : decode prog_1_method_4_code 42 = .ok (.invokevirtual 100, 3) := by decide +kernel
theorem d_BH_say_45 : decode prog_1_method_4_code 45 = .ok (.ireturn, 1) := by decide +kernel
theorem d_BH_wipe_0 : decode prog_1_method_5_code 0 = .ok (.aload_n 0, 1) := by decide +kernel
theorem d_BH_wipe_1 : decode prog_1_method_5_code 1 = .ok (.getfield 26, 3) := by decide +kernel
theorem d_BH_wipe_4 : decode prog_1_method_5_code 4 = .ok (.invokevirtual 100, 3) := by decide +kernel
theorem d_BH_wipe_7 : decode prog_1_method_5_code 7 = .ok (.istore_n 1, 1) := by decide +kernel
theorem d_BH_wipe_8 : decode prog_1_method_5_code 8 = .ok (.aload_n 0, 1) := by decide +kernel
theorem d_BH_wipe_9 : decode prog_1_method_5_code 9 = .ok (.getfield 26, 3) := by decide +kernel
theorem d_BH_wipe_12 : decode prog_1_method_5_code 12 = .ok (.invokevirtual 108, 3) := by decide +kernel
theorem d_BH_wipe_15 : decode prog_1_method_5_code 15 = .ok (.iload_n 1, 1) := by decide +kernel
theorem d_BH_wipe_16 : decode prog_1_method_5_code 16 = .ok (.ireturn, 1) := by decide +kernel
theorem d_BH_fault_0 : decode prog_1_method_6_code 0 = .ok (.aload_n 0, 1) := by decide +kernel
theorem d_BH_fault_1 : decode prog_1_method_6_code 1 = .ok (.getfield 26, 3) := by decide +kernel
theorem d_BH_fault_4 : decode prog_1_method_6_code 4 = .ok (.invokevirtual 111, 3) := by decide +kernel
theorem d_BH_fault_7 : decode prog_1_method_6_code 7 = .ok (.ireturn, 1) := by decide +kernel
theorem d_BH_judge_0 : decode prog_1_method_7_code 0 = .ok (.iload_n 1, 1) := by decide +kernel
theorem d_BH_judge_1 : decode prog_1_method_7_code 1 = .ok (.ifCond .lt 8, 3) := by decide +kernel
theorem d_BH_judge_4 : decode prog_1_method_7_code 4 = .ok (.iload_n 1, 1) := by decide +kernel
theorem d_BH_judge_5 : decode prog_1_method_7_code 5 = .ok (.iconst 1, 1) := by decide +kernel
theorem d_BH_judge_6 : decode prog_1_method_7_code 6 = .ok (.if_icmp .le 6, 3) := by decide +kernel
theorem d_BH_judge_9 : decode prog_1_method_7_code 9 = .ok (.bipush (-2), 2) := by decide +kernel
theorem d_BH_judge_11 : decode prog_1_method_7_code 11 = .ok (.ireturn, 1) := by decide +kernel
theorem d_BH_judge_12 : decode prog_1_method_7_code 12 = .ok (.aload_n 0, 1) := by decide +kernel
theorem d_BH_judge_13 : decode prog_1_method_7_code 13 = .ok (.getfield 26, 3) := by decide +kernel
theorem d_BH_judge_16 : decode prog_1_method_7_code 16 = .ok (.invokevirtual 111, 3) := by decide +kernel
theorem d_BH_judge_19 : decode prog_1_method_7_code 19 = .ok (.bipush (-6), 2) := by decide +kernel
theorem d_BH_judge_21 : decode prog_1_method_7_code 21 = .ok (.if_icmp .eq 6, 3) := by decide +kernel
theorem d_BH_judge_24 : decode prog_1_method_7_code 24 = .ok (.bipush (-5), 2) := by decide +kernel
theorem d_BH_judge_26 : decode prog_1_method_7_code 26 = .ok (.ireturn, 1) := by decide +kernel
theorem d_BH_judge_27 : decode prog_1_method_7_code 27 = .ok (.aload_n 0, 1) := by decide +kernel
theorem d_BH_judge_28 : decode prog_1_method_7_code 28 = .ok (.getfield 33, 3) := by decide +kernel
theorem d_BH_judge_31 : decode prog_1_method_7_code 31 = .ok (.aload_n 0, 1) := by decide +kernel
theorem d_BH_judge_32 : decode prog_1_method_7_code 32 = .ok (.getfield 26, 3) := by decide +kernel
theorem d_BH_judge_35 : decode prog_1_method_7_code 35 = .ok (.aload_n 0, 1) := by decide +kernel
theorem d_BH_judge_36 : decode prog_1_method_7_code 36 = .ok (.getfield 12, 3) := by decide +kernel
theorem d_BH_judge_39 : decode prog_1_method_7_code 39 = .ok (.invokevirtual 114, 3) := by decide +kernel
theorem d_BH_judge_42 : decode prog_1_method_7_code 42 = .ok (.ifCond .eq 6, 3) := by decide +kernel
theorem d_BH_judge_45 : decode prog_1_method_7_code 45 = .ok (.bipush (-6), 2) := by decide +kernel
theorem d_BH_judge_47 : decode prog_1_method_7_code 47 = .ok (.ireturn, 1) := by decide +kernel
theorem d_BH_judge_48 : decode prog_1_method_7_code 48 = .ok (.iload_n 1, 1) := by decide +kernel
theorem d_BH_judge_49 : decode prog_1_method_7_code 49 = .ok (.ifCond .ne 13, 3) := by decide +kernel
theorem d_BH_judge_52 : decode prog_1_method_7_code 52 = .ok (.aload_n 0, 1) := by decide +kernel
theorem d_BH_judge_53 : decode prog_1_method_7_code 53 = .ok (.getfield 33, 3) := by decide +kernel
theorem d_BH_judge_56 : decode prog_1_method_7_code 56 = .ok (.invokevirtual 118, 3) := by decide +kernel
theorem d_BH_judge_59 : decode prog_1_method_7_code 59 = .ok (.goto 10, 3) := by decide +kernel
theorem d_BH_judge_62 : decode prog_1_method_7_code 62 = .ok (.aload_n 0, 1) := by decide +kernel
theorem d_BH_judge_63 : decode prog_1_method_7_code 63 = .ok (.getfield 33, 3) := by decide +kernel
theorem d_BH_judge_66 : decode prog_1_method_7_code 66 = .ok (.invokevirtual 121, 3) := by decide +kernel
theorem d_BH_judge_69 : decode prog_1_method_7_code 69 = .ok (.ireturn, 1) := by decide +kernel
theorem d_BH_done_0 : decode prog_1_method_8_code 0 = .ok (.aload_n 0, 1) := by decide +kernel
theorem d_BH_done_1 : decode prog_1_method_8_code 1 = .ok (.getfield 33, 3) := by decide +kernel
theorem d_BH_done_4 : decode prog_1_method_8_code 4 = .ok (.aload_n 0, 1) := by decide +kernel
theorem d_BH_done_5 : decode prog_1_method_8_code 5 = .ok (.getfield 26, 3) := by decide +kernel
theorem d_BH_done_8 : decode prog_1_method_8_code 8 = .ok (.aload_n 0, 1) := by decide +kernel
theorem d_BH_done_9 : decode prog_1_method_8_code 9 = .ok (.getfield 12, 3) := by decide +kernel
theorem d_BH_done_12 : decode prog_1_method_8_code 12 = .ok (.invokevirtual 114, 3) := by decide +kernel
theorem d_BH_done_15 : decode prog_1_method_8_code 15 = .ok (.ifCond .ne 6, 3) := by decide +kernel
theorem d_BH_done_18 : decode prog_1_method_8_code 18 = .ok (.bipush (-5), 2) := by decide +kernel
theorem d_BH_done_20 : decode prog_1_method_8_code 20 = .ok (.ireturn, 1) := by decide +kernel
theorem d_BH_done_21 : decode prog_1_method_8_code 21 = .ok (.aload_n 0, 1) := by decide +kernel
theorem d_BH_done_22 : decode prog_1_method_8_code 22 = .ok (.getfield 12, 3) := by decide +kernel
theorem d_BH_done_25 : decode prog_1_method_8_code 25 = .ok (.aload_n 0, 1) := by decide +kernel
theorem d_BH_done_26 : decode prog_1_method_8_code 26 = .ok (.getfield 33, 3) := by decide +kernel
theorem d_BH_done_29 : decode prog_1_method_8_code 29 = .ok (.invokevirtual 124, 3) := by decide +kernel
theorem d_BH_done_32 : decode prog_1_method_8_code 32 = .ok (.invokevirtual 127, 3) := by decide +kernel
theorem d_BH_done_35 : decode prog_1_method_8_code 35 = .ok (.aload_n 0, 1) := by decide +kernel
theorem d_BH_done_36 : decode prog_1_method_8_code 36 = .ok (.getfield 26, 3) := by decide +kernel
theorem d_BH_done_39 : decode prog_1_method_8_code 39 = .ok (.invokevirtual 108, 3) := by decide +kernel
theorem d_BH_done_42 : decode prog_1_method_8_code 42 = .ok (.aload_n 0, 1) := by decide +kernel
theorem d_BH_done_43 : decode prog_1_method_8_code 43 = .ok (.getfield 33, 3) := by decide +kernel
theorem d_BH_done_46 : decode prog_1_method_8_code 46 = .ok (.invokevirtual 118, 3) := by decide +kernel
theorem d_BH_done_49 : decode prog_1_method_8_code 49 = .ok (.ireturn, 1) := by decide +kernel
theorem d_BH_behind_0 : decode prog_1_method_9_code 0 = .ok (.iload_n 1, 1) := by decide +kernel
theorem d_BH_behind_1 : decode prog_1_method_9_code 1 = .ok (.invokestatic 86, 3) := by decide +kernel
theorem d_BH_behind_4 : decode prog_1_method_9_code 4 = .ok (.ifCond .ne 5, 3) := by decide +kernel
theorem d_BH_behind_7 : decode prog_1_method_9_code 7 = .ok (.iconst (-1), 1) := by decide +kernel
theorem d_BH_behind_8 : decode prog_1_method_9_code 8 = .ok (.ireturn, 1) := by decide +kernel
theorem d_BH_behind_9 : decode prog_1_method_9_code 9 = .ok (.iload_n 2, 1) := by decide +kernel
theorem d_BH_behind_10 : decode prog_1_method_9_code 10 = .ok (.ifCond .lt 8, 3) := by decide +kernel
theorem d_BH_behind_13 : decode prog_1_method_9_code 13 = .ok (.iload_n 2, 1) := by decide +kernel
theorem d_BH_behind_14 : decode prog_1_method_9_code 14 = .ok (.iconst 2, 1) := by decide +kernel
theorem d_BH_behind_15 : decode prog_1_method_9_code 15 = .ok (.if_icmp .le 6, 3) := by decide +kernel
theorem d_BH_behind_18 : decode prog_1_method_9_code 18 = .ok (.bipush (-2), 2) := by decide +kernel
theorem d_BH_behind_20 : decode prog_1_method_9_code 20 = .ok (.ireturn, 1) := by decide +kernel
theorem d_BH_behind_21 : decode prog_1_method_9_code 21 = .ok (.aload_n 0, 1) := by decide +kernel
theorem d_BH_behind_22 : decode prog_1_method_9_code 22 = .ok (.getfield 33, 3) := by decide +kernel
theorem d_BH_behind_25 : decode prog_1_method_9_code 25 = .ok (.aload_n 0, 1) := by decide +kernel
theorem d_BH_behind_26 : decode prog_1_method_9_code 26 = .ok (.getfield 26, 3) := by decide +kernel
theorem d_BH_behind_29 : decode prog_1_method_9_code 29 = .ok (.aload_n 0, 1) := by decide +kernel
theorem d_BH_behind_30 : decode prog_1_method_9_code 30 = .ok (.getfield 12, 3) := by decide +kernel
theorem d_BH_behind_33 : decode prog_1_method_9_code 33 = .ok (.invokevirtual 114, 3) := by decide +kernel
theorem d_BH_behind_36 : decode prog_1_method_9_code 36 = .ok (.ifCond .ne 6, 3) := by decide +kernel
theorem d_BH_behind_39 : decode prog_1_method_9_code 39 = .ok (.bipush (-5), 2) := by decide +kernel
theorem d_BH_behind_41 : decode prog_1_method_9_code 41 = .ok (.ireturn, 1) := by decide +kernel
theorem d_BH_behind_42 : decode prog_1_method_9_code 42 = .ok (.iload_n 2, 1) := by decide +kernel
theorem d_BH_behind_43 : decode prog_1_method_9_code 43 = .ok (.lookupswitch 49 #[(0, 25), (1, 37)], 25) := by decide +kernel
theorem d_BH_behind_68 : decode prog_1_method_9_code 68 = .ok (.aload_n 0, 1) := by decide +kernel
theorem d_BH_behind_69 : decode prog_1_method_9_code 69 = .ok (.getfield 33, 3) := by decide +kernel
theorem d_BH_behind_72 : decode prog_1_method_9_code 72 = .ok (.invokevirtual 124, 3) := by decide +kernel
theorem d_BH_behind_75 : decode prog_1_method_9_code 75 = .ok (.iload_n 1, 1) := by decide +kernel
theorem d_BH_behind_76 : decode prog_1_method_9_code 76 = .ok (.invokevirtual 93, 3) := by decide +kernel
theorem d_BH_behind_79 : decode prog_1_method_9_code 79 = .ok (.ireturn, 1) := by decide +kernel
theorem d_BH_behind_80 : decode prog_1_method_9_code 80 = .ok (.aload_n 0, 1) := by decide +kernel
theorem d_BH_behind_81 : decode prog_1_method_9_code 81 = .ok (.getfield 33, 3) := by decide +kernel
theorem d_BH_behind_84 : decode prog_1_method_9_code 84 = .ok (.invokevirtual 124, 3) := by decide +kernel
theorem d_BH_behind_87 : decode prog_1_method_9_code 87 = .ok (.iload_n 1, 1) := by decide +kernel
theorem d_BH_behind_88 : decode prog_1_method_9_code 88 = .ok (.invokevirtual 131, 3) := by decide +kernel
theorem d_BH_behind_91 : decode prog_1_method_9_code 91 = .ok (.ireturn, 1) := by decide +kernel
theorem d_BH_behind_92 : decode prog_1_method_9_code 92 = .ok (.aload_n 0, 1) := by decide +kernel
theorem d_BH_behind_93 : decode prog_1_method_9_code 93 = .ok (.getfield 33, 3) := by decide +kernel
theorem d_BH_behind_96 : decode prog_1_method_9_code 96 = .ok (.invokevirtual 124, 3) := by decide +kernel
theorem d_BH_behind_99 : decode prog_1_method_9_code 99 = .ok (.iload_n 1, 1) := by decide +kernel
theorem d_BH_behind_100 : decode prog_1_method_9_code 100 = .ok (.invokevirtual 134, 3) := by decide +kernel
theorem d_BH_behind_103 : decode prog_1_method_9_code 103 = .ok (.ifCond .eq 7, 3) := by decide +kernel
theorem d_BH_behind_106 : decode prog_1_method_9_code 106 = .ok (.iconst 1, 1) := by decide +kernel
theorem d_BH_behind_107 : decode prog_1_method_9_code 107 = .ok (.goto 4, 3) := by decide +kernel
theorem d_BH_behind_110 : decode prog_1_method_9_code 110 = .ok (.iconst 0, 1) := by decide +kernel
theorem d_BH_behind_111 : decode prog_1_method_9_code 111 = .ok (.ireturn, 1) := by decide +kernel
theorem d_BH_then_0 : decode prog_1_method_10_code 0 = .ok (.iload_n 1, 1) := by decide +kernel
theorem d_BH_then_1 : decode prog_1_method_10_code 1 = .ok (.ifCond .lt 8, 3) := by decide +kernel
theorem d_BH_then_4 : decode prog_1_method_10_code 4 = .ok (.iload_n 1, 1) := by decide +kernel
theorem d_BH_then_5 : decode prog_1_method_10_code 5 = .ok (.iconst 5, 1) := by decide +kernel
theorem d_BH_then_6 : decode prog_1_method_10_code 6 = .ok (.if_icmp .le 6, 3) := by decide +kernel
theorem d_BH_then_9 : decode prog_1_method_10_code 9 = .ok (.bipush (-2), 2) := by decide +kernel
theorem d_BH_then_11 : decode prog_1_method_10_code 11 = .ok (.ireturn, 1) := by decide +kernel
theorem d_BH_then_12 : decode prog_1_method_10_code 12 = .ok (.aload_n 0, 1) := by decide +kernel
theorem d_BH_then_13 : decode prog_1_method_10_code 13 = .ok (.getfield 33, 3) := by decide +kernel
theorem d_BH_then_16 : decode prog_1_method_10_code 16 = .ok (.aload_n 0, 1) := by decide +kernel
theorem d_BH_then_17 : decode prog_1_method_10_code 17 = .ok (.getfield 26, 3) := by decide +kernel
theorem d_BH_then_20 : decode prog_1_method_10_code 20 = .ok (.aload_n 0, 1) := by decide +kernel
theorem d_BH_then_21 : decode prog_1_method_10_code 21 = .ok (.getfield 12, 3) := by decide +kernel
theorem d_BH_then_24 : decode prog_1_method_10_code 24 = .ok (.invokevirtual 114, 3) := by decide +kernel
theorem d_BH_then_27 : decode prog_1_method_10_code 27 = .ok (.ifCond .ne 6, 3) := by decide +kernel
theorem d_BH_then_30 : decode prog_1_method_10_code 30 = .ok (.bipush (-5), 2) := by decide +kernel
theorem d_BH_then_32 : decode prog_1_method_10_code 32 = .ok (.ireturn, 1) := by decide +kernel
theorem d_BH_then_33 : decode prog_1_method_10_code 33 = .ok (.iload_n 1, 1) := by decide +kernel
theorem d_BH_then_34 : decode prog_1_method_10_code 34 = .ok (.tableswitch 94 0 4 #[34, 45, 56, 75, 86], 34) := by decide +kernel
theorem d_BH_then_68 : decode prog_1_method_10_code 68 = .ok (.aload_n 0, 1) := by decide +kernel
theorem d_BH_then_69 : decode prog_1_method_10_code 69 = .ok (.getfield 33, 3) := by decide +kernel
theorem d_BH_then_72 : decode prog_1_method_10_code 72 = .ok (.invokevirtual 124, 3) := by decide +kernel
theorem d_BH_then_75 : decode prog_1_method_10_code 75 = .ok (.invokevirtual 137, 3) := by decide +kernel
theorem d_BH_then_78 : decode prog_1_method_10_code 78 = .ok (.ireturn, 1) := by decide +kernel
theorem d_BH_then_79 : decode prog_1_method_10_code 79 = .ok (.aload_n 0, 1) := by decide +kernel
theorem d_BH_then_80 : decode prog_1_method_10_code 80 = .ok (.getfield 33, 3) := by decide +kernel
theorem d_BH_then_83 : decode prog_1_method_10_code 83 = .ok (.invokevirtual 124, 3) := by decide +kernel
theorem d_BH_then_86 : decode prog_1_method_10_code 86 = .ok (.invokevirtual 140, 3) := by decide +kernel
theorem d_BH_then_89 : decode prog_1_method_10_code 89 = .ok (.ireturn, 1) := by decide +kernel
theorem d_BH_then_90 : decode prog_1_method_10_code 90 = .ok (.aload_n 0, 1) := by decide +kernel
theorem d_BH_then_91 : decode prog_1_method_10_code 91 = .ok (.getfield 33, 3) := by decide +kernel
theorem d_BH_then_94 : decode prog_1_method_10_code 94 = .ok (.invokevirtual 124, 3) := by decide +kernel
theorem d_BH_then_97 : decode prog_1_method_10_code 97 = .ok (.invokevirtual 143, 3) := by decide +kernel
theorem d_BH_then_100 : decode prog_1_method_10_code 100 = .ok (.aload_n 0, 1) := by decide +kernel
theorem d_BH_then_101 : decode prog_1_method_10_code 101 = .ok (.getfield 12, 3) := by decide +kernel
theorem d_BH_then_104 : decode prog_1_method_10_code 104 = .ok (.invokevirtual 143, 3) := by decide +kernel
theorem d_BH_then_107 : decode prog_1_method_10_code 107 = .ok (.isub, 1) := by decide +kernel
theorem d_BH_then_108 : decode prog_1_method_10_code 108 = .ok (.ireturn, 1) := by decide +kernel
theorem d_BH_then_109 : decode prog_1_method_10_code 109 = .ok (.aload_n 0, 1) := by decide +kernel
theorem d_BH_then_110 : decode prog_1_method_10_code 110 = .ok (.getfield 33, 3) := by decide +kernel
theorem d_BH_then_113 : decode prog_1_method_10_code 113 = .ok (.invokevirtual 124, 3) := by decide +kernel
theorem d_BH_then_116 : decode prog_1_method_10_code 116 = .ok (.invokevirtual 146, 3) := by decide +kernel
theorem d_BH_then_119 : decode prog_1_method_10_code 119 = .ok (.ireturn, 1) := by decide +kernel
theorem d_BH_then_120 : decode prog_1_method_10_code 120 = .ok (.aload_n 0, 1) := by decide +kernel
theorem d_BH_then_121 : decode prog_1_method_10_code 121 = .ok (.getfield 33, 3) := by decide +kernel
theorem d_BH_then_124 : decode prog_1_method_10_code 124 = .ok (.invokevirtual 149, 3) := by decide +kernel
theorem d_BH_then_127 : decode prog_1_method_10_code 127 = .ok (.ireturn, 1) := by decide +kernel
theorem d_BH_then_128 : decode prog_1_method_10_code 128 = .ok (.aload_n 0, 1) := by decide +kernel
theorem d_BH_then_129 : decode prog_1_method_10_code 129 = .ok (.getfield 33, 3) := by decide +kernel
theorem d_BH_then_132 : decode prog_1_method_10_code 132 = .ok (.invokevirtual 152, 3) := by decide +kernel
theorem d_BH_then_135 : decode prog_1_method_10_code 135 = .ok (.ireturn, 1) := by decide +kernel
theorem d_BH_apart_0 : decode prog_1_method_11_code 0 = .ok (.iload_n 1, 1) := by decide +kernel
theorem d_BH_apart_1 : decode prog_1_method_11_code 1 = .ok (.invokestatic 68, 3) := by decide +kernel
theorem d_BH_apart_4 : decode prog_1_method_11_code 4 = .ok (.ifCond .eq 10, 3) := by decide +kernel
theorem d_BH_apart_7 : decode prog_1_method_11_code 7 = .ok (.iload_n 2, 1) := by decide +kernel
theorem d_BH_apart_8 : decode prog_1_method_11_code 8 = .ok (.invokestatic 68, 3) := by decide +kernel
theorem d_BH_apart_11 : decode prog_1_method_11_code 11 = .ok (.ifCond .ne 5, 3) := by decide +kernel
theorem d_BH_apart_14 : decode prog_1_method_11_code 14 = .ok (.iconst (-1), 1) := by decide +kernel
theorem d_BH_apart_15 : decode prog_1_method_11_code 15 = .ok (.ireturn, 1) := by decide +kernel
theorem d_BH_apart_16 : decode prog_1_method_11_code 16 = .ok (.aload_n 0, 1) := by decide +kernel
theorem d_BH_apart_17 : decode prog_1_method_11_code 17 = .ok (.getfield 12, 3) := by decide +kernel
theorem d_BH_apart_20 : decode prog_1_method_11_code 20 = .ok (.invokevirtual 72, 3) := by decide +kernel
theorem d_BH_apart_23 : decode prog_1_method_11_code 23 = .ok (.iload_n 1, 1) := by decide +kernel
theorem d_BH_apart_24 : decode prog_1_method_11_code 24 = .ok (.iload_n 2, 1) := by decide +kernel
theorem d_BH_apart_25 : decode prog_1_method_11_code 25 = .ok (.invokevirtual 155, 3) := by decide +kernel
theorem d_BH_apart_28 : decode prog_1_method_11_code 28 = .ok (.ireturn, 1) := by decide +kernel
theorem d_BH_meets_0 : decode prog_1_method_12_code 0 = .ok (.iload_n 1, 1) := by decide +kernel
theorem d_BH_meets_1 : decode prog_1_method_12_code 1 = .ok (.invokestatic 68, 3) := by decide +kernel
theorem d_BH_meets_4 : decode prog_1_method_12_code 4 = .ok (.ifCond .eq 10, 3) := by decide +kernel
theorem d_BH_meets_7 : decode prog_1_method_12_code 7 = .ok (.iload_n 2, 1) := by decide +kernel
theorem d_BH_meets_8 : decode prog_1_method_12_code 8 = .ok (.invokestatic 68, 3) := by decide +kernel
theorem d_BH_meets_11 : decode prog_1_method_12_code 11 = .ok (.ifCond .ne 5, 3) := by decide +kernel
theorem d_BH_meets_14 : decode prog_1_method_12_code 14 = .ok (.iconst (-1), 1) := by decide +kernel
theorem d_BH_meets_15 : decode prog_1_method_12_code 15 = .ok (.ireturn, 1) := by decide +kernel
theorem d_BH_meets_16 : decode prog_1_method_12_code 16 = .ok (.aload_n 0, 1) := by decide +kernel
theorem d_BH_meets_17 : decode prog_1_method_12_code 17 = .ok (.getfield 12, 3) := by decide +kernel
theorem d_BH_meets_20 : decode prog_1_method_12_code 20 = .ok (.invokevirtual 72, 3) := by decide +kernel
theorem d_BH_meets_23 : decode prog_1_method_12_code 23 = .ok (.iload_n 1, 1) := by decide +kernel
theorem d_BH_meets_24 : decode prog_1_method_12_code 24 = .ok (.iload_n 2, 1) := by decide +kernel
theorem d_BH_meets_25 : decode prog_1_method_12_code 25 = .ok (.invokevirtual 159, 3) := by decide +kernel
theorem d_BH_meets_28 : decode prog_1_method_12_code 28 = .ok (.iconst 0, 1) := by decide +kernel
theorem d_BH_meets_29 : decode prog_1_method_12_code 29 = .ok (.invokestatic 162, 3) := by decide +kernel
theorem d_BH_meets_32 : decode prog_1_method_12_code 32 = .ok (.ireturn, 1) := by decide +kernel
theorem d_BH_sees_0 : decode prog_1_method_13_code 0 = .ok (.iload_n 1, 1) := by decide +kernel
theorem d_BH_sees_1 : decode prog_1_method_13_code 1 = .ok (.invokestatic 86, 3) := by decide +kernel
theorem d_BH_sees_4 : decode prog_1_method_13_code 4 = .ok (.ifCond .ne 5, 3) := by decide +kernel
theorem d_BH_sees_7 : decode prog_1_method_13_code 7 = .ok (.iconst (-1), 1) := by decide +kernel
theorem d_BH_sees_8 : decode prog_1_method_13_code 8 = .ok (.ireturn, 1) := by decide +kernel
theorem d_BH_sees_9 : decode prog_1_method_13_code 9 = .ok (.aload_n 0, 1) := by decide +kernel
theorem d_BH_sees_10 : decode prog_1_method_13_code 10 = .ok (.getfield 12, 3) := by decide +kernel
theorem d_BH_sees_13 : decode prog_1_method_13_code 13 = .ok (.iload_n 1, 1) := by decide +kernel
theorem d_BH_sees_14 : decode prog_1_method_13_code 14 = .ok (.invokevirtual 93, 3) := by decide +kernel
theorem d_BH_sees_17 : decode prog_1_method_13_code 17 = .ok (.bipush (-6), 2) := by decide +kernel
theorem d_BH_sees_19 : decode prog_1_method_13_code 19 = .ok (.if_icmp .ne 6, 3) := by decide +kernel
theorem d_BH_sees_22 : decode prog_1_method_13_code 22 = .ok (.bipush (-3), 2) := by decide +kernel
theorem d_BH_sees_24 : decode prog_1_method_13_code 24 = .ok (.ireturn, 1) := by decide +kernel
theorem d_BH_sees_25 : decode prog_1_method_13_code 25 = .ok (.aload_n 0, 1) := by decide +kernel
theorem d_BH_sees_26 : decode prog_1_method_13_code 26 = .ok (.getfield 12, 3) := by decide +kernel
theorem d_BH_sees_29 : decode prog_1_method_13_code 29 = .ok (.iload_n 1, 1) := by decide +kernel
theorem d_BH_sees_30 : decode prog_1_method_13_code 30 = .ok (.invokevirtual 165, 3) := by decide +kernel
theorem d_BH_sees_33 : decode prog_1_method_13_code 33 = .ok (.ireturn, 1) := by decide +kernel
theorem d_BH_near_0 : decode prog_1_method_14_code 0 = .ok (.iload_n 1, 1) := by decide +kernel
theorem d_BH_near_1 : decode prog_1_method_14_code 1 = .ok (.ifCond .lt 8, 3) := by decide +kernel
theorem d_BH_near_4 : decode prog_1_method_14_code 4 = .ok (.iload_n 1, 1) := by decide +kernel
theorem d_BH_near_5 : decode prog_1_method_14_code 5 = .ok (.iconst 3, 1) := by decide +kernel
theorem d_BH_near_6 : decode prog_1_method_14_code 6 = .ok (.if_icmp .le 6, 3) := by decide +kernel
theorem d_BH_near_9 : decode prog_1_method_14_code 9 = .ok (.bipush (-2), 2) := by decide +kernel
theorem d_BH_near_11 : decode prog_1_method_14_code 11 = .ok (.ireturn, 1) := by decide +kernel
theorem d_BH_near_12 : decode prog_1_method_14_code 12 = .ok (.aload_n 0, 1) := by decide +kernel
theorem d_BH_near_13 : decode prog_1_method_14_code 13 = .ok (.getfield 12, 3) := by decide +kernel
theorem d_BH_near_16 : decode prog_1_method_14_code 16 = .ok (.invokevirtual 137, 3) := by decide +kernel
theorem d_BH_near_19 : decode prog_1_method_14_code 19 = .ok (.istore_n 2, 1) := by decide +kernel
theorem d_BH_near_20 : decode prog_1_method_14_code 20 = .ok (.iload_n 2, 1) := by decide +kernel
theorem d_BH_near_21 : decode prog_1_method_14_code 21 = .ok (.ifCond .ne 6, 3) := by decide +kernel
theorem d_BH_near_24 : decode prog_1_method_14_code 24 = .ok (.bipush (-6), 2) := by decide +kernel
theorem d_BH_near_26 : decode prog_1_method_14_code 26 = .ok (.ireturn, 1) := by decide +kernel
theorem d_BH_near_27 : decode prog_1_method_14_code 27 = .ok (.iload_n 1, 1) := by decide +kernel
theorem d_BH_near_28 : decode prog_1_method_14_code 28 = .ok (.iconst 2, 1) := by decide +kernel
theorem d_BH_near_29 : decode prog_1_method_14_code 29 = .ok (.if_icmp .lt 7, 3) := by decide +kernel
theorem d_BH_near_32 : decode prog_1_method_14_code 32 = .ok (.iconst 1, 1) := by decide +kernel
theorem d_BH_near_33 : decode prog_1_method_14_code 33 = .ok (.goto 4, 3) := by decide +kernel
theorem d_BH_near_36 : decode prog_1_method_14_code 36 = .ok (.iconst 0, 1) := by decide +kernel
theorem d_BH_near_37 : decode prog_1_method_14_code 37 = .ok (.istore_n 3, 1) := by decide +kernel
theorem d_BH_near_38 : decode prog_1_method_14_code 38 = .ok (.iconst 0, 1) := by decide +kernel
theorem d_BH_near_39 : decode prog_1_method_14_code 39 = .ok (.istore 4, 2) := by decide +kernel
theorem d_BH_near_41 : decode prog_1_method_14_code 41 = .ok (.aload_n 0, 1) := by decide +kernel
theorem d_BH_near_42 : decode prog_1_method_14_code 42 = .ok (.getfield 12, 3) := by decide +kernel
theorem d_BH_near_45 : decode prog_1_method_14_code 45 = .ok (.invokevirtual 72, 3) := by decide +kernel
theorem d_BH_near_48 : decode prog_1_method_14_code 48 = .ok (.iconst 0, 1) := by decide +kernel
theorem d_BH_near_49 : decode prog_1_method_14_code 49 = .ok (.iload_n 2, 1) := by decide +kernel
theorem d_BH_near_50 : decode prog_1_method_14_code 50 = .ok (.iload_n 3, 1) := by decide +kernel
theorem d_BH_near_51 : decode prog_1_method_14_code 51 = .ok (.invokevirtual 168, 3) := by decide +kernel
theorem d_BH_near_54 : decode prog_1_method_14_code 54 = .ok (.istore 5, 2) := by decide +kernel
theorem d_BH_near_56 : decode prog_1_method_14_code 56 = .ok (.iconst 1, 1) := by decide +kernel
theorem d_BH_near_57 : decode prog_1_method_14_code 57 = .ok (.istore 6, 2) := by decide +kernel
theorem d_BH_near_59 : decode prog_1_method_14_code 59 = .ok (.iload 6, 2) := by decide +kernel
theorem d_BH_near_61 : decode prog_1_method_14_code 61 = .ok (.bipush 12, 2) := by decide +kernel
theorem d_BH_near_63 : decode prog_1_method_14_code 63 = .ok (.if_icmp .ge 40, 3) := by decide +kernel
theorem d_BH_near_66 : decode prog_1_method_14_code 66 = .ok (.aload_n 0, 1) := by decide +kernel
theorem d_BH_near_67 : decode prog_1_method_14_code 67 = .ok (.getfield 12, 3) := by decide +kernel
theorem d_BH_near_70 : decode prog_1_method_14_code 70 = .ok (.invokevirtual 72, 3) := by decide +kernel
theorem d_BH_near_73 : decode prog_1_method_14_code 73 = .ok (.iload 6, 2) := by decide +kernel
theorem d_BH_near_75 : decode prog_1_method_14_code 75 = .ok (.iload_n 2, 1) := by decide +kernel
theorem d_BH_near_76 : decode prog_1_method_14_code 76 = .ok (.iload_n 3, 1) := by decide +kernel
theorem d_BH_near_77 : decode prog_1_method_14_code 77 = .ok (.invokevirtual 168, 3) := by decide +kernel
theorem d_BH_near_80 : decode prog_1_method_14_code 80 = .ok (.istore 7, 2) := by decide +kernel
theorem d_BH_near_82 : decode prog_1_method_14_code 82 = .ok (.iload 7, 2) := by decide +kernel
theorem d_BH_near_84 : decode prog_1_method_14_code 84 = .ok (.iload 5, 2) := by decide +kernel
theorem d_BH_near_86 : decode prog_1_method_14_code 86 = .ok (.if_icmp .ge 11, 3) := by decide +kernel
theorem d_BH_near_89 : decode prog_1_method_14_code 89 = .ok (.iload 6, 2) := by decide +kernel
theorem d_BH_near_91 : decode prog_1_method_14_code 91 = .ok (.istore 4, 2) := by decide +kernel
theorem d_BH_near_93 : decode prog_1_method_14_code 93 = .ok (.iload 7, 2) := by decide +kernel
theorem d_BH_near_95 : decode prog_1_method_14_code 95 = .ok (.istore 5, 2) := by decide +kernel
theorem d_BH_near_97 : decode prog_1_method_14_code 97 = .ok (.iinc 6 1, 3) := by decide +kernel
theorem d_BH_near_100 : decode prog_1_method_14_code 100 = .ok (.goto (-41), 3) := by decide +kernel
theorem d_BH_near_103 : decode prog_1_method_14_code 103 = .ok (.iload_n 1, 1) := by decide +kernel
theorem d_BH_near_104 : decode prog_1_method_14_code 104 = .ok (.ifCond .eq 8, 3) := by decide +kernel
theorem d_BH_near_107 : decode prog_1_method_14_code 107 = .ok (.iload_n 1, 1) := by decide +kernel
theorem d_BH_near_108 : decode prog_1_method_14_code 108 = .ok (.iconst 2, 1) := by decide +kernel
theorem d_BH_near_109 : decode prog_1_method_14_code 109 = .ok (.if_icmp .ne 8, 3) := by decide +kernel
theorem d_BH_near_112 : decode prog_1_method_14_code 112 = .ok (.iload 4, 2) := by decide +kernel
theorem d_BH_near_114 : decode prog_1_method_14_code 114 = .ok (.goto 5, 3) := by decide +kernel
theorem d_BH_near_117 : decode prog_1_method_14_code 117 = .ok (.iload 5, 2) := by decide +kernel
theorem d_BH_near_119 : decode prog_1_method_14_code 119 = .ok (.ireturn, 1) := by decide +kernel
theorem d_BH_room_0 : decode prog_1_method_15_code 0 = .ok (.iload_n 1, 1) := by decide +kernel
theorem d_BH_room_1 : decode prog_1_method_15_code 1 = .ok (.ifCond .lt 18, 3) := by decide +kernel
theorem d_BH_room_4 : decode prog_1_method_15_code 4 = .ok (.iload_n 1, 1) := by decide +kernel
theorem d_BH_room_5 : decode prog_1_method_15_code 5 = .ok (.bipush 11, 2) := by decide +kernel
theorem d_BH_room_7 : decode prog_1_method_15_code 7 = .ok (.if_icmp .gt 12, 3) := by decide +kernel
theorem d_BH_room_10 : decode prog_1_method_15_code 10 = .ok (.iload_n 2, 1) := by decide +kernel
theorem d_BH_room_11 : decode prog_1_method_15_code 11 = .ok (.ifCond .lt 8, 3) := by decide +kernel
theorem d_BH_room_14 : decode prog_1_method_15_code 14 = .ok (.iload_n 2, 1) := by decide +kernel
theorem d_BH_room_15 : decode prog_1_method_15_code 15 = .ok (.iconst 1, 1) := by decide +kernel
theorem d_BH_room_16 : decode prog_1_method_15_code 16 = .ok (.if_icmp .le 6, 3) := by decide +kernel
theorem d_BH_room_19 : decode prog_1_method_15_code 19 = .ok (.bipush (-2), 2) := by decide +kernel
theorem d_BH_room_21 : decode prog_1_method_15_code 21 = .ok (.ireturn, 1) := by decide +kernel
theorem d_BH_room_22 : decode prog_1_method_15_code 22 = .ok (.aload_n 0, 1) := by decide +kernel
theorem d_BH_room_23 : decode prog_1_method_15_code 23 = .ok (.getfield 40, 3) := by decide +kernel
theorem d_BH_room_26 : decode prog_1_method_15_code 26 = .ok (.aload_n 0, 1) := by decide +kernel
theorem d_BH_room_27 : decode prog_1_method_15_code 27 = .ok (.getfield 12, 3) := by decide +kernel
theorem d_BH_room_30 : decode prog_1_method_15_code 30 = .ok (.invokevirtual 72, 3) := by decide +kernel
theorem d_BH_room_33 : decode prog_1_method_15_code 33 = .ok (.iload_n 1, 1) := by decide +kernel
theorem d_BH_room_34 : decode prog_1_method_15_code 34 = .ok (.invokevirtual 172, 3) := by decide +kernel
theorem d_BH_room_37 : decode prog_1_method_15_code 37 = .ok (.istore_n 3, 1) := by decide +kernel
theorem d_BH_room_38 : decode prog_1_method_15_code 38 = .ok (.iload_n 2, 1) := by decide +kernel
theorem d_BH_room_39 : decode prog_1_method_15_code 39 = .ok (.ifCond .ne 10, 3) := by decide +kernel
theorem d_BH_room_42 : decode prog_1_method_15_code 42 = .ok (.iload_n 3, 1) := by decide +kernel
theorem d_BH_room_43 : decode prog_1_method_15_code 43 = .ok (.invokestatic 176, 3) := by decide +kernel
theorem d_BH_room_46 : decode prog_1_method_15_code 46 = .ok (.goto 4, 3) := by decide +kernel
theorem d_BH_room_49 : decode prog_1_method_15_code 49 = .ok (.iload_n 3, 1) := by decide +kernel
theorem d_BH_room_50 : decode prog_1_method_15_code 50 = .ok (.ireturn, 1) := by decide +kernel
theorem d_BH_candles_0 : decode prog_1_method_16_code 0 = .ok (.iload_n 1, 1) := by decide +kernel
theorem d_BH_candles_1 : decode prog_1_method_16_code 1 = .ok (.ifCond .lt 18, 3) := by decide +kernel
theorem d_BH_candles_4 : decode prog_1_method_16_code 4 = .ok (.iload_n 1, 1) := by decide +kernel
theorem d_BH_candles_5 : decode prog_1_method_16_code 5 = .ok (.bipush 11, 2) := by decide +kernel
theorem d_BH_candles_7 : decode prog_1_method_16_code 7 = .ok (.if_icmp .gt 12, 3) := by decide +kernel
theorem d_BH_candles_10 : decode prog_1_method_16_code 10 = .ok (.iload_n 2, 1) := by decide +kernel
theorem d_BH_candles_11 : decode prog_1_method_16_code 11 = .ok (.ifCond .lt 8, 3) := by decide +kernel
theorem d_BH_candles_14 : decode prog_1_method_16_code 14 = .ok (.iload_n 2, 1) := by decide +kernel
theorem d_BH_candles_15 : decode prog_1_method_16_code 15 = .ok (.iconst 1, 1) := by decide +kernel
theorem d_BH_candles_16 : decode prog_1_method_16_code 16 = .ok (.if_icmp .le 6, 3) := by decide +kernel
theorem d_BH_candles_19 : decode prog_1_method_16_code 19 = .ok (.bipush (-2), 2) := by decide +kernel
theorem d_BH_candles_21 : decode prog_1_method_16_code 21 = .ok (.ireturn, 1) := by decide +kernel
theorem d_BH_candles_22 : decode prog_1_method_16_code 22 = .ok (.aload_n 0, 1) := by decide +kernel
theorem d_BH_candles_23 : decode prog_1_method_16_code 23 = .ok (.getfield 40, 3) := by decide +kernel
theorem d_BH_candles_26 : decode prog_1_method_16_code 26 = .ok (.aload_n 0, 1) := by decide +kernel
theorem d_BH_candles_27 : decode prog_1_method_16_code 27 = .ok (.getfield 12, 3) := by decide +kernel
theorem d_BH_candles_30 : decode prog_1_method_16_code 30 = .ok (.invokevirtual 72, 3) := by decide +kernel
theorem d_BH_candles_33 : decode prog_1_method_16_code 33 = .ok (.iload_n 1, 1) := by decide +kernel
theorem d_BH_candles_34 : decode prog_1_method_16_code 34 = .ok (.invokevirtual 181, 3) := by decide +kernel
theorem d_BH_candles_37 : decode prog_1_method_16_code 37 = .ok (.istore_n 3, 1) := by decide +kernel
theorem d_BH_candles_38 : decode prog_1_method_16_code 38 = .ok (.iload_n 2, 1) := by decide +kernel
theorem d_BH_candles_39 : decode prog_1_method_16_code 39 = .ok (.ifCond .ne 10, 3) := by decide +kernel
theorem d_BH_candles_42 : decode prog_1_method_16_code 42 = .ok (.iload_n 3, 1) := by decide +kernel
theorem d_BH_candles_43 : decode prog_1_method_16_code 43 = .ok (.invokestatic 176, 3) := by decide +kernel
theorem d_BH_candles_46 : decode prog_1_method_16_code 46 = .ok (.goto 4, 3) := by decide +kernel
theorem d_BH_candles_49 : decode prog_1_method_16_code 49 = .ok (.iload_n 3, 1) := by decide +kernel
theorem d_BH_candles_50 : decode prog_1_method_16_code 50 = .ok (.ireturn, 1) := by decide +kernel
theorem d_BH_seen_0 : decode prog_1_method_17_code 0 = .ok (.iload_n 1, 1) := by decide +kernel
theorem d_BH_seen_1 : decode prog_1_method_17_code 1 = .ok (.invokestatic 68, 3) := by decide +kernel
theorem d_BH_seen_4 : decode prog_1_method_17_code 4 = .ok (.ifCond .ne 5, 3) := by decide +kernel
theorem d_BH_seen_7 : decode prog_1_method_17_code 7 = .ok (.iconst (-1), 1) := by decide +kernel
theorem d_BH_seen_8 : decode prog_1_method_17_code 8 = .ok (.ireturn, 1) := by decide +kernel
theorem d_BH_seen_9 : decode prog_1_method_17_code 9 = .ok (.iload_n 2, 1) := by decide +kernel
theorem d_BH_seen_10 : decode prog_1_method_17_code 10 = .ok (.ifCond .lt 9, 3) := by decide +kernel
theorem d_BH_seen_13 : decode prog_1_method_17_code 13 = .ok (.iload_n 2, 1) := by decide +kernel
theorem d_BH_seen_14 : decode prog_1_method_17_code 14 = .ok (.bipush 11, 2) := by decide +kernel
theorem d_BH_seen_16 : decode prog_1_method_17_code 16 = .ok (.if_icmp .le 6, 3) := by decide +kernel
theorem d_BH_seen_19 : decode prog_1_method_17_code 19 = .ok (.bipush (-2), 2) := by decide +kernel
theorem d_BH_seen_21 : decode prog_1_method_17_code 21 = .ok (.ireturn, 1) := by decide +kernel
theorem d_BH_seen_22 : decode prog_1_method_17_code 22 = .ok (.aload_n 0, 1) := by decide +kernel
theorem d_BH_seen_23 : decode prog_1_method_17_code 23 = .ok (.getfield 19, 3) := by decide +kernel
theorem d_BH_seen_26 : decode prog_1_method_17_code 26 = .ok (.invokevirtual 184, 3) := by decide +kernel
theorem d_BH_seen_29 : decode prog_1_method_17_code 29 = .ok (.bipush 8, 2) := by decide +kernel
theorem d_BH_seen_31 : decode prog_1_method_17_code 31 = .ok (.if_icmp .lt 6, 3) := by decide +kernel
theorem d_BH_seen_34 : decode prog_1_method_17_code 34 = .ok (.bipush (-4), 2) := by decide +kernel
theorem d_BH_seen_36 : decode prog_1_method_17_code 36 = .ok (.ireturn, 1) := by decide +kernel
theorem d_BH_seen_37 : decode prog_1_method_17_code 37 = .ok (.aload_n 0, 1) := by decide +kernel
theorem d_BH_seen_38 : decode prog_1_method_17_code 38 = .ok (.getfield 19, 3) := by decide +kernel
theorem d_BH_seen_41 : decode prog_1_method_17_code 41 = .ok (.iload_n 1, 1) := by decide +kernel
theorem d_BH_seen_42 : decode prog_1_method_17_code 42 = .ok (.iload_n 2, 1) := by decide +kernel
theorem d_BH_seen_43 : decode prog_1_method_17_code 43 = .ok (.invokevirtual 185, 3) := by decide +kernel
theorem d_BH_seen_46 : decode prog_1_method_17_code 46 = .ok (.aload_n 0, 1) := by decide +kernel
theorem d_BH_seen_47 : decode prog_1_method_17_code 47 = .ok (.getfield 19, 3) := by decide +kernel
theorem d_BH_seen_50 : decode prog_1_method_17_code 50 = .ok (.invokevirtual 184, 3) := by decide +kernel
theorem d_BH_seen_53 : decode prog_1_method_17_code 53 = .ok (.ireturn, 1) := by decide +kernel
theorem d_BH_forget_0 : decode prog_1_method_18_code 0 = .ok (.aload_n 0, 1) := by decide +kernel
theorem d_BH_forget_1 : decode prog_1_method_18_code 1 = .ok (.getfield 19, 3) := by decide +kernel
theorem d_BH_forget_4 : decode prog_1_method_18_code 4 = .ok (.invokevirtual 184, 3) := by decide +kernel
theorem d_BH_forget_7 : decode prog_1_method_18_code 7 = .ok (.istore_n 1, 1) := by decide +kernel
theorem d_BH_forget_8 : decode prog_1_method_18_code 8 = .ok (.aload_n 0, 1) := by decide +kernel
theorem d_BH_forget_9 : decode prog_1_method_18_code 9 = .ok (.getfield 19, 3) := by decide +kernel
theorem d_BH_forget_12 : decode prog_1_method_18_code 12 = .ok (.invokevirtual 187, 3) := by decide +kernel
theorem d_BH_forget_15 : decode prog_1_method_18_code 15 = .ok (.iload_n 1, 1) := by decide +kernel
theorem d_BH_forget_16 : decode prog_1_method_18_code 16 = .ok (.ireturn, 1) := by decide +kernel
theorem d_BH_where_0 : decode prog_1_method_19_code 0 = .ok (.aload_n 0, 1) := by decide +kernel
theorem d_BH_where_1 : decode prog_1_method_19_code 1 = .ok (.getfield 19, 3) := by decide +kernel
theorem d_BH_where_4 : decode prog_1_method_19_code 4 = .ok (.aload_n 0, 1) := by decide +kernel
theorem d_BH_where_5 : decode prog_1_method_19_code 5 = .ok (.getfield 12, 3) := by decide +kernel
theorem d_BH_where_8 : decode prog_1_method_19_code 8 = .ok (.invokevirtual 72, 3) := by decide +kernel
theorem d_BH_where_11 : decode prog_1_method_19_code 11 = .ok (.invokevirtual 188, 3) := by decide +kernel
theorem d_BH_where_14 : decode prog_1_method_19_code 14 = .ok (.istore_n 2, 1) := by decide +kernel
theorem d_BH_where_15 : decode prog_1_method_19_code 15 = .ok (.iload_n 1, 1) := by decide +kernel
theorem d_BH_where_16 : decode prog_1_method_19_code 16 = .ok (.iconst (-1), 1) := by decide +kernel
theorem d_BH_where_17 : decode prog_1_method_19_code 17 = .ok (.if_icmp .ne 10, 3) := by decide +kernel
theorem d_BH_where_20 : decode prog_1_method_19_code 20 = .ok (.iload_n 2, 1) := by decide +kernel
theorem d_BH_where_21 : decode prog_1_method_19_code 21 = .ok (.invokestatic 176, 3) := by decide +kernel
theorem d_BH_where_24 : decode prog_1_method_19_code 24 = .ok (.goto 8, 3) := by decide +kernel
theorem d_BH_where_27 : decode prog_1_method_19_code 27 = .ok (.iload_n 2, 1) := by decide +kernel
theorem d_BH_where_28 : decode prog_1_method_19_code 28 = .ok (.iload_n 1, 1) := by decide +kernel
theorem d_BH_where_29 : decode prog_1_method_19_code 29 = .ok (.invokestatic 162, 3) := by decide +kernel
theorem d_BH_where_32 : decode prog_1_method_19_code 32 = .ok (.ireturn, 1) := by decide +kernel
theorem d_BH_ask_0 : decode prog_1_method_20_code 0 = .ok (.iload_n 1, 1) := by decide +kernel
theorem d_BH_ask_1 : decode prog_1_method_20_code 1 = .ok (.ifCond .lt 8, 3) := by decide +kernel
theorem d_BH_ask_4 : decode prog_1_method_20_code 4 = .ok (.iload_n 1, 1) := by decide +kernel
theorem d_BH_ask_5 : decode prog_1_method_20_code 5 = .ok (.iconst 1, 1) := by decide +kernel
theorem d_BH_ask_6 : decode prog_1_method_20_code 6 = .ok (.if_icmp .le 6, 3) := by decide +kernel
theorem d_BH_ask_9 : decode prog_1_method_20_code 9 = .ok (.bipush (-2), 2) := by decide +kernel
theorem d_BH_ask_11 : decode prog_1_method_20_code 11 = .ok (.ireturn, 1) := by decide +kernel
theorem d_BH_ask_12 : decode prog_1_method_20_code 12 = .ok (.aload_n 0, 1) := by decide +kernel
theorem d_BH_ask_13 : decode prog_1_method_20_code 13 = .ok (.getfield 19, 3) := by decide +kernel
theorem d_BH_ask_16 : decode prog_1_method_20_code 16 = .ok (.aload_n 0, 1) := by decide +kernel
theorem d_BH_ask_17 : decode prog_1_method_20_code 17 = .ok (.getfield 12, 3) := by decide +kernel
theorem d_BH_ask_20 : decode prog_1_method_20_code 20 = .ok (.invokevirtual 72, 3) := by decide +kernel
theorem d_BH_ask_23 : decode prog_1_method_20_code 23 = .ok (.invokevirtual 188, 3) := by decide +kernel
theorem d_BH_ask_26 : decode prog_1_method_20_code 26 = .ok (.istore_n 2, 1) := by decide +kernel
theorem d_BH_ask_27 : decode prog_1_method_20_code 27 = .ok (.iload_n 2, 1) := by decide +kernel
theorem d_BH_ask_28 : decode prog_1_method_20_code 28 = .ok (.ifCond .ne 6, 3) := by decide +kernel
theorem d_BH_ask_31 : decode prog_1_method_20_code 31 = .ok (.bipush (-6), 2) := by decide +kernel
theorem d_BH_ask_33 : decode prog_1_method_20_code 33 = .ok (.ireturn, 1) := by decide +kernel
theorem d_BH_ask_34 : decode prog_1_method_20_code 34 = .ok (.iconst 0, 1) := by decide +kernel
theorem d_BH_ask_35 : decode prog_1_method_20_code 35 = .ok (.istore_n 3, 1) := by decide +kernel
theorem d_BH_ask_36 : decode prog_1_method_20_code 36 = .ok (.aload_n 0, 1) := by decide +kernel
theorem d_BH_ask_37 : decode prog_1_method_20_code 37 = .ok (.getfield 12, 3) := by decide +kernel
theorem d_BH_ask_40 : decode prog_1_method_20_code 40 = .ok (.invokevirtual 72, 3) := by decide +kernel
theorem d_BH_ask_43 : decode prog_1_method_20_code 43 = .ok (.iconst 0, 1) := by decide +kernel
theorem d_BH_ask_44 : decode prog_1_method_20_code 44 = .ok (.iload_n 2, 1) := by decide +kernel
theorem d_BH_ask_45 : decode prog_1_method_20_code 45 = .ok (.invokevirtual 192, 3) := by decide +kernel
theorem d_BH_ask_48 : decode prog_1_method_20_code 48 = .ok (.istore 4, 2) := by decide +kernel
theorem d_BH_ask_50 : decode prog_1_method_20_code 50 = .ok (.iconst 1, 1) := by decide +kernel
theorem d_BH_ask_51 : decode prog_1_method_20_code 51 = .ok (.istore 5, 2) := by decide +kernel
theorem d_BH_ask_53 : decode prog_1_method_20_code 53 = .ok (.iload 5, 2) := by decide +kernel
theorem d_BH_ask_55 : decode prog_1_method_20_code 55 = .ok (.bipush 12, 2) := by decide +kernel
theorem d_BH_ask_57 : decode prog_1_method_20_code 57 = .ok (.if_icmp .ge 38, 3) := by decide +kernel
theorem d_BH_ask_60 : decode prog_1_method_20_code 60 = .ok (.aload_n 0, 1) := by decide +kernel
theorem d_BH_ask_61 : decode prog_1_method_20_code 61 = .ok (.getfield 12, 3) := by decide +kernel
theorem d_BH_ask_64 : decode prog_1_method_20_code 64 = .ok (.invokevirtual 72, 3) := by decide +kernel
theorem d_BH_ask_67 : decode prog_1_method_20_code 67 = .ok (.iload 5, 2) := by decide +kernel
theorem d_BH_ask_69 : decode prog_1_method_20_code 69 = .ok (.iload_n 2, 1) := by decide +kernel
theorem d_BH_ask_70 : decode prog_1_method_20_code 70 = .ok (.invokevirtual 192, 3) := by decide +kernel
theorem d_BH_ask_73 : decode prog_1_method_20_code 73 = .ok (.istore 6, 2) := by decide +kernel
theorem d_BH_ask_75 : decode prog_1_method_20_code 75 = .ok (.iload 6, 2) := by decide +kernel
theorem d_BH_ask_77 : decode prog_1_method_20_code 77 = .ok (.iload 4, 2) := by decide +kernel
theorem d_BH_ask_79 : decode prog_1_method_20_code 79 = .ok (.if_icmp .ge 10, 3) := by decide +kernel
theorem d_BH_ask_82 : decode prog_1_method_20_code 82 = .ok (.iload 5, 2) := by decide +kernel
theorem d_BH_ask_84 : decode prog_1_method_20_code 84 = .ok (.istore_n 3, 1) := by decide +kernel
theorem d_BH_ask_85 : decode prog_1_method_20_code 85 = .ok (.iload 6, 2) := by decide +kernel
theorem d_BH_ask_87 : decode prog_1_method_20_code 87 = .ok (.istore 4, 2) := by decide +kernel
theorem d_BH_ask_89 : decode prog_1_method_20_code 89 = .ok (.iinc 5 1, 3) := by decide +kernel
theorem d_BH_ask_92 : decode prog_1_method_20_code 92 = .ok (.goto (-39), 3) := by decide +kernel
theorem d_BH_ask_95 : decode prog_1_method_20_code 95 = .ok (.iload_n 1, 1) := by decide +kernel
theorem d_BH_ask_96 : decode prog_1_method_20_code 96 = .ok (.ifCond .ne 7, 3) := by decide +kernel
theorem d_BH_ask_99 : decode prog_1_method_20_code 99 = .ok (.iload_n 3, 1) := by decide +kernel
theorem d_BH_ask_100 : decode prog_1_method_20_code 100 = .ok (.goto 5, 3) := by decide +kernel
theorem d_BH_ask_103 : decode prog_1_method_20_code 103 = .ok (.iload 4, 2) := by decide +kernel
theorem d_BH_ask_105 : decode prog_1_method_20_code 105 = .ok (.ireturn, 1) := by decide +kernel
theorem d_BH_cut_0 : decode prog_1_method_21_code 0 = .ok (.iload_n 1, 1) := by decide +kernel
theorem d_BH_cut_1 : decode prog_1_method_21_code 1 = .ok (.ifCond .lt 8, 3) := by decide +kernel
theorem d_BH_cut_4 : decode prog_1_method_21_code 4 = .ok (.iload_n 1, 1) := by decide +kernel
theorem d_BH_cut_5 : decode prog_1_method_21_code 5 = .ok (.iconst 1, 1) := by decide +kernel
theorem d_BH_cut_6 : decode prog_1_method_21_code 6 = .ok (.if_icmp .le 6, 3) := by decide +kernel
theorem d_BH_cut_9 : decode prog_1_method_21_code 9 = .ok (.bipush (-2), 2) := by decide +kernel
theorem d_BH_cut_11 : decode prog_1_method_21_code 11 = .ok (.ireturn, 1) := by decide +kernel
theorem d_BH_cut_12 : decode prog_1_method_21_code 12 = .ok (.iload_n 1, 1) := by decide +kernel
theorem d_BH_cut_13 : decode prog_1_method_21_code 13 = .ok (.ifCond .ne 27, 3) := by decide +kernel
theorem d_BH_cut_16 : decode prog_1_method_21_code 16 = .ok (.aload_n 0, 1) := by decide +kernel
theorem d_BH_cut_17 : decode prog_1_method_21_code 17 = .ok (.getfield 47, 3) := by decide +kernel
theorem d_BH_cut_20 : decode prog_1_method_21_code 20 = .ok (.aload_n 0, 1) := by decide +kernel
theorem d_BH_cut_21 : decode prog_1_method_21_code 21 = .ok (.getfield 12, 3) := by decide +kernel
theorem d_BH_cut_24 : decode prog_1_method_21_code 24 = .ok (.invokevirtual 72, 3) := by decide +kernel
theorem d_BH_cut_27 : decode prog_1_method_21_code 27 = .ok (.iconst 0, 1) := by decide +kernel
theorem d_BH_cut_28 : decode prog_1_method_21_code 28 = .ok (.invokevirtual 195, 3) := by decide +kernel
theorem d_BH_cut_31 : decode prog_1_method_21_code 31 = .ok (.ifCond .eq 7, 3) := by decide +kernel
theorem d_BH_cut_34 : decode prog_1_method_21_code 34 = .ok (.iconst 1, 1) := by decide +kernel
theorem d_BH_cut_35 : decode prog_1_method_21_code 35 = .ok (.goto 4, 3) := by decide +kernel
theorem d_BH_cut_38 : decode prog_1_method_21_code 38 = .ok (.iconst 0, 1) := by decide +kernel
theorem d_BH_cut_39 : decode prog_1_method_21_code 39 = .ok (.ireturn, 1) := by decide +kernel
theorem d_BH_cut_40 : decode prog_1_method_21_code 40 = .ok (.iconst 1, 1) := by decide +kernel
theorem d_BH_cut_41 : decode prog_1_method_21_code 41 = .ok (.istore_n 2, 1) := by decide +kernel
theorem d_BH_cut_42 : decode prog_1_method_21_code 42 = .ok (.iload_n 2, 1) := by decide +kernel
theorem d_BH_cut_43 : decode prog_1_method_21_code 43 = .ok (.bipush 12, 2) := by decide +kernel
theorem d_BH_cut_45 : decode prog_1_method_21_code 45 = .ok (.if_icmp .ge 29, 3) := by decide +kernel
theorem d_BH_cut_48 : decode prog_1_method_21_code 48 = .ok (.aload_n 0, 1) := by decide +kernel
theorem d_BH_cut_49 : decode prog_1_method_21_code 49 = .ok (.getfield 47, 3) := by decide +kernel
theorem d_BH_cut_52 : decode prog_1_method_21_code 52 = .ok (.aload_n 0, 1) := by decide +kernel
theorem d_BH_cut_53 : decode prog_1_method_21_code 53 = .ok (.getfield 12, 3) := by decide +kernel
theorem d_BH_cut_56 : decode prog_1_method_21_code 56 = .ok (.invokevirtual 72, 3) := by decide +kernel
theorem d_BH_cut_59 : decode prog_1_method_21_code 59 = .ok (.iload_n 2, 1) := by decide +kernel
theorem d_BH_cut_60 : decode prog_1_method_21_code 60 = .ok (.invokevirtual 195, 3) := by decide +kernel
theorem d_BH_cut_63 : decode prog_1_method_21_code 63 = .ok (.ifCond .ne 5, 3) := by decide +kernel
theorem d_BH_cut_66 : decode prog_1_method_21_code 66 = .ok (.iload_n 2, 1) := by decide +kernel
theorem d_BH_cut_67 : decode prog_1_method_21_code 67 = .ok (.ireturn, 1) := by decide +kernel
theorem d_BH_cut_68 : decode prog_1_method_21_code 68 = .ok (.iinc 2 1, 3) := by decide +kernel
theorem d_BH_cut_71 : decode prog_1_method_21_code 71 = .ok (.goto (-29), 3) := by decide +kernel
theorem d_BH_cut_74 : decode prog_1_method_21_code 74 = .ok (.bipush (-6), 2) := by decide +kernel
theorem d_BH_cut_76 : decode prog_1_method_21_code 76 = .ok (.ireturn, 1) := by decide +kernel
theorem d_BH_tissue_0 : decode prog_1_method_22_code 0 = .ok (.iload_n 1, 1) := by decide +kernel
theorem d_BH_tissue_1 : decode prog_1_method_22_code 1 = .ok (.ifCond .lt 42, 3) := by decide +kernel
theorem d_BH_tissue_4 : decode prog_1_method_22_code 4 = .ok (.iload_n 1, 1) := by decide +kernel
theorem d_BH_tissue_5 : decode prog_1_method_22_code 5 = .ok (.bipush 40, 2) := by decide +kernel
theorem d_BH_tissue_7 : decode prog_1_method_22_code 7 = .ok (.if_icmp .gt 36, 3) := by decide +kernel
theorem d_BH_tissue_10 : decode prog_1_method_22_code 10 = .ok (.iload_n 2, 1) := by decide +kernel
theorem d_BH_tissue_11 : decode prog_1_method_22_code 11 = .ok (.ifCond .lt 32, 3) := by decide +kernel
theorem d_BH_tissue_14 : decode prog_1_method_22_code 14 = .ok (.iload_n 2, 1) := by decide +kernel
theorem d_BH_tissue_15 : decode prog_1_method_22_code 15 = .ok (.iload_n 1, 1) := by decide +kernel
theorem d_BH_tissue_16 : decode prog_1_method_22_code 16 = .ok (.if_icmp .gt 27, 3) := by decide +kernel
theorem d_BH_tissue_19 : decode prog_1_method_22_code 19 = .ok (.iload_n 3, 1) := by decide +kernel
theorem d_BH_tissue_20 : decode prog_1_method_22_code 20 = .ok (.ifCond .lt 23, 3) := by decide +kernel
theorem d_BH_tissue_23 : decode prog_1_method_22_code 23 = .ok (.iload_n 3, 1) := by decide +kernel
theorem d_BH_tissue_24 : decode prog_1_method_22_code 24 = .ok (.iload_n 1, 1) := by decide +kernel
theorem d_BH_tissue_25 : decode prog_1_method_22_code 25 = .ok (.if_icmp .gt 18, 3) := by decide +kernel
theorem d_BH_tissue_28 : decode prog_1_method_22_code 28 = .ok (.iload 4, 2) := by decide +kernel
theorem d_BH_tissue_30 : decode prog_1_method_22_code 30 = .ok (.ifCond .lt 13, 3) := by decide +kernel
theorem d_BH_tissue_33 : decode prog_1_method_22_code 33 = .ok (.iload 4, 2) := by decide +kernel
theorem d_BH_tissue_35 : decode prog_1_method_22_code 35 = .ok (.iload_n 3, 1) := by decide +kernel
theorem d_BH_tissue_36 : decode prog_1_method_22_code 36 = .ok (.if_icmp .gt 7, 3) := by decide +kernel
theorem d_BH_tissue_39 : decode prog_1_method_22_code 39 = .ok (.iconst 1, 1) := by decide +kernel
theorem d_BH_tissue_40 : decode prog_1_method_22_code 40 = .ok (.goto 4, 3) := by decide +kernel
theorem d_BH_tissue_43 : decode prog_1_method_22_code 43 = .ok (.iconst 0, 1) := by decide +kernel
theorem d_BH_tissue_44 : decode prog_1_method_22_code 44 = .ok (.istore 7, 2) := by decide +kernel
theorem d_BH_tissue_46 : decode prog_1_method_22_code 46 = .ok (.iload 7, 2) := by decide +kernel
theorem d_BH_tissue_48 : decode prog_1_method_22_code 48 = .ok (.ifCond .eq 25, 3) := by decide +kernel
theorem d_BH_tissue_51 : decode prog_1_method_22_code 51 = .ok (.iload 5, 2) := by decide +kernel
theorem d_BH_tissue_53 : decode prog_1_method_22_code 53 = .ok (.ifCond .lt 20, 3) := by decide +kernel
theorem d_BH_tissue_56 : decode prog_1_method_22_code 56 = .ok (.iload 5, 2) := by decide +kernel
theorem d_BH_tissue_58 : decode prog_1_method_22_code 58 = .ok (.iconst 1, 1) := by decide +kernel
theorem d_BH_tissue_59 : decode prog_1_method_22_code 59 = .ok (.if_icmp .gt 14, 3) := by decide +kernel
theorem d_BH_tissue_62 : decode prog_1_method_22_code 62 = .ok (.iload 6, 2) := by decide +kernel
theorem d_BH_tissue_64 : decode prog_1_method_22_code 64 = .ok (.ifCond .lt 9, 3) := by decide +kernel
theorem d_BH_tissue_67 : decode prog_1_method_22_code 67 = .ok (.iload 6, 2) := by decide +kernel
theorem d_BH_tissue_69 : decode prog_1_method_22_code 69 = .ok (.iconst 1, 1) := by decide +kernel
theorem d_BH_tissue_70 : decode prog_1_method_22_code 70 = .ok (.if_icmp .le 7, 3) := by decide +kernel
theorem d_BH_tissue_73 : decode prog_1_method_22_code 73 = .ok (.ldc2_w 198, 3) := by decide +kernel
theorem d_BH_tissue_76 : decode prog_1_method_22_code 76 = .ok (.lreturn, 1) := by decide +kernel
theorem d_BH_tissue_77 : decode prog_1_method_22_code 77 = .ok (.iload 5, 2) := by decide +kernel
theorem d_BH_tissue_79 : decode prog_1_method_22_code 79 = .ok (.ifCond .ne 22, 3) := by decide +kernel
theorem d_BH_tissue_82 : decode prog_1_method_22_code 82 = .ok (.iload_n 1, 1) := by decide +kernel
theorem d_BH_tissue_83 : decode prog_1_method_22_code 83 = .ok (.iload_n 2, 1) := by decide +kernel
theorem d_BH_tissue_84 : decode prog_1_method_22_code 84 = .ok (.iload_n 3, 1) := by decide +kernel
theorem d_BH_tissue_85 : decode prog_1_method_22_code 85 = .ok (.iload 4, 2) := by decide +kernel
theorem d_BH_tissue_87 : decode prog_1_method_22_code 87 = .ok (.invokestatic 200, 3) := by decide +kernel
theorem d_BH_tissue_90 : decode prog_1_method_22_code 90 = .ok (.iload_n 1, 1) := by decide +kernel
theorem d_BH_tissue_91 : decode prog_1_method_22_code 91 = .ok (.iload_n 3, 1) := by decide +kernel
theorem d_BH_tissue_92 : decode prog_1_method_22_code 92 = .ok (.invokestatic 206, 3) := by decide +kernel
theorem d_BH_tissue_95 : decode prog_1_method_22_code 95 = .ok (.iload 6, 2) := by decide +kernel
theorem d_BH_tissue_97 : decode prog_1_method_22_code 97 = .ok (.invokestatic 210, 3) := by decide +kernel
theorem d_BH_tissue_100 : decode prog_1_method_22_code 100 = .ok (.lreturn, 1) := by decide +kernel
theorem d_BH_tissue_101 : decode prog_1_method_22_code 101 = .ok (.iload_n 3, 1) := by decide +kernel
theorem d_BH_tissue_102 : decode prog_1_method_22_code 102 = .ok (.i2l, 1) := by decide +kernel
theorem d_BH_tissue_103 : decode prog_1_method_22_code 103 = .ok (.iload_n 2, 1) := by decide +kernel
theorem d_BH_tissue_104 : decode prog_1_method_22_code 104 = .ok (.i2l, 1) := by decide +kernel
theorem d_BH_tissue_105 : decode prog_1_method_22_code 105 = .ok (.lmul, 1) := by decide +kernel
theorem d_BH_tissue_106 : decode prog_1_method_22_code 106 = .ok (.iload_n 1, 1) := by decide +kernel
theorem d_BH_tissue_107 : decode prog_1_method_22_code 107 = .ok (.iconst 1, 1) := by decide +kernel
theorem d_BH_tissue_108 : decode prog_1_method_22_code 108 = .ok (.invokestatic 214, 3) := by decide +kernel
theorem d_BH_tissue_111 : decode prog_1_method_22_code 111 = .ok (.i2l, 1) := by decide +kernel
theorem d_BH_tissue_112 : decode prog_1_method_22_code 112 = .ok (.iload 6, 2) := by decide +kernel
theorem d_BH_tissue_114 : decode prog_1_method_22_code 114 = .ok (.invokestatic 210, 3) := by decide +kernel
theorem d_BH_tissue_117 : decode prog_1_method_22_code 117 = .ok (.lreturn, 1) := by decide +kernel
theorem d_BH_year_0 : decode prog_1_method_23_code 0 = .ok (.iload_n 1, 1) := by decide +kernel
theorem d_BH_year_1 : decode prog_1_method_23_code 1 = .ok (.ifCond .lt 30, 3) := by decide +kernel
theorem d_BH_year_4 : decode prog_1_method_23_code 4 = .ok (.iload_n 1, 1) := by decide +kernel
theorem d_BH_year_5 : decode prog_1_method_23_code 5 = .ok (.sipush 9999, 3) := by decide +kernel
theorem d_BH_year_8 : decode prog_1_method_23_code 8 = .ok (.if_icmp .gt 23, 3) := by decide +kernel
theorem d_BH_year_11 : decode prog_1_method_23_code 11 = .ok (.iload_n 2, 1) := by decide +kernel
theorem d_BH_year_12 : decode prog_1_method_23_code 12 = .ok (.iconst 1, 1) := by decide +kernel
theorem d_BH_year_13 : decode prog_1_method_23_code 13 = .ok (.if_icmp .lt 18, 3) := by decide +kernel
theorem d_BH_year_16 : decode prog_1_method_23_code 16 = .ok (.iload_n 2, 1) := by decide +kernel
theorem d_BH_year_17 : decode prog_1_method_23_code 17 = .ok (.bipush 99, 2) := by decide +kernel
theorem d_BH_year_19 : decode prog_1_method_23_code 19 = .ok (.if_icmp .gt 12, 3) := by decide +kernel
theorem d_BH_year_22 : decode prog_1_method_23_code 22 = .ok (.iload_n 3, 1) := by decide +kernel
theorem d_BH_year_23 : decode prog_1_method_23_code 23 = .ok (.ifCond .lt 8, 3) := by decide +kernel
theorem d_BH_year_26 : decode prog_1_method_23_code 26 = .ok (.iload_n 3, 1) := by decide +kernel
theorem d_BH_year_27 : decode prog_1_method_23_code 27 = .ok (.iconst 2, 1) := by decide +kernel
theorem d_BH_year_28 : decode prog_1_method_23_code 28 = .ok (.if_icmp .le 6, 3) := by decide +kernel
theorem d_BH_year_31 : decode prog_1_method_23_code 31 = .ok (.bipush (-2), 2) := by decide +kernel
theorem d_BH_year_33 : decode prog_1_method_23_code 33 = .ok (.ireturn, 1) := by decide +kernel
theorem d_BH_year_34 : decode prog_1_method_23_code 34 = .ok (.aload_n 0, 1) := by decide +kernel
theorem d_BH_year_35 : decode prog_1_method_23_code 35 = .ok (.getfield 54, 3) := by decide +kernel
theorem d_BH_year_38 : decode prog_1_method_23_code 38 = .ok (.aload_n 0, 1) := by decide +kernel
theorem d_BH_year_39 : decode prog_1_method_23_code 39 = .ok (.getfield 12, 3) := by decide +kernel
theorem d_BH_year_42 : decode prog_1_method_23_code 42 = .ok (.iload_n 1, 1) := by decide +kernel
theorem d_BH_year_43 : decode prog_1_method_23_code 43 = .ok (.iload_n 2, 1) := by decide +kernel
theorem d_BH_year_44 : decode prog_1_method_23_code 44 = .ok (.invokevirtual 219, 3) := by decide +kernel
theorem d_BH_year_47 : decode prog_1_method_23_code 47 = .ok (.astore 4, 2) := by decide +kernel
theorem d_BH_year_49 : decode prog_1_method_23_code 49 = .ok (.iload_n 3, 1) := by decide +kernel
theorem d_BH_year_50 : decode prog_1_method_23_code 50 = .ok (.lookupswitch 41 #[(0, 26), (1, 35)], 26) := by decide +kernel
theorem d_BH_year_76 : decode prog_1_method_23_code 76 = .ok (.aload 4, 2) := by decide +kernel
theorem d_BH_year_78 : decode prog_1_method_23_code 78 = .ok (.invokevirtual 137, 3) := by decide +kernel
theorem d_BH_year_81 : decode prog_1_method_23_code 81 = .ok (.invokestatic 176, 3) := by decide +kernel
theorem d_BH_year_84 : decode prog_1_method_23_code 84 = .ok (.ireturn, 1) := by decide +kernel
theorem d_BH_year_85 : decode prog_1_method_23_code 85 = .ok (.aload 4, 2) := by decide +kernel
theorem d_BH_year_87 : decode prog_1_method_23_code 87 = .ok (.invokevirtual 143, 3) := by decide +kernel
theorem d_BH_year_90 : decode prog_1_method_23_code 90 = .ok (.ireturn, 1) := by decide +kernel
theorem d_BH_year_91 : decode prog_1_method_23_code 91 = .ok (.aload 4, 2) := by decide +kernel
theorem d_BH_year_93 : decode prog_1_method_23_code 93 = .ok (.invokevirtual 140, 3) := by decide +kernel
theorem d_BH_year_96 : decode prog_1_method_23_code 96 = .ok (.invokestatic 176, 3) := by decide +kernel
theorem d_BH_year_99 : decode prog_1_method_23_code 99 = .ok (.ireturn, 1) := by decide +kernel
theorem d_BH_image_0 : decode prog_1_method_24_code 0 = .ok (.iload_n 1, 1) := by decide +kernel
theorem d_BH_image_1 : decode prog_1_method_24_code 1 = .ok (.ifCond .lt 8, 3) := by decide +kernel
theorem d_BH_image_4 : decode prog_1_method_24_code 4 = .ok (.iload_n 1, 1) := by decide +kernel
theorem d_BH_image_5 : decode prog_1_method_24_code 5 = .ok (.iconst 1, 1) := by decide +kernel
theorem d_BH_image_6 : decode prog_1_method_24_code 6 = .ok (.if_icmp .le 6, 3) := by decide +kernel
theorem d_BH_image_9 : decode prog_1_method_24_code 9 = .ok (.bipush (-2), 2) := by decide +kernel
theorem d_BH_image_11 : decode prog_1_method_24_code 11 = .ok (.ireturn, 1) := by decide +kernel
theorem d_BH_image_12 : decode prog_1_method_24_code 12 = .ok (.aload_n 0, 1) := by decide +kernel
theorem d_BH_image_13 : decode prog_1_method_24_code 13 = .ok (.iload_n 1, 1) := by decide +kernel
theorem d_BH_image_14 : decode prog_1_method_24_code 14 = .ok (.invokevirtual 223, 3) := by decide +kernel
theorem d_BH_image_17 : decode prog_1_method_24_code 17 = .ok (.aload_n 0, 1) := by decide +kernel
theorem d_BH_image_18 : decode prog_1_method_24_code 18 = .ok (.getfield 12, 3) := by decide +kernel
theorem d_BH_image_21 : decode prog_1_method_24_code 21 = .ok (.aload_n 0, 1) := by decide +kernel
theorem d_BH_image_22 : decode prog_1_method_24_code 22 = .ok (.getfield 19, 3) := by decide +kernel
theorem d_BH_image_25 : decode prog_1_method_24_code 25 = .ok (.invokevirtual 227, 3) := by decide +kernel
theorem d_BH_image_28 : decode prog_1_method_24_code 28 = .ok (.iconst 1, 1) := by decide +kernel
theorem d_BH_image_29 : decode prog_1_method_24_code 29 = .ok (.ireturn, 1) := by decide +kernel
theorem d_BH_restore_0 : decode prog_1_method_25_code 0 = .ok (.iload_n 1, 1) := by decide +kernel
theorem d_BH_restore_1 : decode prog_1_method_25_code 1 = .ok (.ifCond .lt 8, 3) := by decide +kernel
theorem d_BH_restore_4 : decode prog_1_method_25_code 4 = .ok (.iload_n 1, 1) := by decide +kernel
theorem d_BH_restore_5 : decode prog_1_method_25_code 5 = .ok (.iconst 1, 1) := by decide +kernel
theorem d_BH_restore_6 : decode prog_1_method_25_code 6 = .ok (.if_icmp .le 6, 3) := by decide +kernel
theorem d_BH_restore_9 : decode prog_1_method_25_code 9 = .ok (.bipush (-2), 2) := by decide +kernel
theorem d_BH_restore_11 : decode prog_1_method_25_code 11 = .ok (.ireturn, 1) := by decide +kernel
theorem d_BH_restore_12 : decode prog_1_method_25_code 12 = .ok (.aload_n 0, 1) := by decide +kernel
theorem d_BH_restore_13 : decode prog_1_method_25_code 13 = .ok (.iload_n 1, 1) := by decide +kernel
theorem d_BH_restore_14 : decode prog_1_method_25_code 14 = .ok (.invokevirtual 223, 3) := by decide +kernel
theorem d_BH_restore_17 : decode prog_1_method_25_code 17 = .ok (.invokevirtual 231, 3) := by decide +kernel
theorem d_BH_restore_20 : decode prog_1_method_25_code 20 = .ok (.ifCond .ne 6, 3) := by decide +kernel
theorem d_BH_restore_23 : decode prog_1_method_25_code 23 = .ok (.bipush (-3), 2) := by decide +kernel
theorem d_BH_restore_25 : decode prog_1_method_25_code 25 = .ok (.ireturn, 1) := by decide +kernel
theorem d_BH_restore_26 : decode prog_1_method_25_code 26 = .ok (.aload_n 0, 1) := by decide +kernel
theorem d_BH_restore_27 : decode prog_1_method_25_code 27 = .ok (.iload_n 1, 1) := by decide +kernel
theorem d_BH_restore_28 : decode prog_1_method_25_code 28 = .ok (.invokevirtual 223, 3) := by decide +kernel
theorem d_BH_restore_31 : decode prog_1_method_25_code 31 = .ok (.aload_n 0, 1) := by decide +kernel
theorem d_BH_restore_32 : decode prog_1_method_25_code 32 = .ok (.getfield 12, 3) := by decide +kernel
theorem d_BH_restore_35 : decode prog_1_method_25_code 35 = .ok (.aload_n 0, 1) := by decide +kernel
theorem d_BH_restore_36 : decode prog_1_method_25_code 36 = .ok (.getfield 19, 3) := by decide +kernel
theorem d_BH_restore_39 : decode prog_1_method_25_code 39 = .ok (.invokevirtual 235, 3) := by decide +kernel
theorem d_BH_restore_42 : decode prog_1_method_25_code 42 = .ok (.iconst 1, 1) := by decide +kernel
theorem d_BH_restore_43 : decode prog_1_method_25_code 43 = .ok (.ireturn, 1) := by decide +kernel
theorem d_BH_told_0 : decode prog_1_method_26_code 0 = .ok (.iload_n 1, 1) := by decide +kernel
theorem d_BH_told_1 : decode prog_1_method_26_code 1 = .ok (.bipush 10, 2) := by decide +kernel
theorem d_BH_told_3 : decode prog_1_method_26_code 3 = .ok (.isub, 1) := by decide +kernel
theorem d_BH_told_4 : decode prog_1_method_26_code 4 = .ok (.invokestatic 68, 3) := by decide +kernel
theorem d_BH_told_7 : decode prog_1_method_26_code 7 = .ok (.ifCond .eq 29, 3) := by decide +kernel
theorem d_BH_told_10 : decode prog_1_method_26_code 10 = .ok (.iload_n 1, 1) := by decide +kernel
theorem d_BH_told_11 : decode prog_1_method_26_code 11 = .ok (.bipush 10, 2) := by decide +kernel
theorem d_BH_told_13 : decode prog_1_method_26_code 13 = .ok (.if_icmp .ne 8, 3) := by decide +kernel
theorem d_BH_told_16 : decode prog_1_method_26_code 16 = .ok (.bipush (-6), 2) := by decide +kernel
theorem d_BH_told_18 : decode prog_1_method_26_code 18 = .ok (.goto 17, 3) := by decide +kernel
theorem d_BH_told_21 : decode prog_1_method_26_code 21 = .ok (.aload_n 0, 1) := by decide +kernel
theorem d_BH_told_22 : decode prog_1_method_26_code 22 = .ok (.getfield 12, 3) := by decide +kernel
theorem d_BH_told_25 : decode prog_1_method_26_code 25 = .ok (.invokevirtual 72, 3) := by decide +kernel
theorem d_BH_told_28 : decode prog_1_method_26_code 28 = .ok (.iload_n 1, 1) := by decide +kernel
theorem d_BH_told_29 : decode prog_1_method_26_code 29 = .ok (.bipush 10, 2) := by decide +kernel
theorem d_BH_told_31 : decode prog_1_method_26_code 31 = .ok (.isub, 1) := by decide +kernel
theorem d_BH_told_32 : decode prog_1_method_26_code 32 = .ok (.invokevirtual 76, 3) := by decide +kernel
theorem d_BH_told_35 : decode prog_1_method_26_code 35 = .ok (.ireturn, 1) := by decide +kernel
theorem d_BH_told_36 : decode prog_1_method_26_code 36 = .ok (.iload_n 1, 1) := by decide +kernel
theorem d_BH_told_37 : decode prog_1_method_26_code 37 = .ok (.bipush 30, 2) := by decide +kernel
theorem d_BH_told_39 : decode prog_1_method_26_code 39 = .ok (.isub, 1) := by decide +kernel
theorem d_BH_told_40 : decode prog_1_method_26_code 40 = .ok (.invokestatic 86, 3) := by decide +kernel
theorem d_BH_told_43 : decode prog_1_method_26_code 43 = .ok (.ifCond .eq 15, 3) := by decide +kernel
theorem d_BH_told_46 : decode prog_1_method_26_code 46 = .ok (.aload_n 0, 1) := by decide +kernel
theorem d_BH_told_47 : decode prog_1_method_26_code 47 = .ok (.getfield 12, 3) := by decide +kernel
theorem d_BH_told_50 : decode prog_1_method_26_code 50 = .ok (.iload_n 1, 1) := by decide +kernel
theorem d_BH_told_51 : decode prog_1_method_26_code 51 = .ok (.bipush 30, 2) := by decide +kernel
theorem d_BH_told_53 : decode prog_1_method_26_code 53 = .ok (.isub, 1) := by decide +kernel
theorem d_BH_told_54 : decode prog_1_method_26_code 54 = .ok (.invokevirtual 93, 3) := by decide +kernel
theorem d_BH_told_57 : decode prog_1_method_26_code 57 = .ok (.ireturn, 1) := by decide +kernel
theorem d_BH_told_58 : decode prog_1_method_26_code 58 = .ok (.iload_n 1, 1) := by decide +kernel
theorem d_BH_told_59 : decode prog_1_method_26_code 59 = .ok (.bipush 40, 2) := by decide +kernel
theorem d_BH_told_61 : decode prog_1_method_26_code 61 = .ok (.isub, 1) := by decide +kernel
theorem d_BH_told_62 : decode prog_1_method_26_code 62 = .ok (.invokestatic 86, 3) := by decide +kernel
theorem d_BH_told_65 : decode prog_1_method_26_code 65 = .ok (.ifCond .eq 15, 3) := by decide +kernel
theorem d_BH_told_68 : decode prog_1_method_26_code 68 = .ok (.aload_n 0, 1) := by decide +kernel
theorem d_BH_told_69 : decode prog_1_method_26_code 69 = .ok (.getfield 12, 3) := by decide +kernel
theorem d_BH_told_72 : decode prog_1_method_26_code 72 = .ok (.iload_n 1, 1) := by decide +kernel
theorem d_BH_told_73 : decode prog_1_method_26_code 73 = .ok (.bipush 40, 2) := by decide +kernel
theorem d_BH_told_75 : decode prog_1_method_26_code 75 = .ok (.isub, 1) := by decide +kernel
theorem d_BH_told_76 : decode prog_1_method_26_code 76 = .ok (.invokevirtual 131, 3) := by decide +kernel
theorem d_BH_told_79 : decode prog_1_method_26_code 79 = .ok (.ireturn, 1) := by decide +kernel
theorem d_BH_told_80 : decode prog_1_method_26_code 80 = .ok (.iload_n 1, 1) := by decide +kernel
theorem d_BH_told_81 : decode prog_1_method_26_code 81 = .ok (.tableswitch 75 0 4 #[35, 43, 51, 59, 67], 35) := by decide +kernel
theorem d_BH_told_116 : decode prog_1_method_26_code 116 = .ok (.aload_n 0, 1) := by decide +kernel
theorem d_BH_told_117 : decode prog_1_method_26_code 117 = .ok (.getfield 26, 3) := by decide +kernel
theorem d_BH_told_120 : decode prog_1_method_26_code 120 = .ok (.invokevirtual 100, 3) := by decide +kernel
theorem d_BH_told_123 : decode prog_1_method_26_code 123 = .ok (.ireturn, 1) := by decide +kernel
theorem d_BH_told_124 : decode prog_1_method_26_code 124 = .ok (.aload_n 0, 1) := by decide +kernel
theorem d_BH_told_125 : decode prog_1_method_26_code 125 = .ok (.getfield 12, 3) := by decide +kernel
theorem d_BH_told_128 : decode prog_1_method_26_code 128 = .ok (.invokevirtual 137, 3) := by decide +kernel
theorem d_BH_told_131 : decode prog_1_method_26_code 131 = .ok (.ireturn, 1) := by decide +kernel
theorem d_BH_told_132 : decode prog_1_method_26_code 132 = .ok (.aload_n 0, 1) := by decide +kernel
theorem d_BH_told_133 : decode prog_1_method_26_code 133 = .ok (.getfield 12, 3) := by decide +kernel
theorem d_BH_told_136 : decode prog_1_method_26_code 136 = .ok (.invokevirtual 140, 3) := by decide +kernel
theorem d_BH_told_139 : decode prog_1_method_26_code 139 = .ok (.ireturn, 1) := by decide +kernel
theorem d_BH_told_140 : decode prog_1_method_26_code 140 = .ok (.aload_n 0, 1) := by decide +kernel
theorem d_BH_told_141 : decode prog_1_method_26_code 141 = .ok (.getfield 12, 3) := by decide +kernel
theorem d_BH_told_144 : decode prog_1_method_26_code 144 = .ok (.invokevirtual 146, 3) := by decide +kernel
theorem d_BH_told_147 : decode prog_1_method_26_code 147 = .ok (.ireturn, 1) := by decide +kernel
theorem d_BH_told_148 : decode prog_1_method_26_code 148 = .ok (.aload_n 0, 1) := by decide +kernel
theorem d_BH_told_149 : decode prog_1_method_26_code 149 = .ok (.getfield 19, 3) := by decide +kernel
theorem d_BH_told_152 : decode prog_1_method_26_code 152 = .ok (.invokevirtual 184, 3) := by decide +kernel
theorem d_BH_told_155 : decode prog_1_method_26_code 155 = .ok (.ireturn, 1) := by decide +kernel
theorem d_BH_told_156 : decode prog_1_method_26_code 156 = .ok (.bipush (-2), 2) := by decide +kernel
theorem d_BH_told_158 : decode prog_1_method_26_code 158 = .ok (.ireturn, 1) := by decide +kernel
theorem d_BH_imageOf_0 : decode prog_1_method_27_code 0 = .ok (.iload_n 1, 1) := by decide +kernel
theorem d_BH_imageOf_1 : decode prog_1_method_27_code 1 = .ok (.ifCond .ne 10, 3) := by decide +kernel
theorem d_BH_imageOf_4 : decode prog_1_method_27_code 4 = .ok (.aload_n 0, 1) := by decide +kernel
theorem d_BH_imageOf_5 : decode prog_1_method_27_code 5 = .ok (.getfield 61, 3) := by decide +kernel
theorem d_BH_imageOf_8 : decode prog_1_method_27_code 8 = .ok (.goto 7, 3) := by decide +kernel
theorem d_BH_imageOf_11 : decode prog_1_method_27_code 11 = .ok (.aload_n 0, 1) := by decide +kernel
theorem d_BH_imageOf_12 : decode prog_1_method_27_code 12 = .ok (.getfield 65, 3) := by decide +kernel
theorem d_BH_imageOf_15 : decode prog_1_method_27_code 15 = .ok (.areturn, 1) := by decide +kernel
theorem d_BH_isLoop_0 : decode prog_1_method_28_code 0 = .ok (.iload_n 0, 1) := by decide +kernel
theorem d_BH_isLoop_1 : decode prog_1_method_28_code 1 = .ok (.ifCond .lt 13, 3) := by decide +kernel
theorem d_BH_isLoop_4 : decode prog_1_method_28_code 4 = .ok (.iload_n 0, 1) := by decide +kernel
theorem d_BH_isLoop_5 : decode prog_1_method_28_code 5 = .ok (.bipush 12, 2) := by decide +kernel
theorem d_BH_isLoop_7 : decode prog_1_method_28_code 7 = .ok (.if_icmp .ge 7, 3) := by decide +kernel
theorem d_BH_isLoop_10 : decode prog_1_method_28_code 10 = .ok (.iconst 1, 1) := by decide +kernel
theorem d_BH_isLoop_11 : decode prog_1_method_28_code 11 = .ok (.goto 4, 3) := by decide +kernel
theorem d_BH_isLoop_14 : decode prog_1_method_28_code 14 = .ok (.iconst 0, 1) := by decide +kernel
theorem d_BH_isLoop_15 : decode prog_1_method_28_code 15 = .ok (.ireturn, 1) := by decide +kernel
theorem d_BH_isBall_0 : decode prog_1_method_29_code 0 = .ok (.iload_n 0, 1) := by decide +kernel
theorem d_BH_isBall_1 : decode prog_1_method_29_code 1 = .ok (.ifCond .lt 13, 3) := by decide +kernel
theorem d_BH_isBall_4 : decode prog_1_method_29_code 4 = .ok (.iload_n 0, 1) := by decide +kernel
theorem d_BH_isBall_5 : decode prog_1_method_29_code 5 = .ok (.bipush 6, 2) := by decide +kernel
theorem d_BH_isBall_7 : decode prog_1_method_29_code 7 = .ok (.if_icmp .ge 7, 3) := by decide +kernel
theorem d_BH_isBall_10 : decode prog_1_method_29_code 10 = .ok (.iconst 1, 1) := by decide +kernel
theorem d_BH_isBall_11 : decode prog_1_method_29_code 11 = .ok (.goto 4, 3) := by decide +kernel
theorem d_BH_isBall_14 : decode prog_1_method_29_code 14 = .ok (.iconst 0, 1) := by decide +kernel
theorem d_BH_isBall_15 : decode prog_1_method_29_code 15 = .ok (.ireturn, 1) := by decide +kernel
theorem d_BH_holds_0 : decode prog_1_method_30_code 0 = .ok (.iload_n 0, 1) := by decide +kernel
theorem d_BH_holds_1 : decode prog_1_method_30_code 1 = .ok (.iload_n 1, 1) := by decide +kernel
theorem d_BH_holds_2 : decode prog_1_method_30_code 2 = .ok (.ishr, 1) := by decide +kernel
theorem d_BH_holds_3 : decode prog_1_method_30_code 3 = .ok (.iconst 1, 1) := by decide +kernel
theorem d_BH_holds_4 : decode prog_1_method_30_code 4 = .ok (.iand, 1) := by decide +kernel
theorem d_BH_holds_5 : decode prog_1_method_30_code 5 = .ok (.ifCond .eq 7, 3) := by decide +kernel
theorem d_BH_holds_8 : decode prog_1_method_30_code 8 = .ok (.iconst 1, 1) := by decide +kernel
theorem d_BH_holds_9 : decode prog_1_method_30_code 9 = .ok (.goto 4, 3) := by decide +kernel
theorem d_BH_holds_12 : decode prog_1_method_30_code 12 = .ok (.iconst 0, 1) := by decide +kernel
theorem d_BH_holds_13 : decode prog_1_method_30_code 13 = .ok (.ireturn, 1) := by decide +kernel
theorem d_BH_memberAt_0 : decode prog_1_method_31_code 0 = .ok (.iconst 0, 1) := by decide +kernel
theorem d_BH_memberAt_1 : decode prog_1_method_31_code 1 = .ok (.istore_n 2, 1) := by decide +kernel
theorem d_BH_memberAt_2 : decode prog_1_method_31_code 2 = .ok (.iconst 0, 1) := by decide +kernel
theorem d_BH_memberAt_3 : decode prog_1_method_31_code 3 = .ok (.istore_n 3, 1) := by decide +kernel
theorem d_BH_memberAt_4 : decode prog_1_method_31_code 4 = .ok (.iload_n 3, 1) := by decide +kernel
theorem d_BH_memberAt_5 : decode prog_1_method_31_code 5 = .ok (.bipush 12, 2) := by decide +kernel
theorem d_BH_memberAt_7 : decode prog_1_method_31_code 7 = .ok (.if_icmp .ge 30, 3) := by decide +kernel
theorem d_BH_memberAt_10 : decode prog_1_method_31_code 10 = .ok (.iload_n 0, 1) := by decide +kernel
theorem d_BH_memberAt_11 : decode prog_1_method_31_code 11 = .ok (.iload_n 3, 1) := by decide +kernel
theorem d_BH_memberAt_12 : decode prog_1_method_31_code 12 = .ok (.invokestatic 238, 3) := by decide +kernel
theorem d_BH_memberAt_15 : decode prog_1_method_31_code 15 = .ok (.ifCond .ne 6, 3) := by decide +kernel
theorem d_BH_memberAt_18 : decode prog_1_method_31_code 18 = .ok (.goto 13, 3) := by decide +kernel
theorem d_BH_memberAt_21 : decode prog_1_method_31_code 21 = .ok (.iload_n 2, 1) := by decide +kernel
theorem d_BH_memberAt_22 : decode prog_1_method_31_code 22 = .ok (.iload_n 1, 1) := by decide +kernel
theorem d_BH_memberAt_23 : decode prog_1_method_31_code 23 = .ok (.if_icmp .ne 5, 3) := by decide +kernel
theorem d_BH_memberAt_26 : decode prog_1_method_31_code 26 = .ok (.iload_n 3, 1) := by decide +kernel
theorem d_BH_memberAt_27 : decode prog_1_method_31_code 27 = .ok (.ireturn, 1) := by decide +kernel
theorem d_BH_memberAt_28 : decode prog_1_method_31_code 28 = .ok (.iinc 2 1, 3) := by decide +kernel
theorem d_BH_memberAt_31 : decode prog_1_method_31_code 31 = .ok (.iinc 3 1, 3) := by decide +kernel
theorem d_BH_memberAt_34 : decode prog_1_method_31_code 34 = .ok (.goto (-30), 3) := by decide +kernel
theorem d_BH_memberAt_37 : decode prog_1_method_31_code 37 = .ok (.bipush (-6), 2) := by decide +kernel
theorem d_BH_memberAt_39 : decode prog_1_method_31_code 39 = .ok (.ireturn, 1) := by decide +kernel
theorem d_BH_copyRow_0 : decode prog_1_method_32_code 0 = .ok (.iconst 0, 1) := by decide +kernel
theorem d_BH_copyRow_1 : decode prog_1_method_32_code 1 = .ok (.istore_n 2, 1) := by decide +kernel
theorem d_BH_copyRow_2 : decode prog_1_method_32_code 2 = .ok (.iload_n 2, 1) := by decide +kernel
theorem d_BH_copyRow_3 : decode prog_1_method_32_code 3 = .ok (.aload_n 0, 1) := by decide +kernel
theorem d_BH_copyRow_4 : decode prog_1_method_32_code 4 = .ok (.arraylength, 1) := by decide +kernel
theorem d_BH_copyRow_5 : decode prog_1_method_32_code 5 = .ok (.if_icmp .ge 21, 3) := by decide +kernel
theorem d_BH_copyRow_8 : decode prog_1_method_32_code 8 = .ok (.iload_n 2, 1) := by decide +kernel
theorem d_BH_copyRow_9 : decode prog_1_method_32_code 9 = .ok (.aload_n 1, 1) := by decide +kernel
theorem d_BH_copyRow_10 : decode prog_1_method_32_code 10 = .ok (.arraylength, 1) := by decide +kernel
theorem d_BH_copyRow_11 : decode prog_1_method_32_code 11 = .ok (.if_icmp .ge 15, 3) := by decide +kernel
theorem d_BH_copyRow_14 : decode prog_1_method_32_code 14 = .ok (.aload_n 1, 1) := by decide +kernel
theorem d_BH_copyRow_15 : decode prog_1_method_32_code 15 = .ok (.iload_n 2, 1) := by decide +kernel
theorem d_BH_copyRow_16 : decode prog_1_method_32_code 16 = .ok (.aload_n 0, 1) := by decide +kernel
theorem d_BH_copyRow_17 : decode prog_1_method_32_code 17 = .ok (.iload_n 2, 1) := by decide +kernel
theorem d_BH_copyRow_18 : decode prog_1_method_32_code 18 = .ok (.iaload, 1) := by decide +kernel
theorem d_BH_copyRow_19 : decode prog_1_method_32_code 19 = .ok (.iastore, 1) := by decide +kernel
theorem d_BH_copyRow_20 : decode prog_1_method_32_code 20 = .ok (.iinc 2 1, 3) := by decide +kernel
theorem d_BH_copyRow_23 : decode prog_1_method_32_code 23 = .ok (.goto (-21), 3) := by decide +kernel
theorem d_BH_copyRow_26 : decode prog_1_method_32_code 26 = .ok (.return_, 1) := by decide +kernel
theorem d_Md_init_0 : decode prog_14_method_1_code 0 = .ok (.aload_n 0, 1) := by decide +kernel
theorem d_Md_init_1 : decode prog_14_method_1_code 1 = .ok (.invokespecial 1, 3) := by decide +kernel
theorem d_Md_init_4 : decode prog_14_method_1_code 4 = .ok (.aload_n 0, 1) := by decide +kernel
theorem d_Md_init_5 : decode prog_14_method_1_code 5 = .ok (.bipush 26, 2) := by decide +kernel
theorem d_Md_init_7 : decode prog_14_method_1_code 7 = .ok (.newarray .int, 2) := by decide +kernel
theorem d_Md_init_9 : decode prog_14_method_1_code 9 = .ok (.putfield 7, 3) := by decide +kernel
theorem d_Md_init_12 : decode prog_14_method_1_code 12 = .ok (.aload_n 0, 1) := by decide +kernel
theorem d_Md_init_13 : decode prog_14_method_1_code 13 = .ok (.bipush 26, 2) := by decide +kernel
theorem d_Md_init_15 : decode prog_14_method_1_code 15 = .ok (.newarray .int, 2) := by decide +kernel
theorem d_Md_init_17 : decode prog_14_method_1_code 17 = .ok (.putfield 13, 3) := by decide +kernel
theorem d_Md_init_20 : decode prog_14_method_1_code 20 = .ok (.aload_n 0, 1) := by decide +kernel
theorem d_Md_init_21 : decode prog_14_method_1_code 21 = .ok (.bipush 16, 2) := by decide +kernel
theorem d_Md_init_23 : decode prog_14_method_1_code 23 = .ok (.newarray .int, 2) := by decide +kernel
theorem d_Md_init_25 : decode prog_14_method_1_code 25 = .ok (.putfield 16, 3) := by decide +kernel
theorem d_Md_init_28 : decode prog_14_method_1_code 28 = .ok (.aload_n 0, 1) := by decide +kernel
theorem d_Md_init_29 : decode prog_14_method_1_code 29 = .ok (.bipush 60, 2) := by decide +kernel
theorem d_Md_init_31 : decode prog_14_method_1_code 31 = .ok (.newarray .int, 2) := by decide +kernel
theorem d_Md_init_33 : decode prog_14_method_1_code 33 = .ok (.putfield 19, 3) := by decide +kernel
theorem d_Md_init_36 : decode prog_14_method_1_code 36 = .ok (.aload_n 0, 1) := by decide +kernel
theorem d_Md_init_37 : decode prog_14_method_1_code 37 = .ok (.bipush 6, 2) := by decide +kernel
theorem d_Md_init_39 : decode prog_14_method_1_code 39 = .ok (.newarray .int, 2) := by decide +kernel
theorem d_Md_init_41 : decode prog_14_method_1_code 41 = .ok (.putfield 22, 3) := by decide +kernel
theorem d_Md_init_44 : decode prog_14_method_1_code 44 = .ok (.aload_n 0, 1) := by decide +kernel
theorem d_Md_init_45 : decode prog_14_method_1_code 45 = .ok (.bipush 12, 2) := by decide +kernel
theorem d_Md_init_47 : decode prog_14_method_1_code 47 = .ok (.newarray .int, 2) := by decide +kernel
theorem d_Md_init_49 : decode prog_14_method_1_code 49 = .ok (.putfield 25, 3) := by decide +kernel
theorem d_Md_init_52 : decode prog_14_method_1_code 52 = .ok (.aload_n 0, 1) := by decide +kernel
theorem d_Md_init_53 : decode prog_14_method_1_code 53 = .ok (.bipush 12, 2) := by decide +kernel
theorem d_Md_init_55 : decode prog_14_method_1_code 55 = .ok (.newarray .int, 2) := by decide +kernel
theorem d_Md_init_57 : decode prog_14_method_1_code 57 = .ok (.putfield 28, 3) := by decide +kernel
theorem d_Md_init_60 : decode prog_14_method_1_code 60 = .ok (.aload_n 0, 1) := by decide +kernel
theorem d_Md_init_61 : decode prog_14_method_1_code 61 = .ok (.sipush 1681, 3) := by decide +kernel
theorem d_Md_init_64 : decode prog_14_method_1_code 64 = .ok (.newarray .long, 2) := by decide +kernel
theorem d_Md_init_66 : decode prog_14_method_1_code 66 = .ok (.putfield 31, 3) := by decide +kernel
theorem d_Md_init_69 : decode prog_14_method_1_code 69 = .ok (.aload_n 0, 1) := by decide +kernel
theorem d_Md_init_70 : decode prog_14_method_1_code 70 = .ok (.bipush 100, 2) := by decide +kernel
theorem d_Md_init_72 : decode prog_14_method_1_code 72 = .ok (.newarray .int, 2) := by decide +kernel
theorem d_Md_init_74 : decode prog_14_method_1_code 74 = .ok (.putfield 35, 3) := by decide +kernel
theorem d_Md_init_77 : decode prog_14_method_1_code 77 = .ok (.aload_n 0, 1) := by decide +kernel
theorem d_Md_init_78 : decode prog_14_method_1_code 78 = .ok (.iconst 2, 1) := by decide +kernel
theorem d_Md_init_79 : decode prog_14_method_1_code 79 = .ok (.newarray .boolean, 2) := by decide +kernel
theorem d_Md_init_81 : decode prog_14_method_1_code 81 = .ok (.putfield 38, 3) := by decide +kernel
theorem d_Md_init_84 : decode prog_14_method_1_code 84 = .ok (.iconst 0, 1) := by decide +kernel
theorem d_Md_init_85 : decode prog_14_method_1_code 85 = .ok (.istore_n 1, 1) := by decide +kernel
theorem d_Md_init_86 : decode prog_14_method_1_code 86 = .ok (.iload_n 1, 1) := by decide +kernel
theorem d_Md_init_87 : decode prog_14_method_1_code 87 = .ok (.bipush 12, 2) := by decide +kernel
theorem d_Md_init_89 : decode prog_14_method_1_code 89 = .ok (.if_icmp .ge 29, 3) := by decide +kernel
theorem d_Md_init_92 : decode prog_14_method_1_code 92 = .ok (.aload_n 0, 1) := by decide +kernel
theorem d_Md_init_93 : decode prog_14_method_1_code 93 = .ok (.getfield 7, 3) := by decide +kernel
theorem d_Md_init_96 : decode prog_14_method_1_code 96 = .ok (.iload_n 1, 1) := by decide +kernel
theorem d_Md_init_97 : decode prog_14_method_1_code 97 = .ok (.iload_n 1, 1) := by decide +kernel
theorem d_Md_init_98 : decode prog_14_method_1_code 98 = .ok (.ifCond .ne 8, 3) := by decide +kernel
theorem d_Md_init_101 : decode prog_14_method_1_code 101 = .ok (.bipush (-6), 2) := by decide +kernel
theorem d_Md_init_103 : decode prog_14_method_1_code 103 = .ok (.goto 8, 3) := by decide +kernel
theorem d_Md_init_106 : decode prog_14_method_1_code 106 = .ok (.iload_n 1, 1) := by decide +kernel
theorem d_Md_init_107 : decode prog_14_method_1_code 107 = .ok (.iconst 1, 1) := by decide +kernel
theorem d_Md_init_108 : decode prog_14_method_1_code 108 = .ok (.isub, 1) := by decide +kernel
theorem d_Md_init_109 : decode prog_14_method_1_code 109 = .ok (.iconst 2, 1) := by decide +kernel
theorem d_Md_init_110 : decode prog_14_method_1_code 110 = .ok (.idiv, 1) := by decide +kernel
theorem d_Md_init_111 : decode prog_14_method_1_code 111 = .ok (.iastore, 1) := by decide +kernel
theorem d_Md_init_112 : decode prog_14_method_1_code 112 = .ok (.iinc 1 1, 3) := by decide +kernel
theorem d_Md_init_115 : decode prog_14_method_1_code 115 = .ok (.goto (-29), 3) := by decide +kernel
theorem d_Md_init_118 : decode prog_14_method_1_code 118 = .ok (.iconst 0, 1) := by decide +kernel
theorem d_Md_init_119 : decode prog_14_method_1_code 119 = .ok (.istore_n 1, 1) := by decide +kernel
theorem d_Md_init_120 : decode prog_14_method_1_code 120 = .ok (.iload_n 1, 1) := by decide +kernel
theorem d_Md_init_121 : decode prog_14_method_1_code 121 = .ok (.bipush 6, 2) := by decide +kernel
theorem d_Md_init_123 : decode prog_14_method_1_code 123 = .ok (.if_icmp .ge 20, 3) := by decide +kernel
theorem d_Md_init_126 : decode prog_14_method_1_code 126 = .ok (.aload_n 0, 1) := by decide +kernel
theorem d_Md_init_127 : decode prog_14_method_1_code 127 = .ok (.getfield 7, 3) := by decide +kernel
theorem d_Md_init_130 : decode prog_14_method_1_code 130 = .ok (.bipush 12, 2) := by decide +kernel
theorem d_Md_init_132 : decode prog_14_method_1_code 132 = .ok (.iload_n 1, 1) := by decide +kernel
theorem d_Md_init_133 : decode prog_14_method_1_code 133 = .ok (.iadd, 1) := by decide +kernel
theorem d_Md_init_134 : decode prog_14_method_1_code 134 = .ok (.bipush (-6), 2) := by decide +kernel
theorem d_Md_init_136 : decode prog_14_method_1_code 136 = .ok (.iastore, 1) := by decide +kernel
theorem d_Md_init_137 : decode prog_14_method_1_code 137 = .ok (.iinc 1 1, 3) := by decide +kernel
theorem d_Md_init_140 : decode prog_14_method_1_code 140 = .ok (.goto (-20), 3) := by decide +kernel
theorem d_Md_init_143 : decode prog_14_method_1_code 143 = .ok (.return_, 1) := by decide +kernel
theorem d_Md_in_0 : decode prog_14_method_2_code 0 = .ok (.iload_n 0, 1) := by decide +kernel
theorem d_Md_in_1 : decode prog_14_method_2_code 1 = .ok (.iload_n 1, 1) := by decide +kernel
theorem d_Md_in_2 : decode prog_14_method_2_code 2 = .ok (.if_icmp .lt 12, 3) := by decide +kernel
theorem d_Md_in_5 : decode prog_14_method_2_code 5 = .ok (.iload_n 0, 1) := by decide +kernel
theorem d_Md_in_6 : decode prog_14_method_2_code 6 = .ok (.iload_n 2, 1) := by decide +kernel
theorem d_Md_in_7 : decode prog_14_method_2_code 7 = .ok (.if_icmp .gt 7, 3) := by decide +kernel
theorem d_Md_in_10 : decode prog_14_method_2_code 10 = .ok (.iconst 1, 1) := by decide +kernel
theorem d_Md_in_11 : decode prog_14_method_2_code 11 = .ok (.goto 4, 3) := by decide +kernel
theorem d_Md_in_14 : decode prog_14_method_2_code 14 = .ok (.iconst 0, 1) := by decide +kernel
theorem d_Md_in_15 : decode prog_14_method_2_code 15 = .ok (.ireturn, 1) := by decide +kernel
theorem d_Md_has_0 : decode prog_14_method_3_code 0 = .ok (.iload_n 0, 1) := by decide +kernel
theorem d_Md_has_1 : decode prog_14_method_3_code 1 = .ok (.iload_n 1, 1) := by decide +kernel
theorem d_Md_has_2 : decode prog_14_method_3_code 2 = .ok (.ishr, 1) := by decide +kernel
theorem d_Md_has_3 : decode prog_14_method_3_code 3 = .ok (.iconst 1, 1) := by decide +kernel
theorem d_Md_has_4 : decode prog_14_method_3_code 4 = .ok (.iand, 1) := by decide +kernel
theorem d_Md_has_5 : decode prog_14_method_3_code 5 = .ok (.iconst 1, 1) := by decide +kernel
theorem d_Md_has_6 : decode prog_14_method_3_code 6 = .ok (.if_icmp .ne 7, 3) := by decide +kernel
theorem d_Md_has_9 : decode prog_14_method_3_code 9 = .ok (.iconst 1, 1) := by decide +kernel
theorem d_Md_has_10 : decode prog_14_method_3_code 10 = .ok (.goto 4, 3) := by decide +kernel
theorem d_Md_has_13 : decode prog_14_method_3_code 13 = .ok (.iconst 0, 1) := by decide +kernel
theorem d_Md_has_14 : decode prog_14_method_3_code 14 = .ok (.ireturn, 1) := by decide +kernel
theorem d_Md_bits_0 : decode prog_14_method_4_code 0 = .ok (.iconst 0, 1) := by decide +kernel
theorem d_Md_bits_1 : decode prog_14_method_4_code 1 = .ok (.istore_n 1, 1) := by decide +kernel
theorem d_Md_bits_2 : decode prog_14_method_4_code 2 = .ok (.iconst 0, 1) := by decide +kernel
theorem d_Md_bits_3 : decode prog_14_method_4_code 3 = .ok (.istore_n 2, 1) := by decide +kernel
theorem d_Md_bits_4 : decode prog_14_method_4_code 4 = .ok (.iload_n 2, 1) := by decide +kernel
theorem d_Md_bits_5 : decode prog_14_method_4_code 5 = .ok (.bipush 12, 2) := by decide +kernel
theorem d_Md_bits_7 : decode prog_14_method_4_code 7 = .ok (.if_icmp .ge 17, 3) := by decide +kernel
theorem d_Md_bits_10 : decode prog_14_method_4_code 10 = .ok (.iload_n 1, 1) := by decide +kernel
theorem d_Md_bits_11 : decode prog_14_method_4_code 11 = .ok (.iload_n 0, 1) := by decide +kernel
theorem d_Md_bits_12 : decode prog_14_method_4_code 12 = .ok (.iload_n 2, 1) := by decide +kernel
theorem d_Md_bits_13 : decode prog_14_method_4_code 13 = .ok (.ishr, 1) := by decide +kernel
theorem d_Md_bits_14 : decode prog_14_method_4_code 14 = .ok (.iconst 1, 1) := by decide +kernel
theorem d_Md_bits_15 : decode prog_14_method_4_code 15 = .ok (.iand, 1) := by decide +kernel
theorem d_Md_bits_16 : decode prog_14_method_4_code 16 = .ok (.iadd, 1) := by decide +kernel
theorem d_Md_bits_17 : decode prog_14_method_4_code 17 = .ok (.istore_n 1, 1) := by decide +kernel
theorem d_Md_bits_18 : decode prog_14_method_4_code 18 = .ok (.iinc 2 1, 3) := by decide +kernel
theorem d_Md_bits_21 : decode prog_14_method_4_code 21 = .ok (.goto (-17), 3) := by decide +kernel
theorem d_Md_bits_24 : decode prog_14_method_4_code 24 = .ok (.iload_n 1, 1) := by decide +kernel
theorem d_Md_bits_25 : decode prog_14_method_4_code 25 = .ok (.ireturn, 1) := by decide +kernel
theorem d_Md_branch_0 : decode prog_14_method_5_code 0 = .ok (.iload_n 1, 1) := by decide +kernel
theorem d_Md_branch_1 : decode prog_14_method_5_code 1 = .ok (.iconst 1, 1) := by decide +kernel
theorem d_Md_branch_2 : decode prog_14_method_5_code 2 = .ok (.bipush 11, 2) := by decide +kernel
theorem d_Md_branch_4 : decode prog_14_method_5_code 4 = .ok (.invokestatic 42, 3) := by decide +kernel
theorem d_Md_branch_7 : decode prog_14_method_5_code 7 = .ok (.ifCond .eq 13, 3) := by decide +kernel
theorem d_Md_branch_10 : decode prog_14_method_5_code 10 = .ok (.iload_n 2, 1) := by decide +kernel
theorem d_Md_branch_11 : decode prog_14_method_5_code 11 = .ok (.iconst 0, 1) := by decide +kernel
theorem d_Md_branch_12 : decode prog_14_method_5_code 12 = .ok (.bipush 11, 2) := by decide +kernel
theorem d_Md_branch_14 : decode prog_14_method_5_code 14 = .ok (.invokestatic 42, 3) := by decide +kernel
theorem d_Md_branch_17 : decode prog_14_method_5_code 17 = .ok (.ifCond .ne 5, 3) := by decide +kernel
theorem d_Md_branch_20 : decode prog_14_method_5_code 20 = .ok (.iconst (-1), 1) := by decide +kernel
theorem d_Md_branch_21 : decode prog_14_method_5_code 21 = .ok (.ireturn, 1) := by decide +kernel
theorem d_Md_branch_22 : decode prog_14_method_5_code 22 = .ok (.iload_n 2, 1) := by decide +kernel
theorem d_Md_branch_23 : decode prog_14_method_5_code 23 = .ok (.iload_n 1, 1) := by decide +kernel
theorem d_Md_branch_24 : decode prog_14_method_5_code 24 = .ok (.if_icmp .lt 6, 3) := by decide +kernel
theorem d_Md_branch_27 : decode prog_14_method_5_code 27 = .ok (.bipush (-2), 2) := by decide +kernel
theorem d_Md_branch_29 : decode prog_14_method_5_code 29 = .ok (.ireturn, 1) := by decide +kernel
theorem d_Md_branch_30 : decode prog_14_method_5_code 30 = .ok (.aload_n 0, 1) := by decide +kernel
theorem d_Md_branch_31 : decode prog_14_method_5_code 31 = .ok (.getfield 7, 3) := by decide +kernel
theorem d_Md_branch_34 : decode prog_14_method_5_code 34 = .ok (.iload_n 1, 1) := by decide +kernel
theorem d_Md_branch_35 : decode prog_14_method_5_code 35 = .ok (.iaload, 1) := by decide +kernel
theorem d_Md_branch_36 : decode prog_14_method_5_code 36 = .ok (.istore_n 3, 1) := by decide +kernel
theorem d_Md_branch_37 : decode prog_14_method_5_code 37 = .ok (.aload_n 0, 1) := by decide +kernel
theorem d_Md_branch_38 : decode prog_14_method_5_code 38 = .ok (.getfield 7, 3) := by decide +kernel
theorem d_Md_branch_41 : decode prog_14_method_5_code 41 = .ok (.iload_n 1, 1) := by decide +kernel
theorem d_Md_branch_42 : decode prog_14_method_5_code 42 = .ok (.iload_n 2, 1) := by decide +kernel
theorem d_Md_branch_43 : decode prog_14_method_5_code 43 = .ok (.iastore, 1) := by decide +kernel
theorem d_Md_branch_44 : decode prog_14_method_5_code 44 = .ok (.iload_n 3, 1) := by decide +kernel
theorem d_Md_branch_45 : decode prog_14_method_5_code 45 = .ok (.ireturn, 1) := by decide +kernel
theorem d_Md_ball_0 : decode prog_14_method_6_code 0 = .ok (.iload_n 1, 1) := by decide +kernel
theorem d_Md_ball_1 : decode prog_14_method_6_code 1 = .ok (.iconst 0, 1) := by decide +kernel
theorem d_Md_ball_2 : decode prog_14_method_6_code 2 = .ok (.iconst 5, 1) := by decide +kernel
theorem d_Md_ball_3 : decode prog_14_method_6_code 3 = .ok (.invokestatic 42, 3) := by decide +kernel
theorem d_Md_ball_6 : decode prog_14_method_6_code 6 = .ok (.ifCond .eq 13, 3) := by decide +kernel
theorem d_Md_ball_9 : decode prog_14_method_6_code 9 = .ok (.iload_n 2, 1) := by decide +kernel
theorem d_Md_ball_10 : decode prog_14_method_6_code 10 = .ok (.iconst (-1), 1) := by decide +kernel
theorem d_Md_ball_11 : decode prog_14_method_6_code 11 = .ok (.bipush 11, 2) := by decide +kernel
theorem d_Md_ball_13 : decode prog_14_method_6_code 13 = .ok (.invokestatic 42, 3) := by decide +kernel
theorem d_Md_ball_16 : decode prog_14_method_6_code 16 = .ok (.ifCond .ne 5, 3) := by decide +kernel
theorem d_Md_ball_19 : decode prog_14_method_6_code 19 = .ok (.iconst (-1), 1) := by decide +kernel
theorem d_Md_ball_20 : decode prog_14_method_6_code 20 = .ok (.ireturn, 1) := by decide +kernel
theorem d_Md_ball_21 : decode prog_14_method_6_code 21 = .ok (.iload_n 3, 1) := by decide +kernel
theorem d_Md_ball_22 : decode prog_14_method_6_code 22 = .ok (.iconst 0, 1) := by decide +kernel
theorem d_Md_ball_23 : decode prog_14_method_6_code 23 = .ok (.bipush 8, 2) := by decide +kernel
theorem d_Md_ball_25 : decode prog_14_method_6_code 25 = .ok (.invokestatic 42, 3) := by decide +kernel
theorem d_Md_ball_28 : decode prog_14_method_6_code 28 = .ok (.ifCond .ne 6, 3) := by decide +kernel
theorem d_Md_ball_31 : decode prog_14_method_6_code 31 = .ok (.bipush (-2), 2) := by decide +kernel
theorem d_Md_ball_33 : decode prog_14_method_6_code 33 = .ok (.ireturn, 1) := by decide +kernel
theorem d_Md_ball_34 : decode prog_14_method_6_code 34 = .ok (.aload_n 0, 1) := by decide +kernel
theorem d_Md_ball_35 : decode prog_14_method_6_code 35 = .ok (.invokevirtual 46, 3) := by decide +kernel
theorem d_Md_ball_38 : decode prog_14_method_6_code 38 = .ok (.iload_n 2, 1) := by decide +kernel
theorem d_Md_ball_39 : decode prog_14_method_6_code 39 = .ok (.ifCond .ge 7, 3) := by decide +kernel
theorem d_Md_ball_42 : decode prog_14_method_6_code 42 = .ok (.iload_n 1, 1) := by decide +kernel
theorem d_Md_ball_43 : decode prog_14_method_6_code 43 = .ok (.goto 8, 3) := by decide +kernel
theorem d_Md_ball_46 : decode prog_14_method_6_code 46 = .ok (.aload_n 0, 1) := by decide +kernel
theorem d_Md_ball_47 : decode prog_14_method_6_code 47 = .ok (.iload_n 2, 1) := by decide +kernel
theorem d_Md_ball_48 : decode prog_14_method_6_code 48 = .ok (.invokevirtual 49, 3) := by decide +kernel
theorem d_Md_ball_51 : decode prog_14_method_6_code 51 = .ok (.istore 4, 2) := by decide +kernel
theorem d_Md_ball_53 : decode prog_14_method_6_code 53 = .ok (.iload 4, 2) := by decide +kernel
theorem d_Md_ball_55 : decode prog_14_method_6_code 55 = .ok (.ifCond .lt 12, 3) := by decide +kernel
theorem d_Md_ball_58 : decode prog_14_method_6_code 58 = .ok (.iload 4, 2) := by decide +kernel
theorem d_Md_ball_60 : decode prog_14_method_6_code 60 = .ok (.iload_n 1, 1) := by decide +kernel
theorem d_Md_ball_61 : decode prog_14_method_6_code 61 = .ok (.if_icmp .eq 6, 3) := by decide +kernel
theorem d_Md_ball_64 : decode prog_14_method_6_code 64 = .ok (.bipush (-3), 2) := by decide +kernel
theorem d_Md_ball_66 : decode prog_14_method_6_code 66 = .ok (.ireturn, 1) := by decide +kernel
theorem d_Md_ball_67 : decode prog_14_method_6_code 67 = .ok (.aload_n 0, 1) := by decide +kernel
theorem d_Md_ball_68 : decode prog_14_method_6_code 68 = .ok (.getfield 7, 3) := by decide +kernel
theorem d_Md_ball_71 : decode prog_14_method_6_code 71 = .ok (.bipush 12, 2) := by decide +kernel
theorem d_Md_ball_73 : decode prog_14_method_6_code 73 = .ok (.iload_n 1, 1) := by decide +kernel
theorem d_Md_ball_74 : decode prog_14_method_6_code 74 = .ok (.iadd, 1) := by decide +kernel
theorem d_Md_ball_75 : decode prog_14_method_6_code 75 = .ok (.iaload, 1) := by decide +kernel
theorem d_Md_ball_76 : decode prog_14_method_6_code 76 = .ok (.istore 5, 2) := by decide +kernel
theorem d_Md_ball_78 : decode prog_14_method_6_code 78 = .ok (.aload_n 0, 1) := by decide +kernel
theorem d_Md_ball_79 : decode prog_14_method_6_code 79 = .ok (.getfield 7, 3) := by decide +kernel
theorem d_Md_ball_82 : decode prog_14_method_6_code 82 = .ok (.bipush 12, 2) := by decide +kernel
theorem d_Md_ball_84 : decode prog_14_method_6_code 84 = .ok (.iload_n 1, 1) := by decide +kernel
theorem d_Md_ball_85 : decode prog_14_method_6_code 85 = .ok (.iadd, 1) := by decide +kernel
theorem d_Md_ball_86 : decode prog_14_method_6_code 86 = .ok (.iload_n 2, 1) := by decide +kernel
theorem d_Md_ball_87 : decode prog_14_method_6_code 87 = .ok (.ifCond .ge 8, 3) := by decide +kernel
theorem d_Md_ball_90 : decode prog_14_method_6_code 90 = .ok (.bipush (-6), 2) := by decide +kernel
theorem d_Md_ball_92 : decode prog_14_method_6_code 92 = .ok (.goto 4, 3) := by decide +kernel
theorem d_Md_ball_95 : decode prog_14_method_6_code 95 = .ok (.iload_n 2, 1) := by decide +kernel
theorem d_Md_ball_96 : decode prog_14_method_6_code 96 = .ok (.iastore, 1) := by decide +kernel
theorem d_Md_ball_97 : decode prog_14_method_6_code 97 = .ok (.aload_n 0, 1) := by decide +kernel
theorem d_Md_ball_98 : decode prog_14_method_6_code 98 = .ok (.getfield 7, 3) := by decide +kernel
theorem d_Md_ball_101 : decode prog_14_method_6_code 101 = .ok (.bipush 18, 2) := by decide +kernel
theorem d_Md_ball_103 : decode prog_14_method_6_code 103 = .ok (.iload_n 1, 1) := by decide +kernel
theorem d_Md_ball_104 : decode prog_14_method_6_code 104 = .ok (.iadd, 1) := by decide +kernel
theorem d_Md_ball_105 : decode prog_14_method_6_code 105 = .ok (.iload_n 3, 1) := by decide +kernel
theorem d_Md_ball_106 : decode prog_14_method_6_code 106 = .ok (.iastore, 1) := by decide +kernel
theorem d_Md_ball_107 : decode prog_14_method_6_code 107 = .ok (.aload_n 0, 1) := by decide +kernel
theorem d_Md_ball_108 : decode prog_14_method_6_code 108 = .ok (.getfield 7, 3) := by decide +kernel
theorem d_Md_ball_111 : decode prog_14_method_6_code 111 = .ok (.bipush 24, 2) := by decide +kernel
theorem d_Md_ball_113 : decode prog_14_method_6_code 113 = .ok (.dup2, 1) := by decide +kernel
theorem d_Md_ball_114 : decode prog_14_method_6_code 114 = .ok (.iaload, 1) := by decide +kernel
theorem d_Md_ball_115 : decode prog_14_method_6_code 115 = .ok (.iconst 1, 1) := by decide +kernel
theorem d_Md_ball_116 : decode prog_14_method_6_code 116 = .ok (.iload_n 1, 1) := by decide +kernel
theorem d_Md_ball_117 : decode prog_14_method_6_code 117 = .ok (.ishl, 1) := by decide +kernel
theorem d_Md_ball_118 : decode prog_14_method_6_code 118 = .ok (.iconst (-1), 1) := by decide +kernel
theorem d_Md_ball_119 : decode prog_14_method_6_code 119 = .ok (.ixor, 1) := by decide +kernel
theorem d_Md_ball_120 : decode prog_14_method_6_code 120 = .ok (.iand, 1) := by decide +kernel
theorem d_Md_ball_121 : decode prog_14_method_6_code 121 = .ok (.iastore, 1) := by decide +kernel
theorem d_Md_ball_122 : decode prog_14_method_6_code 122 = .ok (.iload 5, 2) := by decide +kernel
theorem d_Md_ball_124 : decode prog_14_method_6_code 124 = .ok (.ireturn, 1) := by decide +kernel
theorem d_Md_say_0 : decode prog_14_method_7_code 0 = .ok (.iload_n 1, 1) := by decide +kernel
theorem d_Md_say_1 : decode prog_14_method_7_code 1 = .ok (.bipush 33, 2) := by decide +kernel
theorem d_Md_say_3 : decode prog_14_method_7_code 3 = .ok (.bipush 126, 2) := by decide +kernel
theorem d_Md_say_5 : decode prog_14_method_7_code 5 = .ok (.invokestatic 42, 3) := by decide +kernel
theorem d_Md_say_8 : decode prog_14_method_7_code 8 = .ok (.ifCond .ne 6, 3) := by decide +kernel
theorem d_Md_say_11 : decode prog_14_method_7_code 11 = .ok (.bipush (-2), 2) := by decide +kernel
theorem d_Md_say_13 : decode prog_14_method_7_code 13 = .ok (.ireturn, 1) := by decide +kernel
theorem d_Md_say_14 : decode prog_14_method_7_code 14 = .ok (.aload_n 0, 1) := by decide +kernel
theorem d_Md_say_15 : decode prog_14_method_7_code 15 = .ok (.getfield 53, 3) := by decide +kernel
theorem d_Md_say_18 : decode prog_14_method_7_code 18 = .ok (.bipush 60, 2) := by decide +kernel
theorem d_Md_say_20 : decode prog_14_method_7_code 20 = .ok (.if_icmp .ne 6, 3) := by decide +kernel
theorem d_Md_say_23 : decode prog_14_method_7_code 23 = .ok (.bipush (-4), 2) := by decide +kernel
theorem d_Md_say_25 : decode prog_14_method_7_code 25 = .ok (.ireturn, 1) := by decide +kernel
theorem d_Md_say_26 : decode prog_14_method_7_code 26 = .ok (.aload_n 0, 1) := by decide +kernel
theorem d_Md_say_27 : decode prog_14_method_7_code 27 = .ok (.getfield 19, 3) := by decide +kernel
theorem d_Md_say_30 : decode prog_14_method_7_code 30 = .ok (.aload_n 0, 1) := by decide +kernel
theorem d_Md_say_31 : decode prog_14_method_7_code 31 = .ok (.getfield 53, 3) := by decide +kernel
theorem d_Md_say_34 : decode prog_14_method_7_code 34 = .ok (.iload_n 1, 1) := by decide +kernel
theorem d_Md_say_35 : decode prog_14_method_7_code 35 = .ok (.iastore, 1) := by decide +kernel
theorem d_Md_say_36 : decode prog_14_method_7_code 36 = .ok (.aload_n 0, 1) := by decide +kernel
theorem d_Md_say_37 : decode prog_14_method_7_code 37 = .ok (.dup, 1) := by decide +kernel
theorem d_Md_say_38 : decode prog_14_method_7_code 38 = .ok (.getfield 53, 3) := by decide +kernel
theorem d_Md_say_41 : decode prog_14_method_7_code 41 = .ok (.iconst 1, 1) := by decide +kernel
theorem d_Md_say_42 : decode prog_14_method_7_code 42 = .ok (.iadd, 1) := by decide +kernel
theorem d_Md_say_43 : decode prog_14_method_7_code 43 = .ok (.putfield 53, 3) := by decide +kernel
theorem d_Md_say_46 : decode prog_14_method_7_code 46 = .ok (.aload_n 0, 1) := by decide +kernel
theorem d_Md_say_47 : decode prog_14_method_7_code 47 = .ok (.getfield 53, 3) := by decide +kernel
theorem d_Md_say_50 : decode prog_14_method_7_code 50 = .ok (.ireturn, 1) := by decide +kernel
theorem d_Md_wipe_0 : decode prog_14_method_8_code 0 = .ok (.aload_n 0, 1) := by decide +kernel
theorem d_Md_wipe_1 : decode prog_14_method_8_code 1 = .ok (.getfield 53, 3) := by decide +kernel
theorem d_Md_wipe_4 : decode prog_14_method_8_code 4 = .ok (.istore_n 1, 1) := by decide +kernel
theorem d_Md_wipe_5 : decode prog_14_method_8_code 5 = .ok (.aload_n 0, 1) := by decide +kernel
theorem d_Md_wipe_6 : decode prog_14_method_8_code 6 = .ok (.iconst 0, 1) := by decide +kernel
theorem d_Md_wipe_7 : decode prog_14_method_8_code 7 = .ok (.putfield 53, 3) := by decide +kernel
theorem d_Md_wipe_10 : decode prog_14_method_8_code 10 = .ok (.iload_n 1, 1) := by decide +kernel
theorem d_Md_wipe_11 : decode prog_14_method_8_code 11 = .ok (.ireturn, 1) := by decide +kernel
theorem d_Md_step_0 : decode prog_14_method_9_code 0 = .ok (.iload_n 1, 1) := by decide +kernel
theorem d_Md_step_1 : decode prog_14_method_9_code 1 = .ok (.bipush 97, 2) := by decide +kernel
theorem d_Md_step_3 : decode prog_14_method_9_code 3 = .ok (.bipush 108, 2) := by decide +kernel
theorem d_Md_step_5 : decode prog_14_method_9_code 5 = .ok (.invokestatic 42, 3) := by decide +kernel
theorem d_Md_step_8 : decode prog_14_method_9_code 8 = .ok (.istore_n 2, 1) := by decide +kernel
theorem d_Md_step_9 : decode prog_14_method_9_code 9 = .ok (.iload_n 0, 1) := by decide +kernel
theorem d_Md_step_10 : decode prog_14_method_9_code 10 = .ok (.tableswitch 109 0 2 #[26, 74, 91], 26) := by decide +kernel
theorem d_Md_step_36 : decode prog_14_method_9_code 36 = .ok (.iload_n 1, 1) := by decide +kernel
theorem d_Md_step_37 : decode prog_14_method_9_code 37 = .ok (.bipush 65, 2) := by decide +kernel
theorem d_Md_step_39 : decode prog_14_method_9_code 39 = .ok (.bipush 70, 2) := by decide +kernel
theorem d_Md_step_41 : decode prog_14_method_9_code 41 = .ok (.invokestatic 42, 3) := by decide +kernel
theorem d_Md_step_44 : decode prog_14_method_9_code 44 = .ok (.ifCond .eq 7, 3) := by decide +kernel
theorem d_Md_step_47 : decode prog_14_method_9_code 47 = .ok (.iconst 1, 1) := by decide +kernel
theorem d_Md_step_48 : decode prog_14_method_9_code 48 = .ok (.goto 35, 3) := by decide +kernel
theorem d_Md_step_51 : decode prog_14_method_9_code 51 = .ok (.iload_n 1, 1) := by decide +kernel
theorem d_Md_step_52 : decode prog_14_method_9_code 52 = .ok (.bipush 100, 2) := by decide +kernel
theorem d_Md_step_54 : decode prog_14_method_9_code 54 = .ok (.if_icmp .ne 7, 3) := by decide +kernel
theorem d_Md_step_57 : decode prog_14_method_9_code 57 = .ok (.iconst 2, 1) := by decide +kernel
theorem d_Md_step_58 : decode prog_14_method_9_code 58 = .ok (.goto 25, 3) := by decide +kernel
theorem d_Md_step_61 : decode prog_14_method_9_code 61 = .ok (.iload_n 1, 1) := by decide +kernel
theorem d_Md_step_62 : decode prog_14_method_9_code 62 = .ok (.bipush 98, 2) := by decide +kernel
theorem d_Md_step_64 : decode prog_14_method_9_code 64 = .ok (.if_icmp .ne 7, 3) := by decide +kernel
theorem d_Md_step_67 : decode prog_14_method_9_code 67 = .ok (.iconst 3, 1) := by decide +kernel
theorem d_Md_step_68 : decode prog_14_method_9_code 68 = .ok (.goto 15, 3) := by decide +kernel
theorem d_Md_step_71 : decode prog_14_method_9_code 71 = .ok (.iload_n 1, 1) := by decide +kernel
theorem d_Md_step_72 : decode prog_14_method_9_code 72 = .ok (.bipush 46, 2) := by decide +kernel
theorem d_Md_step_74 : decode prog_14_method_9_code 74 = .ok (.if_icmp .ne 7, 3) := by decide +kernel
theorem d_Md_step_77 : decode prog_14_method_9_code 77 = .ok (.iconst 0, 1) := by decide +kernel
theorem d_Md_step_78 : decode prog_14_method_9_code 78 = .ok (.goto 5, 3) := by decide +kernel
theorem d_Md_step_81 : decode prog_14_method_9_code 81 = .ok (.bipush (-6), 2) := by decide +kernel
theorem d_Md_step_83 : decode prog_14_method_9_code 83 = .ok (.ireturn, 1) := by decide +kernel
theorem d_Md_step_84 : decode prog_14_method_9_code 84 = .ok (.iload_n 2, 1) := by decide +kernel
theorem d_Md_step_85 : decode prog_14_method_9_code 85 = .ok (.ifCond .ne 9, 3) := by decide +kernel
theorem d_Md_step_88 : decode prog_14_method_9_code 88 = .ok (.iload_n 1, 1) := by decide +kernel
theorem d_Md_step_89 : decode prog_14_method_9_code 89 = .ok (.bipush 95, 2) := by decide +kernel
theorem d_Md_step_91 : decode prog_14_method_9_code 91 = .ok (.if_icmp .ne 7, 3) := by decide +kernel
theorem d_Md_step_94 : decode prog_14_method_9_code 94 = .ok (.iconst 0, 1) := by decide +kernel
theorem d_Md_step_95 : decode prog_14_method_9_code 95 = .ok (.goto 5, 3) := by decide +kernel
theorem d_Md_step_98 : decode prog_14_method_9_code 98 = .ok (.bipush (-6), 2) := by decide +kernel
theorem d_Md_step_100 : decode prog_14_method_9_code 100 = .ok (.ireturn, 1) := by decide +kernel
theorem d_Md_step_101 : decode prog_14_method_9_code 101 = .ok (.iload_n 1, 1) := by decide +kernel
theorem d_Md_step_102 : decode prog_14_method_9_code 102 = .ok (.bipush 49, 2) := by decide +kernel
theorem d_Md_step_104 : decode prog_14_method_9_code 104 = .ok (.bipush 57, 2) := by decide +kernel
theorem d_Md_step_106 : decode prog_14_method_9_code 106 = .ok (.invokestatic 42, 3) := by decide +kernel
theorem d_Md_step_109 : decode prog_14_method_9_code 109 = .ok (.ifCond .eq 7, 3) := by decide +kernel
theorem d_Md_step_112 : decode prog_14_method_9_code 112 = .ok (.iconst 0, 1) := by decide +kernel
theorem d_Md_step_113 : decode prog_14_method_9_code 113 = .ok (.goto 5, 3) := by decide +kernel
theorem d_Md_step_116 : decode prog_14_method_9_code 116 = .ok (.bipush (-6), 2) := by decide +kernel
theorem d_Md_step_118 : decode prog_14_method_9_code 118 = .ok (.ireturn, 1) := by decide +kernel
theorem d_Md_step_119 : decode prog_14_method_9_code 119 = .ok (.iload_n 2, 1) := by decide +kernel
theorem d_Md_step_120 : decode prog_14_method_9_code 120 = .ok (.ifCond .ne 8, 3) := by decide +kernel
theorem d_Md_step_123 : decode prog_14_method_9_code 123 = .ok (.bipush (-6), 2) := by decide +kernel
theorem d_Md_step_125 : decode prog_14_method_9_code 125 = .ok (.goto 13, 3) := by decide +kernel
theorem d_Md_step_128 : decode prog_14_method_9_code 128 = .ok (.iload_n 0, 1) := by decide +kernel
theorem d_Md_step_129 : decode prog_14_method_9_code 129 = .ok (.iconst 3, 1) := by decide +kernel
theorem d_Md_step_130 : decode prog_14_method_9_code 130 = .ok (.if_icmp .ne 7, 3) := by decide +kernel
theorem d_Md_step_133 : decode prog_14_method_9_code 133 = .ok (.iconst 4, 1) := by decide +kernel
theorem d_Md_step_134 : decode prog_14_method_9_code 134 = .ok (.goto 4, 3) := by decide +kernel
theorem d_Md_step_137 : decode prog_14_method_9_code 137 = .ok (.iconst 0, 1) := by decide +kernel
theorem d_Md_step_138 : decode prog_14_method_9_code 138 = .ok (.ireturn, 1) := by decide +kernel
theorem d_Md_faultOf_0 : decode prog_14_method_10_code 0 = .ok (.iconst 0, 1) := by decide +kernel
theorem d_Md_faultOf_1 : decode prog_14_method_10_code 1 = .ok (.istore_n 1, 1) := by decide +kernel
theorem d_Md_faultOf_2 : decode prog_14_method_10_code 2 = .ok (.iconst 0, 1) := by decide +kernel
theorem d_Md_faultOf_3 : decode prog_14_method_10_code 3 = .ok (.istore_n 2, 1) := by decide +kernel
theorem d_Md_faultOf_4 : decode prog_14_method_10_code 4 = .ok (.iload_n 2, 1) := by decide +kernel
theorem d_Md_faultOf_5 : decode prog_14_method_10_code 5 = .ok (.aload_n 0, 1) := by decide +kernel
theorem d_Md_faultOf_6 : decode prog_14_method_10_code 6 = .ok (.getfield 53, 3) := by decide +kernel
theorem d_Md_faultOf_9 : decode prog_14_method_10_code 9 = .ok (.if_icmp .ge 26, 3) := by decide +kernel
theorem d_Md_faultOf_12 : decode prog_14_method_10_code 12 = .ok (.iload_n 1, 1) := by decide +kernel
theorem d_Md_faultOf_13 : decode prog_14_method_10_code 13 = .ok (.aload_n 0, 1) := by decide +kernel
theorem d_Md_faultOf_14 : decode prog_14_method_10_code 14 = .ok (.getfield 19, 3) := by decide +kernel
theorem d_Md_faultOf_17 : decode prog_14_method_10_code 17 = .ok (.iload_n 2, 1) := by decide +kernel
theorem d_Md_faultOf_18 : decode prog_14_method_10_code 18 = .ok (.iaload, 1) := by decide +kernel
theorem d_Md_faultOf_19 : decode prog_14_method_10_code 19 = .ok (.invokestatic 57, 3) := by decide +kernel
theorem d_Md_faultOf_22 : decode prog_14_method_10_code 22 = .ok (.istore_n 1, 1) := by decide +kernel
theorem d_Md_faultOf_23 : decode prog_14_method_10_code 23 = .ok (.iload_n 1, 1) := by decide +kernel
theorem d_Md_faultOf_24 : decode prog_14_method_10_code 24 = .ok (.ifCond .ge 5, 3) := by decide +kernel
theorem d_Md_faultOf_27 : decode prog_14_method_10_code 27 = .ok (.iload_n 2, 1) := by decide +kernel
theorem d_Md_faultOf_28 : decode prog_14_method_10_code 28 = .ok (.ireturn, 1) := by decide +kernel
theorem d_Md_faultOf_29 : decode prog_14_method_10_code 29 = .ok (.iinc 2 1, 3) := by decide +kernel
theorem d_Md_faultOf_32 : decode prog_14_method_10_code 32 = .ok (.goto (-28), 3) := by decide +kernel
theorem d_Md_faultOf_35 : decode prog_14_method_10_code 35 = .ok (.iload_n 1, 1) := by decide +kernel
theorem d_Md_faultOf_36 : decode prog_14_method_10_code 36 = .ok (.ifCond .ne 8, 3) := by decide +kernel
theorem d_Md_faultOf_39 : decode prog_14_method_10_code 39 = .ok (.bipush (-6), 2) := by decide +kernel
theorem d_Md_faultOf_41 : decode prog_14_method_10_code 41 = .ok (.goto 7, 3) := by decide +kernel
theorem d_Md_faultOf_44 : decode prog_14_method_10_code 44 = .ok (.aload_n 0, 1) := by decide +kernel
theorem d_Md_faultOf_45 : decode prog_14_method_10_code 45 = .ok (.getfield 53, 3) := by decide +kernel
theorem d_Md_faultOf_48 : decode prog_14_method_10_code 48 = .ok (.ireturn, 1) := by decide +kernel
theorem d_Md_fault_0 : decode prog_14_method_11_code 0 = .ok (.aload_n 0, 1) := by decide +kernel
theorem d_Md_fault_1 : decode prog_14_method_11_code 1 = .ok (.invokevirtual 61, 3) := by decide +kernel
theorem d_Md_fault_4 : decode prog_14_method_11_code 4 = .ok (.ireturn, 1) := by decide +kernel
theorem d_Md_asNow_0 : decode prog_14_method_12_code 0 = .ok (.iconst 0, 1) := by decide +kernel
theorem d_Md_asNow_1 : decode prog_14_method_12_code 1 = .ok (.istore_n 1, 1) := by decide +kernel
theorem d_Md_asNow_2 : decode prog_14_method_12_code 2 = .ok (.iload_n 1, 1) := by decide +kernel
theorem d_Md_asNow_3 : decode prog_14_method_12_code 3 = .ok (.bipush 26, 2) := by decide +kernel
theorem d_Md_asNow_5 : decode prog_14_method_12_code 5 = .ok (.if_icmp .ge 21, 3) := by decide +kernel
theorem d_Md_asNow_8 : decode prog_14_method_12_code 8 = .ok (.aload_n 0, 1) := by decide +kernel
theorem d_Md_asNow_9 : decode prog_14_method_12_code 9 = .ok (.getfield 13, 3) := by decide +kernel
theorem d_Md_asNow_12 : decode prog_14_method_12_code 12 = .ok (.iload_n 1, 1) := by decide +kernel
theorem d_Md_asNow_13 : decode prog_14_method_12_code 13 = .ok (.aload_n 0, 1) := by decide +kernel
theorem d_Md_asNow_14 : decode prog_14_method_12_code 14 = .ok (.getfield 7, 3) := by decide +kernel
theorem d_Md_asNow_17 : decode prog_14_method_12_code 17 = .ok (.iload_n 1, 1) := by decide +kernel
theorem d_Md_asNow_18 : decode prog_14_method_12_code 18 = .ok (.iaload, 1) := by decide +kernel
theorem d_Md_asNow_19 : decode prog_14_method_12_code 19 = .ok (.iastore, 1) := by decide +kernel
theorem d_Md_asNow_20 : decode prog_14_method_12_code 20 = .ok (.iinc 1 1, 3) := by decide +kernel
theorem d_Md_asNow_23 : decode prog_14_method_12_code 23 = .ok (.goto (-21), 3) := by decide +kernel
theorem d_Md_asNow_26 : decode prog_14_method_12_code 26 = .ok (.aload_n 0, 1) := by decide +kernel
theorem d_Md_asNow_27 : decode prog_14_method_12_code 27 = .ok (.iconst 0, 1) := by decide +kernel
theorem d_Md_asNow_28 : decode prog_14_method_12_code 28 = .ok (.putfield 65, 3) := by decide +kernel
theorem d_Md_asNow_31 : decode prog_14_method_12_code 31 = .ok (.aload_n 0, 1) := by decide +kernel
theorem d_Md_asNow_32 : decode prog_14_method_12_code 32 = .ok (.bipush (-6), 2) := by decide +kernel
theorem d_Md_asNow_34 : decode prog_14_method_12_code 34 = .ok (.putfield 68, 3) := by decide +kernel
theorem d_Md_asNow_37 : decode prog_14_method_12_code 37 = .ok (.aload_n 0, 1) := by decide +kernel
theorem d_Md_asNow_38 : decode prog_14_method_12_code 38 = .ok (.bipush (-6), 2) := by decide +kernel
theorem d_Md_asNow_40 : decode prog_14_method_12_code 40 = .ok (.putfield 71, 3) := by decide +kernel
theorem d_Md_asNow_43 : decode prog_14_method_12_code 43 = .ok (.return_, 1) := by decide +kernel
theorem d_Md_ballOn_0 : decode prog_14_method_13_code 0 = .ok (.iconst 0, 1) := by decide +kernel
theorem d_Md_ballOn_1 : decode prog_14_method_13_code 1 = .ok (.istore_n 2, 1) := by decide +kernel
theorem d_Md_ballOn_2 : decode prog_14_method_13_code 2 = .ok (.iload_n 2, 1) := by decide +kernel
theorem d_Md_ballOn_3 : decode prog_14_method_13_code 3 = .ok (.bipush 6, 2) := by decide +kernel
theorem d_Md_ballOn_5 : decode prog_14_method_13_code 5 = .ok (.if_icmp .ge 24, 3) := by decide +kernel
theorem d_Md_ballOn_8 : decode prog_14_method_13_code 8 = .ok (.aload_n 0, 1) := by decide +kernel
theorem d_Md_ballOn_9 : decode prog_14_method_13_code 9 = .ok (.getfield 13, 3) := by decide +kernel
theorem d_Md_ballOn_12 : decode prog_14_method_13_code 12 = .ok (.bipush 12, 2) := by decide +kernel
theorem d_Md_ballOn_14 : decode prog_14_method_13_code 14 = .ok (.iload_n 2, 1) := by decide +kernel
theorem d_Md_ballOn_15 : decode prog_14_method_13_code 15 = .ok (.iadd, 1) := by decide +kernel
theorem d_Md_ballOn_16 : decode prog_14_method_13_code 16 = .ok (.iaload, 1) := by decide +kernel
theorem d_Md_ballOn_17 : decode prog_14_method_13_code 17 = .ok (.iload_n 1, 1) := by decide +kernel
theorem d_Md_ballOn_18 : decode prog_14_method_13_code 18 = .ok (.if_icmp .ne 5, 3) := by decide +kernel
theorem d_Md_ballOn_21 : decode prog_14_method_13_code 21 = .ok (.iload_n 2, 1) := by decide +kernel
theorem d_Md_ballOn_22 : decode prog_14_method_13_code 22 = .ok (.ireturn, 1) := by decide +kernel
theorem d_Md_ballOn_23 : decode prog_14_method_13_code 23 = .ok (.iinc 2 1, 3) := by decide +kernel
theorem d_Md_ballOn_26 : decode prog_14_method_13_code 26 = .ok (.goto (-24), 3) := by decide +kernel
theorem d_Md_ballOn_29 : decode prog_14_method_13_code 29 = .ok (.bipush (-6), 2) := by decide +kernel
theorem d_Md_ballOn_31 : decode prog_14_method_13_code 31 = .ok (.ireturn, 1) := by decide +kernel
theorem d_Md_hanging_0 : decode prog_14_method_14_code 0 = .ok (.iconst 0, 1) := by decide +kernel
theorem d_Md_hanging_1 : decode prog_14_method_14_code 1 = .ok (.istore_n 1, 1) := by decide +kernel
theorem d_Md_hanging_2 : decode prog_14_method_14_code 2 = .ok (.iconst 0, 1) := by decide +kernel
theorem d_Md_hanging_3 : decode prog_14_method_14_code 3 = .ok (.istore_n 2, 1) := by decide +kernel
theorem d_Md_hanging_4 : decode prog_14_method_14_code 4 = .ok (.iload_n 2, 1) := by decide +kernel
theorem d_Md_hanging_5 : decode prog_14_method_14_code 5 = .ok (.bipush 6, 2) := by decide +kernel
theorem d_Md_hanging_7 : decode prog_14_method_14_code 7 = .ok (.if_icmp .ge 39, 3) := by decide +kernel
theorem d_Md_hanging_10 : decode prog_14_method_14_code 10 = .ok (.iload_n 1, 1) := by decide +kernel
theorem d_Md_hanging_11 : decode prog_14_method_14_code 11 = .ok (.aload_n 0, 1) := by decide +kernel
theorem d_Md_hanging_12 : decode prog_14_method_14_code 12 = .ok (.getfield 13, 3) := by decide +kernel
theorem d_Md_hanging_15 : decode prog_14_method_14_code 15 = .ok (.bipush 12, 2) := by decide +kernel
theorem d_Md_hanging_17 : decode prog_14_method_14_code 17 = .ok (.iload_n 2, 1) := by decide +kernel
theorem d_Md_hanging_18 : decode prog_14_method_14_code 18 = .ok (.iadd, 1) := by decide +kernel
theorem d_Md_hanging_19 : decode prog_14_method_14_code 19 = .ok (.iaload, 1) := by decide +kernel
theorem d_Md_hanging_20 : decode prog_14_method_14_code 20 = .ok (.ifCond .lt 17, 3) := by decide +kernel
theorem d_Md_hanging_23 : decode prog_14_method_14_code 23 = .ok (.iconst 1, 1) := by decide +kernel
theorem d_Md_hanging_24 : decode prog_14_method_14_code 24 = .ok (.aload_n 0, 1) := by decide +kernel
theorem d_Md_hanging_25 : decode prog_14_method_14_code 25 = .ok (.getfield 13, 3) := by decide +kernel
theorem d_Md_hanging_28 : decode prog_14_method_14_code 28 = .ok (.bipush 12, 2) := by decide +kernel
theorem d_Md_hanging_30 : decode prog_14_method_14_code 30 = .ok (.iload_n 2, 1) := by decide +kernel
theorem d_Md_hanging_31 : decode prog_14_method_14_code 31 = .ok (.iadd, 1) := by decide +kernel
theorem d_Md_hanging_32 : decode prog_14_method_14_code 32 = .ok (.iaload, 1) := by decide +kernel
theorem d_Md_hanging_33 : decode prog_14_method_14_code 33 = .ok (.ishl, 1) := by decide +kernel
theorem d_Md_hanging_34 : decode prog_14_method_14_code 34 = .ok (.goto 4, 3) := by decide +kernel
theorem d_Md_hanging_37 : decode prog_14_method_14_code 37 = .ok (.iconst 0, 1) := by decide +kernel
theorem d_Md_hanging_38 : decode prog_14_method_14_code 38 = .ok (.ior, 1) := by decide +kernel
theorem d_Md_hanging_39 : decode prog_14_method_14_code 39 = .ok (.istore_n 1, 1) := by decide +kernel
theorem d_Md_hanging_40 : decode prog_14_method_14_code 40 = .ok (.iinc 2 1, 3) := by decide +kernel
theorem d_Md_hanging_43 : decode prog_14_method_14_code 43 = .ok (.goto (-39), 3) := by decide +kernel
theorem d_Md_hanging_46 : decode prog_14_method_14_code 46 = .ok (.iload_n 1, 1) := by decide +kernel
theorem d_Md_hanging_47 : decode prog_14_method_14_code 47 = .ok (.ireturn, 1) := by decide +kernel
theorem d_Md_apartOf_0 : decode prog_14_method_15_code 0 = .ok (.iload_n 1, 1) := by decide +kernel
theorem d_Md_apartOf_1 : decode prog_14_method_15_code 1 = .ok (.istore_n 3, 1) := by decide +kernel
theorem d_Md_apartOf_2 : decode prog_14_method_15_code 2 = .ok (.iload_n 2, 1) := by decide +kernel
theorem d_Md_apartOf_3 : decode prog_14_method_15_code 3 = .ok (.istore 4, 2) := by decide +kernel
theorem d_Md_apartOf_5 : decode prog_14_method_15_code 5 = .ok (.iconst 0, 1) := by decide +kernel
theorem d_Md_apartOf_6 : decode prog_14_method_15_code 6 = .ok (.istore 5, 2) := by decide +kernel
theorem d_Md_apartOf_8 : decode prog_14_method_15_code 8 = .ok (.iload_n 3, 1) := by decide +kernel
theorem d_Md_apartOf_9 : decode prog_14_method_15_code 9 = .ok (.iload 4, 2) := by decide +kernel
theorem d_Md_apartOf_11 : decode prog_14_method_15_code 11 = .ok (.if_icmp .eq 34, 3) := by decide +kernel
theorem d_Md_apartOf_14 : decode prog_14_method_15_code 14 = .ok (.iload_n 3, 1) := by decide +kernel
theorem d_Md_apartOf_15 : decode prog_14_method_15_code 15 = .ok (.iload 4, 2) := by decide +kernel
theorem d_Md_apartOf_17 : decode prog_14_method_15_code 17 = .ok (.if_icmp .le 13, 3) := by decide +kernel
theorem d_Md_apartOf_20 : decode prog_14_method_15_code 20 = .ok (.aload_n 0, 1) := by decide +kernel
theorem d_Md_apartOf_21 : decode prog_14_method_15_code 21 = .ok (.getfield 13, 3) := by decide +kernel
theorem d_Md_apartOf_24 : decode prog_14_method_15_code 24 = .ok (.iload_n 3, 1) := by decide +kernel
theorem d_Md_apartOf_25 : decode prog_14_method_15_code 25 = .ok (.iaload, 1) := by decide +kernel
theorem d_Md_apartOf_26 : decode prog_14_method_15_code 26 = .ok (.istore_n 3, 1) := by decide +kernel
theorem d_Md_apartOf_27 : decode prog_14_method_15_code 27 = .ok (.goto 12, 3) := by decide +kernel
theorem d_Md_apartOf_30 : decode prog_14_method_15_code 30 = .ok (.aload_n 0, 1) := by decide +kernel
theorem d_Md_apartOf_31 : decode prog_14_method_15_code 31 = .ok (.getfield 13, 3) := by decide +kernel
theorem d_Md_apartOf_34 : decode prog_14_method_15_code 34 = .ok (.iload 4, 2) := by decide +kernel
theorem d_Md_apartOf_36 : decode prog_14_method_15_code 36 = .ok (.iaload, 1) := by decide +kernel
theorem d_Md_apartOf_37 : decode prog_14_method_15_code 37 = .ok (.istore 4, 2) := by decide +kernel
theorem d_Md_apartOf_39 : decode prog_14_method_15_code 39 = .ok (.iinc 5 1, 3) := by decide +kernel
theorem d_Md_apartOf_42 : decode prog_14_method_15_code 42 = .ok (.goto (-34), 3) := by decide +kernel
theorem d_Md_apartOf_45 : decode prog_14_method_15_code 45 = .ok (.iload 5, 2) := by decide +kernel
theorem d_Md_apartOf_47 : decode prog_14_method_15_code 47 = .ok (.ireturn, 1) := by decide +kernel
theorem d_Md_meetOf_0 : decode prog_14_method_16_code 0 = .ok (.iload_n 1, 1) := by decide +kernel
theorem d_Md_meetOf_1 : decode prog_14_method_16_code 1 = .ok (.istore_n 3, 1) := by decide +kernel
theorem d_Md_meetOf_2 : decode prog_14_method_16_code 2 = .ok (.iload_n 2, 1) := by decide +kernel
theorem d_Md_meetOf_3 : decode prog_14_method_16_code 3 = .ok (.istore 4, 2) := by decide +kernel
theorem d_Md_meetOf_5 : decode prog_14_method_16_code 5 = .ok (.iload_n 3, 1) := by decide +kernel
theorem d_Md_meetOf_6 : decode prog_14_method_16_code 6 = .ok (.iload 4, 2) := by decide +kernel
theorem d_Md_meetOf_8 : decode prog_14_method_16_code 8 = .ok (.if_icmp .eq 31, 3) := by decide +kernel
theorem d_Md_meetOf_11 : decode prog_14_method_16_code 11 = .ok (.iload_n 3, 1) := by decide +kernel
theorem d_Md_meetOf_12 : decode prog_14_method_16_code 12 = .ok (.iload 4, 2) := by decide +kernel
theorem d_Md_meetOf_14 : decode prog_14_method_16_code 14 = .ok (.if_icmp .le 13, 3) := by decide +kernel
theorem d_Md_meetOf_17 : decode prog_14_method_16_code 17 = .ok (.aload_n 0, 1) := by decide +kernel
theorem d_Md_meetOf_18 : decode prog_14_method_16_code 18 = .ok (.getfield 13, 3) := by decide +kernel
theorem d_Md_meetOf_21 : decode prog_14_method_16_code 21 = .ok (.iload_n 3, 1) := by decide +kernel
theorem d_Md_meetOf_22 : decode prog_14_method_16_code 22 = .ok (.iaload, 1) := by decide +kernel
theorem d_Md_meetOf_23 : decode prog_14_method_16_code 23 = .ok (.istore_n 3, 1) := by decide +kernel
theorem d_Md_meetOf_24 : decode prog_14_method_16_code 24 = .ok (.goto (-19), 3) := by decide +kernel
theorem d_Md_meetOf_27 : decode prog_14_method_16_code 27 = .ok (.aload_n 0, 1) := by decide +kernel
theorem d_Md_meetOf_28 : decode prog_14_method_16_code 28 = .ok (.getfield 13, 3) := by decide +kernel
theorem d_Md_meetOf_31 : decode prog_14_method_16_code 31 = .ok (.iload 4, 2) := by decide +kernel
theorem d_Md_meetOf_33 : decode prog_14_method_16_code 33 = .ok (.iaload, 1) := by decide +kernel
theorem d_Md_meetOf_34 : decode prog_14_method_16_code 34 = .ok (.istore 4, 2) := by decide +kernel
theorem d_Md_meetOf_36 : decode prog_14_method_16_code 36 = .ok (.goto (-31), 3) := by decide +kernel
theorem d_Md_meetOf_39 : decode prog_14_method_16_code 39 = .ok (.iload_n 3, 1) := by decide +kernel
theorem d_Md_meetOf_40 : decode prog_14_method_16_code 40 = .ok (.ireturn, 1) := by decide +kernel
theorem d_Md_hang_0 : decode prog_14_method_17_code 0 = .ok (.aload_n 0, 1) := by decide +kernel
theorem d_Md_hang_1 : decode prog_14_method_17_code 1 = .ok (.getfield 13, 3) := by decide +kernel
theorem d_Md_hang_4 : decode prog_14_method_17_code 4 = .ok (.bipush 24, 2) := by decide +kernel
theorem d_Md_hang_6 : decode prog_14_method_17_code 6 = .ok (.iaload, 1) := by decide +kernel
theorem d_Md_hang_7 : decode prog_14_method_17_code 7 = .ok (.iload_n 1, 1) := by decide +kernel
theorem d_Md_hang_8 : decode prog_14_method_17_code 8 = .ok (.invokestatic 74, 3) := by decide +kernel
theorem d_Md_hang_11 : decode prog_14_method_17_code 11 = .ok (.ifCond .eq 5, 3) := by decide +kernel
theorem d_Md_hang_14 : decode prog_14_method_17_code 14 = .ok (.iconst 1, 1) := by decide +kernel
theorem d_Md_hang_15 : decode prog_14_method_17_code 15 = .ok (.ireturn, 1) := by decide +kernel
theorem d_Md_hang_16 : decode prog_14_method_17_code 16 = .ok (.aload_n 0, 1) := by decide +kernel
theorem d_Md_hang_17 : decode prog_14_method_17_code 17 = .ok (.iload_n 2, 1) := by decide +kernel
theorem d_Md_hang_18 : decode prog_14_method_17_code 18 = .ok (.invokevirtual 49, 3) := by decide +kernel
theorem d_Md_hang_21 : decode prog_14_method_17_code 21 = .ok (.istore_n 3, 1) := by decide +kernel
theorem d_Md_hang_22 : decode prog_14_method_17_code 22 = .ok (.iload_n 3, 1) := by decide +kernel
theorem d_Md_hang_23 : decode prog_14_method_17_code 23 = .ok (.ifCond .lt 14, 3) := by decide +kernel
theorem d_Md_hang_26 : decode prog_14_method_17_code 26 = .ok (.iload_n 3, 1) := by decide +kernel
theorem d_Md_hang_27 : decode prog_14_method_17_code 27 = .ok (.iload_n 1, 1) := by decide +kernel
theorem d_Md_hang_28 : decode prog_14_method_17_code 28 = .ok (.if_icmp .ne 7, 3) := by decide +kernel
theorem d_Md_hang_31 : decode prog_14_method_17_code 31 = .ok (.iconst 3, 1) := by decide +kernel
theorem d_Md_hang_32 : decode prog_14_method_17_code 32 = .ok (.goto 4, 3) := by decide +kernel
theorem d_Md_hang_35 : decode prog_14_method_17_code 35 = .ok (.iconst 2, 1) := by decide +kernel
theorem d_Md_hang_36 : decode prog_14_method_17_code 36 = .ok (.ireturn, 1) := by decide +kernel
theorem d_Md_hang_37 : decode prog_14_method_17_code 37 = .ok (.aload_n 0, 1) := by decide +kernel
theorem d_Md_hang_38 : decode prog_14_method_17_code 38 = .ok (.getfield 13, 3) := by decide +kernel
theorem d_Md_hang_41 : decode prog_14_method_17_code 41 = .ok (.bipush 12, 2) := by decide +kernel
theorem d_Md_hang_43 : decode prog_14_method_17_code 43 = .ok (.iload_n 1, 1) := by decide +kernel
theorem d_Md_hang_44 : decode prog_14_method_17_code 44 = .ok (.iadd, 1) := by decide +kernel
theorem d_Md_hang_45 : decode prog_14_method_17_code 45 = .ok (.iload_n 2, 1) := by decide +kernel
theorem d_Md_hang_46 : decode prog_14_method_17_code 46 = .ok (.iastore, 1) := by decide +kernel
theorem d_Md_hang_47 : decode prog_14_method_17_code 47 = .ok (.iconst 0, 1) := by decide +kernel
theorem d_Md_hang_48 : decode prog_14_method_17_code 48 = .ok (.ireturn, 1) := by decide +kernel
theorem d_Md_pack_0 : decode prog_14_method_18_code 0 = .ok (.aload_n 0, 1) := by decide +kernel
theorem d_Md_pack_1 : decode prog_14_method_18_code 1 = .ok (.getfield 13, 3) := by decide +kernel
theorem d_Md_pack_4 : decode prog_14_method_18_code 4 = .ok (.bipush 24, 2) := by decide +kernel
theorem d_Md_pack_6 : decode prog_14_method_18_code 6 = .ok (.iaload, 1) := by decide +kernel
theorem d_Md_pack_7 : decode prog_14_method_18_code 7 = .ok (.iload_n 1, 1) := by decide +kernel
theorem d_Md_pack_8 : decode prog_14_method_18_code 8 = .ok (.invokestatic 74, 3) := by decide +kernel
theorem d_Md_pack_11 : decode prog_14_method_18_code 11 = .ok (.ifCond .eq 5, 3) := by decide +kernel
theorem d_Md_pack_14 : decode prog_14_method_18_code 14 = .ok (.iconst 1, 1) := by decide +kernel
theorem d_Md_pack_15 : decode prog_14_method_18_code 15 = .ok (.ireturn, 1) := by decide +kernel
theorem d_Md_pack_16 : decode prog_14_method_18_code 16 = .ok (.aload_n 0, 1) := by decide +kernel
theorem d_Md_pack_17 : decode prog_14_method_18_code 17 = .ok (.getfield 13, 3) := by decide +kernel
theorem d_Md_pack_20 : decode prog_14_method_18_code 20 = .ok (.bipush 12, 2) := by decide +kernel
theorem d_Md_pack_22 : decode prog_14_method_18_code 22 = .ok (.iload_n 1, 1) := by decide +kernel
theorem d_Md_pack_23 : decode prog_14_method_18_code 23 = .ok (.iadd, 1) := by decide +kernel
theorem d_Md_pack_24 : decode prog_14_method_18_code 24 = .ok (.iaload, 1) := by decide +kernel
theorem d_Md_pack_25 : decode prog_14_method_18_code 25 = .ok (.ifCond .ge 5, 3) := by decide +kernel
theorem d_Md_pack_28 : decode prog_14_method_18_code 28 = .ok (.iconst 3, 1) := by decide +kernel
theorem d_Md_pack_29 : decode prog_14_method_18_code 29 = .ok (.ireturn, 1) := by decide +kernel
theorem d_Md_pack_30 : decode prog_14_method_18_code 30 = .ok (.aload_n 0, 1) := by decide +kernel
theorem d_Md_pack_31 : decode prog_14_method_18_code 31 = .ok (.getfield 13, 3) := by decide +kernel
theorem d_Md_pack_34 : decode prog_14_method_18_code 34 = .ok (.bipush 12, 2) := by decide +kernel
theorem d_Md_pack_36 : decode prog_14_method_18_code 36 = .ok (.iload_n 1, 1) := by decide +kernel
theorem d_Md_pack_37 : decode prog_14_method_18_code 37 = .ok (.iadd, 1) := by decide +kernel
theorem d_Md_pack_38 : decode prog_14_method_18_code 38 = .ok (.bipush (-6), 2) := by decide +kernel
theorem d_Md_pack_40 : decode prog_14_method_18_code 40 = .ok (.iastore, 1) := by decide +kernel
theorem d_Md_pack_41 : decode prog_14_method_18_code 41 = .ok (.iconst 0, 1) := by decide +kernel
theorem d_Md_pack_42 : decode prog_14_method_18_code 42 = .ok (.ireturn, 1) := by decide +kernel
theorem d_Md_blow_0 : decode prog_14_method_19_code 0 = .ok (.aload_n 0, 1) := by decide +kernel
theorem d_Md_blow_1 : decode prog_14_method_19_code 1 = .ok (.invokevirtual 78, 3) := by decide +kernel
theorem d_Md_blow_4 : decode prog_14_method_19_code 4 = .ok (.invokestatic 81, 3) := by decide +kernel
theorem d_Md_blow_7 : decode prog_14_method_19_code 7 = .ok (.iconst 2, 1) := by decide +kernel
theorem d_Md_blow_8 : decode prog_14_method_19_code 8 = .ok (.if_icmp .ge 5, 3) := by decide +kernel
theorem d_Md_blow_11 : decode prog_14_method_19_code 11 = .ok (.iconst 4, 1) := by decide +kernel
theorem d_Md_blow_12 : decode prog_14_method_19_code 12 = .ok (.ireturn, 1) := by decide +kernel
theorem d_Md_blow_13 : decode prog_14_method_19_code 13 = .ok (.iconst 0, 1) := by decide +kernel
theorem d_Md_blow_14 : decode prog_14_method_19_code 14 = .ok (.istore_n 2, 1) := by decide +kernel
theorem d_Md_blow_15 : decode prog_14_method_19_code 15 = .ok (.iload_n 2, 1) := by decide +kernel
theorem d_Md_blow_16 : decode prog_14_method_19_code 16 = .ok (.bipush 6, 2) := by decide +kernel
theorem d_Md_blow_18 : decode prog_14_method_19_code 18 = .ok (.if_icmp .ge 111, 3) := by decide +kernel
theorem d_Md_blow_21 : decode prog_14_method_19_code 21 = .ok (.aload_n 0, 1) := by decide +kernel
theorem d_Md_blow_22 : decode prog_14_method_19_code 22 = .ok (.getfield 22, 3) := by decide +kernel
theorem d_Md_blow_25 : decode prog_14_method_19_code 25 = .ok (.iload_n 2, 1) := by decide +kernel
theorem d_Md_blow_26 : decode prog_14_method_19_code 26 = .ok (.iconst 0, 1) := by decide +kernel
theorem d_Md_blow_27 : decode prog_14_method_19_code 27 = .ok (.iastore, 1) := by decide +kernel
theorem d_Md_blow_28 : decode prog_14_method_19_code 28 = .ok (.iconst 0, 1) := by decide +kernel
theorem d_Md_blow_29 : decode prog_14_method_19_code 29 = .ok (.istore_n 3, 1) := by decide +kernel
theorem d_Md_blow_30 : decode prog_14_method_19_code 30 = .ok (.iload_n 3, 1) := by decide +kernel
theorem d_Md_blow_31 : decode prog_14_method_19_code 31 = .ok (.bipush 6, 2) := by decide +kernel
theorem d_Md_blow_33 : decode prog_14_method_19_code 33 = .ok (.if_icmp .ge 90, 3) := by decide +kernel
theorem d_Md_blow_36 : decode prog_14_method_19_code 36 = .ok (.iload_n 3, 1) := by decide +kernel
theorem d_Md_blow_37 : decode prog_14_method_19_code 37 = .ok (.iload_n 2, 1) := by decide +kernel
theorem d_Md_blow_38 : decode prog_14_method_19_code 38 = .ok (.if_icmp .eq 31, 3) := by decide +kernel
theorem d_Md_blow_41 : decode prog_14_method_19_code 41 = .ok (.aload_n 0, 1) := by decide +kernel
theorem d_Md_blow_42 : decode prog_14_method_19_code 42 = .ok (.getfield 13, 3) := by decide +kernel
theorem d_Md_blow_45 : decode prog_14_method_19_code 45 = .ok (.bipush 12, 2) := by decide +kernel
theorem d_Md_blow_47 : decode prog_14_method_19_code 47 = .ok (.iload_n 2, 1) := by decide +kernel
theorem d_Md_blow_48 : decode prog_14_method_19_code 48 = .ok (.iadd, 1) := by decide +kernel
theorem d_Md_blow_49 : decode prog_14_method_19_code 49 = .ok (.iaload, 1) := by decide +kernel
theorem d_Md_blow_50 : decode prog_14_method_19_code 50 = .ok (.ifCond .lt 19, 3) := by decide +kernel
theorem d_Md_blow_53 : decode prog_14_method_19_code 53 = .ok (.aload_n 0, 1) := by decide +kernel
theorem d_Md_blow_54 : decode prog_14_method_19_code 54 = .ok (.getfield 13, 3) := by decide +kernel
theorem d_Md_blow_57 : decode prog_14_method_19_code 57 = .ok (.bipush 12, 2) := by decide +kernel
theorem d_Md_blow_59 : decode prog_14_method_19_code 59 = .ok (.iload_n 3, 1) := by decide +kernel
theorem d_Md_blow_60 : decode prog_14_method_19_code 60 = .ok (.iadd, 1) := by decide +kernel
theorem d_Md_blow_61 : decode prog_14_method_19_code 61 = .ok (.iaload, 1) := by decide +kernel
theorem d_Md_blow_62 : decode prog_14_method_19_code 62 = .ok (.ifCond .lt 7, 3) := by decide +kernel
theorem d_Md_blow_65 : decode prog_14_method_19_code 65 = .ok (.iconst 1, 1) := by decide +kernel
theorem d_Md_blow_66 : decode prog_14_method_19_code 66 = .ok (.goto 4, 3) := by decide +kernel
theorem d_Md_blow_69 : decode prog_14_method_19_code 69 = .ok (.iconst 0, 1) := by decide +kernel
theorem d_Md_blow_70 : decode prog_14_method_19_code 70 = .ok (.istore 4, 2) := by decide +kernel
theorem d_Md_blow_72 : decode prog_14_method_19_code 72 = .ok (.aload_n 0, 1) := by decide +kernel
theorem d_Md_blow_73 : decode prog_14_method_19_code 73 = .ok (.getfield 22, 3) := by decide +kernel
theorem d_Md_blow_76 : decode prog_14_method_19_code 76 = .ok (.iload_n 2, 1) := by decide +kernel
theorem d_Md_blow_77 : decode prog_14_method_19_code 77 = .ok (.dup2, 1) := by decide +kernel
theorem d_Md_blow_78 : decode prog_14_method_19_code 78 = .ok (.iaload, 1) := by decide +kernel
theorem d_Md_blow_79 : decode prog_14_method_19_code 79 = .ok (.iload 4, 2) := by decide +kernel
theorem d_Md_blow_81 : decode prog_14_method_19_code 81 = .ok (.ifCond .eq 33, 3) := by decide +kernel
theorem d_Md_blow_84 : decode prog_14_method_19_code 84 = .ok (.aload_n 0, 1) := by decide +kernel
theorem d_Md_blow_85 : decode prog_14_method_19_code 85 = .ok (.aload_n 0, 1) := by decide +kernel
theorem d_Md_blow_86 : decode prog_14_method_19_code 86 = .ok (.getfield 13, 3) := by decide +kernel
theorem d_Md_blow_89 : decode prog_14_method_19_code 89 = .ok (.bipush 12, 2) := by decide +kernel
theorem d_Md_blow_91 : decode prog_14_method_19_code 91 = .ok (.iload_n 2, 1) := by decide +kernel
theorem d_Md_blow_92 : decode prog_14_method_19_code 92 = .ok (.iadd, 1) := by decide +kernel
theorem d_Md_blow_93 : decode prog_14_method_19_code 93 = .ok (.iaload, 1) := by decide +kernel
theorem d_Md_blow_94 : decode prog_14_method_19_code 94 = .ok (.aload_n 0, 1) := by decide +kernel
theorem d_Md_blow_95 : decode prog_14_method_19_code 95 = .ok (.getfield 13, 3) := by decide +kernel
theorem d_Md_blow_98 : decode prog_14_method_19_code 98 = .ok (.bipush 12, 2) := by decide +kernel
theorem d_Md_blow_100 : decode prog_14_method_19_code 100 = .ok (.iload_n 3, 1) := by decide +kernel
theorem d_Md_blow_101 : decode prog_14_method_19_code 101 = .ok (.iadd, 1) := by decide +kernel
theorem d_Md_blow_102 : decode prog_14_method_19_code 102 = .ok (.iaload, 1) := by decide +kernel
theorem d_Md_blow_103 : decode prog_14_method_19_code 103 = .ok (.invokevirtual 84, 3) := by decide +kernel
theorem d_Md_blow_106 : decode prog_14_method_19_code 106 = .ok (.iload_n 1, 1) := by decide +kernel
theorem d_Md_blow_107 : decode prog_14_method_19_code 107 = .ok (.if_icmp .gt 7, 3) := by decide +kernel
theorem d_Md_blow_110 : decode prog_14_method_19_code 110 = .ok (.iconst 1, 1) := by decide +kernel
theorem d_Md_blow_111 : decode prog_14_method_19_code 111 = .ok (.goto 4, 3) := by decide +kernel
theorem d_Md_blow_114 : decode prog_14_method_19_code 114 = .ok (.iconst 0, 1) := by decide +kernel
theorem d_Md_blow_115 : decode prog_14_method_19_code 115 = .ok (.iadd, 1) := by decide +kernel
theorem d_Md_blow_116 : decode prog_14_method_19_code 116 = .ok (.iastore, 1) := by decide +kernel
theorem d_Md_blow_117 : decode prog_14_method_19_code 117 = .ok (.iinc 3 1, 3) := by decide +kernel
theorem d_Md_blow_120 : decode prog_14_method_19_code 120 = .ok (.goto (-90), 3) := by decide +kernel
theorem d_Md_blow_123 : decode prog_14_method_19_code 123 = .ok (.iinc 2 1, 3) := by decide +kernel
theorem d_Md_blow_126 : decode prog_14_method_19_code 126 = .ok (.goto (-111), 3) := by decide +kernel
theorem d_Md_blow_129 : decode prog_14_method_19_code 129 = .ok (.iconst 0, 1) := by decide +kernel
theorem d_Md_blow_130 : decode prog_14_method_19_code 130 = .ok (.istore_n 2, 1) := by decide +kernel
theorem d_Md_blow_131 : decode prog_14_method_19_code 131 = .ok (.iload_n 2, 1) := by decide +kernel
theorem d_Md_blow_132 : decode prog_14_method_19_code 132 = .ok (.bipush 6, 2) := by decide +kernel
theorem d_Md_blow_134 : decode prog_14_method_19_code 134 = .ok (.if_icmp .ge 121, 3) := by decide +kernel
theorem d_Md_blow_137 : decode prog_14_method_19_code 137 = .ok (.aload_n 0, 1) := by decide +kernel
theorem d_Md_blow_138 : decode prog_14_method_19_code 138 = .ok (.getfield 13, 3) := by decide +kernel
theorem d_Md_blow_141 : decode prog_14_method_19_code 141 = .ok (.bipush 18, 2) := by decide +kernel
theorem d_Md_blow_143 : decode prog_14_method_19_code 143 = .ok (.iload_n 2, 1) := by decide +kernel
theorem d_Md_blow_144 : decode prog_14_method_19_code 144 = .ok (.iadd, 1) := by decide +kernel
theorem d_Md_blow_145 : decode prog_14_method_19_code 145 = .ok (.iaload, 1) := by decide +kernel
theorem d_Md_blow_146 : decode prog_14_method_19_code 146 = .ok (.aload_n 0, 1) := by decide +kernel
theorem d_Md_blow_147 : decode prog_14_method_19_code 147 = .ok (.getfield 22, 3) := by decide +kernel
theorem d_Md_blow_150 : decode prog_14_method_19_code 150 = .ok (.iload_n 2, 1) := by decide +kernel
theorem d_Md_blow_151 : decode prog_14_method_19_code 151 = .ok (.iaload, 1) := by decide +kernel
theorem d_Md_blow_152 : decode prog_14_method_19_code 152 = .ok (.iadd, 1) := by decide +kernel
theorem d_Md_blow_153 : decode prog_14_method_19_code 153 = .ok (.bipush 9, 2) := by decide +kernel
theorem d_Md_blow_155 : decode prog_14_method_19_code 155 = .ok (.if_icmp .le 8, 3) := by decide +kernel
theorem d_Md_blow_158 : decode prog_14_method_19_code 158 = .ok (.bipush 9, 2) := by decide +kernel
theorem d_Md_blow_160 : decode prog_14_method_19_code 160 = .ok (.goto 19, 3) := by decide +kernel
theorem d_Md_blow_163 : decode prog_14_method_19_code 163 = .ok (.aload_n 0, 1) := by decide +kernel
theorem d_Md_blow_164 : decode prog_14_method_19_code 164 = .ok (.getfield 13, 3) := by decide +kernel
theorem d_Md_blow_167 : decode prog_14_method_19_code 167 = .ok (.bipush 18, 2) := by decide +kernel
theorem d_Md_blow_169 : decode prog_14_method_19_code 169 = .ok (.iload_n 2, 1) := by decide +kernel
theorem d_Md_blow_170 : decode prog_14_method_19_code 170 = .ok (.iadd, 1) := by decide +kernel
theorem d_Md_blow_171 : decode prog_14_method_19_code 171 = .ok (.iaload, 1) := by decide +kernel
theorem d_Md_blow_172 : decode prog_14_method_19_code 172 = .ok (.aload_n 0, 1) := by decide +kernel
theorem d_Md_blow_173 : decode prog_14_method_19_code 173 = .ok (.getfield 22, 3) := by decide +kernel
theorem d_Md_blow_176 : decode prog_14_method_19_code 176 = .ok (.iload_n 2, 1) := by decide +kernel
theorem d_Md_blow_177 : decode prog_14_method_19_code 177 = .ok (.iaload, 1) := by decide +kernel
theorem d_Md_blow_178 : decode prog_14_method_19_code 178 = .ok (.iadd, 1) := by decide +kernel
theorem d_Md_blow_179 : decode prog_14_method_19_code 179 = .ok (.istore_n 3, 1) := by decide +kernel
theorem d_Md_blow_180 : decode prog_14_method_19_code 180 = .ok (.aload_n 0, 1) := by decide +kernel
theorem d_Md_blow_181 : decode prog_14_method_19_code 181 = .ok (.dup, 1) := by decide +kernel
theorem d_Md_blow_182 : decode prog_14_method_19_code 182 = .ok (.getfield 65, 3) := by decide +kernel
theorem d_Md_blow_185 : decode prog_14_method_19_code 185 = .ok (.iload_n 3, 1) := by decide +kernel
theorem d_Md_blow_186 : decode prog_14_method_19_code 186 = .ok (.aload_n 0, 1) := by decide +kernel
theorem d_Md_blow_187 : decode prog_14_method_19_code 187 = .ok (.getfield 13, 3) := by decide +kernel
theorem d_Md_blow_190 : decode prog_14_method_19_code 190 = .ok (.bipush 18, 2) := by decide +kernel
theorem d_Md_blow_192 : decode prog_14_method_19_code 192 = .ok (.iload_n 2, 1) := by decide +kernel
theorem d_Md_blow_193 : decode prog_14_method_19_code 193 = .ok (.iadd, 1) := by decide +kernel
theorem d_Md_blow_194 : decode prog_14_method_19_code 194 = .ok (.iaload, 1) := by decide +kernel
theorem d_Md_blow_195 : decode prog_14_method_19_code 195 = .ok (.isub, 1) := by decide +kernel
theorem d_Md_blow_196 : decode prog_14_method_19_code 196 = .ok (.iadd, 1) := by decide +kernel
theorem d_Md_blow_197 : decode prog_14_method_19_code 197 = .ok (.putfield 65, 3) := by decide +kernel
theorem d_Md_blow_200 : decode prog_14_method_19_code 200 = .ok (.aload_n 0, 1) := by decide +kernel
theorem d_Md_blow_201 : decode prog_14_method_19_code 201 = .ok (.getfield 13, 3) := by decide +kernel
theorem d_Md_blow_204 : decode prog_14_method_19_code 204 = .ok (.bipush 18, 2) := by decide +kernel
theorem d_Md_blow_206 : decode prog_14_method_19_code 206 = .ok (.iload_n 2, 1) := by decide +kernel
theorem d_Md_blow_207 : decode prog_14_method_19_code 207 = .ok (.iadd, 1) := by decide +kernel
theorem d_Md_blow_208 : decode prog_14_method_19_code 208 = .ok (.iload_n 3, 1) := by decide +kernel
theorem d_Md_blow_209 : decode prog_14_method_19_code 209 = .ok (.iastore, 1) := by decide +kernel
theorem d_Md_blow_210 : decode prog_14_method_19_code 210 = .ok (.aload_n 0, 1) := by decide +kernel
theorem d_Md_blow_211 : decode prog_14_method_19_code 211 = .ok (.getfield 22, 3) := by decide +kernel
theorem d_Md_blow_214 : decode prog_14_method_19_code 214 = .ok (.iload_n 2, 1) := by decide +kernel
theorem d_Md_blow_215 : decode prog_14_method_19_code 215 = .ok (.iaload, 1) := by decide +kernel
theorem d_Md_blow_216 : decode prog_14_method_19_code 216 = .ok (.ifCond .le 33, 3) := by decide +kernel
theorem d_Md_blow_219 : decode prog_14_method_19_code 219 = .ok (.iload_n 3, 1) := by decide +kernel
theorem d_Md_blow_220 : decode prog_14_method_19_code 220 = .ok (.bipush 9, 2) := by decide +kernel
theorem d_Md_blow_222 : decode prog_14_method_19_code 222 = .ok (.if_icmp .ne 27, 3) := by decide +kernel
theorem d_Md_blow_225 : decode prog_14_method_19_code 225 = .ok (.aload_n 0, 1) := by decide +kernel
theorem d_Md_blow_226 : decode prog_14_method_19_code 226 = .ok (.getfield 13, 3) := by decide +kernel
theorem d_Md_blow_229 : decode prog_14_method_19_code 229 = .ok (.bipush 24, 2) := by decide +kernel
theorem d_Md_blow_231 : decode prog_14_method_19_code 231 = .ok (.dup2, 1) := by decide +kernel
theorem d_Md_blow_232 : decode prog_14_method_19_code 232 = .ok (.iaload, 1) := by decide +kernel
theorem d_Md_blow_233 : decode prog_14_method_19_code 233 = .ok (.iconst 1, 1) := by decide +kernel
theorem d_Md_blow_234 : decode prog_14_method_19_code 234 = .ok (.iload_n 2, 1) := by decide +kernel
theorem d_Md_blow_235 : decode prog_14_method_19_code 235 = .ok (.ishl, 1) := by decide +kernel
theorem d_Md_blow_236 : decode prog_14_method_19_code 236 = .ok (.ior, 1) := by decide +kernel
theorem d_Md_blow_237 : decode prog_14_method_19_code 237 = .ok (.iastore, 1) := by decide +kernel
theorem d_Md_blow_238 : decode prog_14_method_19_code 238 = .ok (.aload_n 0, 1) := by decide +kernel
theorem d_Md_blow_239 : decode prog_14_method_19_code 239 = .ok (.getfield 13, 3) := by decide +kernel
theorem d_Md_blow_242 : decode prog_14_method_19_code 242 = .ok (.bipush 12, 2) := by decide +kernel
theorem d_Md_blow_244 : decode prog_14_method_19_code 244 = .ok (.iload_n 2, 1) := by decide +kernel
theorem d_Md_blow_245 : decode prog_14_method_19_code 245 = .ok (.iadd, 1) := by decide +kernel
theorem d_Md_blow_246 : decode prog_14_method_19_code 246 = .ok (.bipush (-6), 2) := by decide +kernel
theorem d_Md_blow_248 : decode prog_14_method_19_code 248 = .ok (.iastore, 1) := by decide +kernel
theorem d_Md_blow_249 : decode prog_14_method_19_code 249 = .ok (.iinc 2 1, 3) := by decide +kernel
theorem d_Md_blow_252 : decode prog_14_method_19_code 252 = .ok (.goto (-121), 3) := by decide +kernel
theorem d_Md_blow_255 : decode prog_14_method_19_code 255 = .ok (.iconst 0, 1) := by decide +kernel
theorem d_Md_blow_256 : decode prog_14_method_19_code 256 = .ok (.ireturn, 1) := by decide +kernel
theorem d_Md_bend_0 : decode prog_14_method_20_code 0 = .ok (.iload_n 2, 1) := by decide +kernel
theorem d_Md_bend_1 : decode prog_14_method_20_code 1 = .ok (.iload_n 1, 1) := by decide +kernel
theorem d_Md_bend_2 : decode prog_14_method_20_code 2 = .ok (.if_icmp .ge 13, 3) := by decide +kernel
theorem d_Md_bend_5 : decode prog_14_method_20_code 5 = .ok (.aload_n 0, 1) := by decide +kernel
theorem d_Md_bend_6 : decode prog_14_method_20_code 6 = .ok (.getfield 13, 3) := by decide +kernel
theorem d_Md_bend_9 : decode prog_14_method_20_code 9 = .ok (.iload_n 1, 1) := by decide +kernel
theorem d_Md_bend_10 : decode prog_14_method_20_code 10 = .ok (.iaload, 1) := by decide +kernel
theorem d_Md_bend_11 : decode prog_14_method_20_code 11 = .ok (.iload_n 2, 1) := by decide +kernel
theorem d_Md_bend_12 : decode prog_14_method_20_code 12 = .ok (.if_icmp .ne 5, 3) := by decide +kernel
theorem d_Md_bend_15 : decode prog_14_method_20_code 15 = .ok (.iconst 5, 1) := by decide +kernel
theorem d_Md_bend_16 : decode prog_14_method_20_code 16 = .ok (.ireturn, 1) := by decide +kernel
theorem d_Md_bend_17 : decode prog_14_method_20_code 17 = .ok (.aload_n 0, 1) := by decide +kernel
theorem d_Md_bend_18 : decode prog_14_method_20_code 18 = .ok (.getfield 13, 3) := by decide +kernel
theorem d_Md_bend_21 : decode prog_14_method_20_code 21 = .ok (.iload_n 1, 1) := by decide +kernel
theorem d_Md_bend_22 : decode prog_14_method_20_code 22 = .ok (.iload_n 2, 1) := by decide +kernel
theorem d_Md_bend_23 : decode prog_14_method_20_code 23 = .ok (.iastore, 1) := by decide +kernel
theorem d_Md_bend_24 : decode prog_14_method_20_code 24 = .ok (.iconst 0, 1) := by decide +kernel
theorem d_Md_bend_25 : decode prog_14_method_20_code 25 = .ok (.ireturn, 1) := by decide +kernel
theorem d_Md_endWinter_0 : decode prog_14_method_21_code 0 = .ok (.aload_n 0, 1) := by decide +kernel
theorem d_Md_endWinter_1 : decode prog_14_method_21_code 1 = .ok (.getfield 13, 3) := by decide +kernel
theorem d_Md_endWinter_4 : decode prog_14_method_21_code 4 = .ok (.bipush 25, 2) := by decide +kernel
theorem d_Md_endWinter_6 : decode prog_14_method_21_code 6 = .ok (.iaload, 1) := by decide +kernel
theorem d_Md_endWinter_7 : decode prog_14_method_21_code 7 = .ok (.bipush 99, 2) := by decide +kernel
theorem d_Md_endWinter_9 : decode prog_14_method_21_code 9 = .ok (.if_icmp .ne 6, 3) := by decide +kernel
theorem d_Md_endWinter_12 : decode prog_14_method_21_code 12 = .ok (.bipush 6, 2) := by decide +kernel
theorem d_Md_endWinter_14 : decode prog_14_method_21_code 14 = .ok (.ireturn, 1) := by decide +kernel
theorem d_Md_endWinter_15 : decode prog_14_method_21_code 15 = .ok (.aload_n 0, 1) := by decide +kernel
theorem d_Md_endWinter_16 : decode prog_14_method_21_code 16 = .ok (.getfield 13, 3) := by decide +kernel
theorem d_Md_endWinter_19 : decode prog_14_method_21_code 19 = .ok (.bipush 25, 2) := by decide +kernel
theorem d_Md_endWinter_21 : decode prog_14_method_21_code 21 = .ok (.dup2, 1) := by decide +kernel
theorem d_Md_endWinter_22 : decode prog_14_method_21_code 22 = .ok (.iaload, 1) := by decide +kernel
theorem d_Md_endWinter_23 : decode prog_14_method_21_code 23 = .ok (.iconst 1, 1) := by decide +kernel
theorem d_Md_endWinter_24 : decode prog_14_method_21_code 24 = .ok (.iadd, 1) := by decide +kernel
theorem d_Md_endWinter_25 : decode prog_14_method_21_code 25 = .ok (.iastore, 1) := by decide +kernel
theorem d_Md_endWinter_26 : decode prog_14_method_21_code 26 = .ok (.iconst 0, 1) := by decide +kernel
theorem d_Md_endWinter_27 : decode prog_14_method_21_code 27 = .ok (.istore_n 1, 1) := by decide +kernel
theorem d_Md_endWinter_28 : decode prog_14_method_21_code 28 = .ok (.iload_n 1, 1) := by decide +kernel
theorem d_Md_endWinter_29 : decode prog_14_method_21_code 29 = .ok (.bipush 6, 2) := by decide +kernel
theorem d_Md_endWinter_31 : decode prog_14_method_21_code 31 = .ok (.if_icmp .ge 20, 3) := by decide +kernel
theorem d_Md_endWinter_34 : decode prog_14_method_21_code 34 = .ok (.aload_n 0, 1) := by decide +kernel
theorem d_Md_endWinter_35 : decode prog_14_method_21_code 35 = .ok (.getfield 13, 3) := by decide +kernel
theorem d_Md_endWinter_38 : decode prog_14_method_21_code 38 = .ok (.bipush 12, 2) := by decide +kernel
theorem d_Md_endWinter_40 : decode prog_14_method_21_code 40 = .ok (.iload_n 1, 1) := by decide +kernel
theorem d_Md_endWinter_41 : decode prog_14_method_21_code 41 = .ok (.iadd, 1) := by decide +kernel
theorem d_Md_endWinter_42 : decode prog_14_method_21_code 42 = .ok (.bipush (-6), 2) := by decide +kernel
theorem d_Md_endWinter_44 : decode prog_14_method_21_code 44 = .ok (.iastore, 1) := by decide +kernel
theorem d_Md_endWinter_45 : decode prog_14_method_21_code 45 = .ok (.iinc 1 1, 3) := by decide +kernel
theorem d_Md_endWinter_48 : decode prog_14_method_21_code 48 = .ok (.goto (-20), 3) := by decide +kernel
theorem d_Md_endWinter_51 : decode prog_14_method_21_code 51 = .ok (.iconst 0, 1) := by decide +kernel
theorem d_Md_endWinter_52 : decode prog_14_method_21_code 52 = .ok (.ireturn, 1) := by decide +kernel
theorem d_Md_goWinters_0 : decode prog_14_method_22_code 0 = .ok (.aload_n 0, 1) := by decide +kernel
theorem d_Md_goWinters_1 : decode prog_14_method_22_code 1 = .ok (.invokevirtual 46, 3) := by decide +kernel
theorem d_Md_goWinters_4 : decode prog_14_method_22_code 4 = .ok (.aload_n 0, 1) := by decide +kernel
theorem d_Md_goWinters_5 : decode prog_14_method_22_code 5 = .ok (.iconst 0, 1) := by decide +kernel
theorem d_Md_goWinters_6 : decode prog_14_method_22_code 6 = .ok (.putfield 87, 3) := by decide +kernel
theorem d_Md_goWinters_9 : decode prog_14_method_22_code 9 = .ok (.iconst 0, 1) := by decide +kernel
theorem d_Md_goWinters_10 : decode prog_14_method_22_code 10 = .ok (.istore_n 1, 1) := by decide +kernel
theorem d_Md_goWinters_11 : decode prog_14_method_22_code 11 = .ok (.iload_n 1, 1) := by decide +kernel
theorem d_Md_goWinters_12 : decode prog_14_method_22_code 12 = .ok (.aload_n 0, 1) := by decide +kernel
theorem d_Md_goWinters_13 : decode prog_14_method_22_code 13 = .ok (.getfield 53, 3) := by decide +kernel
theorem d_Md_goWinters_16 : decode prog_14_method_22_code 16 = .ok (.if_icmp .ge 231, 3) := by decide +kernel
theorem d_Md_goWinters_19 : decode prog_14_method_22_code 19 = .ok (.aload_n 0, 1) := by decide +kernel
theorem d_Md_goWinters_20 : decode prog_14_method_22_code 20 = .ok (.getfield 19, 3) := by decide +kernel
theorem d_Md_goWinters_23 : decode prog_14_method_22_code 23 = .ok (.iload_n 1, 1) := by decide +kernel
theorem d_Md_goWinters_24 : decode prog_14_method_22_code 24 = .ok (.iaload, 1) := by decide +kernel
theorem d_Md_goWinters_25 : decode prog_14_method_22_code 25 = .ok (.istore_n 2, 1) := by decide +kernel
theorem d_Md_goWinters_26 : decode prog_14_method_22_code 26 = .ok (.aload_n 0, 1) := by decide +kernel
theorem d_Md_goWinters_27 : decode prog_14_method_22_code 27 = .ok (.getfield 13, 3) := by decide +kernel
theorem d_Md_goWinters_30 : decode prog_14_method_22_code 30 = .ok (.bipush 24, 2) := by decide +kernel
theorem d_Md_goWinters_32 : decode prog_14_method_22_code 32 = .ok (.iaload, 1) := by decide +kernel
theorem d_Md_goWinters_33 : decode prog_14_method_22_code 33 = .ok (.istore_n 3, 1) := by decide +kernel
theorem d_Md_goWinters_34 : decode prog_14_method_22_code 34 = .ok (.iload_n 2, 1) := by decide +kernel
theorem d_Md_goWinters_35 : decode prog_14_method_22_code 35 = .ok (.bipush 46, 2) := by decide +kernel
theorem d_Md_goWinters_37 : decode prog_14_method_22_code 37 = .ok (.if_icmp .ne 17, 3) := by decide +kernel
theorem d_Md_goWinters_40 : decode prog_14_method_22_code 40 = .ok (.aload_n 0, 1) := by decide +kernel
theorem d_Md_goWinters_41 : decode prog_14_method_22_code 41 = .ok (.aload_n 0, 1) := by decide +kernel
theorem d_Md_goWinters_42 : decode prog_14_method_22_code 42 = .ok (.invokevirtual 90, 3) := by decide +kernel
theorem d_Md_goWinters_45 : decode prog_14_method_22_code 45 = .ok (.putfield 93, 3) := by decide +kernel
theorem d_Md_goWinters_48 : decode prog_14_method_22_code 48 = .ok (.iinc 1 1, 3) := by decide +kernel
theorem d_Md_goWinters_51 : decode prog_14_method_22_code 51 = .ok (.goto 111, 3) := by decide +kernel
theorem d_Md_goWinters_54 : decode prog_14_method_22_code 54 = .ok (.iload_n 2, 1) := by decide +kernel
theorem d_Md_goWinters_55 : decode prog_14_method_22_code 55 = .ok (.bipush 98, 2) := by decide +kernel
theorem d_Md_goWinters_57 : decode prog_14_method_22_code 57 = .ok (.if_icmp .ne 39, 3) := by decide +kernel
theorem d_Md_goWinters_60 : decode prog_14_method_22_code 60 = .ok (.aload_n 0, 1) := by decide +kernel
theorem d_Md_goWinters_61 : decode prog_14_method_22_code 61 = .ok (.aload_n 0, 1) := by decide +kernel
theorem d_Md_goWinters_62 : decode prog_14_method_22_code 62 = .ok (.aload_n 0, 1) := by decide +kernel
theorem d_Md_goWinters_63 : decode prog_14_method_22_code 63 = .ok (.getfield 19, 3) := by decide +kernel
theorem d_Md_goWinters_66 : decode prog_14_method_22_code 66 = .ok (.iload_n 1, 1) := by decide +kernel
theorem d_Md_goWinters_67 : decode prog_14_method_22_code 67 = .ok (.iconst 1, 1) := by decide +kernel
theorem d_Md_goWinters_68 : decode prog_14_method_22_code 68 = .ok (.iadd, 1) := by decide +kernel
theorem d_Md_goWinters_69 : decode prog_14_method_22_code 69 = .ok (.iaload, 1) := by decide +kernel
theorem d_Md_goWinters_70 : decode prog_14_method_22_code 70 = .ok (.bipush 97, 2) := by decide +kernel
theorem d_Md_goWinters_72 : decode prog_14_method_22_code 72 = .ok (.isub, 1) := by decide +kernel
theorem d_Md_goWinters_73 : decode prog_14_method_22_code 73 = .ok (.aload_n 0, 1) := by decide +kernel
theorem d_Md_goWinters_74 : decode prog_14_method_22_code 74 = .ok (.getfield 19, 3) := by decide +kernel
theorem d_Md_goWinters_77 : decode prog_14_method_22_code 77 = .ok (.iload_n 1, 1) := by decide +kernel
theorem d_Md_goWinters_78 : decode prog_14_method_22_code 78 = .ok (.iconst 2, 1) := by decide +kernel
theorem d_Md_goWinters_79 : decode prog_14_method_22_code 79 = .ok (.iadd, 1) := by decide +kernel
theorem d_Md_goWinters_80 : decode prog_14_method_22_code 80 = .ok (.iaload, 1) := by decide +kernel
theorem d_Md_goWinters_81 : decode prog_14_method_22_code 81 = .ok (.bipush 97, 2) := by decide +kernel
theorem d_Md_goWinters_83 : decode prog_14_method_22_code 83 = .ok (.isub, 1) := by decide +kernel
theorem d_Md_goWinters_84 : decode prog_14_method_22_code 84 = .ok (.invokevirtual 96, 3) := by decide +kernel
theorem d_Md_goWinters_87 : decode prog_14_method_22_code 87 = .ok (.putfield 93, 3) := by decide +kernel
theorem d_Md_goWinters_90 : decode prog_14_method_22_code 90 = .ok (.iinc 1 3, 3) := by decide +kernel
theorem d_Md_goWinters_93 : decode prog_14_method_22_code 93 = .ok (.goto 69, 3) := by decide +kernel
theorem d_Md_goWinters_96 : decode prog_14_method_22_code 96 = .ok (.aload_n 0, 1) := by decide +kernel
theorem d_Md_goWinters_97 : decode prog_14_method_22_code 97 = .ok (.getfield 19, 3) := by decide +kernel
theorem d_Md_goWinters_100 : decode prog_14_method_22_code 100 = .ok (.iload_n 1, 1) := by decide +kernel
theorem d_Md_goWinters_101 : decode prog_14_method_22_code 101 = .ok (.iconst 1, 1) := by decide +kernel
theorem d_Md_goWinters_102 : decode prog_14_method_22_code 102 = .ok (.iadd, 1) := by decide +kernel
theorem d_Md_goWinters_103 : decode prog_14_method_22_code 103 = .ok (.iaload, 1) := by decide +kernel
theorem d_Md_goWinters_104 : decode prog_14_method_22_code 104 = .ok (.istore 4, 2) := by decide +kernel
theorem d_Md_goWinters_106 : decode prog_14_method_22_code 106 = .ok (.aload_n 0, 1) := by decide +kernel
theorem d_Md_goWinters_107 : decode prog_14_method_22_code 107 = .ok (.iload_n 2, 1) := by decide +kernel
theorem d_Md_goWinters_108 : decode prog_14_method_22_code 108 = .ok (.bipush 100, 2) := by decide +kernel
theorem d_Md_goWinters_110 : decode prog_14_method_22_code 110 = .ok (.if_icmp .ne 15, 3) := by decide +kernel
theorem d_Md_goWinters_113 : decode prog_14_method_22_code 113 = .ok (.aload_n 0, 1) := by decide +kernel
theorem d_Md_goWinters_114 : decode prog_14_method_22_code 114 = .ok (.iload 4, 2) := by decide +kernel
theorem d_Md_goWinters_116 : decode prog_14_method_22_code 116 = .ok (.bipush 48, 2) := by decide +kernel
theorem d_Md_goWinters_118 : decode prog_14_method_22_code 118 = .ok (.isub, 1) := by decide +kernel
theorem d_Md_goWinters_119 : decode prog_14_method_22_code 119 = .ok (.invokevirtual 99, 3) := by decide +kernel
theorem d_Md_goWinters_122 : decode prog_14_method_22_code 122 = .ok (.goto 34, 3) := by decide +kernel
theorem d_Md_goWinters_125 : decode prog_14_method_22_code 125 = .ok (.iload 4, 2) := by decide +kernel
theorem d_Md_goWinters_127 : decode prog_14_method_22_code 127 = .ok (.bipush 95, 2) := by decide +kernel
theorem d_Md_goWinters_129 : decode prog_14_method_22_code 129 = .ok (.if_icmp .ne 14, 3) := by decide +kernel
theorem d_Md_goWinters_132 : decode prog_14_method_22_code 132 = .ok (.aload_n 0, 1) := by decide +kernel
theorem d_Md_goWinters_133 : decode prog_14_method_22_code 133 = .ok (.iload_n 2, 1) := by decide +kernel
theorem d_Md_goWinters_134 : decode prog_14_method_22_code 134 = .ok (.bipush 65, 2) := by decide +kernel
theorem d_Md_goWinters_136 : decode prog_14_method_22_code 136 = .ok (.isub, 1) := by decide +kernel
theorem d_Md_goWinters_137 : decode prog_14_method_22_code 137 = .ok (.invokevirtual 102, 3) := by decide +kernel
theorem d_Md_goWinters_140 : decode prog_14_method_22_code 140 = .ok (.goto 16, 3) := by decide +kernel
theorem d_Md_goWinters_143 : decode prog_14_method_22_code 143 = .ok (.aload_n 0, 1) := by decide +kernel
theorem d_Md_goWinters_144 : decode prog_14_method_22_code 144 = .ok (.iload_n 2, 1) := by decide +kernel
theorem d_Md_goWinters_145 : decode prog_14_method_22_code 145 = .ok (.bipush 65, 2) := by decide +kernel
theorem d_Md_goWinters_147 : decode prog_14_method_22_code 147 = .ok (.isub, 1) := by decide +kernel
theorem d_Md_goWinters_148 : decode prog_14_method_22_code 148 = .ok (.iload 4, 2) := by decide +kernel
theorem d_Md_goWinters_150 : decode prog_14_method_22_code 150 = .ok (.bipush 97, 2) := by decide +kernel
theorem d_Md_goWinters_152 : decode prog_14_method_22_code 152 = .ok (.isub, 1) := by decide +kernel
theorem d_Md_goWinters_153 : decode prog_14_method_22_code 153 = .ok (.invokevirtual 105, 3) := by decide +kernel
theorem d_Md_goWinters_156 : decode prog_14_method_22_code 156 = .ok (.putfield 93, 3) := by decide +kernel
theorem d_Md_goWinters_159 : decode prog_14_method_22_code 159 = .ok (.iinc 1 2, 3) := by decide +kernel
theorem d_Md_goWinters_162 : decode prog_14_method_22_code 162 = .ok (.aload_n 0, 1) := by decide +kernel
theorem d_Md_goWinters_163 : decode prog_14_method_22_code 163 = .ok (.getfield 93, 3) := by decide +kernel
theorem d_Md_goWinters_166 : decode prog_14_method_22_code 166 = .ok (.ifCond .le 8, 3) := by decide +kernel
theorem d_Md_goWinters_169 : decode prog_14_method_22_code 169 = .ok (.aload_n 0, 1) := by decide +kernel
theorem d_Md_goWinters_170 : decode prog_14_method_22_code 170 = .ok (.getfield 87, 3) := by decide +kernel
theorem d_Md_goWinters_173 : decode prog_14_method_22_code 173 = .ok (.ireturn, 1) := by decide +kernel
theorem d_Md_goWinters_174 : decode prog_14_method_22_code 174 = .ok (.aload_n 0, 1) := by decide +kernel
theorem d_Md_goWinters_175 : decode prog_14_method_22_code 175 = .ok (.getfield 13, 3) := by decide +kernel
theorem d_Md_goWinters_178 : decode prog_14_method_22_code 178 = .ok (.bipush 24, 2) := by decide +kernel
theorem d_Md_goWinters_180 : decode prog_14_method_22_code 180 = .ok (.iaload, 1) := by decide +kernel
theorem d_Md_goWinters_181 : decode prog_14_method_22_code 181 = .ok (.iload_n 3, 1) := by decide +kernel
theorem d_Md_goWinters_182 : decode prog_14_method_22_code 182 = .ok (.iconst (-1), 1) := by decide +kernel
theorem d_Md_goWinters_183 : decode prog_14_method_22_code 183 = .ok (.ixor, 1) := by decide +kernel
theorem d_Md_goWinters_184 : decode prog_14_method_22_code 184 = .ok (.iand, 1) := by decide +kernel
theorem d_Md_goWinters_185 : decode prog_14_method_22_code 185 = .ok (.istore 4, 2) := by decide +kernel
theorem d_Md_goWinters_187 : decode prog_14_method_22_code 187 = .ok (.iconst 0, 1) := by decide +kernel
theorem d_Md_goWinters_188 : decode prog_14_method_22_code 188 = .ok (.istore 5, 2) := by decide +kernel
theorem d_Md_goWinters_190 : decode prog_14_method_22_code 190 = .ok (.iload 5, 2) := by decide +kernel
theorem d_Md_goWinters_192 : decode prog_14_method_22_code 192 = .ok (.bipush 6, 2) := by decide +kernel
theorem d_Md_goWinters_194 : decode prog_14_method_22_code 194 = .ok (.if_icmp .ge 40, 3) := by decide +kernel
theorem d_Md_goWinters_197 : decode prog_14_method_22_code 197 = .ok (.aload_n 0, 1) := by decide +kernel
theorem d_Md_goWinters_198 : decode prog_14_method_22_code 198 = .ok (.getfield 68, 3) := by decide +kernel
theorem d_Md_goWinters_201 : decode prog_14_method_22_code 201 = .ok (.ifCond .ge 33, 3) := by decide +kernel
theorem d_Md_goWinters_204 : decode prog_14_method_22_code 204 = .ok (.iload 4, 2) := by decide +kernel
theorem d_Md_goWinters_206 : decode prog_14_method_22_code 206 = .ok (.iload 5, 2) := by decide +kernel
theorem d_Md_goWinters_208 : decode prog_14_method_22_code 208 = .ok (.invokestatic 74, 3) := by decide +kernel
theorem d_Md_goWinters_211 : decode prog_14_method_22_code 211 = .ok (.ifCond .eq 17, 3) := by decide +kernel
theorem d_Md_goWinters_214 : decode prog_14_method_22_code 214 = .ok (.aload_n 0, 1) := by decide +kernel
theorem d_Md_goWinters_215 : decode prog_14_method_22_code 215 = .ok (.aload_n 0, 1) := by decide +kernel
theorem d_Md_goWinters_216 : decode prog_14_method_22_code 216 = .ok (.getfield 87, 3) := by decide +kernel
theorem d_Md_goWinters_219 : decode prog_14_method_22_code 219 = .ok (.putfield 68, 3) := by decide +kernel
theorem d_Md_goWinters_222 : decode prog_14_method_22_code 222 = .ok (.aload_n 0, 1) := by decide +kernel
theorem d_Md_goWinters_223 : decode prog_14_method_22_code 223 = .ok (.iload 5, 2) := by decide +kernel
theorem d_Md_goWinters_225 : decode prog_14_method_22_code 225 = .ok (.putfield 71, 3) := by decide +kernel
theorem d_Md_goWinters_228 : decode prog_14_method_22_code 228 = .ok (.iinc 5 1, 3) := by decide +kernel
theorem d_Md_goWinters_231 : decode prog_14_method_22_code 231 = .ok (.goto (-41), 3) := by decide +kernel
theorem d_Md_goWinters_234 : decode prog_14_method_22_code 234 = .ok (.aload_n 0, 1) := by decide +kernel
theorem d_Md_goWinters_235 : decode prog_14_method_22_code 235 = .ok (.dup, 1) := by decide +kernel
theorem d_Md_goWinters_236 : decode prog_14_method_22_code 236 = .ok (.getfield 87, 3) := by decide +kernel
theorem d_Md_goWinters_239 : decode prog_14_method_22_code 239 = .ok (.iconst 1, 1) := by decide +kernel
theorem d_Md_goWinters_240 : decode prog_14_method_22_code 240 = .ok (.iadd, 1) := by decide +kernel
theorem d_Md_goWinters_241 : decode prog_14_method_22_code 241 = .ok (.putfield 87, 3) := by decide +kernel
theorem d_Md_goWinters_244 : decode prog_14_method_22_code 244 = .ok (.goto (-233), 3) := by decide +kernel
theorem d_Md_goWinters_247 : decode prog_14_method_22_code 247 = .ok (.bipush (-6), 2) := by decide +kernel
theorem d_Md_goWinters_249 : decode prog_14_method_22_code 249 = .ok (.ireturn, 1) := by decide +kernel
theorem d_Md_judge_0 : decode prog_14_method_23_code 0 = .ok (.iload_n 1, 1) := by decide +kernel
theorem d_Md_judge_1 : decode prog_14_method_23_code 1 = .ok (.iconst 0, 1) := by decide +kernel
theorem d_Md_judge_2 : decode prog_14_method_23_code 2 = .ok (.iconst 1, 1) := by decide +kernel
theorem d_Md_judge_3 : decode prog_14_method_23_code 3 = .ok (.invokestatic 42, 3) := by decide +kernel
theorem d_Md_judge_6 : decode prog_14_method_23_code 6 = .ok (.ifCond .ne 6, 3) := by decide +kernel
theorem d_Md_judge_9 : decode prog_14_method_23_code 9 = .ok (.bipush (-2), 2) := by decide +kernel
theorem d_Md_judge_11 : decode prog_14_method_23_code 11 = .ok (.ireturn, 1) := by decide +kernel
theorem d_Md_judge_12 : decode prog_14_method_23_code 12 = .ok (.aload_n 0, 1) := by decide +kernel
theorem d_Md_judge_13 : decode prog_14_method_23_code 13 = .ok (.invokevirtual 61, 3) := by decide +kernel
theorem d_Md_judge_16 : decode prog_14_method_23_code 16 = .ok (.ifCond .lt 6, 3) := by decide +kernel
theorem d_Md_judge_19 : decode prog_14_method_23_code 19 = .ok (.bipush (-5), 2) := by decide +kernel
theorem d_Md_judge_21 : decode prog_14_method_23_code 21 = .ok (.ireturn, 1) := by decide +kernel
theorem d_Md_judge_22 : decode prog_14_method_23_code 22 = .ok (.aload_n 0, 1) := by decide +kernel
theorem d_Md_judge_23 : decode prog_14_method_23_code 23 = .ok (.invokevirtual 108, 3) := by decide +kernel
theorem d_Md_judge_26 : decode prog_14_method_23_code 26 = .ok (.istore_n 2, 1) := by decide +kernel
theorem d_Md_judge_27 : decode prog_14_method_23_code 27 = .ok (.iload_n 2, 1) := by decide +kernel
theorem d_Md_judge_28 : decode prog_14_method_23_code 28 = .ok (.ifCond .lt 7, 3) := by decide +kernel
theorem d_Md_judge_31 : decode prog_14_method_23_code 31 = .ok (.iload_n 1, 1) := by decide +kernel
theorem d_Md_judge_32 : decode prog_14_method_23_code 32 = .ok (.ifCond .ne 7, 3) := by decide +kernel
theorem d_Md_judge_35 : decode prog_14_method_23_code 35 = .ok (.iload_n 2, 1) := by decide +kernel
theorem d_Md_judge_36 : decode prog_14_method_23_code 36 = .ok (.goto 7, 3) := by decide +kernel
theorem d_Md_judge_39 : decode prog_14_method_23_code 39 = .ok (.aload_n 0, 1) := by decide +kernel
theorem d_Md_judge_40 : decode prog_14_method_23_code 40 = .ok (.getfield 93, 3) := by decide +kernel
theorem d_Md_judge_43 : decode prog_14_method_23_code 43 = .ok (.ireturn, 1) := by decide +kernel
theorem d_Md_barOfWinters_0 : decode prog_14_method_24_code 0 = .ok (.aload_n 0, 1) := by decide +kernel
theorem d_Md_barOfWinters_1 : decode prog_14_method_24_code 1 = .ok (.invokevirtual 61, 3) := by decide +kernel
theorem d_Md_barOfWinters_4 : decode prog_14_method_24_code 4 = .ok (.ifCond .ge 10, 3) := by decide +kernel
theorem d_Md_barOfWinters_7 : decode prog_14_method_24_code 7 = .ok (.aload_n 0, 1) := by decide +kernel
theorem d_Md_barOfWinters_8 : decode prog_14_method_24_code 8 = .ok (.invokevirtual 108, 3) := by decide +kernel
theorem d_Md_barOfWinters_11 : decode prog_14_method_24_code 11 = .ok (.ifCond .lt 8, 3) := by decide +kernel
theorem d_Md_barOfWinters_14 : decode prog_14_method_24_code 14 = .ok (.bipush (-5), 2) := by decide +kernel
theorem d_Md_barOfWinters_16 : decode prog_14_method_24_code 16 = .ok (.goto 4, 3) := by decide +kernel
theorem d_Md_barOfWinters_19 : decode prog_14_method_24_code 19 = .ok (.iconst 0, 1) := by decide +kernel
theorem d_Md_barOfWinters_20 : decode prog_14_method_24_code 20 = .ok (.ireturn, 1) := by decide +kernel
theorem d_Md_done_0 : decode prog_14_method_25_code 0 = .ok (.aload_n 0, 1) := by decide +kernel
theorem d_Md_done_1 : decode prog_14_method_25_code 1 = .ok (.invokevirtual 111, 3) := by decide +kernel
theorem d_Md_done_4 : decode prog_14_method_25_code 4 = .ok (.ifCond .ge 6, 3) := by decide +kernel
theorem d_Md_done_7 : decode prog_14_method_25_code 7 = .ok (.bipush (-5), 2) := by decide +kernel
theorem d_Md_done_9 : decode prog_14_method_25_code 9 = .ok (.ireturn, 1) := by decide +kernel
theorem d_Md_done_10 : decode prog_14_method_25_code 10 = .ok (.iconst 0, 1) := by decide +kernel
theorem d_Md_done_11 : decode prog_14_method_25_code 11 = .ok (.istore_n 1, 1) := by decide +kernel
theorem d_Md_done_12 : decode prog_14_method_25_code 12 = .ok (.iload_n 1, 1) := by decide +kernel
theorem d_Md_done_13 : decode prog_14_method_25_code 13 = .ok (.bipush 26, 2) := by decide +kernel
theorem d_Md_done_15 : decode prog_14_method_25_code 15 = .ok (.if_icmp .ge 21, 3) := by decide +kernel
theorem d_Md_done_18 : decode prog_14_method_25_code 18 = .ok (.aload_n 0, 1) := by decide +kernel
theorem d_Md_done_19 : decode prog_14_method_25_code 19 = .ok (.getfield 7, 3) := by decide +kernel
theorem d_Md_done_22 : decode prog_14_method_25_code 22 = .ok (.iload_n 1, 1) := by decide +kernel
theorem d_Md_done_23 : decode prog_14_method_25_code 23 = .ok (.aload_n 0, 1) := by decide +kernel
theorem d_Md_done_24 : decode prog_14_method_25_code 24 = .ok (.getfield 13, 3) := by decide +kernel
theorem d_Md_done_27 : decode prog_14_method_25_code 27 = .ok (.iload_n 1, 1) := by decide +kernel
theorem d_Md_done_28 : decode prog_14_method_25_code 28 = .ok (.iaload, 1) := by decide +kernel
theorem d_Md_done_29 : decode prog_14_method_25_code 29 = .ok (.iastore, 1) := by decide +kernel
theorem d_Md_done_30 : decode prog_14_method_25_code 30 = .ok (.iinc 1 1, 3) := by decide +kernel
theorem d_Md_done_33 : decode prog_14_method_25_code 33 = .ok (.goto (-21), 3) := by decide +kernel
theorem d_Md_done_36 : decode prog_14_method_25_code 36 = .ok (.aload_n 0, 1) := by decide +kernel
theorem d_Md_done_37 : decode prog_14_method_25_code 37 = .ok (.iconst 0, 1) := by decide +kernel
theorem d_Md_done_38 : decode prog_14_method_25_code 38 = .ok (.putfield 53, 3) := by decide +kernel
theorem d_Md_done_41 : decode prog_14_method_25_code 41 = .ok (.aload_n 0, 1) := by decide +kernel
theorem d_Md_done_42 : decode prog_14_method_25_code 42 = .ok (.getfield 87, 3) := by decide +kernel
theorem d_Md_done_45 : decode prog_14_method_25_code 45 = .ok (.ireturn, 1) := by decide +kernel
theorem d_Md_behind_0 : decode prog_14_method_26_code 0 = .ok (.iload_n 1, 1) := by decide +kernel
theorem d_Md_behind_1 : decode prog_14_method_26_code 1 = .ok (.iconst 0, 1) := by decide +kernel
theorem d_Md_behind_2 : decode prog_14_method_26_code 2 = .ok (.iconst 5, 1) := by decide +kernel
theorem d_Md_behind_3 : decode prog_14_method_26_code 3 = .ok (.invokestatic 42, 3) := by decide +kernel
theorem d_Md_behind_6 : decode prog_14_method_26_code 6 = .ok (.ifCond .ne 5, 3) := by decide +kernel
theorem d_Md_behind_9 : decode prog_14_method_26_code 9 = .ok (.iconst (-1), 1) := by decide +kernel
theorem d_Md_behind_10 : decode prog_14_method_26_code 10 = .ok (.ireturn, 1) := by decide +kernel
theorem d_Md_behind_11 : decode prog_14_method_26_code 11 = .ok (.iload_n 2, 1) := by decide +kernel
theorem d_Md_behind_12 : decode prog_14_method_26_code 12 = .ok (.iconst 0, 1) := by decide +kernel
theorem d_Md_behind_13 : decode prog_14_method_26_code 13 = .ok (.iconst 2, 1) := by decide +kernel
theorem d_Md_behind_14 : decode prog_14_method_26_code 14 = .ok (.invokestatic 42, 3) := by decide +kernel
theorem d_Md_behind_17 : decode prog_14_method_26_code 17 = .ok (.ifCond .ne 6, 3) := by decide +kernel
theorem d_Md_behind_20 : decode prog_14_method_26_code 20 = .ok (.bipush (-2), 2) := by decide +kernel
theorem d_Md_behind_22 : decode prog_14_method_26_code 22 = .ok (.ireturn, 1) := by decide +kernel
theorem d_Md_behind_23 : decode prog_14_method_26_code 23 = .ok (.aload_n 0, 1) := by decide +kernel
theorem d_Md_behind_24 : decode prog_14_method_26_code 24 = .ok (.invokevirtual 111, 3) := by decide +kernel
theorem d_Md_behind_27 : decode prog_14_method_26_code 27 = .ok (.ifCond .ge 6, 3) := by decide +kernel
theorem d_Md_behind_30 : decode prog_14_method_26_code 30 = .ok (.bipush (-5), 2) := by decide +kernel
theorem d_Md_behind_32 : decode prog_14_method_26_code 32 = .ok (.ireturn, 1) := by decide +kernel
theorem d_Md_behind_33 : decode prog_14_method_26_code 33 = .ok (.iload_n 2, 1) := by decide +kernel
theorem d_Md_behind_34 : decode prog_14_method_26_code 34 = .ok (.iconst 2, 1) := by decide +kernel
theorem d_Md_behind_35 : decode prog_14_method_26_code 35 = .ok (.if_icmp .ne 17, 3) := by decide +kernel
theorem d_Md_behind_38 : decode prog_14_method_26_code 38 = .ok (.aload_n 0, 1) := by decide +kernel
theorem d_Md_behind_39 : decode prog_14_method_26_code 39 = .ok (.getfield 13, 3) := by decide +kernel
theorem d_Md_behind_42 : decode prog_14_method_26_code 42 = .ok (.bipush 24, 2) := by decide +kernel
theorem d_Md_behind_44 : decode prog_14_method_26_code 44 = .ok (.iaload, 1) := by decide +kernel
theorem d_Md_behind_45 : decode prog_14_method_26_code 45 = .ok (.iload_n 1, 1) := by decide +kernel
theorem d_Md_behind_46 : decode prog_14_method_26_code 46 = .ok (.ishr, 1) := by decide +kernel
theorem d_Md_behind_47 : decode prog_14_method_26_code 47 = .ok (.iconst 1, 1) := by decide +kernel
theorem d_Md_behind_48 : decode prog_14_method_26_code 48 = .ok (.iand, 1) := by decide +kernel
theorem d_Md_behind_49 : decode prog_14_method_26_code 49 = .ok (.goto 17, 3) := by decide +kernel
theorem d_Md_behind_52 : decode prog_14_method_26_code 52 = .ok (.aload_n 0, 1) := by decide +kernel
theorem d_Md_behind_53 : decode prog_14_method_26_code 53 = .ok (.getfield 13, 3) := by decide +kernel
theorem d_Md_behind_56 : decode prog_14_method_26_code 56 = .ok (.bipush 12, 2) := by decide +kernel
theorem d_Md_behind_58 : decode prog_14_method_26_code 58 = .ok (.bipush 6, 2) := by decide +kernel
theorem d_Md_behind_60 : decode prog_14_method_26_code 60 = .ok (.iload_n 2, 1) := by decide +kernel
theorem d_Md_behind_61 : decode prog_14_method_26_code 61 = .ok (.imul, 1) := by decide +kernel
theorem d_Md_behind_62 : decode prog_14_method_26_code 62 = .ok (.iadd, 1) := by decide +kernel
theorem d_Md_behind_63 : decode prog_14_method_26_code 63 = .ok (.iload_n 1, 1) := by decide +kernel
theorem d_Md_behind_64 : decode prog_14_method_26_code 64 = .ok (.iadd, 1) := by decide +kernel
theorem d_Md_behind_65 : decode prog_14_method_26_code 65 = .ok (.iaload, 1) := by decide +kernel
theorem d_Md_behind_66 : decode prog_14_method_26_code 66 = .ok (.ireturn, 1) := by decide +kernel
theorem d_Md_then_0 : decode prog_14_method_27_code 0 = .ok (.iload_n 1, 1) := by decide +kernel
theorem d_Md_then_1 : decode prog_14_method_27_code 1 = .ok (.iconst 0, 1) := by decide +kernel
theorem d_Md_then_2 : decode prog_14_method_27_code 2 = .ok (.iconst 5, 1) := by decide +kernel
theorem d_Md_then_3 : decode prog_14_method_27_code 3 = .ok (.invokestatic 42, 3) := by decide +kernel
theorem d_Md_then_6 : decode prog_14_method_27_code 6 = .ok (.ifCond .ne 6, 3) := by decide +kernel
theorem d_Md_then_9 : decode prog_14_method_27_code 9 = .ok (.bipush (-2), 2) := by decide +kernel
theorem d_Md_then_11 : decode prog_14_method_27_code 11 = .ok (.ireturn, 1) := by decide +kernel
theorem d_Md_then_12 : decode prog_14_method_27_code 12 = .ok (.aload_n 0, 1) := by decide +kernel
theorem d_Md_then_13 : decode prog_14_method_27_code 13 = .ok (.invokevirtual 111, 3) := by decide +kernel
theorem d_Md_then_16 : decode prog_14_method_27_code 16 = .ok (.ifCond .ge 6, 3) := by decide +kernel
theorem d_Md_then_19 : decode prog_14_method_27_code 19 = .ok (.bipush (-5), 2) := by decide +kernel
theorem d_Md_then_21 : decode prog_14_method_27_code 21 = .ok (.ireturn, 1) := by decide +kernel
theorem d_Md_then_22 : decode prog_14_method_27_code 22 = .ok (.iload_n 1, 1) := by decide +kernel
theorem d_Md_then_23 : decode prog_14_method_27_code 23 = .ok (.tableswitch 55 0 3 #[29, 34, 42, 47], 29) := by decide +kernel
theorem d_Md_then_52 : decode prog_14_method_27_code 52 = .ok (.aload_n 0, 1) := by decide +kernel
theorem d_Md_then_53 : decode prog_14_method_27_code 53 = .ok (.invokevirtual 78, 3) := by decide +kernel
theorem d_Md_then_56 : decode prog_14_method_27_code 56 = .ok (.ireturn, 1) := by decide +kernel
theorem d_Md_then_57 : decode prog_14_method_27_code 57 = .ok (.aload_n 0, 1) := by decide +kernel
theorem d_Md_then_58 : decode prog_14_method_27_code 58 = .ok (.getfield 13, 3) := by decide +kernel
theorem d_Md_then_61 : decode prog_14_method_27_code 61 = .ok (.bipush 24, 2) := by decide +kernel
theorem d_Md_then_63 : decode prog_14_method_27_code 63 = .ok (.iaload, 1) := by decide +kernel
theorem d_Md_then_64 : decode prog_14_method_27_code 64 = .ok (.ireturn, 1) := by decide +kernel
theorem d_Md_then_65 : decode prog_14_method_27_code 65 = .ok (.aload_n 0, 1) := by decide +kernel
theorem d_Md_then_66 : decode prog_14_method_27_code 66 = .ok (.getfield 65, 3) := by decide +kernel
theorem d_Md_then_69 : decode prog_14_method_27_code 69 = .ok (.ireturn, 1) := by decide +kernel
theorem d_Md_then_70 : decode prog_14_method_27_code 70 = .ok (.aload_n 0, 1) := by decide +kernel
theorem d_Md_then_71 : decode prog_14_method_27_code 71 = .ok (.getfield 13, 3) := by decide +kernel
theorem d_Md_then_74 : decode prog_14_method_27_code 74 = .ok (.bipush 25, 2) := by decide +kernel
theorem d_Md_then_76 : decode prog_14_method_27_code 76 = .ok (.iaload, 1) := by decide +kernel
theorem d_Md_then_77 : decode prog_14_method_27_code 77 = .ok (.ireturn, 1) := by decide +kernel
theorem d_Md_then_78 : decode prog_14_method_27_code 78 = .ok (.iload_n 1, 1) := by decide +kernel
theorem d_Md_then_79 : decode prog_14_method_27_code 79 = .ok (.iconst 4, 1) := by decide +kernel
theorem d_Md_then_80 : decode prog_14_method_27_code 80 = .ok (.if_icmp .ne 10, 3) := by decide +kernel
theorem d_Md_then_83 : decode prog_14_method_27_code 83 = .ok (.aload_n 0, 1) := by decide +kernel
theorem d_Md_then_84 : decode prog_14_method_27_code 84 = .ok (.getfield 68, 3) := by decide +kernel
theorem d_Md_then_87 : decode prog_14_method_27_code 87 = .ok (.goto 7, 3) := by decide +kernel
theorem d_Md_then_90 : decode prog_14_method_27_code 90 = .ok (.aload_n 0, 1) := by decide +kernel
theorem d_Md_then_91 : decode prog_14_method_27_code 91 = .ok (.getfield 71, 3) := by decide +kernel
theorem d_Md_then_94 : decode prog_14_method_27_code 94 = .ok (.ireturn, 1) := by decide +kernel
theorem d_Md_areLoops_0 : decode prog_14_method_28_code 0 = .ok (.iload_n 0, 1) := by decide +kernel
theorem d_Md_areLoops_1 : decode prog_14_method_28_code 1 = .ok (.iconst 0, 1) := by decide +kernel
theorem d_Md_areLoops_2 : decode prog_14_method_28_code 2 = .ok (.bipush 11, 2) := by decide +kernel
theorem d_Md_areLoops_4 : decode prog_14_method_28_code 4 = .ok (.invokestatic 42, 3) := by decide +kernel
theorem d_Md_areLoops_7 : decode prog_14_method_28_code 7 = .ok (.ifCond .eq 17, 3) := by decide +kernel
theorem d_Md_areLoops_10 : decode prog_14_method_28_code 10 = .ok (.iload_n 1, 1) := by decide +kernel
theorem d_Md_areLoops_11 : decode prog_14_method_28_code 11 = .ok (.iconst 0, 1) := by decide +kernel
theorem d_Md_areLoops_12 : decode prog_14_method_28_code 12 = .ok (.bipush 11, 2) := by decide +kernel
theorem d_Md_areLoops_14 : decode prog_14_method_28_code 14 = .ok (.invokestatic 42, 3) := by decide +kernel
theorem d_Md_areLoops_17 : decode prog_14_method_28_code 17 = .ok (.ifCond .eq 7, 3) := by decide +kernel
theorem d_Md_areLoops_20 : decode prog_14_method_28_code 20 = .ok (.iconst 1, 1) := by decide +kernel
theorem d_Md_areLoops_21 : decode prog_14_method_28_code 21 = .ok (.goto 4, 3) := by decide +kernel
theorem d_Md_areLoops_24 : decode prog_14_method_28_code 24 = .ok (.iconst 0, 1) := by decide +kernel
theorem d_Md_areLoops_25 : decode prog_14_method_28_code 25 = .ok (.ireturn, 1) := by decide +kernel
theorem d_Md_apart_0 : decode prog_14_method_29_code 0 = .ok (.aload_n 0, 1) := by decide +kernel
theorem d_Md_apart_1 : decode prog_14_method_29_code 1 = .ok (.invokevirtual 46, 3) := by decide +kernel
theorem d_Md_apart_4 : decode prog_14_method_29_code 4 = .ok (.iload_n 1, 1) := by decide +kernel
theorem d_Md_apart_5 : decode prog_14_method_29_code 5 = .ok (.iload_n 2, 1) := by decide +kernel
theorem d_Md_apart_6 : decode prog_14_method_29_code 6 = .ok (.invokestatic 114, 3) := by decide +kernel
theorem d_Md_apart_9 : decode prog_14_method_29_code 9 = .ok (.ifCond .eq 12, 3) := by decide +kernel
theorem d_Md_apart_12 : decode prog_14_method_29_code 12 = .ok (.aload_n 0, 1) := by decide +kernel
theorem d_Md_apart_13 : decode prog_14_method_29_code 13 = .ok (.iload_n 1, 1) := by decide +kernel
theorem d_Md_apart_14 : decode prog_14_method_29_code 14 = .ok (.iload_n 2, 1) := by decide +kernel
theorem d_Md_apart_15 : decode prog_14_method_29_code 15 = .ok (.invokevirtual 84, 3) := by decide +kernel
theorem d_Md_apart_18 : decode prog_14_method_29_code 18 = .ok (.goto 4, 3) := by decide +kernel
theorem d_Md_apart_21 : decode prog_14_method_29_code 21 = .ok (.iconst (-1), 1) := by decide +kernel
theorem d_Md_apart_22 : decode prog_14_method_29_code 22 = .ok (.ireturn, 1) := by decide +kernel
theorem d_Md_meets_0 : decode prog_14_method_30_code 0 = .ok (.aload_n 0, 1) := by decide +kernel
theorem d_Md_meets_1 : decode prog_14_method_30_code 1 = .ok (.invokevirtual 46, 3) := by decide +kernel
theorem d_Md_meets_4 : decode prog_14_method_30_code 4 = .ok (.iload_n 1, 1) := by decide +kernel
theorem d_Md_meets_5 : decode prog_14_method_30_code 5 = .ok (.iload_n 2, 1) := by decide +kernel
theorem d_Md_meets_6 : decode prog_14_method_30_code 6 = .ok (.invokestatic 114, 3) := by decide +kernel
theorem d_Md_meets_9 : decode prog_14_method_30_code 9 = .ok (.ifCond .eq 12, 3) := by decide +kernel
theorem d_Md_meets_12 : decode prog_14_method_30_code 12 = .ok (.aload_n 0, 1) := by decide +kernel
theorem d_Md_meets_13 : decode prog_14_method_30_code 13 = .ok (.iload_n 1, 1) := by decide +kernel
theorem d_Md_meets_14 : decode prog_14_method_30_code 14 = .ok (.iload_n 2, 1) := by decide +kernel
theorem d_Md_meets_15 : decode prog_14_method_30_code 15 = .ok (.invokevirtual 117, 3) := by decide +kernel
theorem d_Md_meets_18 : decode prog_14_method_30_code 18 = .ok (.goto 4, 3) := by decide +kernel
theorem d_Md_meets_21 : decode prog_14_method_30_code 21 = .ok (.iconst (-1), 1) := by decide +kernel
theorem d_Md_meets_22 : decode prog_14_method_30_code 22 = .ok (.ireturn, 1) := by decide +kernel
theorem d_Md_sees_0 : decode prog_14_method_31_code 0 = .ok (.iload_n 1, 1) := by decide +kernel
theorem d_Md_sees_1 : decode prog_14_method_31_code 1 = .ok (.iconst 0, 1) := by decide +kernel
theorem d_Md_sees_2 : decode prog_14_method_31_code 2 = .ok (.iconst 5, 1) := by decide +kernel
theorem d_Md_sees_3 : decode prog_14_method_31_code 3 = .ok (.invokestatic 42, 3) := by decide +kernel
theorem d_Md_sees_6 : decode prog_14_method_31_code 6 = .ok (.ifCond .ne 5, 3) := by decide +kernel
theorem d_Md_sees_9 : decode prog_14_method_31_code 9 = .ok (.iconst (-1), 1) := by decide +kernel
theorem d_Md_sees_10 : decode prog_14_method_31_code 10 = .ok (.ireturn, 1) := by decide +kernel
theorem d_Md_sees_11 : decode prog_14_method_31_code 11 = .ok (.aload_n 0, 1) := by decide +kernel
theorem d_Md_sees_12 : decode prog_14_method_31_code 12 = .ok (.getfield 7, 3) := by decide +kernel
theorem d_Md_sees_15 : decode prog_14_method_31_code 15 = .ok (.bipush 12, 2) := by decide +kernel
theorem d_Md_sees_17 : decode prog_14_method_31_code 17 = .ok (.iload_n 1, 1) := by decide +kernel
theorem d_Md_sees_18 : decode prog_14_method_31_code 18 = .ok (.iadd, 1) := by decide +kernel
theorem d_Md_sees_19 : decode prog_14_method_31_code 19 = .ok (.iaload, 1) := by decide +kernel
theorem d_Md_sees_20 : decode prog_14_method_31_code 20 = .ok (.ifCond .ge 6, 3) := by decide +kernel
theorem d_Md_sees_23 : decode prog_14_method_31_code 23 = .ok (.bipush (-3), 2) := by decide +kernel
theorem d_Md_sees_25 : decode prog_14_method_31_code 25 = .ok (.ireturn, 1) := by decide +kernel
theorem d_Md_sees_26 : decode prog_14_method_31_code 26 = .ok (.aload_n 0, 1) := by decide +kernel
theorem d_Md_sees_27 : decode prog_14_method_31_code 27 = .ok (.invokevirtual 46, 3) := by decide +kernel
theorem d_Md_sees_30 : decode prog_14_method_31_code 30 = .ok (.iconst 0, 1) := by decide +kernel
theorem d_Md_sees_31 : decode prog_14_method_31_code 31 = .ok (.istore_n 2, 1) := by decide +kernel
theorem d_Md_sees_32 : decode prog_14_method_31_code 32 = .ok (.aload_n 0, 1) := by decide +kernel
theorem d_Md_sees_33 : decode prog_14_method_31_code 33 = .ok (.getfield 13, 3) := by decide +kernel
theorem d_Md_sees_36 : decode prog_14_method_31_code 36 = .ok (.bipush 12, 2) := by decide +kernel
theorem d_Md_sees_38 : decode prog_14_method_31_code 38 = .ok (.iload_n 1, 1) := by decide +kernel
theorem d_Md_sees_39 : decode prog_14_method_31_code 39 = .ok (.iadd, 1) := by decide +kernel
theorem d_Md_sees_40 : decode prog_14_method_31_code 40 = .ok (.iaload, 1) := by decide +kernel
theorem d_Md_sees_41 : decode prog_14_method_31_code 41 = .ok (.istore_n 3, 1) := by decide +kernel
theorem d_Md_sees_42 : decode prog_14_method_31_code 42 = .ok (.iconst 0, 1) := by decide +kernel
theorem d_Md_sees_43 : decode prog_14_method_31_code 43 = .ok (.istore 4, 2) := by decide +kernel
theorem d_Md_sees_45 : decode prog_14_method_31_code 45 = .ok (.iload 4, 2) := by decide +kernel
theorem d_Md_sees_47 : decode prog_14_method_31_code 47 = .ok (.bipush 6, 2) := by decide +kernel
theorem d_Md_sees_49 : decode prog_14_method_31_code 49 = .ok (.if_icmp .ge 139, 3) := by decide +kernel
theorem d_Md_sees_52 : decode prog_14_method_31_code 52 = .ok (.aload_n 0, 1) := by decide +kernel
theorem d_Md_sees_53 : decode prog_14_method_31_code 53 = .ok (.getfield 13, 3) := by decide +kernel
theorem d_Md_sees_56 : decode prog_14_method_31_code 56 = .ok (.bipush 12, 2) := by decide +kernel
theorem d_Md_sees_58 : decode prog_14_method_31_code 58 = .ok (.iload 4, 2) := by decide +kernel
theorem d_Md_sees_60 : decode prog_14_method_31_code 60 = .ok (.iadd, 1) := by decide +kernel
theorem d_Md_sees_61 : decode prog_14_method_31_code 61 = .ok (.iaload, 1) := by decide +kernel
theorem d_Md_sees_62 : decode prog_14_method_31_code 62 = .ok (.istore 5, 2) := by decide +kernel
theorem d_Md_sees_64 : decode prog_14_method_31_code 64 = .ok (.iload 4, 2) := by decide +kernel
theorem d_Md_sees_66 : decode prog_14_method_31_code 66 = .ok (.iload_n 1, 1) := by decide +kernel
theorem d_Md_sees_67 : decode prog_14_method_31_code 67 = .ok (.if_icmp .eq 12, 3) := by decide +kernel
theorem d_Md_sees_70 : decode prog_14_method_31_code 70 = .ok (.iload 5, 2) := by decide +kernel
theorem d_Md_sees_72 : decode prog_14_method_31_code 72 = .ok (.ifCond .lt 7, 3) := by decide +kernel
theorem d_Md_sees_75 : decode prog_14_method_31_code 75 = .ok (.iconst 1, 1) := by decide +kernel
theorem d_Md_sees_76 : decode prog_14_method_31_code 76 = .ok (.goto 4, 3) := by decide +kernel
theorem d_Md_sees_79 : decode prog_14_method_31_code 79 = .ok (.iconst 0, 1) := by decide +kernel
theorem d_Md_sees_80 : decode prog_14_method_31_code 80 = .ok (.istore 6, 2) := by decide +kernel
theorem d_Md_sees_82 : decode prog_14_method_31_code 82 = .ok (.iconst 0, 1) := by decide +kernel
theorem d_Md_sees_83 : decode prog_14_method_31_code 83 = .ok (.istore 7, 2) := by decide +kernel
theorem d_Md_sees_85 : decode prog_14_method_31_code 85 = .ok (.iload 7, 2) := by decide +kernel
theorem d_Md_sees_87 : decode prog_14_method_31_code 87 = .ok (.bipush 6, 2) := by decide +kernel
theorem d_Md_sees_89 : decode prog_14_method_31_code 89 = .ok (.if_icmp .ge 77, 3) := by decide +kernel
theorem d_Md_sees_92 : decode prog_14_method_31_code 92 = .ok (.iload 6, 2) := by decide +kernel
theorem d_Md_sees_94 : decode prog_14_method_31_code 94 = .ok (.ifCond .eq 72, 3) := by decide +kernel
theorem d_Md_sees_97 : decode prog_14_method_31_code 97 = .ok (.aload_n 0, 1) := by decide +kernel
theorem d_Md_sees_98 : decode prog_14_method_31_code 98 = .ok (.getfield 13, 3) := by decide +kernel
theorem d_Md_sees_101 : decode prog_14_method_31_code 101 = .ok (.bipush 12, 2) := by decide +kernel
theorem d_Md_sees_103 : decode prog_14_method_31_code 103 = .ok (.iload 7, 2) := by decide +kernel
theorem d_Md_sees_105 : decode prog_14_method_31_code 105 = .ok (.iadd, 1) := by decide +kernel
theorem d_Md_sees_106 : decode prog_14_method_31_code 106 = .ok (.iaload, 1) := by decide +kernel
theorem d_Md_sees_107 : decode prog_14_method_31_code 107 = .ok (.istore 8, 2) := by decide +kernel
theorem d_Md_sees_109 : decode prog_14_method_31_code 109 = .ok (.iload 7, 2) := by decide +kernel
theorem d_Md_sees_111 : decode prog_14_method_31_code 111 = .ok (.iload_n 1, 1) := by decide +kernel
theorem d_Md_sees_112 : decode prog_14_method_31_code 112 = .ok (.if_icmp .eq 41, 3) := by decide +kernel
theorem d_Md_sees_115 : decode prog_14_method_31_code 115 = .ok (.iload 7, 2) := by decide +kernel
theorem d_Md_sees_117 : decode prog_14_method_31_code 117 = .ok (.iload 4, 2) := by decide +kernel
theorem d_Md_sees_119 : decode prog_14_method_31_code 119 = .ok (.if_icmp .eq 34, 3) := by decide +kernel
theorem d_Md_sees_122 : decode prog_14_method_31_code 122 = .ok (.iload 8, 2) := by decide +kernel
theorem d_Md_sees_124 : decode prog_14_method_31_code 124 = .ok (.ifCond .lt 29, 3) := by decide +kernel
theorem d_Md_sees_127 : decode prog_14_method_31_code 127 = .ok (.aload_n 0, 1) := by decide +kernel
theorem d_Md_sees_128 : decode prog_14_method_31_code 128 = .ok (.iload_n 3, 1) := by decide +kernel
theorem d_Md_sees_129 : decode prog_14_method_31_code 129 = .ok (.iload 8, 2) := by decide +kernel
theorem d_Md_sees_131 : decode prog_14_method_31_code 131 = .ok (.invokevirtual 84, 3) := by decide +kernel
theorem d_Md_sees_134 : decode prog_14_method_31_code 134 = .ok (.aload_n 0, 1) := by decide +kernel
theorem d_Md_sees_135 : decode prog_14_method_31_code 135 = .ok (.iload 8, 2) := by decide +kernel
theorem d_Md_sees_137 : decode prog_14_method_31_code 137 = .ok (.iload 5, 2) := by decide +kernel
theorem d_Md_sees_139 : decode prog_14_method_31_code 139 = .ok (.invokevirtual 84, 3) := by decide +kernel
theorem d_Md_sees_142 : decode prog_14_method_31_code 142 = .ok (.iadd, 1) := by decide +kernel
theorem d_Md_sees_143 : decode prog_14_method_31_code 143 = .ok (.aload_n 0, 1) := by decide +kernel
theorem d_Md_sees_144 : decode prog_14_method_31_code 144 = .ok (.iload_n 3, 1) := by decide +kernel
theorem d_Md_sees_145 : decode prog_14_method_31_code 145 = .ok (.iload 5, 2) := by decide +kernel
theorem d_Md_sees_147 : decode prog_14_method_31_code 147 = .ok (.invokevirtual 84, 3) := by decide +kernel
theorem d_Md_sees_150 : decode prog_14_method_31_code 150 = .ok (.if_icmp .le 7, 3) := by decide +kernel
theorem d_Md_sees_153 : decode prog_14_method_31_code 153 = .ok (.iconst 1, 1) := by decide +kernel
theorem d_Md_sees_154 : decode prog_14_method_31_code 154 = .ok (.goto 4, 3) := by decide +kernel
theorem d_Md_sees_157 : decode prog_14_method_31_code 157 = .ok (.iconst 0, 1) := by decide +kernel
theorem d_Md_sees_158 : decode prog_14_method_31_code 158 = .ok (.istore 6, 2) := by decide +kernel
theorem d_Md_sees_160 : decode prog_14_method_31_code 160 = .ok (.iinc 7 1, 3) := by decide +kernel
theorem d_Md_sees_163 : decode prog_14_method_31_code 163 = .ok (.goto (-78), 3) := by decide +kernel
theorem d_Md_sees_166 : decode prog_14_method_31_code 166 = .ok (.iload_n 2, 1) := by decide +kernel
theorem d_Md_sees_167 : decode prog_14_method_31_code 167 = .ok (.iload 6, 2) := by decide +kernel
theorem d_Md_sees_169 : decode prog_14_method_31_code 169 = .ok (.ifCond .eq 10, 3) := by decide +kernel
theorem d_Md_sees_172 : decode prog_14_method_31_code 172 = .ok (.iconst 1, 1) := by decide +kernel
theorem d_Md_sees_173 : decode prog_14_method_31_code 173 = .ok (.iload 4, 2) := by decide +kernel
theorem d_Md_sees_175 : decode prog_14_method_31_code 175 = .ok (.ishl, 1) := by decide +kernel
theorem d_Md_sees_176 : decode prog_14_method_31_code 176 = .ok (.goto 4, 3) := by decide +kernel
theorem d_Md_sees_179 : decode prog_14_method_31_code 179 = .ok (.iconst 0, 1) := by decide +kernel
theorem d_Md_sees_180 : decode prog_14_method_31_code 180 = .ok (.ior, 1) := by decide +kernel
theorem d_Md_sees_181 : decode prog_14_method_31_code 181 = .ok (.istore_n 2, 1) := by decide +kernel
theorem d_Md_sees_182 : decode prog_14_method_31_code 182 = .ok (.iinc 4 1, 3) := by decide +kernel
theorem d_Md_sees_185 : decode prog_14_method_31_code 185 = .ok (.goto (-140), 3) := by decide +kernel
theorem d_Md_sees_188 : decode prog_14_method_31_code 188 = .ok (.iload_n 2, 1) := by decide +kernel
theorem d_Md_sees_189 : decode prog_14_method_31_code 189 = .ok (.ireturn, 1) := by decide +kernel
theorem d_Md_near_0 : decode prog_14_method_32_code 0 = .ok (.iload_n 1, 1) := by decide +kernel
theorem d_Md_near_1 : decode prog_14_method_32_code 1 = .ok (.iconst 0, 1) := by decide +kernel
theorem d_Md_near_2 : decode prog_14_method_32_code 2 = .ok (.iconst 3, 1) := by decide +kernel
theorem d_Md_near_3 : decode prog_14_method_32_code 3 = .ok (.invokestatic 42, 3) := by decide +kernel
theorem d_Md_near_6 : decode prog_14_method_32_code 6 = .ok (.ifCond .ne 6, 3) := by decide +kernel
theorem d_Md_near_9 : decode prog_14_method_32_code 9 = .ok (.bipush (-2), 2) := by decide +kernel
theorem d_Md_near_11 : decode prog_14_method_32_code 11 = .ok (.ireturn, 1) := by decide +kernel
theorem d_Md_near_12 : decode prog_14_method_32_code 12 = .ok (.aload_n 0, 1) := by decide +kernel
theorem d_Md_near_13 : decode prog_14_method_32_code 13 = .ok (.invokevirtual 46, 3) := by decide +kernel
theorem d_Md_near_16 : decode prog_14_method_32_code 16 = .ok (.ldc 120, 2) := by decide +kernel
theorem d_Md_near_18 : decode prog_14_method_32_code 18 = .ok (.istore_n 2, 1) := by decide +kernel
theorem d_Md_near_19 : decode prog_14_method_32_code 19 = .ok (.bipush (-6), 2) := by decide +kernel
theorem d_Md_near_21 : decode prog_14_method_32_code 21 = .ok (.istore_n 3, 1) := by decide +kernel
theorem d_Md_near_22 : decode prog_14_method_32_code 22 = .ok (.iconst 0, 1) := by decide +kernel
theorem d_Md_near_23 : decode prog_14_method_32_code 23 = .ok (.istore 4, 2) := by decide +kernel
theorem d_Md_near_25 : decode prog_14_method_32_code 25 = .ok (.iload 4, 2) := by decide +kernel
theorem d_Md_near_27 : decode prog_14_method_32_code 27 = .ok (.bipush 12, 2) := by decide +kernel
theorem d_Md_near_29 : decode prog_14_method_32_code 29 = .ok (.if_icmp .ge 136, 3) := by decide +kernel
theorem d_Md_near_32 : decode prog_14_method_32_code 32 = .ok (.aload_n 0, 1) := by decide +kernel
theorem d_Md_near_33 : decode prog_14_method_32_code 33 = .ok (.invokevirtual 78, 3) := by decide +kernel
theorem d_Md_near_36 : decode prog_14_method_32_code 36 = .ok (.ifCond .eq 129, 3) := by decide +kernel
theorem d_Md_near_39 : decode prog_14_method_32_code 39 = .ok (.iconst 0, 1) := by decide +kernel
theorem d_Md_near_40 : decode prog_14_method_32_code 40 = .ok (.istore 5, 2) := by decide +kernel
theorem d_Md_near_42 : decode prog_14_method_32_code 42 = .ok (.iconst 0, 1) := by decide +kernel
theorem d_Md_near_43 : decode prog_14_method_32_code 43 = .ok (.istore 6, 2) := by decide +kernel
theorem d_Md_near_45 : decode prog_14_method_32_code 45 = .ok (.iconst 0, 1) := by decide +kernel
theorem d_Md_near_46 : decode prog_14_method_32_code 46 = .ok (.istore 7, 2) := by decide +kernel
theorem d_Md_near_48 : decode prog_14_method_32_code 48 = .ok (.iload 7, 2) := by decide +kernel
theorem d_Md_near_50 : decode prog_14_method_32_code 50 = .ok (.bipush 6, 2) := by decide +kernel
theorem d_Md_near_52 : decode prog_14_method_32_code 52 = .ok (.if_icmp .ge 67, 3) := by decide +kernel
theorem d_Md_near_55 : decode prog_14_method_32_code 55 = .ok (.aload_n 0, 1) := by decide +kernel
theorem d_Md_near_56 : decode prog_14_method_32_code 56 = .ok (.getfield 13, 3) := by decide +kernel
theorem d_Md_near_59 : decode prog_14_method_32_code 59 = .ok (.bipush 12, 2) := by decide +kernel
theorem d_Md_near_61 : decode prog_14_method_32_code 61 = .ok (.iload 7, 2) := by decide +kernel
theorem d_Md_near_63 : decode prog_14_method_32_code 63 = .ok (.iadd, 1) := by decide +kernel
theorem d_Md_near_64 : decode prog_14_method_32_code 64 = .ok (.iaload, 1) := by decide +kernel
theorem d_Md_near_65 : decode prog_14_method_32_code 65 = .ok (.ifCond .ge 7, 3) := by decide +kernel
theorem d_Md_near_68 : decode prog_14_method_32_code 68 = .ok (.iconst 0, 1) := by decide +kernel
theorem d_Md_near_69 : decode prog_14_method_32_code 69 = .ok (.goto 19, 3) := by decide +kernel
theorem d_Md_near_72 : decode prog_14_method_32_code 72 = .ok (.aload_n 0, 1) := by decide +kernel
theorem d_Md_near_73 : decode prog_14_method_32_code 73 = .ok (.iload 4, 2) := by decide +kernel
theorem d_Md_near_75 : decode prog_14_method_32_code 75 = .ok (.aload_n 0, 1) := by decide +kernel
theorem d_Md_near_76 : decode prog_14_method_32_code 76 = .ok (.getfield 13, 3) := by decide +kernel
theorem d_Md_near_79 : decode prog_14_method_32_code 79 = .ok (.bipush 12, 2) := by decide +kernel
theorem d_Md_near_81 : decode prog_14_method_32_code 81 = .ok (.iload 7, 2) := by decide +kernel
theorem d_Md_near_83 : decode prog_14_method_32_code 83 = .ok (.iadd, 1) := by decide +kernel
theorem d_Md_near_84 : decode prog_14_method_32_code 84 = .ok (.iaload, 1) := by decide +kernel
theorem d_Md_near_85 : decode prog_14_method_32_code 85 = .ok (.invokevirtual 84, 3) := by decide +kernel
theorem d_Md_near_88 : decode prog_14_method_32_code 88 = .ok (.istore 8, 2) := by decide +kernel
theorem d_Md_near_90 : decode prog_14_method_32_code 90 = .ok (.iload 5, 2) := by decide +kernel
theorem d_Md_near_92 : decode prog_14_method_32_code 92 = .ok (.iload 8, 2) := by decide +kernel
theorem d_Md_near_94 : decode prog_14_method_32_code 94 = .ok (.iadd, 1) := by decide +kernel
theorem d_Md_near_95 : decode prog_14_method_32_code 95 = .ok (.istore 5, 2) := by decide +kernel
theorem d_Md_near_97 : decode prog_14_method_32_code 97 = .ok (.iload 8, 2) := by decide +kernel
theorem d_Md_near_99 : decode prog_14_method_32_code 99 = .ok (.iload 6, 2) := by decide +kernel
theorem d_Md_near_101 : decode prog_14_method_32_code 101 = .ok (.if_icmp .le 8, 3) := by decide +kernel
theorem d_Md_near_104 : decode prog_14_method_32_code 104 = .ok (.iload 8, 2) := by decide +kernel
theorem d_Md_near_106 : decode prog_14_method_32_code 106 = .ok (.goto 5, 3) := by decide +kernel
theorem d_Md_near_109 : decode prog_14_method_32_code 109 = .ok (.iload 6, 2) := by decide +kernel
theorem d_Md_near_111 : decode prog_14_method_32_code 111 = .ok (.istore 6, 2) := by decide +kernel
theorem d_Md_near_113 : decode prog_14_method_32_code 113 = .ok (.iinc 7 1, 3) := by decide +kernel
theorem d_Md_near_116 : decode prog_14_method_32_code 116 = .ok (.goto (-68), 3) := by decide +kernel
theorem d_Md_near_119 : decode prog_14_method_32_code 119 = .ok (.iload_n 1, 1) := by decide +kernel
theorem d_Md_near_120 : decode prog_14_method_32_code 120 = .ok (.iconst 2, 1) := by decide +kernel
theorem d_Md_near_121 : decode prog_14_method_32_code 121 = .ok (.if_icmp .ge 8, 3) := by decide +kernel
theorem d_Md_near_124 : decode prog_14_method_32_code 124 = .ok (.iload 5, 2) := by decide +kernel
theorem d_Md_near_126 : decode prog_14_method_32_code 126 = .ok (.goto 5, 3) := by decide +kernel
theorem d_Md_near_129 : decode prog_14_method_32_code 129 = .ok (.iload 6, 2) := by decide +kernel
theorem d_Md_near_131 : decode prog_14_method_32_code 131 = .ok (.istore 7, 2) := by decide +kernel
theorem d_Md_near_133 : decode prog_14_method_32_code 133 = .ok (.iload 7, 2) := by decide +kernel
theorem d_Md_near_135 : decode prog_14_method_32_code 135 = .ok (.iload_n 2, 1) := by decide +kernel
theorem d_Md_near_136 : decode prog_14_method_32_code 136 = .ok (.if_icmp .ge 8, 3) := by decide +kernel
theorem d_Md_near_139 : decode prog_14_method_32_code 139 = .ok (.iload 4, 2) := by decide +kernel
theorem d_Md_near_141 : decode prog_14_method_32_code 141 = .ok (.goto 4, 3) := by decide +kernel
theorem d_Md_near_144 : decode prog_14_method_32_code 144 = .ok (.iload_n 3, 1) := by decide +kernel
theorem d_Md_near_145 : decode prog_14_method_32_code 145 = .ok (.istore_n 3, 1) := by decide +kernel
theorem d_Md_near_146 : decode prog_14_method_32_code 146 = .ok (.iload 7, 2) := by decide +kernel
theorem d_Md_near_148 : decode prog_14_method_32_code 148 = .ok (.iload_n 2, 1) := by decide +kernel
theorem d_Md_near_149 : decode prog_14_method_32_code 149 = .ok (.if_icmp .ge 8, 3) := by decide +kernel
theorem d_Md_near_152 : decode prog_14_method_32_code 152 = .ok (.iload 7, 2) := by decide +kernel
theorem d_Md_near_154 : decode prog_14_method_32_code 154 = .ok (.goto 4, 3) := by decide +kernel
theorem d_Md_near_157 : decode prog_14_method_32_code 157 = .ok (.iload_n 2, 1) := by decide +kernel
theorem d_Md_near_158 : decode prog_14_method_32_code 158 = .ok (.istore_n 2, 1) := by decide +kernel
theorem d_Md_near_159 : decode prog_14_method_32_code 159 = .ok (.iinc 4 1, 3) := by decide +kernel
theorem d_Md_near_162 : decode prog_14_method_32_code 162 = .ok (.goto (-137), 3) := by decide +kernel
theorem d_Md_near_165 : decode prog_14_method_32_code 165 = .ok (.iload_n 3, 1) := by decide +kernel
theorem d_Md_near_166 : decode prog_14_method_32_code 166 = .ok (.ifCond .lt 9, 3) := by decide +kernel
theorem d_Md_near_169 : decode prog_14_method_32_code 169 = .ok (.iload_n 1, 1) := by decide +kernel
theorem d_Md_near_170 : decode prog_14_method_32_code 170 = .ok (.iconst 2, 1) := by decide +kernel
theorem d_Md_near_171 : decode prog_14_method_32_code 171 = .ok (.irem, 1) := by decide +kernel
theorem d_Md_near_172 : decode prog_14_method_32_code 172 = .ok (.ifCond .ne 7, 3) := by decide +kernel
theorem d_Md_near_175 : decode prog_14_method_32_code 175 = .ok (.iload_n 3, 1) := by decide +kernel
theorem d_Md_near_176 : decode prog_14_method_32_code 176 = .ok (.goto 4, 3) := by decide +kernel
theorem d_Md_near_179 : decode prog_14_method_32_code 179 = .ok (.iload_n 2, 1) := by decide +kernel
theorem d_Md_near_180 : decode prog_14_method_32_code 180 = .ok (.ireturn, 1) := by decide +kernel
theorem d_Md_room_0 : decode prog_14_method_33_code 0 = .ok (.iload_n 1, 1) := by decide +kernel
theorem d_Md_room_1 : decode prog_14_method_33_code 1 = .ok (.iconst 0, 1) := by decide +kernel
theorem d_Md_room_2 : decode prog_14_method_33_code 2 = .ok (.bipush 11, 2) := by decide +kernel
theorem d_Md_room_4 : decode prog_14_method_33_code 4 = .ok (.invokestatic 42, 3) := by decide +kernel
theorem d_Md_room_7 : decode prog_14_method_33_code 7 = .ok (.ifCond .eq 12, 3) := by decide +kernel
theorem d_Md_room_10 : decode prog_14_method_33_code 10 = .ok (.iload_n 2, 1) := by decide +kernel
theorem d_Md_room_11 : decode prog_14_method_33_code 11 = .ok (.iconst 0, 1) := by decide +kernel
theorem d_Md_room_12 : decode prog_14_method_33_code 12 = .ok (.iconst 1, 1) := by decide +kernel
theorem d_Md_room_13 : decode prog_14_method_33_code 13 = .ok (.invokestatic 42, 3) := by decide +kernel
theorem d_Md_room_16 : decode prog_14_method_33_code 16 = .ok (.ifCond .ne 6, 3) := by decide +kernel
theorem d_Md_room_19 : decode prog_14_method_33_code 19 = .ok (.bipush (-2), 2) := by decide +kernel
theorem d_Md_room_21 : decode prog_14_method_33_code 21 = .ok (.ireturn, 1) := by decide +kernel
theorem d_Md_room_22 : decode prog_14_method_33_code 22 = .ok (.aload_n 0, 1) := by decide +kernel
theorem d_Md_room_23 : decode prog_14_method_33_code 23 = .ok (.invokevirtual 46, 3) := by decide +kernel
theorem d_Md_room_26 : decode prog_14_method_33_code 26 = .ok (.iconst 0, 1) := by decide +kernel
theorem d_Md_room_27 : decode prog_14_method_33_code 27 = .ok (.istore_n 3, 1) := by decide +kernel
theorem d_Md_room_28 : decode prog_14_method_33_code 28 = .ok (.iconst 1, 1) := by decide +kernel
theorem d_Md_room_29 : decode prog_14_method_33_code 29 = .ok (.istore 4, 2) := by decide +kernel
theorem d_Md_room_31 : decode prog_14_method_33_code 31 = .ok (.iload 4, 2) := by decide +kernel
theorem d_Md_room_33 : decode prog_14_method_33_code 33 = .ok (.sipush 4096, 3) := by decide +kernel
theorem d_Md_room_36 : decode prog_14_method_33_code 36 = .ok (.if_icmp .ge 121, 3) := by decide +kernel
theorem d_Md_room_39 : decode prog_14_method_33_code 39 = .ok (.iload 4, 2) := by decide +kernel
theorem d_Md_room_41 : decode prog_14_method_33_code 41 = .ok (.invokestatic 81, 3) := by decide +kernel
theorem d_Md_room_44 : decode prog_14_method_33_code 44 = .ok (.iload_n 3, 1) := by decide +kernel
theorem d_Md_room_45 : decode prog_14_method_33_code 45 = .ok (.invokestatic 81, 3) := by decide +kernel
theorem d_Md_room_48 : decode prog_14_method_33_code 48 = .ok (.if_icmp .le 7, 3) := by decide +kernel
theorem d_Md_room_51 : decode prog_14_method_33_code 51 = .ok (.iconst 1, 1) := by decide +kernel
theorem d_Md_room_52 : decode prog_14_method_33_code 52 = .ok (.goto 4, 3) := by decide +kernel
theorem d_Md_room_55 : decode prog_14_method_33_code 55 = .ok (.iconst 0, 1) := by decide +kernel
theorem d_Md_room_56 : decode prog_14_method_33_code 56 = .ok (.istore 5, 2) := by decide +kernel
theorem d_Md_room_58 : decode prog_14_method_33_code 58 = .ok (.iconst 0, 1) := by decide +kernel
theorem d_Md_room_59 : decode prog_14_method_33_code 59 = .ok (.istore 6, 2) := by decide +kernel
theorem d_Md_room_61 : decode prog_14_method_33_code 61 = .ok (.iload 6, 2) := by decide +kernel
theorem d_Md_room_63 : decode prog_14_method_33_code 63 = .ok (.bipush 12, 2) := by decide +kernel
theorem d_Md_room_65 : decode prog_14_method_33_code 65 = .ok (.if_icmp .ge 74, 3) := by decide +kernel
theorem d_Md_room_68 : decode prog_14_method_33_code 68 = .ok (.iload 5, 2) := by decide +kernel
theorem d_Md_room_70 : decode prog_14_method_33_code 70 = .ok (.ifCond .eq 69, 3) := by decide +kernel
theorem d_Md_room_73 : decode prog_14_method_33_code 73 = .ok (.iconst 0, 1) := by decide +kernel
theorem d_Md_room_74 : decode prog_14_method_33_code 74 = .ok (.istore 7, 2) := by decide +kernel
theorem d_Md_room_76 : decode prog_14_method_33_code 76 = .ok (.iload 7, 2) := by decide +kernel
theorem d_Md_room_78 : decode prog_14_method_33_code 78 = .ok (.iload 6, 2) := by decide +kernel
theorem d_Md_room_80 : decode prog_14_method_33_code 80 = .ok (.if_icmp .ge 53, 3) := by decide +kernel
theorem d_Md_room_83 : decode prog_14_method_33_code 83 = .ok (.iload 4, 2) := by decide +kernel
theorem d_Md_room_85 : decode prog_14_method_33_code 85 = .ok (.iload 6, 2) := by decide +kernel
theorem d_Md_room_87 : decode prog_14_method_33_code 87 = .ok (.invokestatic 74, 3) := by decide +kernel
theorem d_Md_room_90 : decode prog_14_method_33_code 90 = .ok (.ifCond .eq 43, 3) := by decide +kernel
theorem d_Md_room_93 : decode prog_14_method_33_code 93 = .ok (.iload 5, 2) := by decide +kernel
theorem d_Md_room_95 : decode prog_14_method_33_code 95 = .ok (.ifCond .eq 29, 3) := by decide +kernel
theorem d_Md_room_98 : decode prog_14_method_33_code 98 = .ok (.iload 4, 2) := by decide +kernel
theorem d_Md_room_100 : decode prog_14_method_33_code 100 = .ok (.iload 7, 2) := by decide +kernel
theorem d_Md_room_102 : decode prog_14_method_33_code 102 = .ok (.invokestatic 74, 3) := by decide +kernel
theorem d_Md_room_105 : decode prog_14_method_33_code 105 = .ok (.ifCond .eq 15, 3) := by decide +kernel
theorem d_Md_room_108 : decode prog_14_method_33_code 108 = .ok (.aload_n 0, 1) := by decide +kernel
theorem d_Md_room_109 : decode prog_14_method_33_code 109 = .ok (.iload 6, 2) := by decide +kernel
theorem d_Md_room_111 : decode prog_14_method_33_code 111 = .ok (.iload 7, 2) := by decide +kernel
theorem d_Md_room_113 : decode prog_14_method_33_code 113 = .ok (.invokevirtual 84, 3) := by decide +kernel
theorem d_Md_room_116 : decode prog_14_method_33_code 116 = .ok (.iload_n 1, 1) := by decide +kernel
theorem d_Md_room_117 : decode prog_14_method_33_code 117 = .ok (.if_icmp .le 7, 3) := by decide +kernel
theorem d_Md_room_120 : decode prog_14_method_33_code 120 = .ok (.iconst 1, 1) := by decide +kernel
theorem d_Md_room_121 : decode prog_14_method_33_code 121 = .ok (.goto 4, 3) := by decide +kernel
theorem d_Md_room_124 : decode prog_14_method_33_code 124 = .ok (.iconst 0, 1) := by decide +kernel
theorem d_Md_room_125 : decode prog_14_method_33_code 125 = .ok (.istore 5, 2) := by decide +kernel
theorem d_Md_room_127 : decode prog_14_method_33_code 127 = .ok (.iinc 7 1, 3) := by decide +kernel
theorem d_Md_room_130 : decode prog_14_method_33_code 130 = .ok (.goto (-54), 3) := by decide +kernel
theorem d_Md_room_133 : decode prog_14_method_33_code 133 = .ok (.iinc 6 1, 3) := by decide +kernel
theorem d_Md_room_136 : decode prog_14_method_33_code 136 = .ok (.goto (-75), 3) := by decide +kernel
theorem d_Md_room_139 : decode prog_14_method_33_code 139 = .ok (.iload 5, 2) := by decide +kernel
theorem d_Md_room_141 : decode prog_14_method_33_code 141 = .ok (.ifCond .eq 8, 3) := by decide +kernel
theorem d_Md_room_144 : decode prog_14_method_33_code 144 = .ok (.iload 4, 2) := by decide +kernel
theorem d_Md_room_146 : decode prog_14_method_33_code 146 = .ok (.goto 4, 3) := by decide +kernel
theorem d_Md_room_149 : decode prog_14_method_33_code 149 = .ok (.iload_n 3, 1) := by decide +kernel
theorem d_Md_room_150 : decode prog_14_method_33_code 150 = .ok (.istore_n 3, 1) := by decide +kernel
theorem d_Md_room_151 : decode prog_14_method_33_code 151 = .ok (.iinc 4 1, 3) := by decide +kernel
theorem d_Md_room_154 : decode prog_14_method_33_code 154 = .ok (.goto (-123), 3) := by decide +kernel
theorem d_Md_room_157 : decode prog_14_method_33_code 157 = .ok (.iload_n 2, 1) := by decide +kernel
theorem d_Md_room_158 : decode prog_14_method_33_code 158 = .ok (.ifCond .ne 10, 3) := by decide +kernel
theorem d_Md_room_161 : decode prog_14_method_33_code 161 = .ok (.iload_n 3, 1) := by decide +kernel
theorem d_Md_room_162 : decode prog_14_method_33_code 162 = .ok (.invokestatic 81, 3) := by decide +kernel
theorem d_Md_room_165 : decode prog_14_method_33_code 165 = .ok (.goto 4, 3) := by decide +kernel
theorem d_Md_room_168 : decode prog_14_method_33_code 168 = .ok (.iload_n 3, 1) := by decide +kernel
theorem d_Md_room_169 : decode prog_14_method_33_code 169 = .ok (.ireturn, 1) := by decide +kernel
theorem d_Md_candles_0 : decode prog_14_method_34_code 0 = .ok (.iload_n 1, 1) := by decide +kernel
theorem d_Md_candles_1 : decode prog_14_method_34_code 1 = .ok (.iconst 0, 1) := by decide +kernel
theorem d_Md_candles_2 : decode prog_14_method_34_code 2 = .ok (.bipush 11, 2) := by decide +kernel
theorem d_Md_candles_4 : decode prog_14_method_34_code 4 = .ok (.invokestatic 42, 3) := by decide +kernel
theorem d_Md_candles_7 : decode prog_14_method_34_code 7 = .ok (.ifCond .eq 12, 3) := by decide +kernel
theorem d_Md_candles_10 : decode prog_14_method_34_code 10 = .ok (.iload_n 2, 1) := by decide +kernel
theorem d_Md_candles_11 : decode prog_14_method_34_code 11 = .ok (.iconst 0, 1) := by decide +kernel
theorem d_Md_candles_12 : decode prog_14_method_34_code 12 = .ok (.iconst 1, 1) := by decide +kernel
theorem d_Md_candles_13 : decode prog_14_method_34_code 13 = .ok (.invokestatic 42, 3) := by decide +kernel
theorem d_Md_candles_16 : decode prog_14_method_34_code 16 = .ok (.ifCond .ne 6, 3) := by decide +kernel
theorem d_Md_candles_19 : decode prog_14_method_34_code 19 = .ok (.bipush (-2), 2) := by decide +kernel
theorem d_Md_candles_21 : decode prog_14_method_34_code 21 = .ok (.ireturn, 1) := by decide +kernel
theorem d_Md_candles_22 : decode prog_14_method_34_code 22 = .ok (.aload_n 0, 1) := by decide +kernel
theorem d_Md_candles_23 : decode prog_14_method_34_code 23 = .ok (.invokevirtual 46, 3) := by decide +kernel
theorem d_Md_candles_26 : decode prog_14_method_34_code 26 = .ok (.sipush 4095, 3) := by decide +kernel
theorem d_Md_candles_29 : decode prog_14_method_34_code 29 = .ok (.istore_n 3, 1) := by decide +kernel
theorem d_Md_candles_30 : decode prog_14_method_34_code 30 = .ok (.iconst 1, 1) := by decide +kernel
theorem d_Md_candles_31 : decode prog_14_method_34_code 31 = .ok (.istore 4, 2) := by decide +kernel
theorem d_Md_candles_33 : decode prog_14_method_34_code 33 = .ok (.iload 4, 2) := by decide +kernel
theorem d_Md_candles_35 : decode prog_14_method_34_code 35 = .ok (.sipush 4095, 3) := by decide +kernel
theorem d_Md_candles_38 : decode prog_14_method_34_code 38 = .ok (.if_icmp .ge 118, 3) := by decide +kernel
theorem d_Md_candles_41 : decode prog_14_method_34_code 41 = .ok (.iload 4, 2) := by decide +kernel
theorem d_Md_candles_43 : decode prog_14_method_34_code 43 = .ok (.invokestatic 81, 3) := by decide +kernel
theorem d_Md_candles_46 : decode prog_14_method_34_code 46 = .ok (.iload_n 3, 1) := by decide +kernel
theorem d_Md_candles_47 : decode prog_14_method_34_code 47 = .ok (.invokestatic 81, 3) := by decide +kernel
theorem d_Md_candles_50 : decode prog_14_method_34_code 50 = .ok (.if_icmp .ge 7, 3) := by decide +kernel
theorem d_Md_candles_53 : decode prog_14_method_34_code 53 = .ok (.iconst 1, 1) := by decide +kernel
theorem d_Md_candles_54 : decode prog_14_method_34_code 54 = .ok (.goto 4, 3) := by decide +kernel
theorem d_Md_candles_57 : decode prog_14_method_34_code 57 = .ok (.iconst 0, 1) := by decide +kernel
theorem d_Md_candles_58 : decode prog_14_method_34_code 58 = .ok (.istore 5, 2) := by decide +kernel
theorem d_Md_candles_60 : decode prog_14_method_34_code 60 = .ok (.iconst 0, 1) := by decide +kernel
theorem d_Md_candles_61 : decode prog_14_method_34_code 61 = .ok (.istore 6, 2) := by decide +kernel
theorem d_Md_candles_63 : decode prog_14_method_34_code 63 = .ok (.iload 6, 2) := by decide +kernel
theorem d_Md_candles_65 : decode prog_14_method_34_code 65 = .ok (.bipush 12, 2) := by decide +kernel
theorem d_Md_candles_67 : decode prog_14_method_34_code 67 = .ok (.if_icmp .ge 71, 3) := by decide +kernel
theorem d_Md_candles_70 : decode prog_14_method_34_code 70 = .ok (.iload 5, 2) := by decide +kernel
theorem d_Md_candles_72 : decode prog_14_method_34_code 72 = .ok (.ifCond .eq 66, 3) := by decide +kernel
theorem d_Md_candles_75 : decode prog_14_method_34_code 75 = .ok (.iconst 0, 1) := by decide +kernel
theorem d_Md_candles_76 : decode prog_14_method_34_code 76 = .ok (.istore 7, 2) := by decide +kernel
theorem d_Md_candles_78 : decode prog_14_method_34_code 78 = .ok (.iconst 0, 1) := by decide +kernel
theorem d_Md_candles_79 : decode prog_14_method_34_code 79 = .ok (.istore 8, 2) := by decide +kernel
theorem d_Md_candles_81 : decode prog_14_method_34_code 81 = .ok (.iload 8, 2) := by decide +kernel
theorem d_Md_candles_83 : decode prog_14_method_34_code 83 = .ok (.bipush 12, 2) := by decide +kernel
theorem d_Md_candles_85 : decode prog_14_method_34_code 85 = .ok (.if_icmp .ge 43, 3) := by decide +kernel
theorem d_Md_candles_88 : decode prog_14_method_34_code 88 = .ok (.iload 7, 2) := by decide +kernel
theorem d_Md_candles_90 : decode prog_14_method_34_code 90 = .ok (.ifCond .ne 25, 3) := by decide +kernel
theorem d_Md_candles_93 : decode prog_14_method_34_code 93 = .ok (.iload 4, 2) := by decide +kernel
theorem d_Md_candles_95 : decode prog_14_method_34_code 95 = .ok (.iload 8, 2) := by decide +kernel
theorem d_Md_candles_97 : decode prog_14_method_34_code 97 = .ok (.invokestatic 74, 3) := by decide +kernel
theorem d_Md_candles_100 : decode prog_14_method_34_code 100 = .ok (.ifCond .eq 19, 3) := by decide +kernel
theorem d_Md_candles_103 : decode prog_14_method_34_code 103 = .ok (.aload_n 0, 1) := by decide +kernel
theorem d_Md_candles_104 : decode prog_14_method_34_code 104 = .ok (.iload 6, 2) := by decide +kernel
theorem d_Md_candles_106 : decode prog_14_method_34_code 106 = .ok (.iload 8, 2) := by decide +kernel
theorem d_Md_candles_108 : decode prog_14_method_34_code 108 = .ok (.invokevirtual 84, 3) := by decide +kernel
theorem d_Md_candles_111 : decode prog_14_method_34_code 111 = .ok (.iload_n 1, 1) := by decide +kernel
theorem d_Md_candles_112 : decode prog_14_method_34_code 112 = .ok (.if_icmp .gt 7, 3) := by decide +kernel
theorem d_Md_candles_115 : decode prog_14_method_34_code 115 = .ok (.iconst 1, 1) := by decide +kernel
theorem d_Md_candles_116 : decode prog_14_method_34_code 116 = .ok (.goto 4, 3) := by decide +kernel
theorem d_Md_candles_119 : decode prog_14_method_34_code 119 = .ok (.iconst 0, 1) := by decide +kernel
theorem d_Md_candles_120 : decode prog_14_method_34_code 120 = .ok (.istore 7, 2) := by decide +kernel
theorem d_Md_candles_122 : decode prog_14_method_34_code 122 = .ok (.iinc 8 1, 3) := by decide +kernel
theorem d_Md_candles_125 : decode prog_14_method_34_code 125 = .ok (.goto (-44), 3) := by decide +kernel
theorem d_Md_candles_128 : decode prog_14_method_34_code 128 = .ok (.iload 7, 2) := by decide +kernel
theorem d_Md_candles_130 : decode prog_14_method_34_code 130 = .ok (.istore 5, 2) := by decide +kernel
theorem d_Md_candles_132 : decode prog_14_method_34_code 132 = .ok (.iinc 6 1, 3) := by decide +kernel
theorem d_Md_candles_135 : decode prog_14_method_34_code 135 = .ok (.goto (-72), 3) := by decide +kernel
theorem d_Md_candles_138 : decode prog_14_method_34_code 138 = .ok (.iload 5, 2) := by decide +kernel
theorem d_Md_candles_140 : decode prog_14_method_34_code 140 = .ok (.ifCond .eq 8, 3) := by decide +kernel
theorem d_Md_candles_143 : decode prog_14_method_34_code 143 = .ok (.iload 4, 2) := by decide +kernel
theorem d_Md_candles_145 : decode prog_14_method_34_code 145 = .ok (.goto 4, 3) := by decide +kernel
theorem d_Md_candles_148 : decode prog_14_method_34_code 148 = .ok (.iload_n 3, 1) := by decide +kernel
theorem d_Md_candles_149 : decode prog_14_method_34_code 149 = .ok (.istore_n 3, 1) := by decide +kernel
theorem d_Md_candles_150 : decode prog_14_method_34_code 150 = .ok (.iinc 4 1, 3) := by decide +kernel
theorem d_Md_candles_153 : decode prog_14_method_34_code 153 = .ok (.goto (-120), 3) := by decide +kernel
theorem d_Md_candles_156 : decode prog_14_method_34_code 156 = .ok (.iload_n 2, 1) := by decide +kernel
theorem d_Md_candles_157 : decode prog_14_method_34_code 157 = .ok (.ifCond .ne 10, 3) := by decide +kernel
theorem d_Md_candles_160 : decode prog_14_method_34_code 160 = .ok (.iload_n 3, 1) := by decide +kernel
theorem d_Md_candles_161 : decode prog_14_method_34_code 161 = .ok (.invokestatic 81, 3) := by decide +kernel
theorem d_Md_candles_164 : decode prog_14_method_34_code 164 = .ok (.goto 4, 3) := by decide +kernel
theorem d_Md_candles_167 : decode prog_14_method_34_code 167 = .ok (.iload_n 3, 1) := by decide +kernel
theorem d_Md_candles_168 : decode prog_14_method_34_code 168 = .ok (.ireturn, 1) := by decide +kernel
theorem d_Md_seen_0 : decode prog_14_method_35_code 0 = .ok (.iload_n 1, 1) := by decide +kernel
theorem d_Md_seen_1 : decode prog_14_method_35_code 1 = .ok (.iconst 0, 1) := by decide +kernel
theorem d_Md_seen_2 : decode prog_14_method_35_code 2 = .ok (.bipush 11, 2) := by decide +kernel
theorem d_Md_seen_4 : decode prog_14_method_35_code 4 = .ok (.invokestatic 42, 3) := by decide +kernel
theorem d_Md_seen_7 : decode prog_14_method_35_code 7 = .ok (.ifCond .ne 5, 3) := by decide +kernel
theorem d_Md_seen_10 : decode prog_14_method_35_code 10 = .ok (.iconst (-1), 1) := by decide +kernel
theorem d_Md_seen_11 : decode prog_14_method_35_code 11 = .ok (.ireturn, 1) := by decide +kernel
theorem d_Md_seen_12 : decode prog_14_method_35_code 12 = .ok (.iload_n 2, 1) := by decide +kernel
theorem d_Md_seen_13 : decode prog_14_method_35_code 13 = .ok (.iconst 0, 1) := by decide +kernel
theorem d_Md_seen_14 : decode prog_14_method_35_code 14 = .ok (.bipush 11, 2) := by decide +kernel
theorem d_Md_seen_16 : decode prog_14_method_35_code 16 = .ok (.invokestatic 42, 3) := by decide +kernel
theorem d_Md_seen_19 : decode prog_14_method_35_code 19 = .ok (.ifCond .ne 6, 3) := by decide +kernel
theorem d_Md_seen_22 : decode prog_14_method_35_code 22 = .ok (.bipush (-2), 2) := by decide +kernel
theorem d_Md_seen_24 : decode prog_14_method_35_code 24 = .ok (.ireturn, 1) := by decide +kernel
theorem d_Md_seen_25 : decode prog_14_method_35_code 25 = .ok (.aload_n 0, 1) := by decide +kernel
theorem d_Md_seen_26 : decode prog_14_method_35_code 26 = .ok (.getfield 121, 3) := by decide +kernel
theorem d_Md_seen_29 : decode prog_14_method_35_code 29 = .ok (.bipush 8, 2) := by decide +kernel
theorem d_Md_seen_31 : decode prog_14_method_35_code 31 = .ok (.if_icmp .ne 6, 3) := by decide +kernel
theorem d_Md_seen_34 : decode prog_14_method_35_code 34 = .ok (.bipush (-4), 2) := by decide +kernel
theorem d_Md_seen_36 : decode prog_14_method_35_code 36 = .ok (.ireturn, 1) := by decide +kernel
theorem d_Md_seen_37 : decode prog_14_method_35_code 37 = .ok (.aload_n 0, 1) := by decide +kernel
theorem d_Md_seen_38 : decode prog_14_method_35_code 38 = .ok (.getfield 16, 3) := by decide +kernel
theorem d_Md_seen_41 : decode prog_14_method_35_code 41 = .ok (.iconst 2, 1) := by decide +kernel
theorem d_Md_seen_42 : decode prog_14_method_35_code 42 = .ok (.aload_n 0, 1) := by decide +kernel
theorem d_Md_seen_43 : decode prog_14_method_35_code 43 = .ok (.getfield 121, 3) := by decide +kernel
theorem d_Md_seen_46 : decode prog_14_method_35_code 46 = .ok (.imul, 1) := by decide +kernel
theorem d_Md_seen_47 : decode prog_14_method_35_code 47 = .ok (.iload_n 1, 1) := by decide +kernel
theorem d_Md_seen_48 : decode prog_14_method_35_code 48 = .ok (.iastore, 1) := by decide +kernel
theorem d_Md_seen_49 : decode prog_14_method_35_code 49 = .ok (.aload_n 0, 1) := by decide +kernel
theorem d_Md_seen_50 : decode prog_14_method_35_code 50 = .ok (.getfield 16, 3) := by decide +kernel
theorem d_Md_seen_53 : decode prog_14_method_35_code 53 = .ok (.iconst 2, 1) := by decide +kernel
theorem d_Md_seen_54 : decode prog_14_method_35_code 54 = .ok (.aload_n 0, 1) := by decide +kernel
theorem d_Md_seen_55 : decode prog_14_method_35_code 55 = .ok (.getfield 121, 3) := by decide +kernel
theorem d_Md_seen_58 : decode prog_14_method_35_code 58 = .ok (.imul, 1) := by decide +kernel
theorem d_Md_seen_59 : decode prog_14_method_35_code 59 = .ok (.iconst 1, 1) := by decide +kernel
theorem d_Md_seen_60 : decode prog_14_method_35_code 60 = .ok (.iadd, 1) := by decide +kernel
theorem d_Md_seen_61 : decode prog_14_method_35_code 61 = .ok (.iload_n 2, 1) := by decide +kernel
theorem d_Md_seen_62 : decode prog_14_method_35_code 62 = .ok (.iastore, 1) := by decide +kernel
theorem d_Md_seen_63 : decode prog_14_method_35_code 63 = .ok (.aload_n 0, 1) := by decide +kernel
theorem d_Md_seen_64 : decode prog_14_method_35_code 64 = .ok (.dup, 1) := by decide +kernel
theorem d_Md_seen_65 : decode prog_14_method_35_code 65 = .ok (.getfield 121, 3) := by decide +kernel
theorem d_Md_seen_68 : decode prog_14_method_35_code 68 = .ok (.iconst 1, 1) := by decide +kernel
theorem d_Md_seen_69 : decode prog_14_method_35_code 69 = .ok (.iadd, 1) := by decide +kernel
theorem d_Md_seen_70 : decode prog_14_method_35_code 70 = .ok (.putfield 121, 3) := by decide +kernel
theorem d_Md_seen_73 : decode prog_14_method_35_code 73 = .ok (.aload_n 0, 1) := by decide +kernel
theorem d_Md_seen_74 : decode prog_14_method_35_code 74 = .ok (.getfield 121, 3) := by decide +kernel
theorem d_Md_seen_77 : decode prog_14_method_35_code 77 = .ok (.ireturn, 1) := by decide +kernel
theorem d_Md_forget_0 : decode prog_14_method_36_code 0 = .ok (.aload_n 0, 1) := by decide +kernel
theorem d_Md_forget_1 : decode prog_14_method_36_code 1 = .ok (.getfield 121, 3) := by decide +kernel
theorem d_Md_forget_4 : decode prog_14_method_36_code 4 = .ok (.istore_n 1, 1) := by decide +kernel
theorem d_Md_forget_5 : decode prog_14_method_36_code 5 = .ok (.aload_n 0, 1) := by decide +kernel
theorem d_Md_forget_6 : decode prog_14_method_36_code 6 = .ok (.iconst 0, 1) := by decide +kernel
theorem d_Md_forget_7 : decode prog_14_method_36_code 7 = .ok (.putfield 121, 3) := by decide +kernel
theorem d_Md_forget_10 : decode prog_14_method_36_code 10 = .ok (.iload_n 1, 1) := by decide +kernel
theorem d_Md_forget_11 : decode prog_14_method_36_code 11 = .ok (.ireturn, 1) := by decide +kernel
theorem d_Md_isFit_0 : decode prog_14_method_37_code 0 = .ok (.iconst 1, 1) := by decide +kernel
theorem d_Md_isFit_1 : decode prog_14_method_37_code 1 = .ok (.istore_n 2, 1) := by decide +kernel
theorem d_Md_isFit_2 : decode prog_14_method_37_code 2 = .ok (.iconst 0, 1) := by decide +kernel
theorem d_Md_isFit_3 : decode prog_14_method_37_code 3 = .ok (.istore_n 3, 1) := by decide +kernel
theorem d_Md_isFit_4 : decode prog_14_method_37_code 4 = .ok (.iload_n 3, 1) := by decide +kernel
theorem d_Md_isFit_5 : decode prog_14_method_37_code 5 = .ok (.aload_n 0, 1) := by decide +kernel
theorem d_Md_isFit_6 : decode prog_14_method_37_code 6 = .ok (.getfield 121, 3) := by decide +kernel
theorem d_Md_isFit_9 : decode prog_14_method_37_code 9 = .ok (.if_icmp .ge 45, 3) := by decide +kernel
theorem d_Md_isFit_12 : decode prog_14_method_37_code 12 = .ok (.iload_n 2, 1) := by decide +kernel
theorem d_Md_isFit_13 : decode prog_14_method_37_code 13 = .ok (.ifCond .eq 41, 3) := by decide +kernel
theorem d_Md_isFit_16 : decode prog_14_method_37_code 16 = .ok (.aload_n 0, 1) := by decide +kernel
theorem d_Md_isFit_17 : decode prog_14_method_37_code 17 = .ok (.iload_n 1, 1) := by decide +kernel
theorem d_Md_isFit_18 : decode prog_14_method_37_code 18 = .ok (.aload_n 0, 1) := by decide +kernel
theorem d_Md_isFit_19 : decode prog_14_method_37_code 19 = .ok (.getfield 16, 3) := by decide +kernel
theorem d_Md_isFit_22 : decode prog_14_method_37_code 22 = .ok (.iconst 2, 1) := by decide +kernel
theorem d_Md_isFit_23 : decode prog_14_method_37_code 23 = .ok (.iload_n 3, 1) := by decide +kernel
theorem d_Md_isFit_24 : decode prog_14_method_37_code 24 = .ok (.imul, 1) := by decide +kernel
theorem d_Md_isFit_25 : decode prog_14_method_37_code 25 = .ok (.iaload, 1) := by decide +kernel
theorem d_Md_isFit_26 : decode prog_14_method_37_code 26 = .ok (.invokevirtual 84, 3) := by decide +kernel
theorem d_Md_isFit_29 : decode prog_14_method_37_code 29 = .ok (.aload_n 0, 1) := by decide +kernel
theorem d_Md_isFit_30 : decode prog_14_method_37_code 30 = .ok (.getfield 16, 3) := by decide +kernel
theorem d_Md_isFit_33 : decode prog_14_method_37_code 33 = .ok (.iconst 2, 1) := by decide +kernel
theorem d_Md_isFit_34 : decode prog_14_method_37_code 34 = .ok (.iload_n 3, 1) := by decide +kernel
theorem d_Md_isFit_35 : decode prog_14_method_37_code 35 = .ok (.imul, 1) := by decide +kernel
theorem d_Md_isFit_36 : decode prog_14_method_37_code 36 = .ok (.iconst 1, 1) := by decide +kernel
theorem d_Md_isFit_37 : decode prog_14_method_37_code 37 = .ok (.iadd, 1) := by decide +kernel
theorem d_Md_isFit_38 : decode prog_14_method_37_code 38 = .ok (.iaload, 1) := by decide +kernel
theorem d_Md_isFit_39 : decode prog_14_method_37_code 39 = .ok (.if_icmp .ne 7, 3) := by decide +kernel
theorem d_Md_isFit_42 : decode prog_14_method_37_code 42 = .ok (.iconst 1, 1) := by decide +kernel
theorem d_Md_isFit_43 : decode prog_14_method_37_code 43 = .ok (.goto 4, 3) := by decide +kernel
theorem d_Md_isFit_46 : decode prog_14_method_37_code 46 = .ok (.iconst 0, 1) := by decide +kernel
theorem d_Md_isFit_47 : decode prog_14_method_37_code 47 = .ok (.istore_n 2, 1) := by decide +kernel
theorem d_Md_isFit_48 : decode prog_14_method_37_code 48 = .ok (.iinc 3 1, 3) := by decide +kernel
theorem d_Md_isFit_51 : decode prog_14_method_37_code 51 = .ok (.goto (-47), 3) := by decide +kernel
theorem d_Md_isFit_54 : decode prog_14_method_37_code 54 = .ok (.iload_n 2, 1) := by decide +kernel
theorem d_Md_isFit_55 : decode prog_14_method_37_code 55 = .ok (.ireturn, 1) := by decide +kernel
theorem d_Md_where_0 : decode prog_14_method_38_code 0 = .ok (.aload_n 0, 1) := by decide +kernel
theorem d_Md_where_1 : decode prog_14_method_38_code 1 = .ok (.invokevirtual 46, 3) := by decide +kernel
theorem d_Md_where_4 : decode prog_14_method_38_code 4 = .ok (.iconst 0, 1) := by decide +kernel
theorem d_Md_where_5 : decode prog_14_method_38_code 5 = .ok (.istore_n 2, 1) := by decide +kernel
theorem d_Md_where_6 : decode prog_14_method_38_code 6 = .ok (.iconst 0, 1) := by decide +kernel
theorem d_Md_where_7 : decode prog_14_method_38_code 7 = .ok (.istore_n 3, 1) := by decide +kernel
theorem d_Md_where_8 : decode prog_14_method_38_code 8 = .ok (.iload_n 3, 1) := by decide +kernel
theorem d_Md_where_9 : decode prog_14_method_38_code 9 = .ok (.bipush 12, 2) := by decide +kernel
theorem d_Md_where_11 : decode prog_14_method_38_code 11 = .ok (.if_icmp .ge 27, 3) := by decide +kernel
theorem d_Md_where_14 : decode prog_14_method_38_code 14 = .ok (.aload_n 0, 1) := by decide +kernel
theorem d_Md_where_15 : decode prog_14_method_38_code 15 = .ok (.iload_n 3, 1) := by decide +kernel
theorem d_Md_where_16 : decode prog_14_method_38_code 16 = .ok (.invokevirtual 124, 3) := by decide +kernel
theorem d_Md_where_19 : decode prog_14_method_38_code 19 = .ok (.ifCond .eq 13, 3) := by decide +kernel
theorem d_Md_where_22 : decode prog_14_method_38_code 22 = .ok (.iload_n 2, 1) := by decide +kernel
theorem d_Md_where_23 : decode prog_14_method_38_code 23 = .ok (.iload_n 1, 1) := by decide +kernel
theorem d_Md_where_24 : decode prog_14_method_38_code 24 = .ok (.if_icmp .ne 5, 3) := by decide +kernel
theorem d_Md_where_27 : decode prog_14_method_38_code 27 = .ok (.iload_n 3, 1) := by decide +kernel
theorem d_Md_where_28 : decode prog_14_method_38_code 28 = .ok (.ireturn, 1) := by decide +kernel
theorem d_Md_where_29 : decode prog_14_method_38_code 29 = .ok (.iinc 2 1, 3) := by decide +kernel
theorem d_Md_where_32 : decode prog_14_method_38_code 32 = .ok (.iinc 3 1, 3) := by decide +kernel
theorem d_Md_where_35 : decode prog_14_method_38_code 35 = .ok (.goto (-27), 3) := by decide +kernel
theorem d_Md_where_38 : decode prog_14_method_38_code 38 = .ok (.iload_n 1, 1) := by decide +kernel
theorem d_Md_where_39 : decode prog_14_method_38_code 39 = .ok (.iconst (-1), 1) := by decide +kernel
theorem d_Md_where_40 : decode prog_14_method_38_code 40 = .ok (.if_icmp .ne 7, 3) := by decide +kernel
theorem d_Md_where_43 : decode prog_14_method_38_code 43 = .ok (.iload_n 2, 1) := by decide +kernel
theorem d_Md_where_44 : decode prog_14_method_38_code 44 = .ok (.goto 5, 3) := by decide +kernel
theorem d_Md_where_47 : decode prog_14_method_38_code 47 = .ok (.bipush (-6), 2) := by decide +kernel
theorem d_Md_where_49 : decode prog_14_method_38_code 49 = .ok (.ireturn, 1) := by decide +kernel
theorem d_Md_ask_0 : decode prog_14_method_39_code 0 = .ok (.iload_n 1, 1) := by decide +kernel
theorem d_Md_ask_1 : decode prog_14_method_39_code 1 = .ok (.iconst 0, 1) := by decide +kernel
theorem d_Md_ask_2 : decode prog_14_method_39_code 2 = .ok (.iconst 1, 1) := by decide +kernel
theorem d_Md_ask_3 : decode prog_14_method_39_code 3 = .ok (.invokestatic 42, 3) := by decide +kernel
theorem d_Md_ask_6 : decode prog_14_method_39_code 6 = .ok (.ifCond .ne 6, 3) := by decide +kernel
theorem d_Md_ask_9 : decode prog_14_method_39_code 9 = .ok (.bipush (-2), 2) := by decide +kernel
theorem d_Md_ask_11 : decode prog_14_method_39_code 11 = .ok (.ireturn, 1) := by decide +kernel
theorem d_Md_ask_12 : decode prog_14_method_39_code 12 = .ok (.aload_n 0, 1) := by decide +kernel
theorem d_Md_ask_13 : decode prog_14_method_39_code 13 = .ok (.invokevirtual 46, 3) := by decide +kernel
theorem d_Md_ask_16 : decode prog_14_method_39_code 16 = .ok (.bipush (-6), 2) := by decide +kernel
theorem d_Md_ask_18 : decode prog_14_method_39_code 18 = .ok (.istore_n 2, 1) := by decide +kernel
theorem d_Md_ask_19 : decode prog_14_method_39_code 19 = .ok (.ldc 120, 2) := by decide +kernel
theorem d_Md_ask_21 : decode prog_14_method_39_code 21 = .ok (.istore_n 3, 1) := by decide +kernel
theorem d_Md_ask_22 : decode prog_14_method_39_code 22 = .ok (.iconst 0, 1) := by decide +kernel
theorem d_Md_ask_23 : decode prog_14_method_39_code 23 = .ok (.istore 4, 2) := by decide +kernel
theorem d_Md_ask_25 : decode prog_14_method_39_code 25 = .ok (.iload 4, 2) := by decide +kernel
theorem d_Md_ask_27 : decode prog_14_method_39_code 27 = .ok (.bipush 12, 2) := by decide +kernel
theorem d_Md_ask_29 : decode prog_14_method_39_code 29 = .ok (.if_icmp .ge 150, 3) := by decide +kernel
theorem d_Md_ask_32 : decode prog_14_method_39_code 32 = .ok (.iconst 0, 1) := by decide +kernel
theorem d_Md_ask_33 : decode prog_14_method_39_code 33 = .ok (.istore 5, 2) := by decide +kernel
theorem d_Md_ask_35 : decode prog_14_method_39_code 35 = .ok (.iconst 0, 1) := by decide +kernel
theorem d_Md_ask_36 : decode prog_14_method_39_code 36 = .ok (.istore 6, 2) := by decide +kernel
theorem d_Md_ask_38 : decode prog_14_method_39_code 38 = .ok (.iload 6, 2) := by decide +kernel
theorem d_Md_ask_40 : decode prog_14_method_39_code 40 = .ok (.bipush 12, 2) := by decide +kernel
theorem d_Md_ask_42 : decode prog_14_method_39_code 42 = .ok (.if_icmp .ge 17, 3) := by decide +kernel
theorem d_Md_ask_45 : decode prog_14_method_39_code 45 = .ok (.aload_n 0, 1) := by decide +kernel
theorem d_Md_ask_46 : decode prog_14_method_39_code 46 = .ok (.getfield 25, 3) := by decide +kernel
theorem d_Md_ask_49 : decode prog_14_method_39_code 49 = .ok (.iload 6, 2) := by decide +kernel
theorem d_Md_ask_51 : decode prog_14_method_39_code 51 = .ok (.iconst 0, 1) := by decide +kernel
theorem d_Md_ask_52 : decode prog_14_method_39_code 52 = .ok (.iastore, 1) := by decide +kernel
theorem d_Md_ask_53 : decode prog_14_method_39_code 53 = .ok (.iinc 6 1, 3) := by decide +kernel
theorem d_Md_ask_56 : decode prog_14_method_39_code 56 = .ok (.goto (-18), 3) := by decide +kernel
theorem d_Md_ask_59 : decode prog_14_method_39_code 59 = .ok (.iconst 0, 1) := by decide +kernel
theorem d_Md_ask_60 : decode prog_14_method_39_code 60 = .ok (.istore 6, 2) := by decide +kernel
theorem d_Md_ask_62 : decode prog_14_method_39_code 62 = .ok (.iload 6, 2) := by decide +kernel
theorem d_Md_ask_64 : decode prog_14_method_39_code 64 = .ok (.bipush 12, 2) := by decide +kernel
theorem d_Md_ask_66 : decode prog_14_method_39_code 66 = .ok (.if_icmp .ge 65, 3) := by decide +kernel
theorem d_Md_ask_69 : decode prog_14_method_39_code 69 = .ok (.aload_n 0, 1) := by decide +kernel
theorem d_Md_ask_70 : decode prog_14_method_39_code 70 = .ok (.iload 6, 2) := by decide +kernel
theorem d_Md_ask_72 : decode prog_14_method_39_code 72 = .ok (.invokevirtual 124, 3) := by decide +kernel
theorem d_Md_ask_75 : decode prog_14_method_39_code 75 = .ok (.ifCond .eq 50, 3) := by decide +kernel
theorem d_Md_ask_78 : decode prog_14_method_39_code 78 = .ok (.aload_n 0, 1) := by decide +kernel
theorem d_Md_ask_79 : decode prog_14_method_39_code 79 = .ok (.iload 4, 2) := by decide +kernel
theorem d_Md_ask_81 : decode prog_14_method_39_code 81 = .ok (.iload 6, 2) := by decide +kernel
theorem d_Md_ask_83 : decode prog_14_method_39_code 83 = .ok (.invokevirtual 84, 3) := by decide +kernel
theorem d_Md_ask_86 : decode prog_14_method_39_code 86 = .ok (.istore 7, 2) := by decide +kernel
theorem d_Md_ask_88 : decode prog_14_method_39_code 88 = .ok (.aload_n 0, 1) := by decide +kernel
theorem d_Md_ask_89 : decode prog_14_method_39_code 89 = .ok (.getfield 25, 3) := by decide +kernel
theorem d_Md_ask_92 : decode prog_14_method_39_code 92 = .ok (.iload 7, 2) := by decide +kernel
theorem d_Md_ask_94 : decode prog_14_method_39_code 94 = .ok (.dup2, 1) := by decide +kernel
theorem d_Md_ask_95 : decode prog_14_method_39_code 95 = .ok (.iaload, 1) := by decide +kernel
theorem d_Md_ask_96 : decode prog_14_method_39_code 96 = .ok (.iconst 1, 1) := by decide +kernel
theorem d_Md_ask_97 : decode prog_14_method_39_code 97 = .ok (.iadd, 1) := by decide +kernel
theorem d_Md_ask_98 : decode prog_14_method_39_code 98 = .ok (.iastore, 1) := by decide +kernel
theorem d_Md_ask_99 : decode prog_14_method_39_code 99 = .ok (.aload_n 0, 1) := by decide +kernel
theorem d_Md_ask_100 : decode prog_14_method_39_code 100 = .ok (.getfield 25, 3) := by decide +kernel
theorem d_Md_ask_103 : decode prog_14_method_39_code 103 = .ok (.iload 7, 2) := by decide +kernel
theorem d_Md_ask_105 : decode prog_14_method_39_code 105 = .ok (.iaload, 1) := by decide +kernel
theorem d_Md_ask_106 : decode prog_14_method_39_code 106 = .ok (.iload 5, 2) := by decide +kernel
theorem d_Md_ask_108 : decode prog_14_method_39_code 108 = .ok (.if_icmp .le 13, 3) := by decide +kernel
theorem d_Md_ask_111 : decode prog_14_method_39_code 111 = .ok (.aload_n 0, 1) := by decide +kernel
theorem d_Md_ask_112 : decode prog_14_method_39_code 112 = .ok (.getfield 25, 3) := by decide +kernel
theorem d_Md_ask_115 : decode prog_14_method_39_code 115 = .ok (.iload 7, 2) := by decide +kernel
theorem d_Md_ask_117 : decode prog_14_method_39_code 117 = .ok (.iaload, 1) := by decide +kernel
theorem d_Md_ask_118 : decode prog_14_method_39_code 118 = .ok (.goto 5, 3) := by decide +kernel
theorem d_Md_ask_121 : decode prog_14_method_39_code 121 = .ok (.iload 5, 2) := by decide +kernel
theorem d_Md_ask_123 : decode prog_14_method_39_code 123 = .ok (.istore 5, 2) := by decide +kernel
theorem d_Md_ask_125 : decode prog_14_method_39_code 125 = .ok (.iinc 6 1, 3) := by decide +kernel
theorem d_Md_ask_128 : decode prog_14_method_39_code 128 = .ok (.goto (-66), 3) := by decide +kernel
theorem d_Md_ask_131 : decode prog_14_method_39_code 131 = .ok (.iload 5, 2) := by decide +kernel
theorem d_Md_ask_133 : decode prog_14_method_39_code 133 = .ok (.ifCond .le 13, 3) := by decide +kernel
theorem d_Md_ask_136 : decode prog_14_method_39_code 136 = .ok (.iload 5, 2) := by decide +kernel
theorem d_Md_ask_138 : decode prog_14_method_39_code 138 = .ok (.iload_n 3, 1) := by decide +kernel
theorem d_Md_ask_139 : decode prog_14_method_39_code 139 = .ok (.if_icmp .ge 7, 3) := by decide +kernel
theorem d_Md_ask_142 : decode prog_14_method_39_code 142 = .ok (.iconst 1, 1) := by decide +kernel
theorem d_Md_ask_143 : decode prog_14_method_39_code 143 = .ok (.goto 4, 3) := by decide +kernel
theorem d_Md_ask_146 : decode prog_14_method_39_code 146 = .ok (.iconst 0, 1) := by decide +kernel
theorem d_Md_ask_147 : decode prog_14_method_39_code 147 = .ok (.istore 6, 2) := by decide +kernel
theorem d_Md_ask_149 : decode prog_14_method_39_code 149 = .ok (.iload 6, 2) := by decide +kernel
theorem d_Md_ask_151 : decode prog_14_method_39_code 151 = .ok (.ifCond .eq 8, 3) := by decide +kernel
theorem d_Md_ask_154 : decode prog_14_method_39_code 154 = .ok (.iload 4, 2) := by decide +kernel
theorem d_Md_ask_156 : decode prog_14_method_39_code 156 = .ok (.goto 4, 3) := by decide +kernel
theorem d_Md_ask_159 : decode prog_14_method_39_code 159 = .ok (.iload_n 2, 1) := by decide +kernel
theorem d_Md_ask_160 : decode prog_14_method_39_code 160 = .ok (.istore_n 2, 1) := by decide +kernel
theorem d_Md_ask_161 : decode prog_14_method_39_code 161 = .ok (.iload 6, 2) := by decide +kernel
theorem d_Md_ask_163 : decode prog_14_method_39_code 163 = .ok (.ifCond .eq 8, 3) := by decide +kernel
theorem d_Md_ask_166 : decode prog_14_method_39_code 166 = .ok (.iload 5, 2) := by decide +kernel
theorem d_Md_ask_168 : decode prog_14_method_39_code 168 = .ok (.goto 4, 3) := by decide +kernel
theorem d_Md_ask_171 : decode prog_14_method_39_code 171 = .ok (.iload_n 3, 1) := by decide +kernel
theorem d_Md_ask_172 : decode prog_14_method_39_code 172 = .ok (.istore_n 3, 1) := by decide +kernel
theorem d_Md_ask_173 : decode prog_14_method_39_code 173 = .ok (.iinc 4 1, 3) := by decide +kernel
theorem d_Md_ask_176 : decode prog_14_method_39_code 176 = .ok (.goto (-151), 3) := by decide +kernel
theorem d_Md_ask_179 : decode prog_14_method_39_code 179 = .ok (.iload_n 2, 1) := by decide +kernel
theorem d_Md_ask_180 : decode prog_14_method_39_code 180 = .ok (.ifCond .lt 7, 3) := by decide +kernel
theorem d_Md_ask_183 : decode prog_14_method_39_code 183 = .ok (.iload_n 1, 1) := by decide +kernel
theorem d_Md_ask_184 : decode prog_14_method_39_code 184 = .ok (.ifCond .ne 7, 3) := by decide +kernel
theorem d_Md_ask_187 : decode prog_14_method_39_code 187 = .ok (.iload_n 2, 1) := by decide +kernel
theorem d_Md_ask_188 : decode prog_14_method_39_code 188 = .ok (.goto 4, 3) := by decide +kernel
theorem d_Md_ask_191 : decode prog_14_method_39_code 191 = .ok (.iload_n 3, 1) := by decide +kernel
theorem d_Md_ask_192 : decode prog_14_method_39_code 192 = .ok (.ireturn, 1) := by decide +kernel
theorem d_Md_worthOf_0 : decode prog_14_method_40_code 0 = .ok (.iconst 0, 1) := by decide +kernel
theorem d_Md_worthOf_1 : decode prog_14_method_40_code 1 = .ok (.istore_n 2, 1) := by decide +kernel
theorem d_Md_worthOf_2 : decode prog_14_method_40_code 2 = .ok (.iload_n 2, 1) := by decide +kernel
theorem d_Md_worthOf_3 : decode prog_14_method_40_code 3 = .ok (.bipush 12, 2) := by decide +kernel
theorem d_Md_worthOf_5 : decode prog_14_method_40_code 5 = .ok (.if_icmp .ge 16, 3) := by decide +kernel
theorem d_Md_worthOf_8 : decode prog_14_method_40_code 8 = .ok (.aload_n 0, 1) := by decide +kernel
theorem d_Md_worthOf_9 : decode prog_14_method_40_code 9 = .ok (.getfield 28, 3) := by decide +kernel
theorem d_Md_worthOf_12 : decode prog_14_method_40_code 12 = .ok (.iload_n 2, 1) := by decide +kernel
theorem d_Md_worthOf_13 : decode prog_14_method_40_code 13 = .ok (.iconst 0, 1) := by decide +kernel
theorem d_Md_worthOf_14 : decode prog_14_method_40_code 14 = .ok (.iastore, 1) := by decide +kernel
theorem d_Md_worthOf_15 : decode prog_14_method_40_code 15 = .ok (.iinc 2 1, 3) := by decide +kernel
theorem d_Md_worthOf_18 : decode prog_14_method_40_code 18 = .ok (.goto (-16), 3) := by decide +kernel
theorem d_Md_worthOf_21 : decode prog_14_method_40_code 21 = .ok (.bipush 11, 2) := by decide +kernel
theorem d_Md_worthOf_23 : decode prog_14_method_40_code 23 = .ok (.istore_n 2, 1) := by decide +kernel
theorem d_Md_worthOf_24 : decode prog_14_method_40_code 24 = .ok (.iload_n 2, 1) := by decide +kernel
theorem d_Md_worthOf_25 : decode prog_14_method_40_code 25 = .ok (.ifCond .le 40, 3) := by decide +kernel
theorem d_Md_worthOf_28 : decode prog_14_method_40_code 28 = .ok (.aload_n 0, 1) := by decide +kernel
theorem d_Md_worthOf_29 : decode prog_14_method_40_code 29 = .ok (.getfield 28, 3) := by decide +kernel
theorem d_Md_worthOf_32 : decode prog_14_method_40_code 32 = .ok (.aload_n 0, 1) := by decide +kernel
theorem d_Md_worthOf_33 : decode prog_14_method_40_code 33 = .ok (.getfield 7, 3) := by decide +kernel
theorem d_Md_worthOf_36 : decode prog_14_method_40_code 36 = .ok (.iload_n 2, 1) := by decide +kernel
theorem d_Md_worthOf_37 : decode prog_14_method_40_code 37 = .ok (.iaload, 1) := by decide +kernel
theorem d_Md_worthOf_38 : decode prog_14_method_40_code 38 = .ok (.dup2, 1) := by decide +kernel
theorem d_Md_worthOf_39 : decode prog_14_method_40_code 39 = .ok (.iaload, 1) := by decide +kernel
theorem d_Md_worthOf_40 : decode prog_14_method_40_code 40 = .ok (.iload_n 2, 1) := by decide +kernel
theorem d_Md_worthOf_41 : decode prog_14_method_40_code 41 = .ok (.iload_n 1, 1) := by decide +kernel
theorem d_Md_worthOf_42 : decode prog_14_method_40_code 42 = .ok (.if_icmp .ne 7, 3) := by decide +kernel
theorem d_Md_worthOf_45 : decode prog_14_method_40_code 45 = .ok (.iconst 0, 1) := by decide +kernel
theorem d_Md_worthOf_46 : decode prog_14_method_40_code 46 = .ok (.goto 11, 3) := by decide +kernel
theorem d_Md_worthOf_49 : decode prog_14_method_40_code 49 = .ok (.aload_n 0, 1) := by decide +kernel
theorem d_Md_worthOf_50 : decode prog_14_method_40_code 50 = .ok (.getfield 28, 3) := by decide +kernel
theorem d_Md_worthOf_53 : decode prog_14_method_40_code 53 = .ok (.iload_n 2, 1) := by decide +kernel
theorem d_Md_worthOf_54 : decode prog_14_method_40_code 54 = .ok (.iaload, 1) := by decide +kernel
theorem d_Md_worthOf_55 : decode prog_14_method_40_code 55 = .ok (.iconst 1, 1) := by decide +kernel
theorem d_Md_worthOf_56 : decode prog_14_method_40_code 56 = .ok (.iadd, 1) := by decide +kernel
theorem d_Md_worthOf_57 : decode prog_14_method_40_code 57 = .ok (.ixor, 1) := by decide +kernel
theorem d_Md_worthOf_58 : decode prog_14_method_40_code 58 = .ok (.iastore, 1) := by decide +kernel
theorem d_Md_worthOf_59 : decode prog_14_method_40_code 59 = .ok (.iinc 2 (-1), 3) := by decide +kernel
theorem d_Md_worthOf_62 : decode prog_14_method_40_code 62 = .ok (.goto (-38), 3) := by decide +kernel
theorem d_Md_worthOf_65 : decode prog_14_method_40_code 65 = .ok (.aload_n 0, 1) := by decide +kernel
theorem d_Md_worthOf_66 : decode prog_14_method_40_code 66 = .ok (.getfield 28, 3) := by decide +kernel
theorem d_Md_worthOf_69 : decode prog_14_method_40_code 69 = .ok (.iconst 0, 1) := by decide +kernel
theorem d_Md_worthOf_70 : decode prog_14_method_40_code 70 = .ok (.iaload, 1) := by decide +kernel
theorem d_Md_worthOf_71 : decode prog_14_method_40_code 71 = .ok (.ireturn, 1) := by decide +kernel
theorem d_Md_cut_0 : decode prog_14_method_41_code 0 = .ok (.iload_n 1, 1) := by decide +kernel
theorem d_Md_cut_1 : decode prog_14_method_41_code 1 = .ok (.iconst 0, 1) := by decide +kernel
theorem d_Md_cut_2 : decode prog_14_method_41_code 2 = .ok (.iconst 1, 1) := by decide +kernel
theorem d_Md_cut_3 : decode prog_14_method_41_code 3 = .ok (.invokestatic 42, 3) := by decide +kernel
theorem d_Md_cut_6 : decode prog_14_method_41_code 6 = .ok (.ifCond .ne 6, 3) := by decide +kernel
theorem d_Md_cut_9 : decode prog_14_method_41_code 9 = .ok (.bipush (-2), 2) := by decide +kernel
theorem d_Md_cut_11 : decode prog_14_method_41_code 11 = .ok (.ireturn, 1) := by decide +kernel
theorem d_Md_cut_12 : decode prog_14_method_41_code 12 = .ok (.bipush (-6), 2) := by decide +kernel
theorem d_Md_cut_14 : decode prog_14_method_41_code 14 = .ok (.istore_n 2, 1) := by decide +kernel
theorem d_Md_cut_15 : decode prog_14_method_41_code 15 = .ok (.bipush 11, 2) := by decide +kernel
theorem d_Md_cut_17 : decode prog_14_method_41_code 17 = .ok (.istore_n 3, 1) := by decide +kernel
theorem d_Md_cut_18 : decode prog_14_method_41_code 18 = .ok (.iload_n 3, 1) := by decide +kernel
theorem d_Md_cut_19 : decode prog_14_method_41_code 19 = .ok (.ifCond .le 23, 3) := by decide +kernel
theorem d_Md_cut_22 : decode prog_14_method_41_code 22 = .ok (.aload_n 0, 1) := by decide +kernel
theorem d_Md_cut_23 : decode prog_14_method_41_code 23 = .ok (.iload_n 3, 1) := by decide +kernel
theorem d_Md_cut_24 : decode prog_14_method_41_code 24 = .ok (.invokevirtual 128, 3) := by decide +kernel
theorem d_Md_cut_27 : decode prog_14_method_41_code 27 = .ok (.ifCond .ne 7, 3) := by decide +kernel
theorem d_Md_cut_30 : decode prog_14_method_41_code 30 = .ok (.iload_n 3, 1) := by decide +kernel
theorem d_Md_cut_31 : decode prog_14_method_41_code 31 = .ok (.goto 4, 3) := by decide +kernel
theorem d_Md_cut_34 : decode prog_14_method_41_code 34 = .ok (.iload_n 2, 1) := by decide +kernel
theorem d_Md_cut_35 : decode prog_14_method_41_code 35 = .ok (.istore_n 2, 1) := by decide +kernel
theorem d_Md_cut_36 : decode prog_14_method_41_code 36 = .ok (.iinc 3 (-1), 3) := by decide +kernel
theorem d_Md_cut_39 : decode prog_14_method_41_code 39 = .ok (.goto (-21), 3) := by decide +kernel
theorem d_Md_cut_42 : decode prog_14_method_41_code 42 = .ok (.iload_n 1, 1) := by decide +kernel
theorem d_Md_cut_43 : decode prog_14_method_41_code 43 = .ok (.iconst 1, 1) := by decide +kernel
theorem d_Md_cut_44 : decode prog_14_method_41_code 44 = .ok (.if_icmp .ne 7, 3) := by decide +kernel
theorem d_Md_cut_47 : decode prog_14_method_41_code 47 = .ok (.iload_n 2, 1) := by decide +kernel
theorem d_Md_cut_48 : decode prog_14_method_41_code 48 = .ok (.goto 12, 3) := by decide +kernel
theorem d_Md_cut_51 : decode prog_14_method_41_code 51 = .ok (.iload_n 2, 1) := by decide +kernel
theorem d_Md_cut_52 : decode prog_14_method_41_code 52 = .ok (.ifCond .ge 7, 3) := by decide +kernel
theorem d_Md_cut_55 : decode prog_14_method_41_code 55 = .ok (.iconst 0, 1) := by decide +kernel
theorem d_Md_cut_56 : decode prog_14_method_41_code 56 = .ok (.goto 4, 3) := by decide +kernel
theorem d_Md_cut_59 : decode prog_14_method_41_code 59 = .ok (.iconst 1, 1) := by decide +kernel
theorem d_Md_cut_60 : decode prog_14_method_41_code 60 = .ok (.ireturn, 1) := by decide +kernel
theorem d_Md_layChoices_0 : decode prog_14_method_42_code 0 = .ok (.iconst 0, 1) := by decide +kernel
theorem d_Md_layChoices_1 : decode prog_14_method_42_code 1 = .ok (.istore_n 1, 1) := by decide +kernel
theorem d_Md_layChoices_2 : decode prog_14_method_42_code 2 = .ok (.iload_n 1, 1) := by decide +kernel
theorem d_Md_layChoices_3 : decode prog_14_method_42_code 3 = .ok (.bipush 41, 2) := by decide +kernel
theorem d_Md_layChoices_5 : decode prog_14_method_42_code 5 = .ok (.if_icmp .ge 81, 3) := by decide +kernel
theorem d_Md_layChoices_8 : decode prog_14_method_42_code 8 = .ok (.iconst 0, 1) := by decide +kernel
theorem d_Md_layChoices_9 : decode prog_14_method_42_code 9 = .ok (.istore_n 2, 1) := by decide +kernel
theorem d_Md_layChoices_10 : decode prog_14_method_42_code 10 = .ok (.iload_n 2, 1) := by decide +kernel
theorem d_Md_layChoices_11 : decode prog_14_method_42_code 11 = .ok (.bipush 41, 2) := by decide +kernel
theorem d_Md_layChoices_13 : decode prog_14_method_42_code 13 = .ok (.if_icmp .ge 67, 3) := by decide +kernel
theorem d_Md_layChoices_16 : decode prog_14_method_42_code 16 = .ok (.aload_n 0, 1) := by decide +kernel
theorem d_Md_layChoices_17 : decode prog_14_method_42_code 17 = .ok (.getfield 31, 3) := by decide +kernel
theorem d_Md_layChoices_20 : decode prog_14_method_42_code 20 = .ok (.bipush 41, 2) := by decide +kernel
theorem d_Md_layChoices_22 : decode prog_14_method_42_code 22 = .ok (.iload_n 1, 1) := by decide +kernel
theorem d_Md_layChoices_23 : decode prog_14_method_42_code 23 = .ok (.imul, 1) := by decide +kernel
theorem d_Md_layChoices_24 : decode prog_14_method_42_code 24 = .ok (.iload_n 2, 1) := by decide +kernel
theorem d_Md_layChoices_25 : decode prog_14_method_42_code 25 = .ok (.iadd, 1) := by decide +kernel
theorem d_Md_layChoices_26 : decode prog_14_method_42_code 26 = .ok (.iload_n 2, 1) := by decide +kernel
theorem d_Md_layChoices_27 : decode prog_14_method_42_code 27 = .ok (.ifCond .ne 7, 3) := by decide +kernel
theorem d_Md_layChoices_30 : decode prog_14_method_42_code 30 = .ok (.lconst 1, 1) := by decide +kernel
theorem d_Md_layChoices_31 : decode prog_14_method_42_code 31 = .ok (.goto 42, 3) := by decide +kernel
theorem d_Md_layChoices_34 : decode prog_14_method_42_code 34 = .ok (.iload_n 1, 1) := by decide +kernel
theorem d_Md_layChoices_35 : decode prog_14_method_42_code 35 = .ok (.ifCond .ne 7, 3) := by decide +kernel
theorem d_Md_layChoices_38 : decode prog_14_method_42_code 38 = .ok (.lconst 0, 1) := by decide +kernel
theorem d_Md_layChoices_39 : decode prog_14_method_42_code 39 = .ok (.goto 34, 3) := by decide +kernel
theorem d_Md_layChoices_42 : decode prog_14_method_42_code 42 = .ok (.aload_n 0, 1) := by decide +kernel
theorem d_Md_layChoices_43 : decode prog_14_method_42_code 43 = .ok (.getfield 31, 3) := by decide +kernel
theorem d_Md_layChoices_46 : decode prog_14_method_42_code 46 = .ok (.bipush 41, 2) := by decide +kernel
theorem d_Md_layChoices_48 : decode prog_14_method_42_code 48 = .ok (.iload_n 1, 1) := by decide +kernel
theorem d_Md_layChoices_49 : decode prog_14_method_42_code 49 = .ok (.imul, 1) := by decide +kernel
theorem d_Md_layChoices_50 : decode prog_14_method_42_code 50 = .ok (.bipush 41, 2) := by decide +kernel
theorem d_Md_layChoices_52 : decode prog_14_method_42_code 52 = .ok (.isub, 1) := by decide +kernel
theorem d_Md_layChoices_53 : decode prog_14_method_42_code 53 = .ok (.iload_n 2, 1) := by decide +kernel
theorem d_Md_layChoices_54 : decode prog_14_method_42_code 54 = .ok (.iadd, 1) := by decide +kernel
theorem d_Md_layChoices_55 : decode prog_14_method_42_code 55 = .ok (.laload, 1) := by decide +kernel
theorem d_Md_layChoices_56 : decode prog_14_method_42_code 56 = .ok (.aload_n 0, 1) := by decide +kernel
theorem d_Md_layChoices_57 : decode prog_14_method_42_code 57 = .ok (.getfield 31, 3) := by decide +kernel
theorem d_Md_layChoices_60 : decode prog_14_method_42_code 60 = .ok (.bipush 41, 2) := by decide +kernel
theorem d_Md_layChoices_62 : decode prog_14_method_42_code 62 = .ok (.iload_n 1, 1) := by decide +kernel
theorem d_Md_layChoices_63 : decode prog_14_method_42_code 63 = .ok (.imul, 1) := by decide +kernel
theorem d_Md_layChoices_64 : decode prog_14_method_42_code 64 = .ok (.bipush 41, 2) := by decide +kernel
theorem d_Md_layChoices_66 : decode prog_14_method_42_code 66 = .ok (.isub, 1) := by decide +kernel
theorem d_Md_layChoices_67 : decode prog_14_method_42_code 67 = .ok (.iload_n 2, 1) := by decide +kernel
theorem d_Md_layChoices_68 : decode prog_14_method_42_code 68 = .ok (.iadd, 1) := by decide +kernel
theorem d_Md_layChoices_69 : decode prog_14_method_42_code 69 = .ok (.iconst 1, 1) := by decide +kernel
theorem d_Md_layChoices_70 : decode prog_14_method_42_code 70 = .ok (.isub, 1) := by decide +kernel
theorem d_Md_layChoices_71 : decode prog_14_method_42_code 71 = .ok (.laload, 1) := by decide +kernel
theorem d_Md_layChoices_72 : decode prog_14_method_42_code 72 = .ok (.ladd, 1) := by decide +kernel
theorem d_Md_layChoices_73 : decode prog_14_method_42_code 73 = .ok (.lastore, 1) := by decide +kernel
theorem d_Md_layChoices_74 : decode prog_14_method_42_code 74 = .ok (.iinc 2 1, 3) := by decide +kernel
theorem d_Md_layChoices_77 : decode prog_14_method_42_code 77 = .ok (.goto (-67), 3) := by decide +kernel
theorem d_Md_layChoices_80 : decode prog_14_method_42_code 80 = .ok (.iinc 1 1, 3) := by decide +kernel
theorem d_Md_layChoices_83 : decode prog_14_method_42_code 83 = .ok (.goto (-81), 3) := by decide +kernel
theorem d_Md_layChoices_86 : decode prog_14_method_42_code 86 = .ok (.return_, 1) := by decide +kernel
theorem d_Md_lowest_0 : decode prog_14_method_43_code 0 = .ok (.lload_n 0, 1) := by decide +kernel
theorem d_Md_lowest_1 : decode prog_14_method_43_code 1 = .ok (.lstore 5, 2) := by decide +kernel
theorem d_Md_lowest_3 : decode prog_14_method_43_code 3 = .ok (.lload_n 2, 1) := by decide +kernel
theorem d_Md_lowest_4 : decode prog_14_method_43_code 4 = .ok (.lstore 7, 2) := by decide +kernel
theorem d_Md_lowest_6 : decode prog_14_method_43_code 6 = .ok (.lload 7, 2) := by decide +kernel
theorem d_Md_lowest_8 : decode prog_14_method_43_code 8 = .ok (.lconst 0, 1) := by decide +kernel
theorem d_Md_lowest_9 : decode prog_14_method_43_code 9 = .ok (.lcmp, 1) := by decide +kernel
theorem d_Md_lowest_10 : decode prog_14_method_43_code 10 = .ok (.ifCond .eq 21, 3) := by decide +kernel
theorem d_Md_lowest_13 : decode prog_14_method_43_code 13 = .ok (.lload 5, 2) := by decide +kernel
theorem d_Md_lowest_15 : decode prog_14_method_43_code 15 = .ok (.lload 7, 2) := by decide +kernel
theorem d_Md_lowest_17 : decode prog_14_method_43_code 17 = .ok (.lrem, 1) := by decide +kernel
theorem d_Md_lowest_18 : decode prog_14_method_43_code 18 = .ok (.lstore 9, 2) := by decide +kernel
theorem d_Md_lowest_20 : decode prog_14_method_43_code 20 = .ok (.lload 7, 2) := by decide +kernel
theorem d_Md_lowest_22 : decode prog_14_method_43_code 22 = .ok (.lstore 5, 2) := by decide +kernel
theorem d_Md_lowest_24 : decode prog_14_method_43_code 24 = .ok (.lload 9, 2) := by decide +kernel
theorem d_Md_lowest_26 : decode prog_14_method_43_code 26 = .ok (.lstore 7, 2) := by decide +kernel
theorem d_Md_lowest_28 : decode prog_14_method_43_code 28 = .ok (.goto (-22), 3) := by decide +kernel
theorem d_Md_lowest_31 : decode prog_14_method_43_code 31 = .ok (.iload 4, 2) := by decide +kernel
theorem d_Md_lowest_33 : decode prog_14_method_43_code 33 = .ok (.ifCond .ne 10, 3) := by decide +kernel
theorem d_Md_lowest_36 : decode prog_14_method_43_code 36 = .ok (.lload_n 0, 1) := by decide +kernel
theorem d_Md_lowest_37 : decode prog_14_method_43_code 37 = .ok (.lload 5, 2) := by decide +kernel
theorem d_Md_lowest_39 : decode prog_14_method_43_code 39 = .ok (.ldiv, 1) := by decide +kernel
theorem d_Md_lowest_40 : decode prog_14_method_43_code 40 = .ok (.goto 7, 3) := by decide +kernel
theorem d_Md_lowest_43 : decode prog_14_method_43_code 43 = .ok (.lload_n 2, 1) := by decide +kernel
theorem d_Md_lowest_44 : decode prog_14_method_43_code 44 = .ok (.lload 5, 2) := by decide +kernel
theorem d_Md_lowest_46 : decode prog_14_method_43_code 46 = .ok (.ldiv, 1) := by decide +kernel
theorem d_Md_lowest_47 : decode prog_14_method_43_code 47 = .ok (.lreturn, 1) := by decide +kernel
theorem d_Md_tissue_0 : decode prog_14_method_44_code 0 = .ok (.iload_n 1, 1) := by decide +kernel
theorem d_Md_tissue_1 : decode prog_14_method_44_code 1 = .ok (.iconst 0, 1) := by decide +kernel
theorem d_Md_tissue_2 : decode prog_14_method_44_code 2 = .ok (.bipush 40, 2) := by decide +kernel
theorem d_Md_tissue_4 : decode prog_14_method_44_code 4 = .ok (.invokestatic 42, 3) := by decide +kernel
theorem d_Md_tissue_7 : decode prog_14_method_44_code 7 = .ok (.ifCond .eq 51, 3) := by decide +kernel
theorem d_Md_tissue_10 : decode prog_14_method_44_code 10 = .ok (.iload_n 2, 1) := by decide +kernel
theorem d_Md_tissue_11 : decode prog_14_method_44_code 11 = .ok (.iconst 0, 1) := by decide +kernel
theorem d_Md_tissue_12 : decode prog_14_method_44_code 12 = .ok (.iload_n 1, 1) := by decide +kernel
theorem d_Md_tissue_13 : decode prog_14_method_44_code 13 = .ok (.invokestatic 42, 3) := by decide +kernel
theorem d_Md_tissue_16 : decode prog_14_method_44_code 16 = .ok (.ifCond .eq 42, 3) := by decide +kernel
theorem d_Md_tissue_19 : decode prog_14_method_44_code 19 = .ok (.iload_n 3, 1) := by decide +kernel
theorem d_Md_tissue_20 : decode prog_14_method_44_code 20 = .ok (.iconst 0, 1) := by decide +kernel
theorem d_Md_tissue_21 : decode prog_14_method_44_code 21 = .ok (.iload_n 1, 1) := by decide +kernel
theorem d_Md_tissue_22 : decode prog_14_method_44_code 22 = .ok (.invokestatic 42, 3) := by decide +kernel
theorem d_Md_tissue_25 : decode prog_14_method_44_code 25 = .ok (.ifCond .eq 33, 3) := by decide +kernel
theorem d_Md_tissue_28 : decode prog_14_method_44_code 28 = .ok (.iload 4, 2) := by decide +kernel
theorem d_Md_tissue_30 : decode prog_14_method_44_code 30 = .ok (.iconst 0, 1) := by decide +kernel
theorem d_Md_tissue_31 : decode prog_14_method_44_code 31 = .ok (.iload_n 3, 1) := by decide +kernel
theorem d_Md_tissue_32 : decode prog_14_method_44_code 32 = .ok (.invokestatic 42, 3) := by decide +kernel
theorem d_Md_tissue_35 : decode prog_14_method_44_code 35 = .ok (.ifCond .eq 23, 3) := by decide +kernel
theorem d_Md_tissue_38 : decode prog_14_method_44_code 38 = .ok (.iload 5, 2) := by decide +kernel
theorem d_Md_tissue_40 : decode prog_14_method_44_code 40 = .ok (.iconst 0, 1) := by decide +kernel
theorem d_Md_tissue_41 : decode prog_14_method_44_code 41 = .ok (.iconst 1, 1) := by decide +kernel
theorem d_Md_tissue_42 : decode prog_14_method_44_code 42 = .ok (.invokestatic 42, 3) := by decide +kernel
theorem d_Md_tissue_45 : decode prog_14_method_44_code 45 = .ok (.ifCond .eq 13, 3) := by decide +kernel
theorem d_Md_tissue_48 : decode prog_14_method_44_code 48 = .ok (.iload 6, 2) := by decide +kernel
theorem d_Md_tissue_50 : decode prog_14_method_44_code 50 = .ok (.iconst 0, 1) := by decide +kernel
theorem d_Md_tissue_51 : decode prog_14_method_44_code 51 = .ok (.iconst 1, 1) := by decide +kernel
theorem d_Md_tissue_52 : decode prog_14_method_44_code 52 = .ok (.invokestatic 42, 3) := by decide +kernel
theorem d_Md_tissue_55 : decode prog_14_method_44_code 55 = .ok (.ifCond .ne 7, 3) := by decide +kernel
theorem d_Md_tissue_58 : decode prog_14_method_44_code 58 = .ok (.ldc2_w 131, 3) := by decide +kernel
theorem d_Md_tissue_61 : decode prog_14_method_44_code 61 = .ok (.lreturn, 1) := by decide +kernel
theorem d_Md_tissue_62 : decode prog_14_method_44_code 62 = .ok (.iload 5, 2) := by decide +kernel
theorem d_Md_tissue_64 : decode prog_14_method_44_code 64 = .ok (.iconst 1, 1) := by decide +kernel
theorem d_Md_tissue_65 : decode prog_14_method_44_code 65 = .ok (.if_icmp .ne 24, 3) := by decide +kernel
theorem d_Md_tissue_68 : decode prog_14_method_44_code 68 = .ok (.iload_n 2, 1) := by decide +kernel
theorem d_Md_tissue_69 : decode prog_14_method_44_code 69 = .ok (.i2l, 1) := by decide +kernel
theorem d_Md_tissue_70 : decode prog_14_method_44_code 70 = .ok (.iload_n 3, 1) := by decide +kernel
theorem d_Md_tissue_71 : decode prog_14_method_44_code 71 = .ok (.i2l, 1) := by decide +kernel
theorem d_Md_tissue_72 : decode prog_14_method_44_code 72 = .ok (.lmul, 1) := by decide +kernel
theorem d_Md_tissue_73 : decode prog_14_method_44_code 73 = .ok (.iload_n 1, 1) := by decide +kernel
theorem d_Md_tissue_74 : decode prog_14_method_44_code 74 = .ok (.ifCond .ne 7, 3) := by decide +kernel
theorem d_Md_tissue_77 : decode prog_14_method_44_code 77 = .ok (.lconst 1, 1) := by decide +kernel
theorem d_Md_tissue_78 : decode prog_14_method_44_code 78 = .ok (.goto 5, 3) := by decide +kernel
theorem d_Md_tissue_81 : decode prog_14_method_44_code 81 = .ok (.iload_n 1, 1) := by decide +kernel
theorem d_Md_tissue_82 : decode prog_14_method_44_code 82 = .ok (.i2l, 1) := by decide +kernel
theorem d_Md_tissue_83 : decode prog_14_method_44_code 83 = .ok (.iload 6, 2) := by decide +kernel
theorem d_Md_tissue_85 : decode prog_14_method_44_code 85 = .ok (.invokestatic 133, 3) := by decide +kernel
theorem d_Md_tissue_88 : decode prog_14_method_44_code 88 = .ok (.lreturn, 1) := by decide +kernel
theorem d_Md_tissue_89 : decode prog_14_method_44_code 89 = .ok (.aload_n 0, 1) := by decide +kernel
theorem d_Md_tissue_90 : decode prog_14_method_44_code 90 = .ok (.invokevirtual 137, 3) := by decide +kernel
theorem d_Md_tissue_93 : decode prog_14_method_44_code 93 = .ok (.lconst 0, 1) := by decide +kernel
theorem d_Md_tissue_94 : decode prog_14_method_44_code 94 = .ok (.lstore 7, 2) := by decide +kernel
theorem d_Md_tissue_96 : decode prog_14_method_44_code 96 = .ok (.iload 4, 2) := by decide +kernel
theorem d_Md_tissue_98 : decode prog_14_method_44_code 98 = .ok (.istore 9, 2) := by decide +kernel
theorem d_Md_tissue_100 : decode prog_14_method_44_code 100 = .ok (.iload 9, 2) := by decide +kernel
theorem d_Md_tissue_102 : decode prog_14_method_44_code 102 = .ok (.iload_n 3, 1) := by decide +kernel
theorem d_Md_tissue_103 : decode prog_14_method_44_code 103 = .ok (.if_icmp .gt 43, 3) := by decide +kernel
theorem d_Md_tissue_106 : decode prog_14_method_44_code 106 = .ok (.lload 7, 2) := by decide +kernel
theorem d_Md_tissue_108 : decode prog_14_method_44_code 108 = .ok (.aload_n 0, 1) := by decide +kernel
theorem d_Md_tissue_109 : decode prog_14_method_44_code 109 = .ok (.getfield 31, 3) := by decide +kernel
theorem d_Md_tissue_112 : decode prog_14_method_44_code 112 = .ok (.bipush 41, 2) := by decide +kernel
theorem d_Md_tissue_114 : decode prog_14_method_44_code 114 = .ok (.iload_n 2, 1) := by decide +kernel
theorem d_Md_tissue_115 : decode prog_14_method_44_code 115 = .ok (.imul, 1) := by decide +kernel
theorem d_Md_tissue_116 : decode prog_14_method_44_code 116 = .ok (.iload 9, 2) := by decide +kernel
theorem d_Md_tissue_118 : decode prog_14_method_44_code 118 = .ok (.iadd, 1) := by decide +kernel
theorem d_Md_tissue_119 : decode prog_14_method_44_code 119 = .ok (.laload, 1) := by decide +kernel
theorem d_Md_tissue_120 : decode prog_14_method_44_code 120 = .ok (.aload_n 0, 1) := by decide +kernel
theorem d_Md_tissue_121 : decode prog_14_method_44_code 121 = .ok (.getfield 31, 3) := by decide +kernel
theorem d_Md_tissue_124 : decode prog_14_method_44_code 124 = .ok (.bipush 41, 2) := by decide +kernel
theorem d_Md_tissue_126 : decode prog_14_method_44_code 126 = .ok (.iload_n 1, 1) := by decide +kernel
theorem d_Md_tissue_127 : decode prog_14_method_44_code 127 = .ok (.iload_n 2, 1) := by decide +kernel
theorem d_Md_tissue_128 : decode prog_14_method_44_code 128 = .ok (.isub, 1) := by decide +kernel
theorem d_Md_tissue_129 : decode prog_14_method_44_code 129 = .ok (.imul, 1) := by decide +kernel
theorem d_Md_tissue_130 : decode prog_14_method_44_code 130 = .ok (.iload_n 3, 1) := by decide +kernel
theorem d_Md_tissue_131 : decode prog_14_method_44_code 131 = .ok (.iadd, 1) := by decide +kernel
theorem d_Md_tissue_132 : decode prog_14_method_44_code 132 = .ok (.iload 9, 2) := by decide +kernel
theorem d_Md_tissue_134 : decode prog_14_method_44_code 134 = .ok (.isub, 1) := by decide +kernel
theorem d_Md_tissue_135 : decode prog_14_method_44_code 135 = .ok (.laload, 1) := by decide +kernel
theorem d_Md_tissue_136 : decode prog_14_method_44_code 136 = .ok (.lmul, 1) := by decide +kernel
theorem d_Md_tissue_137 : decode prog_14_method_44_code 137 = .ok (.ladd, 1) := by decide +kernel
theorem d_Md_tissue_138 : decode prog_14_method_44_code 138 = .ok (.lstore 7, 2) := by decide +kernel
theorem d_Md_tissue_140 : decode prog_14_method_44_code 140 = .ok (.iinc 9 1, 3) := by decide +kernel
theorem d_Md_tissue_143 : decode prog_14_method_44_code 143 = .ok (.goto (-43), 3) := by decide +kernel
theorem d_Md_tissue_146 : decode prog_14_method_44_code 146 = .ok (.lload 7, 2) := by decide +kernel
theorem d_Md_tissue_148 : decode prog_14_method_44_code 148 = .ok (.aload_n 0, 1) := by decide +kernel
theorem d_Md_tissue_149 : decode prog_14_method_44_code 149 = .ok (.getfield 31, 3) := by decide +kernel
theorem d_Md_tissue_152 : decode prog_14_method_44_code 152 = .ok (.bipush 41, 2) := by decide +kernel
theorem d_Md_tissue_154 : decode prog_14_method_44_code 154 = .ok (.iload_n 1, 1) := by decide +kernel
theorem d_Md_tissue_155 : decode prog_14_method_44_code 155 = .ok (.imul, 1) := by decide +kernel
theorem d_Md_tissue_156 : decode prog_14_method_44_code 156 = .ok (.iload_n 3, 1) := by decide +kernel
theorem d_Md_tissue_157 : decode prog_14_method_44_code 157 = .ok (.iadd, 1) := by decide +kernel
theorem d_Md_tissue_158 : decode prog_14_method_44_code 158 = .ok (.laload, 1) := by decide +kernel
theorem d_Md_tissue_159 : decode prog_14_method_44_code 159 = .ok (.iload 6, 2) := by decide +kernel
theorem d_Md_tissue_161 : decode prog_14_method_44_code 161 = .ok (.invokestatic 133, 3) := by decide +kernel
theorem d_Md_tissue_164 : decode prog_14_method_44_code 164 = .ok (.lreturn, 1) := by decide +kernel
theorem d_Md_year_0 : decode prog_14_method_45_code 0 = .ok (.iload_n 1, 1) := by decide +kernel
theorem d_Md_year_1 : decode prog_14_method_45_code 1 = .ok (.iconst 0, 1) := by decide +kernel
theorem d_Md_year_2 : decode prog_14_method_45_code 2 = .ok (.sipush 9999, 3) := by decide +kernel
theorem d_Md_year_5 : decode prog_14_method_45_code 5 = .ok (.invokestatic 42, 3) := by decide +kernel
theorem d_Md_year_8 : decode prog_14_method_45_code 8 = .ok (.ifCond .eq 22, 3) := by decide +kernel
theorem d_Md_year_11 : decode prog_14_method_45_code 11 = .ok (.iload_n 2, 1) := by decide +kernel
theorem d_Md_year_12 : decode prog_14_method_45_code 12 = .ok (.iconst 1, 1) := by decide +kernel
theorem d_Md_year_13 : decode prog_14_method_45_code 13 = .ok (.bipush 99, 2) := by decide +kernel
theorem d_Md_year_15 : decode prog_14_method_45_code 15 = .ok (.invokestatic 42, 3) := by decide +kernel
theorem d_Md_year_18 : decode prog_14_method_45_code 18 = .ok (.ifCond .eq 12, 3) := by decide +kernel
theorem d_Md_year_21 : decode prog_14_method_45_code 21 = .ok (.iload_n 3, 1) := by decide +kernel
theorem d_Md_year_22 : decode prog_14_method_45_code 22 = .ok (.iconst 0, 1) := by decide +kernel
theorem d_Md_year_23 : decode prog_14_method_45_code 23 = .ok (.iconst 2, 1) := by decide +kernel
theorem d_Md_year_24 : decode prog_14_method_45_code 24 = .ok (.invokestatic 42, 3) := by decide +kernel
theorem d_Md_year_27 : decode prog_14_method_45_code 27 = .ok (.ifCond .ne 6, 3) := by decide +kernel
theorem d_Md_year_30 : decode prog_14_method_45_code 30 = .ok (.bipush (-2), 2) := by decide +kernel
theorem d_Md_year_32 : decode prog_14_method_45_code 32 = .ok (.ireturn, 1) := by decide +kernel
theorem d_Md_year_33 : decode prog_14_method_45_code 33 = .ok (.aload_n 0, 1) := by decide +kernel
theorem d_Md_year_34 : decode prog_14_method_45_code 34 = .ok (.invokevirtual 46, 3) := by decide +kernel
theorem d_Md_year_37 : decode prog_14_method_45_code 37 = .ok (.iload_n 1, 1) := by decide +kernel
theorem d_Md_year_38 : decode prog_14_method_45_code 38 = .ok (.istore 4, 2) := by decide +kernel
theorem d_Md_year_40 : decode prog_14_method_45_code 40 = .ok (.iconst 0, 1) := by decide +kernel
theorem d_Md_year_41 : decode prog_14_method_45_code 41 = .ok (.istore 5, 2) := by decide +kernel
theorem d_Md_year_43 : decode prog_14_method_45_code 43 = .ok (.iload 5, 2) := by decide +kernel
theorem d_Md_year_45 : decode prog_14_method_45_code 45 = .ok (.iload_n 2, 1) := by decide +kernel
theorem d_Md_year_46 : decode prog_14_method_45_code 46 = .ok (.if_icmp .ge 163, 3) := by decide +kernel
theorem d_Md_year_49 : decode prog_14_method_45_code 49 = .ok (.bipush 75, 2) := by decide +kernel
theorem d_Md_year_51 : decode prog_14_method_45_code 51 = .ok (.iload 4, 2) := by decide +kernel
theorem d_Md_year_53 : decode prog_14_method_45_code 53 = .ok (.imul, 1) := by decide +kernel
theorem d_Md_year_54 : decode prog_14_method_45_code 54 = .ok (.bipush 74, 2) := by decide +kernel
theorem d_Md_year_56 : decode prog_14_method_45_code 56 = .ok (.iadd, 1) := by decide +kernel
theorem d_Md_year_57 : decode prog_14_method_45_code 57 = .ok (.ldc 140, 2) := by decide +kernel
theorem d_Md_year_59 : decode prog_14_method_45_code 59 = .ok (.irem, 1) := by decide +kernel
theorem d_Md_year_60 : decode prog_14_method_45_code 60 = .ok (.istore 4, 2) := by decide +kernel
theorem d_Md_year_62 : decode prog_14_method_45_code 62 = .ok (.iload 4, 2) := by decide +kernel
theorem d_Md_year_64 : decode prog_14_method_45_code 64 = .ok (.bipush 6, 2) := by decide +kernel
theorem d_Md_year_66 : decode prog_14_method_45_code 66 = .ok (.idiv, 1) := by decide +kernel
theorem d_Md_year_67 : decode prog_14_method_45_code 67 = .ok (.bipush 8, 2) := by decide +kernel
theorem d_Md_year_69 : decode prog_14_method_45_code 69 = .ok (.irem, 1) := by decide +kernel
theorem d_Md_year_70 : decode prog_14_method_45_code 70 = .ok (.istore 6, 2) := by decide +kernel
theorem d_Md_year_72 : decode prog_14_method_45_code 72 = .ok (.iload 4, 2) := by decide +kernel
theorem d_Md_year_74 : decode prog_14_method_45_code 74 = .ok (.bipush 48, 2) := by decide +kernel
theorem d_Md_year_76 : decode prog_14_method_45_code 76 = .ok (.idiv, 1) := by decide +kernel
theorem d_Md_year_77 : decode prog_14_method_45_code 77 = .ok (.istore 7, 2) := by decide +kernel
theorem d_Md_year_79 : decode prog_14_method_45_code 79 = .ok (.iload 6, 2) := by decide +kernel
theorem d_Md_year_81 : decode prog_14_method_45_code 81 = .ok (.iconst 4, 1) := by decide +kernel
theorem d_Md_year_82 : decode prog_14_method_45_code 82 = .ok (.if_icmp .ge 24, 3) := by decide +kernel
theorem d_Md_year_85 : decode prog_14_method_45_code 85 = .ok (.aload_n 0, 1) := by decide +kernel
theorem d_Md_year_86 : decode prog_14_method_45_code 86 = .ok (.aload_n 0, 1) := by decide +kernel
theorem d_Md_year_87 : decode prog_14_method_45_code 87 = .ok (.iload 4, 2) := by decide +kernel
theorem d_Md_year_89 : decode prog_14_method_45_code 89 = .ok (.bipush 6, 2) := by decide +kernel
theorem d_Md_year_91 : decode prog_14_method_45_code 91 = .ok (.irem, 1) := by decide +kernel
theorem d_Md_year_92 : decode prog_14_method_45_code 92 = .ok (.iload 7, 2) := by decide +kernel
theorem d_Md_year_94 : decode prog_14_method_45_code 94 = .ok (.bipush 12, 2) := by decide +kernel
theorem d_Md_year_96 : decode prog_14_method_45_code 96 = .ok (.irem, 1) := by decide +kernel
theorem d_Md_year_97 : decode prog_14_method_45_code 97 = .ok (.invokevirtual 105, 3) := by decide +kernel
theorem d_Md_year_100 : decode prog_14_method_45_code 100 = .ok (.putfield 93, 3) := by decide +kernel
theorem d_Md_year_103 : decode prog_14_method_45_code 103 = .ok (.goto 100, 3) := by decide +kernel
theorem d_Md_year_106 : decode prog_14_method_45_code 106 = .ok (.iload 6, 2) := by decide +kernel
theorem d_Md_year_108 : decode prog_14_method_45_code 108 = .ok (.iconst 4, 1) := by decide +kernel
theorem d_Md_year_109 : decode prog_14_method_45_code 109 = .ok (.if_icmp .ne 19, 3) := by decide +kernel
theorem d_Md_year_112 : decode prog_14_method_45_code 112 = .ok (.aload_n 0, 1) := by decide +kernel
theorem d_Md_year_113 : decode prog_14_method_45_code 113 = .ok (.aload_n 0, 1) := by decide +kernel
theorem d_Md_year_114 : decode prog_14_method_45_code 114 = .ok (.iload 4, 2) := by decide +kernel
theorem d_Md_year_116 : decode prog_14_method_45_code 116 = .ok (.bipush 6, 2) := by decide +kernel
theorem d_Md_year_118 : decode prog_14_method_45_code 118 = .ok (.irem, 1) := by decide +kernel
theorem d_Md_year_119 : decode prog_14_method_45_code 119 = .ok (.invokevirtual 102, 3) := by decide +kernel
theorem d_Md_year_122 : decode prog_14_method_45_code 122 = .ok (.putfield 93, 3) := by decide +kernel
theorem d_Md_year_125 : decode prog_14_method_45_code 125 = .ok (.goto 78, 3) := by decide +kernel
theorem d_Md_year_128 : decode prog_14_method_45_code 128 = .ok (.iload 6, 2) := by decide +kernel
theorem d_Md_year_130 : decode prog_14_method_45_code 130 = .ok (.iconst 5, 1) := by decide +kernel
theorem d_Md_year_131 : decode prog_14_method_45_code 131 = .ok (.if_icmp .ne 21, 3) := by decide +kernel
theorem d_Md_year_134 : decode prog_14_method_45_code 134 = .ok (.aload_n 0, 1) := by decide +kernel
theorem d_Md_year_135 : decode prog_14_method_45_code 135 = .ok (.aload_n 0, 1) := by decide +kernel
theorem d_Md_year_136 : decode prog_14_method_45_code 136 = .ok (.iconst 1, 1) := by decide +kernel
theorem d_Md_year_137 : decode prog_14_method_45_code 137 = .ok (.iload 7, 2) := by decide +kernel
theorem d_Md_year_139 : decode prog_14_method_45_code 139 = .ok (.bipush 9, 2) := by decide +kernel
theorem d_Md_year_141 : decode prog_14_method_45_code 141 = .ok (.irem, 1) := by decide +kernel
theorem d_Md_year_142 : decode prog_14_method_45_code 142 = .ok (.iadd, 1) := by decide +kernel
theorem d_Md_year_143 : decode prog_14_method_45_code 143 = .ok (.invokevirtual 99, 3) := by decide +kernel
theorem d_Md_year_146 : decode prog_14_method_45_code 146 = .ok (.putfield 93, 3) := by decide +kernel
theorem d_Md_year_149 : decode prog_14_method_45_code 149 = .ok (.goto 54, 3) := by decide +kernel
theorem d_Md_year_152 : decode prog_14_method_45_code 152 = .ok (.iload 6, 2) := by decide +kernel
theorem d_Md_year_154 : decode prog_14_method_45_code 154 = .ok (.bipush 6, 2) := by decide +kernel
theorem d_Md_year_156 : decode prog_14_method_45_code 156 = .ok (.if_icmp .ne 27, 3) := by decide +kernel
theorem d_Md_year_159 : decode prog_14_method_45_code 159 = .ok (.aload_n 0, 1) := by decide +kernel
theorem d_Md_year_160 : decode prog_14_method_45_code 160 = .ok (.aload_n 0, 1) := by decide +kernel
theorem d_Md_year_161 : decode prog_14_method_45_code 161 = .ok (.iload 7, 2) := by decide +kernel
theorem d_Md_year_163 : decode prog_14_method_45_code 163 = .ok (.bipush 12, 2) := by decide +kernel
theorem d_Md_year_165 : decode prog_14_method_45_code 165 = .ok (.irem, 1) := by decide +kernel
theorem d_Md_year_166 : decode prog_14_method_45_code 166 = .ok (.iload 7, 2) := by decide +kernel
theorem d_Md_year_168 : decode prog_14_method_45_code 168 = .ok (.bipush 12, 2) := by decide +kernel
theorem d_Md_year_170 : decode prog_14_method_45_code 170 = .ok (.idiv, 1) := by decide +kernel
theorem d_Md_year_171 : decode prog_14_method_45_code 171 = .ok (.bipush 12, 2) := by decide +kernel
theorem d_Md_year_173 : decode prog_14_method_45_code 173 = .ok (.irem, 1) := by decide +kernel
theorem d_Md_year_174 : decode prog_14_method_45_code 174 = .ok (.invokevirtual 96, 3) := by decide +kernel
theorem d_Md_year_177 : decode prog_14_method_45_code 177 = .ok (.putfield 93, 3) := by decide +kernel
theorem d_Md_year_180 : decode prog_14_method_45_code 180 = .ok (.goto 23, 3) := by decide +kernel
theorem d_Md_year_183 : decode prog_14_method_45_code 183 = .ok (.aload_n 0, 1) := by decide +kernel
theorem d_Md_year_184 : decode prog_14_method_45_code 184 = .ok (.iload 7, 2) := by decide +kernel
theorem d_Md_year_186 : decode prog_14_method_45_code 186 = .ok (.bipush 8, 2) := by decide +kernel
theorem d_Md_year_188 : decode prog_14_method_45_code 188 = .ok (.irem, 1) := by decide +kernel
theorem d_Md_year_189 : decode prog_14_method_45_code 189 = .ok (.ifCond .ne 10, 3) := by decide +kernel
theorem d_Md_year_192 : decode prog_14_method_45_code 192 = .ok (.aload_n 0, 1) := by decide +kernel
theorem d_Md_year_193 : decode prog_14_method_45_code 193 = .ok (.invokevirtual 90, 3) := by decide +kernel
theorem d_Md_year_196 : decode prog_14_method_45_code 196 = .ok (.goto 4, 3) := by decide +kernel
theorem d_Md_year_199 : decode prog_14_method_45_code 199 = .ok (.iconst 0, 1) := by decide +kernel
theorem d_Md_year_200 : decode prog_14_method_45_code 200 = .ok (.putfield 93, 3) := by decide +kernel
theorem d_Md_year_203 : decode prog_14_method_45_code 203 = .ok (.iinc 5 1, 3) := by decide +kernel
theorem d_Md_year_206 : decode prog_14_method_45_code 206 = .ok (.goto (-163), 3) := by decide +kernel
theorem d_Md_year_209 : decode prog_14_method_45_code 209 = .ok (.iconst 0, 1) := by decide +kernel
theorem d_Md_year_210 : decode prog_14_method_45_code 210 = .ok (.istore 5, 2) := by decide +kernel
theorem d_Md_year_212 : decode prog_14_method_45_code 212 = .ok (.iconst 0, 1) := by decide +kernel
theorem d_Md_year_213 : decode prog_14_method_45_code 213 = .ok (.istore 6, 2) := by decide +kernel
theorem d_Md_year_215 : decode prog_14_method_45_code 215 = .ok (.iload 6, 2) := by decide +kernel
theorem d_Md_year_217 : decode prog_14_method_45_code 217 = .ok (.bipush 6, 2) := by decide +kernel
theorem d_Md_year_219 : decode prog_14_method_45_code 219 = .ok (.if_icmp .ge 24, 3) := by decide +kernel
theorem d_Md_year_222 : decode prog_14_method_45_code 222 = .ok (.iload 5, 2) := by decide +kernel
theorem d_Md_year_224 : decode prog_14_method_45_code 224 = .ok (.aload_n 0, 1) := by decide +kernel
theorem d_Md_year_225 : decode prog_14_method_45_code 225 = .ok (.getfield 13, 3) := by decide +kernel
theorem d_Md_year_228 : decode prog_14_method_45_code 228 = .ok (.bipush 18, 2) := by decide +kernel
theorem d_Md_year_230 : decode prog_14_method_45_code 230 = .ok (.iload 6, 2) := by decide +kernel
theorem d_Md_year_232 : decode prog_14_method_45_code 232 = .ok (.iadd, 1) := by decide +kernel
theorem d_Md_year_233 : decode prog_14_method_45_code 233 = .ok (.iaload, 1) := by decide +kernel
theorem d_Md_year_234 : decode prog_14_method_45_code 234 = .ok (.iadd, 1) := by decide +kernel
theorem d_Md_year_235 : decode prog_14_method_45_code 235 = .ok (.istore 5, 2) := by decide +kernel
theorem d_Md_year_237 : decode prog_14_method_45_code 237 = .ok (.iinc 6 1, 3) := by decide +kernel
theorem d_Md_year_240 : decode prog_14_method_45_code 240 = .ok (.goto (-25), 3) := by decide +kernel
theorem d_Md_year_243 : decode prog_14_method_45_code 243 = .ok (.iload_n 3, 1) := by decide +kernel
theorem d_Md_year_244 : decode prog_14_method_45_code 244 = .ok (.ifCond .ne 13, 3) := by decide +kernel
theorem d_Md_year_247 : decode prog_14_method_45_code 247 = .ok (.aload_n 0, 1) := by decide +kernel
theorem d_Md_year_248 : decode prog_14_method_45_code 248 = .ok (.invokevirtual 78, 3) := by decide +kernel
theorem d_Md_year_251 : decode prog_14_method_45_code 251 = .ok (.invokestatic 81, 3) := by decide +kernel
theorem d_Md_year_254 : decode prog_14_method_45_code 254 = .ok (.goto 23, 3) := by decide +kernel
theorem d_Md_year_257 : decode prog_14_method_45_code 257 = .ok (.iload_n 3, 1) := by decide +kernel
theorem d_Md_year_258 : decode prog_14_method_45_code 258 = .ok (.iconst 1, 1) := by decide +kernel
theorem d_Md_year_259 : decode prog_14_method_45_code 259 = .ok (.if_icmp .ne 8, 3) := by decide +kernel
theorem d_Md_year_262 : decode prog_14_method_45_code 262 = .ok (.iload 5, 2) := by decide +kernel
theorem d_Md_year_264 : decode prog_14_method_45_code 264 = .ok (.goto 13, 3) := by decide +kernel
theorem d_Md_year_267 : decode prog_14_method_45_code 267 = .ok (.aload_n 0, 1) := by decide +kernel
theorem d_Md_year_268 : decode prog_14_method_45_code 268 = .ok (.getfield 13, 3) := by decide +kernel
theorem d_Md_year_271 : decode prog_14_method_45_code 271 = .ok (.bipush 24, 2) := by decide +kernel
theorem d_Md_year_273 : decode prog_14_method_45_code 273 = .ok (.iaload, 1) := by decide +kernel
theorem d_Md_year_274 : decode prog_14_method_45_code 274 = .ok (.invokestatic 81, 3) := by decide +kernel
theorem d_Md_year_277 : decode prog_14_method_45_code 277 = .ok (.ireturn, 1) := by decide +kernel
theorem d_Md_image_0 : decode prog_14_method_46_code 0 = .ok (.iload_n 1, 1) := by decide +kernel
theorem d_Md_image_1 : decode prog_14_method_46_code 1 = .ok (.iconst 0, 1) := by decide +kernel
theorem d_Md_image_2 : decode prog_14_method_46_code 2 = .ok (.iconst 1, 1) := by decide +kernel
theorem d_Md_image_3 : decode prog_14_method_46_code 3 = .ok (.invokestatic 42, 3) := by decide +kernel
theorem d_Md_image_6 : decode prog_14_method_46_code 6 = .ok (.ifCond .ne 6, 3) := by decide +kernel
theorem d_Md_image_9 : decode prog_14_method_46_code 9 = .ok (.bipush (-2), 2) := by decide +kernel
theorem d_Md_image_11 : decode prog_14_method_46_code 11 = .ok (.ireturn, 1) := by decide +kernel
theorem d_Md_image_12 : decode prog_14_method_46_code 12 = .ok (.bipush 50, 2) := by decide +kernel
theorem d_Md_image_14 : decode prog_14_method_46_code 14 = .ok (.iload_n 1, 1) := by decide +kernel
theorem d_Md_image_15 : decode prog_14_method_46_code 15 = .ok (.imul, 1) := by decide +kernel
theorem d_Md_image_16 : decode prog_14_method_46_code 16 = .ok (.istore_n 2, 1) := by decide +kernel
theorem d_Md_image_17 : decode prog_14_method_46_code 17 = .ok (.iconst 0, 1) := by decide +kernel
theorem d_Md_image_18 : decode prog_14_method_46_code 18 = .ok (.istore_n 3, 1) := by decide +kernel
theorem d_Md_image_19 : decode prog_14_method_46_code 19 = .ok (.iload_n 3, 1) := by decide +kernel
theorem d_Md_image_20 : decode prog_14_method_46_code 20 = .ok (.bipush 26, 2) := by decide +kernel
theorem d_Md_image_22 : decode prog_14_method_46_code 22 = .ok (.if_icmp .ge 23, 3) := by decide +kernel
theorem d_Md_image_25 : decode prog_14_method_46_code 25 = .ok (.aload_n 0, 1) := by decide +kernel
theorem d_Md_image_26 : decode prog_14_method_46_code 26 = .ok (.getfield 35, 3) := by decide +kernel
theorem d_Md_image_29 : decode prog_14_method_46_code 29 = .ok (.iload_n 2, 1) := by decide +kernel
theorem d_Md_image_30 : decode prog_14_method_46_code 30 = .ok (.iload_n 3, 1) := by decide +kernel
theorem d_Md_image_31 : decode prog_14_method_46_code 31 = .ok (.iadd, 1) := by decide +kernel
theorem d_Md_image_32 : decode prog_14_method_46_code 32 = .ok (.aload_n 0, 1) := by decide +kernel
theorem d_Md_image_33 : decode prog_14_method_46_code 33 = .ok (.getfield 7, 3) := by decide +kernel
theorem d_Md_image_36 : decode prog_14_method_46_code 36 = .ok (.iload_n 3, 1) := by decide +kernel
theorem d_Md_image_37 : decode prog_14_method_46_code 37 = .ok (.iaload, 1) := by decide +kernel
theorem d_Md_image_38 : decode prog_14_method_46_code 38 = .ok (.iastore, 1) := by decide +kernel
theorem d_Md_image_39 : decode prog_14_method_46_code 39 = .ok (.iinc 3 1, 3) := by decide +kernel
theorem d_Md_image_42 : decode prog_14_method_46_code 42 = .ok (.goto (-23), 3) := by decide +kernel
theorem d_Md_image_45 : decode prog_14_method_46_code 45 = .ok (.iconst 0, 1) := by decide +kernel
theorem d_Md_image_46 : decode prog_14_method_46_code 46 = .ok (.istore_n 3, 1) := by decide +kernel
theorem d_Md_image_47 : decode prog_14_method_46_code 47 = .ok (.iload_n 3, 1) := by decide +kernel
theorem d_Md_image_48 : decode prog_14_method_46_code 48 = .ok (.bipush 16, 2) := by decide +kernel
theorem d_Md_image_50 : decode prog_14_method_46_code 50 = .ok (.if_icmp .ge 26, 3) := by decide +kernel
theorem d_Md_image_53 : decode prog_14_method_46_code 53 = .ok (.aload_n 0, 1) := by decide +kernel
theorem d_Md_image_54 : decode prog_14_method_46_code 54 = .ok (.getfield 35, 3) := by decide +kernel
theorem d_Md_image_57 : decode prog_14_method_46_code 57 = .ok (.iload_n 2, 1) := by decide +kernel
theorem d_Md_image_58 : decode prog_14_method_46_code 58 = .ok (.bipush 26, 2) := by decide +kernel
theorem d_Md_image_60 : decode prog_14_method_46_code 60 = .ok (.iadd, 1) := by decide +kernel
theorem d_Md_image_61 : decode prog_14_method_46_code 61 = .ok (.iload_n 3, 1) := by decide +kernel
theorem d_Md_image_62 : decode prog_14_method_46_code 62 = .ok (.iadd, 1) := by decide +kernel
theorem d_Md_image_63 : decode prog_14_method_46_code 63 = .ok (.aload_n 0, 1) := by decide +kernel
theorem d_Md_image_64 : decode prog_14_method_46_code 64 = .ok (.getfield 16, 3) := by decide +kernel
theorem d_Md_image_67 : decode prog_14_method_46_code 67 = .ok (.iload_n 3, 1) := by decide +kernel
theorem d_Md_image_68 : decode prog_14_method_46_code 68 = .ok (.iaload, 1) := by decide +kernel
theorem d_Md_image_69 : decode prog_14_method_46_code 69 = .ok (.iastore, 1) := by decide +kernel
theorem d_Md_image_70 : decode prog_14_method_46_code 70 = .ok (.iinc 3 1, 3) := by decide +kernel
theorem d_Md_image_73 : decode prog_14_method_46_code 73 = .ok (.goto (-26), 3) := by decide +kernel
theorem d_Md_image_76 : decode prog_14_method_46_code 76 = .ok (.aload_n 0, 1) := by decide +kernel
theorem d_Md_image_77 : decode prog_14_method_46_code 77 = .ok (.getfield 35, 3) := by decide +kernel
theorem d_Md_image_80 : decode prog_14_method_46_code 80 = .ok (.iload_n 2, 1) := by decide +kernel
theorem d_Md_image_81 : decode prog_14_method_46_code 81 = .ok (.bipush 45, 2) := by decide +kernel
theorem d_Md_image_83 : decode prog_14_method_46_code 83 = .ok (.iadd, 1) := by decide +kernel
theorem d_Md_image_84 : decode prog_14_method_46_code 84 = .ok (.aload_n 0, 1) := by decide +kernel
theorem d_Md_image_85 : decode prog_14_method_46_code 85 = .ok (.getfield 121, 3) := by decide +kernel
theorem d_Md_image_88 : decode prog_14_method_46_code 88 = .ok (.iastore, 1) := by decide +kernel
theorem d_Md_image_89 : decode prog_14_method_46_code 89 = .ok (.aload_n 0, 1) := by decide +kernel
theorem d_Md_image_90 : decode prog_14_method_46_code 90 = .ok (.getfield 38, 3) := by decide +kernel
theorem d_Md_image_93 : decode prog_14_method_46_code 93 = .ok (.iload_n 1, 1) := by decide +kernel
theorem d_Md_image_94 : decode prog_14_method_46_code 94 = .ok (.iconst 1, 1) := by decide +kernel
theorem d_Md_image_95 : decode prog_14_method_46_code 95 = .ok (.bastore, 1) := by decide +kernel
theorem d_Md_image_96 : decode prog_14_method_46_code 96 = .ok (.iconst 1, 1) := by decide +kernel
theorem d_Md_image_97 : decode prog_14_method_46_code 97 = .ok (.ireturn, 1) := by decide +kernel
theorem d_Md_restore_0 : decode prog_14_method_47_code 0 = .ok (.iload_n 1, 1) := by decide +kernel
theorem d_Md_restore_1 : decode prog_14_method_47_code 1 = .ok (.iconst 0, 1) := by decide +kernel
theorem d_Md_restore_2 : decode prog_14_method_47_code 2 = .ok (.iconst 1, 1) := by decide +kernel
theorem d_Md_restore_3 : decode prog_14_method_47_code 3 = .ok (.invokestatic 42, 3) := by decide +kernel
theorem d_Md_restore_6 : decode prog_14_method_47_code 6 = .ok (.ifCond .ne 6, 3) := by decide +kernel
theorem d_Md_restore_9 : decode prog_14_method_47_code 9 = .ok (.bipush (-2), 2) := by decide +kernel
theorem d_Md_restore_11 : decode prog_14_method_47_code 11 = .ok (.ireturn, 1) := by decide +kernel
theorem d_Md_restore_12 : decode prog_14_method_47_code 12 = .ok (.aload_n 0, 1) := by decide +kernel
theorem d_Md_restore_13 : decode prog_14_method_47_code 13 = .ok (.getfield 38, 3) := by decide +kernel
theorem d_Md_restore_16 : decode prog_14_method_47_code 16 = .ok (.iload_n 1, 1) := by decide +kernel
theorem d_Md_restore_17 : decode prog_14_method_47_code 17 = .ok (.baload, 1) := by decide +kernel
theorem d_Md_restore_18 : decode prog_14_method_47_code 18 = .ok (.ifCond .ne 6, 3) := by decide +kernel
theorem d_Md_restore_21 : decode prog_14_method_47_code 21 = .ok (.bipush (-3), 2) := by decide +kernel
theorem d_Md_restore_23 : decode prog_14_method_47_code 23 = .ok (.ireturn, 1) := by decide +kernel
theorem d_Md_restore_24 : decode prog_14_method_47_code 24 = .ok (.bipush 50, 2) := by decide +kernel
theorem d_Md_restore_26 : decode prog_14_method_47_code 26 = .ok (.iload_n 1, 1) := by decide +kernel
theorem d_Md_restore_27 : decode prog_14_method_47_code 27 = .ok (.imul, 1) := by decide +kernel
theorem d_Md_restore_28 : decode prog_14_method_47_code 28 = .ok (.istore_n 2, 1) := by decide +kernel
theorem d_Md_restore_29 : decode prog_14_method_47_code 29 = .ok (.iconst 0, 1) := by decide +kernel
theorem d_Md_restore_30 : decode prog_14_method_47_code 30 = .ok (.istore_n 3, 1) := by decide +kernel
theorem d_Md_restore_31 : decode prog_14_method_47_code 31 = .ok (.iload_n 3, 1) := by decide +kernel
theorem d_Md_restore_32 : decode prog_14_method_47_code 32 = .ok (.bipush 26, 2) := by decide +kernel
theorem d_Md_restore_34 : decode prog_14_method_47_code 34 = .ok (.if_icmp .ge 23, 3) := by decide +kernel
theorem d_Md_restore_37 : decode prog_14_method_47_code 37 = .ok (.aload_n 0, 1) := by decide +kernel
theorem d_Md_restore_38 : decode prog_14_method_47_code 38 = .ok (.getfield 7, 3) := by decide +kernel
theorem d_Md_restore_41 : decode prog_14_method_47_code 41 = .ok (.iload_n 3, 1) := by decide +kernel
theorem d_Md_restore_42 : decode prog_14_method_47_code 42 = .ok (.aload_n 0, 1) := by decide +kernel
theorem d_Md_restore_43 : decode prog_14_method_47_code 43 = .ok (.getfield 35, 3) := by decide +kernel
theorem d_Md_restore_46 : decode prog_14_method_47_code 46 = .ok (.iload_n 2, 1) := by decide +kernel
theorem d_Md_restore_47 : decode prog_14_method_47_code 47 = .ok (.iload_n 3, 1) := by decide +kernel
theorem d_Md_restore_48 : decode prog_14_method_47_code 48 = .ok (.iadd, 1) := by decide +kernel
theorem d_Md_restore_49 : decode prog_14_method_47_code 49 = .ok (.iaload, 1) := by decide +kernel
theorem d_Md_restore_50 : decode prog_14_method_47_code 50 = .ok (.iastore, 1) := by decide +kernel
theorem d_Md_restore_51 : decode prog_14_method_47_code 51 = .ok (.iinc 3 1, 3) := by decide +kernel
theorem d_Md_restore_54 : decode prog_14_method_47_code 54 = .ok (.goto (-23), 3) := by decide +kernel
theorem d_Md_restore_57 : decode prog_14_method_47_code 57 = .ok (.iconst 0, 1) := by decide +kernel
theorem d_Md_restore_58 : decode prog_14_method_47_code 58 = .ok (.istore_n 3, 1) := by decide +kernel
theorem d_Md_restore_59 : decode prog_14_method_47_code 59 = .ok (.iload_n 3, 1) := by decide +kernel
theorem d_Md_restore_60 : decode prog_14_method_47_code 60 = .ok (.bipush 16, 2) := by decide +kernel
theorem d_Md_restore_62 : decode prog_14_method_47_code 62 = .ok (.if_icmp .ge 26, 3) := by decide +kernel
theorem d_Md_restore_65 : decode prog_14_method_47_code 65 = .ok (.aload_n 0, 1) := by decide +kernel
theorem d_Md_restore_66 : decode prog_14_method_47_code 66 = .ok (.getfield 16, 3) := by decide +kernel
theorem d_Md_restore_69 : decode prog_14_method_47_code 69 = .ok (.iload_n 3, 1) := by decide +kernel
theorem d_Md_restore_70 : decode prog_14_method_47_code 70 = .ok (.aload_n 0, 1) := by decide +kernel
theorem d_Md_restore_71 : decode prog_14_method_47_code 71 = .ok (.getfield 35, 3) := by decide +kernel
theorem d_Md_restore_74 : decode prog_14_method_47_code 74 = .ok (.iload_n 2, 1) := by decide +kernel
theorem d_Md_restore_75 : decode prog_14_method_47_code 75 = .ok (.bipush 26, 2) := by decide +kernel
theorem d_Md_restore_77 : decode prog_14_method_47_code 77 = .ok (.iadd, 1) := by decide +kernel
theorem d_Md_restore_78 : decode prog_14_method_47_code 78 = .ok (.iload_n 3, 1) := by decide +kernel
theorem d_Md_restore_79 : decode prog_14_method_47_code 79 = .ok (.iadd, 1) := by decide +kernel
theorem d_Md_restore_80 : decode prog_14_method_47_code 80 = .ok (.iaload, 1) := by decide +kernel
theorem d_Md_restore_81 : decode prog_14_method_47_code 81 = .ok (.iastore, 1) := by decide +kernel
theorem d_Md_restore_82 : decode prog_14_method_47_code 82 = .ok (.iinc 3 1, 3) := by decide +kernel
theorem d_Md_restore_85 : decode prog_14_method_47_code 85 = .ok (.goto (-26), 3) := by decide +kernel
theorem d_Md_restore_88 : decode prog_14_method_47_code 88 = .ok (.aload_n 0, 1) := by decide +kernel
theorem d_Md_restore_89 : decode prog_14_method_47_code 89 = .ok (.aload_n 0, 1) := by decide +kernel
theorem d_Md_restore_90 : decode prog_14_method_47_code 90 = .ok (.getfield 35, 3) := by decide +kernel
theorem d_Md_restore_93 : decode prog_14_method_47_code 93 = .ok (.iload_n 2, 1) := by decide +kernel
theorem d_Md_restore_94 : decode prog_14_method_47_code 94 = .ok (.bipush 45, 2) := by decide +kernel
theorem d_Md_restore_96 : decode prog_14_method_47_code 96 = .ok (.iadd, 1) := by decide +kernel
theorem d_Md_restore_97 : decode prog_14_method_47_code 97 = .ok (.iaload, 1) := by decide +kernel
theorem d_Md_restore_98 : decode prog_14_method_47_code 98 = .ok (.putfield 121, 3) := by decide +kernel
theorem d_Md_restore_101 : decode prog_14_method_47_code 101 = .ok (.iconst 1, 1) := by decide +kernel
theorem d_Md_restore_102 : decode prog_14_method_47_code 102 = .ok (.ireturn, 1) := by decide +kernel
theorem d_Md_told_0 : decode prog_14_method_48_code 0 = .ok (.aload_n 0, 1) := by decide +kernel
theorem d_Md_told_1 : decode prog_14_method_48_code 1 = .ok (.invokevirtual 46, 3) := by decide +kernel
theorem d_Md_told_4 : decode prog_14_method_48_code 4 = .ok (.iload_n 1, 1) := by decide +kernel
theorem d_Md_told_5 : decode prog_14_method_48_code 5 = .ok (.bipush 40, 2) := by decide +kernel
theorem d_Md_told_7 : decode prog_14_method_48_code 7 = .ok (.if_icmp .lt 24, 3) := by decide +kernel
theorem d_Md_told_10 : decode prog_14_method_48_code 10 = .ok (.iload_n 1, 1) := by decide +kernel
theorem d_Md_told_11 : decode prog_14_method_48_code 11 = .ok (.bipush 46, 2) := by decide +kernel
theorem d_Md_told_13 : decode prog_14_method_48_code 13 = .ok (.if_icmp .ge 15, 3) := by decide +kernel
theorem d_Md_told_16 : decode prog_14_method_48_code 16 = .ok (.aload_n 0, 1) := by decide +kernel
theorem d_Md_told_17 : decode prog_14_method_48_code 17 = .ok (.getfield 7, 3) := by decide +kernel
theorem d_Md_told_20 : decode prog_14_method_48_code 20 = .ok (.iload_n 1, 1) := by decide +kernel
theorem d_Md_told_21 : decode prog_14_method_48_code 21 = .ok (.bipush 22, 2) := by decide +kernel
theorem d_Md_told_23 : decode prog_14_method_48_code 23 = .ok (.isub, 1) := by decide +kernel
theorem d_Md_told_24 : decode prog_14_method_48_code 24 = .ok (.iaload, 1) := by decide +kernel
theorem d_Md_told_25 : decode prog_14_method_48_code 25 = .ok (.goto 5, 3) := by decide +kernel
theorem d_Md_told_28 : decode prog_14_method_48_code 28 = .ok (.bipush (-2), 2) := by decide +kernel
theorem d_Md_told_30 : decode prog_14_method_48_code 30 = .ok (.ireturn, 1) := by decide +kernel
theorem d_Md_told_31 : decode prog_14_method_48_code 31 = .ok (.iload_n 1, 1) := by decide +kernel
theorem d_Md_told_32 : decode prog_14_method_48_code 32 = .ok (.bipush 30, 2) := by decide +kernel
theorem d_Md_told_34 : decode prog_14_method_48_code 34 = .ok (.if_icmp .lt 24, 3) := by decide +kernel
theorem d_Md_told_37 : decode prog_14_method_48_code 37 = .ok (.iload_n 1, 1) := by decide +kernel
theorem d_Md_told_38 : decode prog_14_method_48_code 38 = .ok (.bipush 36, 2) := by decide +kernel
theorem d_Md_told_40 : decode prog_14_method_48_code 40 = .ok (.if_icmp .ge 15, 3) := by decide +kernel
theorem d_Md_told_43 : decode prog_14_method_48_code 43 = .ok (.aload_n 0, 1) := by decide +kernel
theorem d_Md_told_44 : decode prog_14_method_48_code 44 = .ok (.getfield 7, 3) := by decide +kernel
theorem d_Md_told_47 : decode prog_14_method_48_code 47 = .ok (.iload_n 1, 1) := by decide +kernel
theorem d_Md_told_48 : decode prog_14_method_48_code 48 = .ok (.bipush 18, 2) := by decide +kernel
theorem d_Md_told_50 : decode prog_14_method_48_code 50 = .ok (.isub, 1) := by decide +kernel
theorem d_Md_told_51 : decode prog_14_method_48_code 51 = .ok (.iaload, 1) := by decide +kernel
theorem d_Md_told_52 : decode prog_14_method_48_code 52 = .ok (.goto 5, 3) := by decide +kernel
theorem d_Md_told_55 : decode prog_14_method_48_code 55 = .ok (.bipush (-2), 2) := by decide +kernel
theorem d_Md_told_57 : decode prog_14_method_48_code 57 = .ok (.ireturn, 1) := by decide +kernel
theorem d_Md_told_58 : decode prog_14_method_48_code 58 = .ok (.iload_n 1, 1) := by decide +kernel
theorem d_Md_told_59 : decode prog_14_method_48_code 59 = .ok (.bipush 10, 2) := by decide +kernel
theorem d_Md_told_61 : decode prog_14_method_48_code 61 = .ok (.if_icmp .lt 24, 3) := by decide +kernel
theorem d_Md_told_64 : decode prog_14_method_48_code 64 = .ok (.iload_n 1, 1) := by decide +kernel
theorem d_Md_told_65 : decode prog_14_method_48_code 65 = .ok (.bipush 22, 2) := by decide +kernel
theorem d_Md_told_67 : decode prog_14_method_48_code 67 = .ok (.if_icmp .ge 15, 3) := by decide +kernel
theorem d_Md_told_70 : decode prog_14_method_48_code 70 = .ok (.aload_n 0, 1) := by decide +kernel
theorem d_Md_told_71 : decode prog_14_method_48_code 71 = .ok (.getfield 7, 3) := by decide +kernel
theorem d_Md_told_74 : decode prog_14_method_48_code 74 = .ok (.iload_n 1, 1) := by decide +kernel
theorem d_Md_told_75 : decode prog_14_method_48_code 75 = .ok (.bipush 10, 2) := by decide +kernel
theorem d_Md_told_77 : decode prog_14_method_48_code 77 = .ok (.isub, 1) := by decide +kernel
theorem d_Md_told_78 : decode prog_14_method_48_code 78 = .ok (.iaload, 1) := by decide +kernel
theorem d_Md_told_79 : decode prog_14_method_48_code 79 = .ok (.goto 5, 3) := by decide +kernel
theorem d_Md_told_82 : decode prog_14_method_48_code 82 = .ok (.bipush (-2), 2) := by decide +kernel
theorem d_Md_told_84 : decode prog_14_method_48_code 84 = .ok (.ireturn, 1) := by decide +kernel
theorem d_Md_told_85 : decode prog_14_method_48_code 85 = .ok (.iload_n 1, 1) := by decide +kernel
theorem d_Md_told_86 : decode prog_14_method_48_code 86 = .ok (.tableswitch 50 0 3 #[30, 35, 40, 40], 30) := by decide +kernel
theorem d_Md_told_116 : decode prog_14_method_48_code 116 = .ok (.aload_n 0, 1) := by decide +kernel
theorem d_Md_told_117 : decode prog_14_method_48_code 117 = .ok (.getfield 53, 3) := by decide +kernel
theorem d_Md_told_120 : decode prog_14_method_48_code 120 = .ok (.ireturn, 1) := by decide +kernel
theorem d_Md_told_121 : decode prog_14_method_48_code 121 = .ok (.aload_n 0, 1) := by decide +kernel
theorem d_Md_told_122 : decode prog_14_method_48_code 122 = .ok (.invokevirtual 78, 3) := by decide +kernel
theorem d_Md_told_125 : decode prog_14_method_48_code 125 = .ok (.ireturn, 1) := by decide +kernel
theorem d_Md_told_126 : decode prog_14_method_48_code 126 = .ok (.aload_n 0, 1) := by decide +kernel
theorem d_Md_told_127 : decode prog_14_method_48_code 127 = .ok (.getfield 7, 3) := by decide +kernel
theorem d_Md_told_130 : decode prog_14_method_48_code 130 = .ok (.bipush 22, 2) := by decide +kernel
theorem d_Md_told_132 : decode prog_14_method_48_code 132 = .ok (.iload_n 1, 1) := by decide +kernel
theorem d_Md_told_133 : decode prog_14_method_48_code 133 = .ok (.iadd, 1) := by decide +kernel
theorem d_Md_told_134 : decode prog_14_method_48_code 134 = .ok (.iaload, 1) := by decide +kernel
theorem d_Md_told_135 : decode prog_14_method_48_code 135 = .ok (.ireturn, 1) := by decide +kernel
theorem d_Md_told_136 : decode prog_14_method_48_code 136 = .ok (.iload_n 1, 1) := by decide +kernel
theorem d_Md_told_137 : decode prog_14_method_48_code 137 = .ok (.iconst 4, 1) := by decide +kernel
theorem d_Md_told_138 : decode prog_14_method_48_code 138 = .ok (.if_icmp .ne 10, 3) := by decide +kernel
theorem d_Md_told_141 : decode prog_14_method_48_code 141 = .ok (.aload_n 0, 1) := by decide +kernel
theorem d_Md_told_142 : decode prog_14_method_48_code 142 = .ok (.getfield 121, 3) := by decide +kernel
theorem d_Md_told_145 : decode prog_14_method_48_code 145 = .ok (.goto 5, 3) := by decide +kernel
theorem d_Md_told_148 : decode prog_14_method_48_code 148 = .ok (.bipush (-2), 2) := by decide +kernel
theorem d_Md_told_150 : decode prog_14_method_48_code 150 = .ok (.ireturn, 1) := by decide +kernel
theorem d_Int_bitCount_0 : decode prog_15_method_49_code 0 = .ok (.iload_n 0, 1) := by decide +kernel
theorem d_Int_bitCount_1 : decode prog_15_method_49_code 1 = .ok (.iload_n 0, 1) := by decide +kernel
theorem d_Int_bitCount_2 : decode prog_15_method_49_code 2 = .ok (.iconst 1, 1) := by decide +kernel
theorem d_Int_bitCount_3 : decode prog_15_method_49_code 3 = .ok (.iushr, 1) := by decide +kernel
theorem d_Int_bitCount_4 : decode prog_15_method_49_code 4 = .ok (.ldc_w 265, 3) := by decide +kernel
theorem d_Int_bitCount_7 : decode prog_15_method_49_code 7 = .ok (.iand, 1) := by decide +kernel
theorem d_Int_bitCount_8 : decode prog_15_method_49_code 8 = .ok (.isub, 1) := by decide +kernel
theorem d_Int_bitCount_9 : decode prog_15_method_49_code 9 = .ok (.istore_n 0, 1) := by decide +kernel
theorem d_Int_bitCount_10 : decode prog_15_method_49_code 10 = .ok (.iload_n 0, 1) := by decide +kernel
theorem d_Int_bitCount_11 : decode prog_15_method_49_code 11 = .ok (.ldc_w 266, 3) := by decide +kernel
theorem d_Int_bitCount_14 : decode prog_15_method_49_code 14 = .ok (.iand, 1) := by decide +kernel
theorem d_Int_bitCount_15 : decode prog_15_method_49_code 15 = .ok (.iload_n 0, 1) := by decide +kernel
theorem d_Int_bitCount_16 : decode prog_15_method_49_code 16 = .ok (.iconst 2, 1) := by decide +kernel
theorem d_Int_bitCount_17 : decode prog_15_method_49_code 17 = .ok (.iushr, 1) := by decide +kernel
theorem d_Int_bitCount_18 : decode prog_15_method_49_code 18 = .ok (.ldc_w 266, 3) := by decide +kernel
theorem d_Int_bitCount_21 : decode prog_15_method_49_code 21 = .ok (.iand, 1) := by decide +kernel
theorem d_Int_bitCount_22 : decode prog_15_method_49_code 22 = .ok (.iadd, 1) := by decide +kernel
theorem d_Int_bitCount_23 : decode prog_15_method_49_code 23 = .ok (.istore_n 0, 1) := by decide +kernel
theorem d_Int_bitCount_24 : decode prog_15_method_49_code 24 = .ok (.iload_n 0, 1) := by decide +kernel
theorem d_Int_bitCount_25 : decode prog_15_method_49_code 25 = .ok (.iload_n 0, 1) := by decide +kernel
theorem d_Int_bitCount_26 : decode prog_15_method_49_code 26 = .ok (.iconst 4, 1) := by decide +kernel
theorem d_Int_bitCount_27 : decode prog_15_method_49_code 27 = .ok (.iushr, 1) := by decide +kernel
theorem d_Int_bitCount_28 : decode prog_15_method_49_code 28 = .ok (.iadd, 1) := by decide +kernel
theorem d_Int_bitCount_29 : decode prog_15_method_49_code 29 = .ok (.ldc_w 267, 3) := by decide +kernel
theorem d_Int_bitCount_32 : decode prog_15_method_49_code 32 = .ok (.iand, 1) := by decide +kernel
theorem d_Int_bitCount_33 : decode prog_15_method_49_code 33 = .ok (.istore_n 0, 1) := by decide +kernel
theorem d_Int_bitCount_34 : decode prog_15_method_49_code 34 = .ok (.iload_n 0, 1) := by decide +kernel
theorem d_Int_bitCount_35 : decode prog_15_method_49_code 35 = .ok (.iload_n 0, 1) := by decide +kernel
theorem d_Int_bitCount_36 : decode prog_15_method_49_code 36 = .ok (.bipush 8, 2) := by decide +kernel
theorem d_Int_bitCount_38 : decode prog_15_method_49_code 38 = .ok (.iushr, 1) := by decide +kernel
theorem d_Int_bitCount_39 : decode prog_15_method_49_code 39 = .ok (.iadd, 1) := by decide +kernel
theorem d_Int_bitCount_40 : decode prog_15_method_49_code 40 = .ok (.istore_n 0, 1) := by decide +kernel
theorem d_Int_bitCount_41 : decode prog_15_method_49_code 41 = .ok (.iload_n 0, 1) := by decide +kernel
theorem d_Int_bitCount_42 : decode prog_15_method_49_code 42 = .ok (.iload_n 0, 1) := by decide +kernel
theorem d_Int_bitCount_43 : decode prog_15_method_49_code 43 = .ok (.bipush 16, 2) := by decide +kernel
theorem d_Int_bitCount_45 : decode prog_15_method_49_code 45 = .ok (.iushr, 1) := by decide +kernel
theorem d_Int_bitCount_46 : decode prog_15_method_49_code 46 = .ok (.iadd, 1) := by decide +kernel
theorem d_Int_bitCount_47 : decode prog_15_method_49_code 47 = .ok (.istore_n 0, 1) := by decide +kernel
theorem d_Int_bitCount_48 : decode prog_15_method_49_code 48 = .ok (.iload_n 0, 1) := by decide +kernel
theorem d_Int_bitCount_49 : decode prog_15_method_49_code 49 = .ok (.bipush 63, 2) := by decide +kernel
theorem d_Int_bitCount_51 : decode prog_15_method_49_code 51 = .ok (.iand, 1) := by decide +kernel
theorem d_Int_bitCount_52 : decode prog_15_method_49_code 52 = .ok (.ireturn, 1) := by decide +kernel
theorem d_Law_law_0 : decode code 0 = .ok (.new 7, 3) := by decide +kernel
theorem d_Law_law_3 : decode code 3 = .ok (.dup, 1) := by decide +kernel
theorem d_Law_law_4 : decode code 4 = .ok (.invokespecial 9, 3) := by decide +kernel
theorem d_Law_law_7 : decode code 7 = .ok (.astore_n 1, 1) := by decide +kernel
theorem d_Law_law_8 : decode code 8 = .ok (.new 10, 3) := by decide +kernel
theorem d_Law_law_11 : decode code 11 = .ok (.dup, 1) := by decide +kernel
theorem d_Law_law_12 : decode code 12 = .ok (.invokespecial 12, 3) := by decide +kernel
theorem d_Law_law_15 : decode code 15 = .ok (.astore_n 2, 1) := by decide +kernel
theorem d_Law_law_16 : decode code 16 = .ok (.iconst 0, 1) := by decide +kernel
theorem d_Law_law_17 : decode code 17 = .ok (.istore_n 3, 1) := by decide +kernel
theorem d_Law_law_18 : decode code 18 = .ok (.iload_n 3, 1) := by decide +kernel
theorem d_Law_law_19 : decode code 19 = .ok (.aload_n 0, 1) := by decide +kernel
theorem d_Law_law_20 : decode code 20 = .ok (.arraylength, 1) := by decide +kernel
theorem d_Law_law_21 : decode code 21 = .ok (.bipush 7, 2) := by decide +kernel
theorem d_Law_law_23 : decode code 23 = .ok (.isub, 1) := by decide +kernel
theorem d_Law_law_24 : decode code 24 = .ok (.if_icmp .gt 828, 3) := by decide +kernel
theorem d_Law_law_27 : decode code 27 = .ok (.aload_n 0, 1) := by decide +kernel
theorem d_Law_law_28 : decode code 28 = .ok (.iload_n 3, 1) := by decide +kernel
theorem d_Law_law_29 : decode code 29 = .ok (.iaload, 1) := by decide +kernel
theorem d_Law_law_30 : decode code 30 = .ok (.bipush 31, 2) := by decide +kernel
theorem d_Law_law_32 : decode code 32 = .ok (.iand, 1) := by decide +kernel
theorem d_Law_law_33 : decode code 33 = .ok (.tableswitch 813 0 24 #[115, 148, 191, 214, 227, 240, 263, 276, 309, 332, 365, 398, 421, 444, 477, 510, 543, 556, 579, 602, 625, 701, 744, 767, 790], 115) := by decide +kernel
theorem d_Law_law_148 : decode code 148 = .ok (.aload_n 1, 1) := by decide +kernel
theorem d_Law_law_149 : decode code 149 = .ok (.aload_n 0, 1) := by decide +kernel
theorem d_Law_law_150 : decode code 150 = .ok (.iload_n 3, 1) := by decide +kernel
theorem d_Law_law_151 : decode code 151 = .ok (.iconst 1, 1) := by decide +kernel
theorem d_Law_law_152 : decode code 152 = .ok (.iadd, 1) := by decide +kernel
theorem d_Law_law_153 : decode code 153 = .ok (.iaload, 1) := by decide +kernel
theorem d_Law_law_154 : decode code 154 = .ok (.aload_n 0, 1) := by decide +kernel
theorem d_Law_law_155 : decode code 155 = .ok (.iload_n 3, 1) := by decide +kernel
theorem d_Law_law_156 : decode code 156 = .ok (.iconst 2, 1) := by decide +kernel
theorem d_Law_law_157 : decode code 157 = .ok (.iadd, 1) := by decide +kernel
theorem d_Law_law_158 : decode code 158 = .ok (.iaload, 1) := by decide +kernel
theorem d_Law_law_159 : decode code 159 = .ok (.invokevirtual 13, 3) := by decide +kernel
theorem d_Law_law_162 : decode code 162 = .ok (.aload_n 2, 1) := by decide +kernel
theorem d_Law_law_163 : decode code 163 = .ok (.aload_n 0, 1) := by decide +kernel
theorem d_Law_law_164 : decode code 164 = .ok (.iload_n 3, 1) := by decide +kernel
theorem d_Law_law_165 : decode code 165 = .ok (.iconst 1, 1) := by decide +kernel
theorem d_Law_law_166 : decode code 166 = .ok (.iadd, 1) := by decide +kernel
theorem d_Law_law_167 : decode code 167 = .ok (.iaload, 1) := by decide +kernel
theorem d_Law_law_168 : decode code 168 = .ok (.aload_n 0, 1) := by decide +kernel
theorem d_Law_law_169 : decode code 169 = .ok (.iload_n 3, 1) := by decide +kernel
theorem d_Law_law_170 : decode code 170 = .ok (.iconst 2, 1) := by decide +kernel
theorem d_Law_law_171 : decode code 171 = .ok (.iadd, 1) := by decide +kernel
theorem d_Law_law_172 : decode code 172 = .ok (.iaload, 1) := by decide +kernel
theorem d_Law_law_173 : decode code 173 = .ok (.invokevirtual 17, 3) := by decide +kernel
theorem d_Law_law_176 : decode code 176 = .ok (.if_icmp .eq 670, 3) := by decide +kernel
theorem d_Law_law_179 : decode code 179 = .ok (.iconst 0, 1) := by decide +kernel
theorem d_Law_law_180 : decode code 180 = .ok (.ireturn, 1) := by decide +kernel
theorem d_Law_law_181 : decode code 181 = .ok (.aload_n 1, 1) := by decide +kernel
theorem d_Law_law_182 : decode code 182 = .ok (.aload_n 0, 1) := by decide +kernel
theorem d_Law_law_183 : decode code 183 = .ok (.iload_n 3, 1) := by decide +kernel
theorem d_Law_law_184 : decode code 184 = .ok (.iconst 1, 1) := by decide +kernel
theorem d_Law_law_185 : decode code 185 = .ok (.iadd, 1) := by decide +kernel
theorem d_Law_law_186 : decode code 186 = .ok (.iaload, 1) := by decide +kernel
theorem d_Law_law_187 : decode code 187 = .ok (.aload_n 0, 1) := by decide +kernel
theorem d_Law_law_188 : decode code 188 = .ok (.iload_n 3, 1) := by decide +kernel
theorem d_Law_law_189 : decode code 189 = .ok (.iconst 2, 1) := by decide +kernel
theorem d_Law_law_190 : decode code 190 = .ok (.iadd, 1) := by decide +kernel
theorem d_Law_law_191 : decode code 191 = .ok (.iaload, 1) := by decide +kernel
theorem d_Law_law_192 : decode code 192 = .ok (.aload_n 0, 1) := by decide +kernel
theorem d_Law_law_193 : decode code 193 = .ok (.iload_n 3, 1) := by decide +kernel
theorem d_Law_law_194 : decode code 194 = .ok (.iconst 3, 1) := by decide +kernel
theorem d_Law_law_195 : decode code 195 = .ok (.iadd, 1) := by decide +kernel
theorem d_Law_law_196 : decode code 196 = .ok (.iaload, 1) := by decide +kernel
theorem d_Law_law_197 : decode code 197 = .ok (.invokevirtual 18, 3) := by decide +kernel
theorem d_Law_law_200 : decode code 200 = .ok (.aload_n 2, 1) := by decide +kernel
theorem d_Law_law_201 : decode code 201 = .ok (.aload_n 0, 1) := by decide +kernel
theorem d_Law_law_202 : decode code 202 = .ok (.iload_n 3, 1) := by decide +kernel
theorem d_Law_law_203 : decode code 203 = .ok (.iconst 1, 1) := by decide +kernel
theorem d_Law_law_204 : decode code 204 = .ok (.iadd, 1) := by decide +kernel
theorem d_Law_law_205 : decode code 205 = .ok (.iaload, 1) := by decide +kernel
theorem d_Law_law_206 : decode code 206 = .ok (.aload_n 0, 1) := by decide +kernel
theorem d_Law_law_207 : decode code 207 = .ok (.iload_n 3, 1) := by decide +kernel
theorem d_Law_law_208 : decode code 208 = .ok (.iconst 2, 1) := by decide +kernel
theorem d_Law_law_209 : decode code 209 = .ok (.iadd, 1) := by decide +kernel
theorem d_Law_law_210 : decode code 210 = .ok (.iaload, 1) := by decide +kernel
theorem d_Law_law_211 : decode code 211 = .ok (.aload_n 0, 1) := by decide +kernel
theorem d_Law_law_212 : decode code 212 = .ok (.iload_n 3, 1) := by decide +kernel
theorem d_Law_law_213 : decode code 213 = .ok (.iconst 3, 1) := by decide +kernel
theorem d_Law_law_214 : decode code 214 = .ok (.iadd, 1) := by decide +kernel
theorem d_Law_law_215 : decode code 215 = .ok (.iaload, 1) := by decide +kernel
theorem d_Law_law_216 : decode code 216 = .ok (.invokevirtual 22, 3) := by decide +kernel
theorem d_Law_law_219 : decode code 219 = .ok (.if_icmp .eq 627, 3) := by decide +kernel
theorem d_Law_law_222 : decode code 222 = .ok (.iconst 0, 1) := by decide +kernel
theorem d_Law_law_223 : decode code 223 = .ok (.ireturn, 1) := by decide +kernel
theorem d_Law_law_224 : decode code 224 = .ok (.aload_n 1, 1) := by decide +kernel
theorem d_Law_law_225 : decode code 225 = .ok (.aload_n 0, 1) := by decide +kernel
theorem d_Law_law_226 : decode code 226 = .ok (.iload_n 3, 1) := by decide +kernel
theorem d_Law_law_227 : decode code 227 = .ok (.iconst 1, 1) := by decide +kernel
theorem d_Law_law_228 : decode code 228 = .ok (.iadd, 1) := by decide +kernel
theorem d_Law_law_229 : decode code 229 = .ok (.iaload, 1) := by decide +kernel
theorem d_Law_law_230 : decode code 230 = .ok (.invokevirtual 23, 3) := by decide +kernel
theorem d_Law_law_233 : decode code 233 = .ok (.aload_n 2, 1) := by decide +kernel
theorem d_Law_law_234 : decode code 234 = .ok (.aload_n 0, 1) := by decide +kernel
theorem d_Law_law_235 : decode code 235 = .ok (.iload_n 3, 1) := by decide +kernel
theorem d_Law_law_236 : decode code 236 = .ok (.iconst 1, 1) := by decide +kernel
theorem d_Law_law_237 : decode code 237 = .ok (.iadd, 1) := by decide +kernel
theorem d_Law_law_238 : decode code 238 = .ok (.iaload, 1) := by decide +kernel
theorem d_Law_law_239 : decode code 239 = .ok (.invokevirtual 27, 3) := by decide +kernel
theorem d_Law_law_242 : decode code 242 = .ok (.if_icmp .eq 604, 3) := by decide +kernel
theorem d_Law_law_245 : decode code 245 = .ok (.iconst 0, 1) := by decide +kernel
theorem d_Law_law_246 : decode code 246 = .ok (.ireturn, 1) := by decide +kernel
theorem d_Law_law_247 : decode code 247 = .ok (.aload_n 1, 1) := by decide +kernel
theorem d_Law_law_248 : decode code 248 = .ok (.invokevirtual 28, 3) := by decide +kernel
theorem d_Law_law_251 : decode code 251 = .ok (.aload_n 2, 1) := by decide +kernel
theorem d_Law_law_252 : decode code 252 = .ok (.invokevirtual 32, 3) := by decide +kernel
theorem d_Law_law_255 : decode code 255 = .ok (.if_icmp .eq 591, 3) := by decide +kernel
theorem d_Law_law_258 : decode code 258 = .ok (.iconst 0, 1) := by decide +kernel
theorem d_Law_law_259 : decode code 259 = .ok (.ireturn, 1) := by decide +kernel
theorem d_Law_law_260 : decode code 260 = .ok (.aload_n 1, 1) := by decide +kernel
theorem d_Law_law_261 : decode code 261 = .ok (.invokevirtual 33, 3) := by decide +kernel
theorem d_Law_law_264 : decode code 264 = .ok (.aload_n 2, 1) := by decide +kernel
theorem d_Law_law_265 : decode code 265 = .ok (.invokevirtual 36, 3) := by decide +kernel
theorem d_Law_law_268 : decode code 268 = .ok (.if_icmp .eq 578, 3) := by decide +kernel
theorem d_Law_law_271 : decode code 271 = .ok (.iconst 0, 1) := by decide +kernel
theorem d_Law_law_272 : decode code 272 = .ok (.ireturn, 1) := by decide +kernel
theorem d_Law_law_273 : decode code 273 = .ok (.aload_n 1, 1) := by decide +kernel
theorem d_Law_law_274 : decode code 274 = .ok (.aload_n 0, 1) := by decide +kernel
theorem d_Law_law_275 : decode code 275 = .ok (.iload_n 3, 1) := by decide +kernel
theorem d_Law_law_276 : decode code 276 = .ok (.iconst 1, 1) := by decide +kernel
theorem d_Law_law_277 : decode code 277 = .ok (.iadd, 1) := by decide +kernel
theorem d_Law_law_278 : decode code 278 = .ok (.iaload, 1) := by decide +kernel
theorem d_Law_law_279 : decode code 279 = .ok (.invokevirtual 37, 3) := by decide +kernel
theorem d_Law_law_282 : decode code 282 = .ok (.aload_n 2, 1) := by decide +kernel
theorem d_Law_law_283 : decode code 283 = .ok (.aload_n 0, 1) := by decide +kernel
theorem d_Law_law_284 : decode code 284 = .ok (.iload_n 3, 1) := by decide +kernel
theorem d_Law_law_285 : decode code 285 = .ok (.iconst 1, 1) := by decide +kernel
theorem d_Law_law_286 : decode code 286 = .ok (.iadd, 1) := by decide +kernel
theorem d_Law_law_287 : decode code 287 = .ok (.iaload, 1) := by decide +kernel
theorem d_Law_law_288 : decode code 288 = .ok (.invokevirtual 40, 3) := by decide +kernel
theorem d_Law_law_291 : decode code 291 = .ok (.if_icmp .eq 555, 3) := by decide +kernel
theorem d_Law_law_294 : decode code 294 = .ok (.iconst 0, 1) := by decide +kernel
theorem d_Law_law_295 : decode code 295 = .ok (.ireturn, 1) := by decide +kernel
theorem d_Law_law_296 : decode code 296 = .ok (.aload_n 1, 1) := by decide +kernel
theorem d_Law_law_297 : decode code 297 = .ok (.invokevirtual 41, 3) := by decide +kernel
theorem d_Law_law_300 : decode code 300 = .ok (.aload_n 2, 1) := by decide +kernel
theorem d_Law_law_301 : decode code 301 = .ok (.invokevirtual 44, 3) := by decide +kernel
theorem d_Law_law_304 : decode code 304 = .ok (.if_icmp .eq 542, 3) := by decide +kernel
theorem d_Law_law_307 : decode code 307 = .ok (.iconst 0, 1) := by decide +kernel
theorem d_Law_law_308 : decode code 308 = .ok (.ireturn, 1) := by decide +kernel
theorem d_Law_law_309 : decode code 309 = .ok (.aload_n 1, 1) := by decide +kernel
theorem d_Law_law_310 : decode code 310 = .ok (.aload_n 0, 1) := by decide +kernel
theorem d_Law_law_311 : decode code 311 = .ok (.iload_n 3, 1) := by decide +kernel
theorem d_Law_law_312 : decode code 312 = .ok (.iconst 1, 1) := by decide +kernel
theorem d_Law_law_313 : decode code 313 = .ok (.iadd, 1) := by decide +kernel
theorem d_Law_law_314 : decode code 314 = .ok (.iaload, 1) := by decide +kernel
theorem d_Law_law_315 : decode code 315 = .ok (.aload_n 0, 1) := by decide +kernel
theorem d_Law_law_316 : decode code 316 = .ok (.iload_n 3, 1) := by decide +kernel
theorem d_Law_law_317 : decode code 317 = .ok (.iconst 2, 1) := by decide +kernel
theorem d_Law_law_318 : decode code 318 = .ok (.iadd, 1) := by decide +kernel
theorem d_Law_law_319 : decode code 319 = .ok (.iaload, 1) := by decide +kernel
theorem d_Law_law_320 : decode code 320 = .ok (.invokevirtual 45, 3) := by decide +kernel
theorem d_Law_law_323 : decode code 323 = .ok (.aload_n 2, 1) := by decide +kernel
theorem d_Law_law_324 : decode code 324 = .ok (.aload_n 0, 1) := by decide +kernel
theorem d_Law_law_325 : decode code 325 = .ok (.iload_n 3, 1) := by decide +kernel
theorem d_Law_law_326 : decode code 326 = .ok (.iconst 1, 1) := by decide +kernel
theorem d_Law_law_327 : decode code 327 = .ok (.iadd, 1) := by decide +kernel
theorem d_Law_law_328 : decode code 328 = .ok (.iaload, 1) := by decide +kernel
theorem d_Law_law_329 : decode code 329 = .ok (.aload_n 0, 1) := by decide +kernel
theorem d_Law_law_330 : decode code 330 = .ok (.iload_n 3, 1) := by decide +kernel
theorem d_Law_law_331 : decode code 331 = .ok (.iconst 2, 1) := by decide +kernel
theorem d_Law_law_332 : decode code 332 = .ok (.iadd, 1) := by decide +kernel
theorem d_Law_law_333 : decode code 333 = .ok (.iaload, 1) := by decide +kernel
theorem d_Law_law_334 : decode code 334 = .ok (.invokevirtual 48, 3) := by decide +kernel
theorem d_Law_law_337 : decode code 337 = .ok (.if_icmp .eq 509, 3) := by decide +kernel
theorem d_Law_law_340 : decode code 340 = .ok (.iconst 0, 1) := by decide +kernel
theorem d_Law_law_341 : decode code 341 = .ok (.ireturn, 1) := by decide +kernel
theorem d_Law_law_342 : decode code 342 = .ok (.aload_n 1, 1) := by decide +kernel
theorem d_Law_law_343 : decode code 343 = .ok (.aload_n 0, 1) := by decide +kernel
theorem d_Law_law_344 : decode code 344 = .ok (.iload_n 3, 1) := by decide +kernel
theorem d_Law_law_345 : decode code 345 = .ok (.iconst 1, 1) := by decide +kernel
theorem d_Law_law_346 : decode code 346 = .ok (.iadd, 1) := by decide +kernel
theorem d_Law_law_347 : decode code 347 = .ok (.iaload, 1) := by decide +kernel
theorem d_Law_law_348 : decode code 348 = .ok (.invokevirtual 49, 3) := by decide +kernel
theorem d_Law_law_351 : decode code 351 = .ok (.aload_n 2, 1) := by decide +kernel
theorem d_Law_law_352 : decode code 352 = .ok (.aload_n 0, 1) := by decide +kernel
theorem d_Law_law_353 : decode code 353 = .ok (.iload_n 3, 1) := by decide +kernel
theorem d_Law_law_354 : decode code 354 = .ok (.iconst 1, 1) := by decide +kernel
theorem d_Law_law_355 : decode code 355 = .ok (.iadd, 1) := by decide +kernel
theorem d_Law_law_356 : decode code 356 = .ok (.iaload, 1) := by decide +kernel
theorem d_Law_law_357 : decode code 357 = .ok (.invokevirtual 52, 3) := by decide +kernel
theorem d_Law_law_360 : decode code 360 = .ok (.if_icmp .eq 486, 3) := by decide +kernel
theorem d_Law_law_363 : decode code 363 = .ok (.iconst 0, 1) := by decide +kernel
theorem d_Law_law_364 : decode code 364 = .ok (.ireturn, 1) := by decide +kernel
theorem d_Law_law_365 : decode code 365 = .ok (.aload_n 1, 1) := by decide +kernel
theorem d_Law_law_366 : decode code 366 = .ok (.aload_n 0, 1) := by decide +kernel
theorem d_Law_law_367 : decode code 367 = .ok (.iload_n 3, 1) := by decide +kernel
theorem d_Law_law_368 : decode code 368 = .ok (.iconst 1, 1) := by decide +kernel
theorem d_Law_law_369 : decode code 369 = .ok (.iadd, 1) := by decide +kernel
theorem d_Law_law_370 : decode code 370 = .ok (.iaload, 1) := by decide +kernel
theorem d_Law_law_371 : decode code 371 = .ok (.aload_n 0, 1) := by decide +kernel
theorem d_Law_law_372 : decode code 372 = .ok (.iload_n 3, 1) := by decide +kernel
theorem d_Law_law_373 : decode code 373 = .ok (.iconst 2, 1) := by decide +kernel
theorem d_Law_law_374 : decode code 374 = .ok (.iadd, 1) := by decide +kernel
theorem d_Law_law_375 : decode code 375 = .ok (.iaload, 1) := by decide +kernel
theorem d_Law_law_376 : decode code 376 = .ok (.invokevirtual 53, 3) := by decide +kernel
theorem d_Law_law_379 : decode code 379 = .ok (.aload_n 2, 1) := by decide +kernel
theorem d_Law_law_380 : decode code 380 = .ok (.aload_n 0, 1) := by decide +kernel
theorem d_Law_law_381 : decode code 381 = .ok (.iload_n 3, 1) := by decide +kernel
theorem d_Law_law_382 : decode code 382 = .ok (.iconst 1, 1) := by decide +kernel
theorem d_Law_law_383 : decode code 383 = .ok (.iadd, 1) := by decide +kernel
theorem d_Law_law_384 : decode code 384 = .ok (.iaload, 1) := by decide +kernel
theorem d_Law_law_385 : decode code 385 = .ok (.aload_n 0, 1) := by decide +kernel
theorem d_Law_law_386 : decode code 386 = .ok (.iload_n 3, 1) := by decide +kernel
theorem d_Law_law_387 : decode code 387 = .ok (.iconst 2, 1) := by decide +kernel
theorem d_Law_law_388 : decode code 388 = .ok (.iadd, 1) := by decide +kernel
theorem d_Law_law_389 : decode code 389 = .ok (.iaload, 1) := by decide +kernel
theorem d_Law_law_390 : decode code 390 = .ok (.invokevirtual 56, 3) := by decide +kernel
theorem d_Law_law_393 : decode code 393 = .ok (.if_icmp .eq 453, 3) := by decide +kernel
theorem d_Law_law_396 : decode code 396 = .ok (.iconst 0, 1) := by decide +kernel
theorem d_Law_law_397 : decode code 397 = .ok (.ireturn, 1) := by decide +kernel
theorem d_Law_law_398 : decode code 398 = .ok (.aload_n 1, 1) := by decide +kernel
theorem d_Law_law_399 : decode code 399 = .ok (.aload_n 0, 1) := by decide +kernel
theorem d_Law_law_400 : decode code 400 = .ok (.iload_n 3, 1) := by decide +kernel
theorem d_Law_law_401 : decode code 401 = .ok (.iconst 1, 1) := by decide +kernel
theorem d_Law_law_402 : decode code 402 = .ok (.iadd, 1) := by decide +kernel
theorem d_Law_law_403 : decode code 403 = .ok (.iaload, 1) := by decide +kernel
theorem d_Law_law_404 : decode code 404 = .ok (.aload_n 0, 1) := by decide +kernel
theorem d_Law_law_405 : decode code 405 = .ok (.iload_n 3, 1) := by decide +kernel
theorem d_Law_law_406 : decode code 406 = .ok (.iconst 2, 1) := by decide +kernel
theorem d_Law_law_407 : decode code 407 = .ok (.iadd, 1) := by decide +kernel
theorem d_Law_law_408 : decode code 408 = .ok (.iaload, 1) := by decide +kernel
theorem d_Law_law_409 : decode code 409 = .ok (.invokevirtual 57, 3) := by decide +kernel
theorem d_Law_law_412 : decode code 412 = .ok (.aload_n 2, 1) := by decide +kernel
theorem d_Law_law_413 : decode code 413 = .ok (.aload_n 0, 1) := by decide +kernel
theorem d_Law_law_414 : decode code 414 = .ok (.iload_n 3, 1) := by decide +kernel
theorem d_Law_law_415 : decode code 415 = .ok (.iconst 1, 1) := by decide +kernel
theorem d_Law_law_416 : decode code 416 = .ok (.iadd, 1) := by decide +kernel
theorem d_Law_law_417 : decode code 417 = .ok (.iaload, 1) := by decide +kernel
theorem d_Law_law_418 : decode code 418 = .ok (.aload_n 0, 1) := by decide +kernel
theorem d_Law_law_419 : decode code 419 = .ok (.iload_n 3, 1) := by decide +kernel
theorem d_Law_law_420 : decode code 420 = .ok (.iconst 2, 1) := by decide +kernel
theorem d_Law_law_421 : decode code 421 = .ok (.iadd, 1) := by decide +kernel
theorem d_Law_law_422 : decode code 422 = .ok (.iaload, 1) := by decide +kernel
theorem d_Law_law_423 : decode code 423 = .ok (.invokevirtual 60, 3) := by decide +kernel
theorem d_Law_law_426 : decode code 426 = .ok (.if_icmp .eq 420, 3) := by decide +kernel
theorem d_Law_law_429 : decode code 429 = .ok (.iconst 0, 1) := by decide +kernel
theorem d_Law_law_430 : decode code 430 = .ok (.ireturn, 1) := by decide +kernel
theorem d_Law_law_431 : decode code 431 = .ok (.aload_n 1, 1) := by decide +kernel
theorem d_Law_law_432 : decode code 432 = .ok (.aload_n 0, 1) := by decide +kernel
theorem d_Law_law_433 : decode code 433 = .ok (.iload_n 3, 1) := by decide +kernel
theorem d_Law_law_434 : decode code 434 = .ok (.iconst 1, 1) := by decide +kernel
theorem d_Law_law_435 : decode code 435 = .ok (.iadd, 1) := by decide +kernel
theorem d_Law_law_436 : decode code 436 = .ok (.iaload, 1) := by decide +kernel
theorem d_Law_law_437 : decode code 437 = .ok (.invokevirtual 61, 3) := by decide +kernel
theorem d_Law_law_440 : decode code 440 = .ok (.aload_n 2, 1) := by decide +kernel
theorem d_Law_law_441 : decode code 441 = .ok (.aload_n 0, 1) := by decide +kernel
theorem d_Law_law_442 : decode code 442 = .ok (.iload_n 3, 1) := by decide +kernel
theorem d_Law_law_443 : decode code 443 = .ok (.iconst 1, 1) := by decide +kernel
theorem d_Law_law_444 : decode code 444 = .ok (.iadd, 1) := by decide +kernel
theorem d_Law_law_445 : decode code 445 = .ok (.iaload, 1) := by decide +kernel
theorem d_Law_law_446 : decode code 446 = .ok (.invokevirtual 64, 3) := by decide +kernel
theorem d_Law_law_449 : decode code 449 = .ok (.if_icmp .eq 397, 3) := by decide +kernel
theorem d_Law_law_452 : decode code 452 = .ok (.iconst 0, 1) := by decide +kernel
theorem d_Law_law_453 : decode code 453 = .ok (.ireturn, 1) := by decide +kernel
theorem d_Law_law_454 : decode code 454 = .ok (.aload_n 1, 1) := by decide +kernel
theorem d_Law_law_455 : decode code 455 = .ok (.aload_n 0, 1) := by decide +kernel
theorem d_Law_law_456 : decode code 456 = .ok (.iload_n 3, 1) := by decide +kernel
theorem d_Law_law_457 : decode code 457 = .ok (.iconst 1, 1) := by decide +kernel
theorem d_Law_law_458 : decode code 458 = .ok (.iadd, 1) := by decide +kernel
theorem d_Law_law_459 : decode code 459 = .ok (.iaload, 1) := by decide +kernel
theorem d_Law_law_460 : decode code 460 = .ok (.invokevirtual 65, 3) := by decide +kernel
theorem d_Law_law_463 : decode code 463 = .ok (.aload_n 2, 1) := by decide +kernel
theorem d_Law_law_464 : decode code 464 = .ok (.aload_n 0, 1) := by decide +kernel
theorem d_Law_law_465 : decode code 465 = .ok (.iload_n 3, 1) := by decide +kernel
theorem d_Law_law_466 : decode code 466 = .ok (.iconst 1, 1) := by decide +kernel
theorem d_Law_law_467 : decode code 467 = .ok (.iadd, 1) := by decide +kernel
theorem d_Law_law_468 : decode code 468 = .ok (.iaload, 1) := by decide +kernel
theorem d_Law_law_469 : decode code 469 = .ok (.invokevirtual 68, 3) := by decide +kernel
theorem d_Law_law_472 : decode code 472 = .ok (.if_icmp .eq 374, 3) := by decide +kernel
theorem d_Law_law_475 : decode code 475 = .ok (.iconst 0, 1) := by decide +kernel
theorem d_Law_law_476 : decode code 476 = .ok (.ireturn, 1) := by decide +kernel
theorem d_Law_law_477 : decode code 477 = .ok (.aload_n 1, 1) := by decide +kernel
theorem d_Law_law_478 : decode code 478 = .ok (.aload_n 0, 1) := by decide +kernel
theorem d_Law_law_479 : decode code 479 = .ok (.iload_n 3, 1) := by decide +kernel
theorem d_Law_law_480 : decode code 480 = .ok (.iconst 1, 1) := by decide +kernel
theorem d_Law_law_481 : decode code 481 = .ok (.iadd, 1) := by decide +kernel
theorem d_Law_law_482 : decode code 482 = .ok (.iaload, 1) := by decide +kernel
theorem d_Law_law_483 : decode code 483 = .ok (.aload_n 0, 1) := by decide +kernel
theorem d_Law_law_484 : decode code 484 = .ok (.iload_n 3, 1) := by decide +kernel
theorem d_Law_law_485 : decode code 485 = .ok (.iconst 2, 1) := by decide +kernel
theorem d_Law_law_486 : decode code 486 = .ok (.iadd, 1) := by decide +kernel
theorem d_Law_law_487 : decode code 487 = .ok (.iaload, 1) := by decide +kernel
theorem d_Law_law_488 : decode code 488 = .ok (.invokevirtual 69, 3) := by decide +kernel
theorem d_Law_law_491 : decode code 491 = .ok (.aload_n 2, 1) := by decide +kernel
theorem d_Law_law_492 : decode code 492 = .ok (.aload_n 0, 1) := by decide +kernel
theorem d_Law_law_493 : decode code 493 = .ok (.iload_n 3, 1) := by decide +kernel
theorem d_Law_law_494 : decode code 494 = .ok (.iconst 1, 1) := by decide +kernel
theorem d_Law_law_495 : decode code 495 = .ok (.iadd, 1) := by decide +kernel
theorem d_Law_law_496 : decode code 496 = .ok (.iaload, 1) := by decide +kernel
theorem d_Law_law_497 : decode code 497 = .ok (.aload_n 0, 1) := by decide +kernel
theorem d_Law_law_498 : decode code 498 = .ok (.iload_n 3, 1) := by decide +kernel
theorem d_Law_law_499 : decode code 499 = .ok (.iconst 2, 1) := by decide +kernel
theorem d_Law_law_500 : decode code 500 = .ok (.iadd, 1) := by decide +kernel
theorem d_Law_law_501 : decode code 501 = .ok (.iaload, 1) := by decide +kernel
theorem d_Law_law_502 : decode code 502 = .ok (.invokevirtual 72, 3) := by decide +kernel
theorem d_Law_law_505 : decode code 505 = .ok (.if_icmp .eq 341, 3) := by decide +kernel
theorem d_Law_law_508 : decode code 508 = .ok (.iconst 0, 1) := by decide +kernel
theorem d_Law_law_509 : decode code 509 = .ok (.ireturn, 1) := by decide +kernel
theorem d_Law_law_510 : decode code 510 = .ok (.aload_n 1, 1) := by decide +kernel
theorem d_Law_law_511 : decode code 511 = .ok (.aload_n 0, 1) := by decide +kernel
theorem d_Law_law_512 : decode code 512 = .ok (.iload_n 3, 1) := by decide +kernel
theorem d_Law_law_513 : decode code 513 = .ok (.iconst 1, 1) := by decide +kernel
theorem d_Law_law_514 : decode code 514 = .ok (.iadd, 1) := by decide +kernel
theorem d_Law_law_515 : decode code 515 = .ok (.iaload, 1) := by decide +kernel
theorem d_Law_law_516 : decode code 516 = .ok (.aload_n 0, 1) := by decide +kernel
theorem d_Law_law_517 : decode code 517 = .ok (.iload_n 3, 1) := by decide +kernel
theorem d_Law_law_518 : decode code 518 = .ok (.iconst 2, 1) := by decide +kernel
theorem d_Law_law_519 : decode code 519 = .ok (.iadd, 1) := by decide +kernel
theorem d_Law_law_520 : decode code 520 = .ok (.iaload, 1) := by decide +kernel
theorem d_Law_law_521 : decode code 521 = .ok (.invokevirtual 73, 3) := by decide +kernel
theorem d_Law_law_524 : decode code 524 = .ok (.aload_n 2, 1) := by decide +kernel
theorem d_Law_law_525 : decode code 525 = .ok (.aload_n 0, 1) := by decide +kernel
theorem d_Law_law_526 : decode code 526 = .ok (.iload_n 3, 1) := by decide +kernel
theorem d_Law_law_527 : decode code 527 = .ok (.iconst 1, 1) := by decide +kernel
theorem d_Law_law_528 : decode code 528 = .ok (.iadd, 1) := by decide +kernel
theorem d_Law_law_529 : decode code 529 = .ok (.iaload, 1) := by decide +kernel
theorem d_Law_law_530 : decode code 530 = .ok (.aload_n 0, 1) := by decide +kernel
theorem d_Law_law_531 : decode code 531 = .ok (.iload_n 3, 1) := by decide +kernel
theorem d_Law_law_532 : decode code 532 = .ok (.iconst 2, 1) := by decide +kernel
theorem d_Law_law_533 : decode code 533 = .ok (.iadd, 1) := by decide +kernel
theorem d_Law_law_534 : decode code 534 = .ok (.iaload, 1) := by decide +kernel
theorem d_Law_law_535 : decode code 535 = .ok (.invokevirtual 76, 3) := by decide +kernel
theorem d_Law_law_538 : decode code 538 = .ok (.if_icmp .eq 308, 3) := by decide +kernel
theorem d_Law_law_541 : decode code 541 = .ok (.iconst 0, 1) := by decide +kernel
theorem d_Law_law_542 : decode code 542 = .ok (.ireturn, 1) := by decide +kernel
theorem d_Law_law_543 : decode code 543 = .ok (.aload_n 1, 1) := by decide +kernel
theorem d_Law_law_544 : decode code 544 = .ok (.aload_n 0, 1) := by decide +kernel
theorem d_Law_law_545 : decode code 545 = .ok (.iload_n 3, 1) := by decide +kernel
theorem d_Law_law_546 : decode code 546 = .ok (.iconst 1, 1) := by decide +kernel
theorem d_Law_law_547 : decode code 547 = .ok (.iadd, 1) := by decide +kernel
theorem d_Law_law_548 : decode code 548 = .ok (.iaload, 1) := by decide +kernel
theorem d_Law_law_549 : decode code 549 = .ok (.aload_n 0, 1) := by decide +kernel
theorem d_Law_law_550 : decode code 550 = .ok (.iload_n 3, 1) := by decide +kernel
theorem d_Law_law_551 : decode code 551 = .ok (.iconst 2, 1) := by decide +kernel
theorem d_Law_law_552 : decode code 552 = .ok (.iadd, 1) := by decide +kernel
theorem d_Law_law_553 : decode code 553 = .ok (.iaload, 1) := by decide +kernel
theorem d_Law_law_554 : decode code 554 = .ok (.invokevirtual 77, 3) := by decide +kernel
theorem d_Law_law_557 : decode code 557 = .ok (.aload_n 2, 1) := by decide +kernel
theorem d_Law_law_558 : decode code 558 = .ok (.aload_n 0, 1) := by decide +kernel
theorem d_Law_law_559 : decode code 559 = .ok (.iload_n 3, 1) := by decide +kernel
theorem d_Law_law_560 : decode code 560 = .ok (.iconst 1, 1) := by decide +kernel
theorem d_Law_law_561 : decode code 561 = .ok (.iadd, 1) := by decide +kernel
theorem d_Law_law_562 : decode code 562 = .ok (.iaload, 1) := by decide +kernel
theorem d_Law_law_563 : decode code 563 = .ok (.aload_n 0, 1) := by decide +kernel
theorem d_Law_law_564 : decode code 564 = .ok (.iload_n 3, 1) := by decide +kernel
theorem d_Law_law_565 : decode code 565 = .ok (.iconst 2, 1) := by decide +kernel
theorem d_Law_law_566 : decode code 566 = .ok (.iadd, 1) := by decide +kernel
theorem d_Law_law_567 : decode code 567 = .ok (.iaload, 1) := by decide +kernel
theorem d_Law_law_568 : decode code 568 = .ok (.invokevirtual 80, 3) := by decide +kernel
theorem d_Law_law_571 : decode code 571 = .ok (.if_icmp .eq 275, 3) := by decide +kernel
theorem d_Law_law_574 : decode code 574 = .ok (.iconst 0, 1) := by decide +kernel
theorem d_Law_law_575 : decode code 575 = .ok (.ireturn, 1) := by decide +kernel
theorem d_Law_law_576 : decode code 576 = .ok (.aload_n 1, 1) := by decide +kernel
theorem d_Law_law_577 : decode code 577 = .ok (.invokevirtual 81, 3) := by decide +kernel
theorem d_Law_law_580 : decode code 580 = .ok (.aload_n 2, 1) := by decide +kernel
theorem d_Law_law_581 : decode code 581 = .ok (.invokevirtual 84, 3) := by decide +kernel
theorem d_Law_law_584 : decode code 584 = .ok (.if_icmp .eq 262, 3) := by decide +kernel
theorem d_Law_law_587 : decode code 587 = .ok (.iconst 0, 1) := by decide +kernel
theorem d_Law_law_588 : decode code 588 = .ok (.ireturn, 1) := by decide +kernel
theorem d_Law_law_589 : decode code 589 = .ok (.aload_n 1, 1) := by decide +kernel
theorem d_Law_law_590 : decode code 590 = .ok (.aload_n 0, 1) := by decide +kernel
theorem d_Law_law_591 : decode code 591 = .ok (.iload_n 3, 1) := by decide +kernel
theorem d_Law_law_592 : decode code 592 = .ok (.iconst 1, 1) := by decide +kernel
theorem d_Law_law_593 : decode code 593 = .ok (.iadd, 1) := by decide +kernel
theorem d_Law_law_594 : decode code 594 = .ok (.iaload, 1) := by decide +kernel
theorem d_Law_law_595 : decode code 595 = .ok (.invokevirtual 85, 3) := by decide +kernel
theorem d_Law_law_598 : decode code 598 = .ok (.aload_n 2, 1) := by decide +kernel
theorem d_Law_law_599 : decode code 599 = .ok (.aload_n 0, 1) := by decide +kernel
theorem d_Law_law_600 : decode code 600 = .ok (.iload_n 3, 1) := by decide +kernel
theorem d_Law_law_601 : decode code 601 = .ok (.iconst 1, 1) := by decide +kernel
theorem d_Law_law_602 : decode code 602 = .ok (.iadd, 1) := by decide +kernel
theorem d_Law_law_603 : decode code 603 = .ok (.iaload, 1) := by decide +kernel
theorem d_Law_law_604 : decode code 604 = .ok (.invokevirtual 88, 3) := by decide +kernel
theorem d_Law_law_607 : decode code 607 = .ok (.if_icmp .eq 239, 3) := by decide +kernel
theorem d_Law_law_610 : decode code 610 = .ok (.iconst 0, 1) := by decide +kernel
theorem d_Law_law_611 : decode code 611 = .ok (.ireturn, 1) := by decide +kernel
theorem d_Law_law_612 : decode code 612 = .ok (.aload_n 1, 1) := by decide +kernel
theorem d_Law_law_613 : decode code 613 = .ok (.aload_n 0, 1) := by decide +kernel
theorem d_Law_law_614 : decode code 614 = .ok (.iload_n 3, 1) := by decide +kernel
theorem d_Law_law_615 : decode code 615 = .ok (.iconst 1, 1) := by decide +kernel
theorem d_Law_law_616 : decode code 616 = .ok (.iadd, 1) := by decide +kernel
theorem d_Law_law_617 : decode code 617 = .ok (.iaload, 1) := by decide +kernel
theorem d_Law_law_618 : decode code 618 = .ok (.invokevirtual 89, 3) := by decide +kernel
theorem d_Law_law_621 : decode code 621 = .ok (.aload_n 2, 1) := by decide +kernel
theorem d_Law_law_622 : decode code 622 = .ok (.aload_n 0, 1) := by decide +kernel
theorem d_Law_law_623 : decode code 623 = .ok (.iload_n 3, 1) := by decide +kernel
theorem d_Law_law_624 : decode code 624 = .ok (.iconst 1, 1) := by decide +kernel
theorem d_Law_law_625 : decode code 625 = .ok (.iadd, 1) := by decide +kernel
theorem d_Law_law_626 : decode code 626 = .ok (.iaload, 1) := by decide +kernel
theorem d_Law_law_627 : decode code 627 = .ok (.invokevirtual 92, 3) := by decide +kernel
theorem d_Law_law_630 : decode code 630 = .ok (.if_icmp .eq 216, 3) := by decide +kernel
theorem d_Law_law_633 : decode code 633 = .ok (.iconst 0, 1) := by decide +kernel
theorem d_Law_law_634 : decode code 634 = .ok (.ireturn, 1) := by decide +kernel
theorem d_Law_law_635 : decode code 635 = .ok (.aload_n 1, 1) := by decide +kernel
theorem d_Law_law_636 : decode code 636 = .ok (.aload_n 0, 1) := by decide +kernel
theorem d_Law_law_637 : decode code 637 = .ok (.iload_n 3, 1) := by decide +kernel
theorem d_Law_law_638 : decode code 638 = .ok (.iconst 1, 1) := by decide +kernel
theorem d_Law_law_639 : decode code 639 = .ok (.iadd, 1) := by decide +kernel
theorem d_Law_law_640 : decode code 640 = .ok (.iaload, 1) := by decide +kernel
theorem d_Law_law_641 : decode code 641 = .ok (.invokevirtual 93, 3) := by decide +kernel
theorem d_Law_law_644 : decode code 644 = .ok (.aload_n 2, 1) := by decide +kernel
theorem d_Law_law_645 : decode code 645 = .ok (.aload_n 0, 1) := by decide +kernel
theorem d_Law_law_646 : decode code 646 = .ok (.iload_n 3, 1) := by decide +kernel
theorem d_Law_law_647 : decode code 647 = .ok (.iconst 1, 1) := by decide +kernel
theorem d_Law_law_648 : decode code 648 = .ok (.iadd, 1) := by decide +kernel
theorem d_Law_law_649 : decode code 649 = .ok (.iaload, 1) := by decide +kernel
theorem d_Law_law_650 : decode code 650 = .ok (.invokevirtual 96, 3) := by decide +kernel
theorem d_Law_law_653 : decode code 653 = .ok (.if_icmp .eq 193, 3) := by decide +kernel
theorem d_Law_law_656 : decode code 656 = .ok (.iconst 0, 1) := by decide +kernel
theorem d_Law_law_657 : decode code 657 = .ok (.ireturn, 1) := by decide +kernel
theorem d_Law_law_658 : decode code 658 = .ok (.aload_n 1, 1) := by decide +kernel
theorem d_Law_law_659 : decode code 659 = .ok (.aload_n 0, 1) := by decide +kernel
theorem d_Law_law_660 : decode code 660 = .ok (.iload_n 3, 1) := by decide +kernel
theorem d_Law_law_661 : decode code 661 = .ok (.iconst 1, 1) := by decide +kernel
theorem d_Law_law_662 : decode code 662 = .ok (.iadd, 1) := by decide +kernel
theorem d_Law_law_663 : decode code 663 = .ok (.iaload, 1) := by decide +kernel
theorem d_Law_law_664 : decode code 664 = .ok (.aload_n 0, 1) := by decide +kernel
theorem d_Law_law_665 : decode code 665 = .ok (.iload_n 3, 1) := by decide +kernel
theorem d_Law_law_666 : decode code 666 = .ok (.iconst 2, 1) := by decide +kernel
theorem d_Law_law_667 : decode code 667 = .ok (.iadd, 1) := by decide +kernel
theorem d_Law_law_668 : decode code 668 = .ok (.iaload, 1) := by decide +kernel
theorem d_Law_law_669 : decode code 669 = .ok (.aload_n 0, 1) := by decide +kernel
theorem d_Law_law_670 : decode code 670 = .ok (.iload_n 3, 1) := by decide +kernel
theorem d_Law_law_671 : decode code 671 = .ok (.iconst 3, 1) := by decide +kernel
theorem d_Law_law_672 : decode code 672 = .ok (.iadd, 1) := by decide +kernel
theorem d_Law_law_673 : decode code 673 = .ok (.iaload, 1) := by decide +kernel
theorem d_Law_law_674 : decode code 674 = .ok (.aload_n 0, 1) := by decide +kernel
theorem d_Law_law_675 : decode code 675 = .ok (.iload_n 3, 1) := by decide +kernel
theorem d_Law_law_676 : decode code 676 = .ok (.iconst 4, 1) := by decide +kernel
theorem d_Law_law_677 : decode code 677 = .ok (.iadd, 1) := by decide +kernel
theorem d_Law_law_678 : decode code 678 = .ok (.iaload, 1) := by decide +kernel
theorem d_Law_law_679 : decode code 679 = .ok (.aload_n 0, 1) := by decide +kernel
theorem d_Law_law_680 : decode code 680 = .ok (.iload_n 3, 1) := by decide +kernel
theorem d_Law_law_681 : decode code 681 = .ok (.iconst 5, 1) := by decide +kernel
theorem d_Law_law_682 : decode code 682 = .ok (.iadd, 1) := by decide +kernel
theorem d_Law_law_683 : decode code 683 = .ok (.iaload, 1) := by decide +kernel
theorem d_Law_law_684 : decode code 684 = .ok (.aload_n 0, 1) := by decide +kernel
theorem d_Law_law_685 : decode code 685 = .ok (.iload_n 3, 1) := by decide +kernel
theorem d_Law_law_686 : decode code 686 = .ok (.bipush 6, 2) := by decide +kernel
theorem d_Law_law_688 : decode code 688 = .ok (.iadd, 1) := by decide +kernel
theorem d_Law_law_689 : decode code 689 = .ok (.iaload, 1) := by decide +kernel
theorem d_Law_law_690 : decode code 690 = .ok (.invokevirtual 97, 3) := by decide +kernel
theorem d_Law_law_693 : decode code 693 = .ok (.aload_n 2, 1) := by decide +kernel
theorem d_Law_law_694 : decode code 694 = .ok (.aload_n 0, 1) := by decide +kernel
theorem d_Law_law_695 : decode code 695 = .ok (.iload_n 3, 1) := by decide +kernel
theorem d_Law_law_696 : decode code 696 = .ok (.iconst 1, 1) := by decide +kernel
theorem d_Law_law_697 : decode code 697 = .ok (.iadd, 1) := by decide +kernel
theorem d_Law_law_698 : decode code 698 = .ok (.iaload, 1) := by decide +kernel
theorem d_Law_law_699 : decode code 699 = .ok (.aload_n 0, 1) := by decide +kernel
theorem d_Law_law_700 : decode code 700 = .ok (.iload_n 3, 1) := by decide +kernel
theorem d_Law_law_701 : decode code 701 = .ok (.iconst 2, 1) := by decide +kernel
theorem d_Law_law_702 : decode code 702 = .ok (.iadd, 1) := by decide +kernel
theorem d_Law_law_703 : decode code 703 = .ok (.iaload, 1) := by decide +kernel
theorem d_Law_law_704 : decode code 704 = .ok (.aload_n 0, 1) := by decide +kernel
theorem d_Law_law_705 : decode code 705 = .ok (.iload_n 3, 1) := by decide +kernel
theorem d_Law_law_706 : decode code 706 = .ok (.iconst 3, 1) := by decide +kernel
theorem d_Law_law_707 : decode code 707 = .ok (.iadd, 1) := by decide +kernel
theorem d_Law_law_708 : decode code 708 = .ok (.iaload, 1) := by decide +kernel
theorem d_Law_law_709 : decode code 709 = .ok (.aload_n 0, 1) := by decide +kernel
theorem d_Law_law_710 : decode code 710 = .ok (.iload_n 3, 1) := by decide +kernel
theorem d_Law_law_711 : decode code 711 = .ok (.iconst 4, 1) := by decide +kernel
theorem d_Law_law_712 : decode code 712 = .ok (.iadd, 1) := by decide +kernel
theorem d_Law_law_713 : decode code 713 = .ok (.iaload, 1) := by decide +kernel
theorem d_Law_law_714 : decode code 714 = .ok (.aload_n 0, 1) := by decide +kernel
theorem d_Law_law_715 : decode code 715 = .ok (.iload_n 3, 1) := by decide +kernel
theorem d_Law_law_716 : decode code 716 = .ok (.iconst 5, 1) := by decide +kernel
theorem d_Law_law_717 : decode code 717 = .ok (.iadd, 1) := by decide +kernel
theorem d_Law_law_718 : decode code 718 = .ok (.iaload, 1) := by decide +kernel
theorem d_Law_law_719 : decode code 719 = .ok (.aload_n 0, 1) := by decide +kernel
theorem d_Law_law_720 : decode code 720 = .ok (.iload_n 3, 1) := by decide +kernel
theorem d_Law_law_721 : decode code 721 = .ok (.bipush 6, 2) := by decide +kernel
theorem d_Law_law_723 : decode code 723 = .ok (.iadd, 1) := by decide +kernel
theorem d_Law_law_724 : decode code 724 = .ok (.iaload, 1) := by decide +kernel
theorem d_Law_law_725 : decode code 725 = .ok (.invokevirtual 101, 3) := by decide +kernel
theorem d_Law_law_728 : decode code 728 = .ok (.lcmp, 1) := by decide +kernel
theorem d_Law_law_729 : decode code 729 = .ok (.ifCond .eq 117, 3) := by decide +kernel
theorem d_Law_law_732 : decode code 732 = .ok (.iconst 0, 1) := by decide +kernel
theorem d_Law_law_733 : decode code 733 = .ok (.ireturn, 1) := by decide +kernel
theorem d_Law_law_734 : decode code 734 = .ok (.aload_n 1, 1) := by decide +kernel
theorem d_Law_law_735 : decode code 735 = .ok (.aload_n 0, 1) := by decide +kernel
theorem d_Law_law_736 : decode code 736 = .ok (.iload_n 3, 1) := by decide +kernel
theorem d_Law_law_737 : decode code 737 = .ok (.iconst 1, 1) := by decide +kernel
theorem d_Law_law_738 : decode code 738 = .ok (.iadd, 1) := by decide +kernel
theorem d_Law_law_739 : decode code 739 = .ok (.iaload, 1) := by decide +kernel
theorem d_Law_law_740 : decode code 740 = .ok (.aload_n 0, 1) := by decide +kernel
theorem d_Law_law_741 : decode code 741 = .ok (.iload_n 3, 1) := by decide +kernel
theorem d_Law_law_742 : decode code 742 = .ok (.iconst 2, 1) := by decide +kernel
theorem d_Law_law_743 : decode code 743 = .ok (.iadd, 1) := by decide +kernel
theorem d_Law_law_744 : decode code 744 = .ok (.iaload, 1) := by decide +kernel
theorem d_Law_law_745 : decode code 745 = .ok (.aload_n 0, 1) := by decide +kernel
theorem d_Law_law_746 : decode code 746 = .ok (.iload_n 3, 1) := by decide +kernel
theorem d_Law_law_747 : decode code 747 = .ok (.iconst 3, 1) := by decide +kernel
theorem d_Law_law_748 : decode code 748 = .ok (.iadd, 1) := by decide +kernel
theorem d_Law_law_749 : decode code 749 = .ok (.iaload, 1) := by decide +kernel
theorem d_Law_law_750 : decode code 750 = .ok (.invokevirtual 102, 3) := by decide +kernel
theorem d_Law_law_753 : decode code 753 = .ok (.aload_n 2, 1) := by decide +kernel
theorem d_Law_law_754 : decode code 754 = .ok (.aload_n 0, 1) := by decide +kernel
theorem d_Law_law_755 : decode code 755 = .ok (.iload_n 3, 1) := by decide +kernel
theorem d_Law_law_756 : decode code 756 = .ok (.iconst 1, 1) := by decide +kernel
theorem d_Law_law_757 : decode code 757 = .ok (.iadd, 1) := by decide +kernel
theorem d_Law_law_758 : decode code 758 = .ok (.iaload, 1) := by decide +kernel
theorem d_Law_law_759 : decode code 759 = .ok (.aload_n 0, 1) := by decide +kernel
theorem d_Law_law_760 : decode code 760 = .ok (.iload_n 3, 1) := by decide +kernel
theorem d_Law_law_761 : decode code 761 = .ok (.iconst 2, 1) := by decide +kernel
theorem d_Law_law_762 : decode code 762 = .ok (.iadd, 1) := by decide +kernel
theorem d_Law_law_763 : decode code 763 = .ok (.iaload, 1) := by decide +kernel
theorem d_Law_law_764 : decode code 764 = .ok (.aload_n 0, 1) := by decide +kernel
theorem d_Law_law_765 : decode code 765 = .ok (.iload_n 3, 1) := by decide +kernel
theorem d_Law_law_766 : decode code 766 = .ok (.iconst 3, 1) := by decide +kernel
theorem d_Law_law_767 : decode code 767 = .ok (.iadd, 1) := by decide +kernel
theorem d_Law_law_768 : decode code 768 = .ok (.iaload, 1) := by decide +kernel
theorem d_Law_law_769 : decode code 769 = .ok (.invokevirtual 105, 3) := by decide +kernel
theorem d_Law_law_772 : decode code 772 = .ok (.if_icmp .eq 74, 3) := by decide +kernel
theorem d_Law_law_775 : decode code 775 = .ok (.iconst 0, 1) := by decide +kernel
theorem d_Law_law_776 : decode code 776 = .ok (.ireturn, 1) := by decide +kernel
theorem d_Law_law_777 : decode code 777 = .ok (.aload_n 1, 1) := by decide +kernel
theorem d_Law_law_778 : decode code 778 = .ok (.aload_n 0, 1) := by decide +kernel
theorem d_Law_law_779 : decode code 779 = .ok (.iload_n 3, 1) := by decide +kernel
theorem d_Law_law_780 : decode code 780 = .ok (.iconst 1, 1) := by decide +kernel
theorem d_Law_law_781 : decode code 781 = .ok (.iadd, 1) := by decide +kernel
theorem d_Law_law_782 : decode code 782 = .ok (.iaload, 1) := by decide +kernel
theorem d_Law_law_783 : decode code 783 = .ok (.invokevirtual 106, 3) := by decide +kernel
theorem d_Law_law_786 : decode code 786 = .ok (.aload_n 2, 1) := by decide +kernel
theorem d_Law_law_787 : decode code 787 = .ok (.aload_n 0, 1) := by decide +kernel
theorem d_Law_law_788 : decode code 788 = .ok (.iload_n 3, 1) := by decide +kernel
theorem d_Law_law_789 : decode code 789 = .ok (.iconst 1, 1) := by decide +kernel
theorem d_Law_law_790 : decode code 790 = .ok (.iadd, 1) := by decide +kernel
theorem d_Law_law_791 : decode code 791 = .ok (.iaload, 1) := by decide +kernel
theorem d_Law_law_792 : decode code 792 = .ok (.invokevirtual 109, 3) := by decide +kernel
theorem d_Law_law_795 : decode code 795 = .ok (.if_icmp .eq 51, 3) := by decide +kernel
theorem d_Law_law_798 : decode code 798 = .ok (.iconst 0, 1) := by decide +kernel
theorem d_Law_law_799 : decode code 799 = .ok (.ireturn, 1) := by decide +kernel
theorem d_Law_law_800 : decode code 800 = .ok (.aload_n 1, 1) := by decide +kernel
theorem d_Law_law_801 : decode code 801 = .ok (.aload_n 0, 1) := by decide +kernel
theorem d_Law_law_802 : decode code 802 = .ok (.iload_n 3, 1) := by decide +kernel
theorem d_Law_law_803 : decode code 803 = .ok (.iconst 1, 1) := by decide +kernel
theorem d_Law_law_804 : decode code 804 = .ok (.iadd, 1) := by decide +kernel
theorem d_Law_law_805 : decode code 805 = .ok (.iaload, 1) := by decide +kernel
theorem d_Law_law_806 : decode code 806 = .ok (.invokevirtual 110, 3) := by decide +kernel
theorem d_Law_law_809 : decode code 809 = .ok (.aload_n 2, 1) := by decide +kernel
theorem d_Law_law_810 : decode code 810 = .ok (.aload_n 0, 1) := by decide +kernel
theorem d_Law_law_811 : decode code 811 = .ok (.iload_n 3, 1) := by decide +kernel
theorem d_Law_law_812 : decode code 812 = .ok (.iconst 1, 1) := by decide +kernel
theorem d_Law_law_813 : decode code 813 = .ok (.iadd, 1) := by decide +kernel
theorem d_Law_law_814 : decode code 814 = .ok (.iaload, 1) := by decide +kernel
theorem d_Law_law_815 : decode code 815 = .ok (.invokevirtual 113, 3) := by decide +kernel
theorem d_Law_law_818 : decode code 818 = .ok (.if_icmp .eq 28, 3) := by decide +kernel
theorem d_Law_law_821 : decode code 821 = .ok (.iconst 0, 1) := by decide +kernel
theorem d_Law_law_822 : decode code 822 = .ok (.ireturn, 1) := by decide +kernel
theorem d_Law_law_823 : decode code 823 = .ok (.aload_n 1, 1) := by decide +kernel
theorem d_Law_law_824 : decode code 824 = .ok (.aload_n 0, 1) := by decide +kernel
theorem d_Law_law_825 : decode code 825 = .ok (.iload_n 3, 1) := by decide +kernel
theorem d_Law_law_826 : decode code 826 = .ok (.iconst 1, 1) := by decide +kernel
theorem d_Law_law_827 : decode code 827 = .ok (.iadd, 1) := by decide +kernel
theorem d_Law_law_828 : decode code 828 = .ok (.iaload, 1) := by decide +kernel
theorem d_Law_law_829 : decode code 829 = .ok (.invokevirtual 114, 3) := by decide +kernel
theorem d_Law_law_832 : decode code 832 = .ok (.aload_n 2, 1) := by decide +kernel
theorem d_Law_law_833 : decode code 833 = .ok (.aload_n 0, 1) := by decide +kernel
theorem d_Law_law_834 : decode code 834 = .ok (.iload_n 3, 1) := by decide +kernel
theorem d_Law_law_835 : decode code 835 = .ok (.iconst 1, 1) := by decide +kernel
theorem d_Law_law_836 : decode code 836 = .ok (.iadd, 1) := by decide +kernel
theorem d_Law_law_837 : decode code 837 = .ok (.iaload, 1) := by decide +kernel
theorem d_Law_law_838 : decode code 838 = .ok (.invokevirtual 117, 3) := by decide +kernel
theorem d_Law_law_841 : decode code 841 = .ok (.if_icmp .eq 5, 3) := by decide +kernel
theorem d_Law_law_844 : decode code 844 = .ok (.iconst 0, 1) := by decide +kernel
theorem d_Law_law_845 : decode code 845 = .ok (.ireturn, 1) := by decide +kernel
theorem d_Law_law_846 : decode code 846 = .ok (.iinc 3 7, 3) := by decide +kernel
theorem d_Law_law_849 : decode code 849 = .ok (.goto (-831), 3) := by decide +kernel
theorem d_Law_law_852 : decode code 852 = .ok (.iconst 1, 1) := by decide +kernel
theorem d_Law_law_853 : decode code 853 = .ok (.ireturn, 1) := by decide +kernel
end
section
/-! Numbers: an int is written iI z, a long jI z, z an Int. -/
def iI (z : Int) : Int32 := Int32.ofInt z
def jI (z : Int) : Int64 := Int64.ofInt z
theorem iI_toInt {a : Int} (h : -2147483648 ≤ a ∧ a < 2147483648) : (iI a).toInt = a := Int32.toInt_ofInt_of_le h.1 h.2
theorem iI_of (x : Int32) : x = iI x.toInt := (Int32.ofInt_toInt x).symm
theorem iI_rg (x : Int32) : -2147483648 ≤ x.toInt ∧ x.toInt < 2147483648 := ⟨x.le_toInt, x.toInt_lt⟩
theorem iI_nI (n : Nat) : nI n = iI n := Int32.ofInt_eq_ofNat.symm
theorem iI_clamp {k : Nat} (h : k < 2147483648) : (iI k).toNatClampNeg = k := by rw [← iI_nI]; exact nI_clamp h
theorem iI_add (a b : Int) : iI a + iI b = iI (a + b) := (Int32.ofInt_add a b).symm
theorem iI_sub (a b : Int) : iI a - iI b = iI (a - b) := (Int32.ofInt_sub a b).symm
theorem iI_mul (a b : Int) : iI a * iI b = iI (a * b) := (Int32.ofInt_mul a b).symm
theorem iI_eq {a b : Int} (ha : -2147483648 ≤ a ∧ a < 2147483648) (hb : -2147483648 ≤ b ∧ b < 2147483648) : iI a = iI b ↔ a = b := by
  rw [← Int32.toInt_inj, iI_toInt ha, iI_toInt hb]
theorem iI_lt {a b : Int} (ha : -2147483648 ≤ a ∧ a < 2147483648) (hb : -2147483648 ≤ b ∧ b < 2147483648) : iI a < iI b ↔ a < b := by
  rw [Int32.lt_iff_toInt_lt, iI_toInt ha, iI_toInt hb]
theorem iI_le {a b : Int} (ha : -2147483648 ≤ a ∧ a < 2147483648) (hb : -2147483648 ≤ b ∧ b < 2147483648) : iI a ≤ iI b ↔ a ≤ b := by
  rw [Int32.le_iff_toInt_le, iI_toInt ha, iI_toInt hb]
theorem iI_0 : (0 : Int32) = iI 0 := by decide +kernel
theorem iI_div {a b : Int} (ha : 0 ≤ a ∧ a < 2147483648) (hb : 0 < b ∧ b < 2147483648) : iI a / iI b = iI (a / b) := by
  have h1 : a / b ≤ a := Int.ediv_le_self b ha.1
  have h2 : 0 ≤ a / b := Int.ediv_nonneg ha.1 (Int.le_of_lt hb.1)
  rw [← Int32.toInt_inj, Int32.toInt_div, iI_toInt ⟨by omega, ha.2⟩, iI_toInt ⟨by omega, hb.2⟩, iI_toInt ⟨by omega, by omega⟩, Int.tdiv_eq_ediv_of_nonneg ha.1]
  exact Int.bmod_eq_of_le (by omega) (by omega)
theorem iI_rem {a b : Int} (ha : 0 ≤ a ∧ a < 2147483648) (hb : 0 < b ∧ b < 2147483648) : iI a - iI a / iI b * iI b = iI (a % b) := by
  rw [iI_div ha hb, iI_mul, iI_sub, Int.emod_def, Int.mul_comm]
theorem iI_and (a b : Nat) : iI a &&& iI b = iI ↑(a &&& b) := by
  rw [← iI_nI, ← iI_nI, ← iI_nI]
  exact Int32.toBitVec_inj.1 (BitVec.ofNat_and).symm
theorem iI_or (a b : Nat) : iI a ||| iI b = iI ↑(a ||| b) := by
  rw [← iI_nI, ← iI_nI, ← iI_nI]
  exact Int32.toBitVec_inj.1 (BitVec.ofNat_or).symm
theorem iI_xor (a b : Nat) : iI a ^^^ iI b = iI ↑(a ^^^ b) := by
  rw [← iI_nI, ← iI_nI, ← iI_nI]
  exact Int32.toBitVec_inj.1 (BitVec.ofNat_xor).symm
theorem iI_shl : ∀ k : Nat, k < 31 → iI 1 <<< (iI k &&& 31) = iI ↑(2 ^ k) := by decide +kernel
theorem iI_31 : ∀ k : Nat, k < 31 → (iI k &&& 31).toBitVec.smod 32 = BitVec.ofNat 32 k := by decide +kernel
theorem iI_shr {a k : Nat} (ha : a < 2147483648) (hk : k < 31) : iI a >>> (iI k &&& 31) = iI ↑(a / 2 ^ k) := by
  have h3 : a / 2 ^ k < 2147483648 := Nat.lt_of_le_of_lt (Nat.div_le_self _ _) ha
  rw [← Int32.toInt_inj, iI_toInt ⟨Int.le_trans (by decide) (Int.natCast_nonneg _), Int.ofNat_lt.mpr h3⟩, ← Int32.toInt_toBitVec, Int32.toBitVec_shiftRight]
  rw [show (iI k &&& 31).toBitVec.smod 32 = BitVec.ofNat 32 k from iI_31 k hk]
  rw [BitVec.sshiftRight_eq', BitVec.toInt_sshiftRight, Int32.toInt_toBitVec, iI_toInt ⟨by omega, by omega⟩]
  rw [BitVec.toNat_ofNat, Nat.mod_eq_of_lt (by omega), Int.shiftRight_eq_div_pow]
  norm_cast
theorem iI_bit {a k : Nat} (ha : a < 2147483648) (hk : k < 31) : (iI a >>> (iI k &&& 31)) &&& iI 1 = iI (if a.testBit k then 1 else 0) := by
  rw [iI_shr ha hk, show (1 : Int) = ((1 : Nat) : Int) from rfl, iI_and, Nat.and_one_is_mod, Nat.testBit_eq_decide_div_mod_eq]
  rcases Nat.mod_two_eq_zero_or_one (a / 2 ^ k) with h | h <;> simp [h]
theorem jI_toInt {a : Int} (h : -9223372036854775808 ≤ a ∧ a < 9223372036854775808) : (jI a).toInt = a := Int64.toInt_ofInt_of_le h.1 h.2
theorem jI_add (a b : Int) : jI a + jI b = jI (a + b) := (Int64.ofInt_add a b).symm
theorem jI_mul (a b : Int) : jI a * jI b = jI (a * b) := (Int64.ofInt_mul a b).symm
theorem jI_sub (a b : Int) : jI a - jI b = jI (a - b) := (Int64.ofInt_sub a b).symm
theorem jI_lt {a b : Int} (ha : -9223372036854775808 ≤ a ∧ a < 9223372036854775808) (hb : -9223372036854775808 ≤ b ∧ b < 9223372036854775808) : jI a < jI b ↔ a < b := by
  rw [Int64.lt_iff_toInt_lt, jI_toInt ha, jI_toInt hb]
theorem jI_eq {a b : Int} (ha : -9223372036854775808 ≤ a ∧ a < 9223372036854775808) (hb : -9223372036854775808 ≤ b ∧ b < 9223372036854775808) : jI a = jI b ↔ a = b := by
  rw [← Int64.toInt_inj, jI_toInt ha, jI_toInt hb]
theorem jI_div {a b : Int} (ha : 0 ≤ a ∧ a < 9223372036854775808) (hb : 0 < b ∧ b < 9223372036854775808) : jI a / jI b = jI (a / b) := by
  have h1 : a / b ≤ a := Int.ediv_le_self b ha.1
  have h2 : 0 ≤ a / b := Int.ediv_nonneg ha.1 (Int.le_of_lt hb.1)
  rw [← Int64.toInt_inj, Int64.toInt_div, jI_toInt ⟨by omega, ha.2⟩, jI_toInt ⟨by omega, hb.2⟩, jI_toInt ⟨by omega, by omega⟩, Int.tdiv_eq_ediv_of_nonneg ha.1]
  exact Int.bmod_eq_of_le (by omega) (by omega)
theorem jI_rem {a b : Int} (ha : 0 ≤ a ∧ a < 9223372036854775808) (hb : 0 < b ∧ b < 9223372036854775808) : jI a - jI a / jI b * jI b = jI (a % b) := by
  rw [jI_div ha hb, jI_mul, jI_sub, Int.emod_def, Int.mul_comm]
theorem iI_long {a : Int} (h : -2147483648 ≤ a ∧ a < 2147483648) : (iI a).toInt64 = jI a := by
  rw [← Int64.toInt_inj, Int32.toInt_toInt64, iI_toInt h, jI_toInt ⟨by omega, by omega⟩]
theorem jI_cmp {a b : Int} (ha : -9223372036854775808 ≤ a ∧ a < 9223372036854775808) (hb : -9223372036854775808 ≤ b ∧ b < 9223372036854775808) : lg_cmp (jI a) (jI b) = iI (if b < a then 1 else if a = b then 0 else -1) := by
  unfold lg_cmp
  simp only [jI_lt hb ha, jI_eq ha hb]
  by_cases h1 : b < a
  · rw [if_pos h1, if_pos h1]; decide +kernel
  · rw [if_neg h1, if_neg h1]
    by_cases h2 : a = b
    · rw [if_pos h2, if_pos h2]; decide +kernel
    · rw [if_neg h2, if_neg h2]; decide +kernel
section RI
variable {K : wK} {sx : Option (Nat × (Nat → Int32) × Nat)} {cs : Nat × Nat} {pc : Nat} {lv : List (Option Value)} {st : List Value} {sh : wSh} {M : wM} {Q : Option Value → wSh → wM → Nat × Nat → Prop}
theorem In.add {a b : Int} (hd : decode K.2.1 pc = .ok (.iadd, 1)) (k : Rn K sx cs (pc + 1) lv (.int (iI (a + b)) :: st) sh M Q) : Rn K sx cs pc lv (.int (iI b) :: .int (iI a) :: st) sh M Q := Rn.iadd hd (by rw [iI_add]; exact k)
theorem In.sub {a b : Int} (hd : decode K.2.1 pc = .ok (.isub, 1)) (k : Rn K sx cs (pc + 1) lv (.int (iI (a - b)) :: st) sh M Q) : Rn K sx cs pc lv (.int (iI b) :: .int (iI a) :: st) sh M Q := Rn.isub hd (by rw [iI_sub]; exact k)
theorem In.mul {a b : Int} (hd : decode K.2.1 pc = .ok (.imul, 1)) (k : Rn K sx cs (pc + 1) lv (.int (iI (a * b)) :: st) sh M Q) : Rn K sx cs pc lv (.int (iI b) :: .int (iI a) :: st) sh M Q := Rn.imul hd (by rw [iI_mul]; exact k)
theorem In.div {a b : Int} (hd : decode K.2.1 pc = .ok (.idiv, 1)) (ha : 0 ≤ a ∧ a < 2147483648) (hb : 0 < b ∧ b < 2147483648) (k : Rn K sx cs (pc + 1) lv (.int (iI (a / b)) :: st) sh M Q) : Rn K sx cs pc lv (.int (iI b) :: .int (iI a) :: st) sh M Q := Rn.idiv hd (by rw [iI_0, iI_eq ⟨by omega, hb.2⟩ ⟨by decide, by decide⟩]; omega) (by rw [iI_div ha hb]; exact k)
theorem In.rem {a b : Int} (hd : decode K.2.1 pc = .ok (.irem, 1)) (ha : 0 ≤ a ∧ a < 2147483648) (hb : 0 < b ∧ b < 2147483648) (k : Rn K sx cs (pc + 1) lv (.int (iI (a % b)) :: st) sh M Q) : Rn K sx cs pc lv (.int (iI b) :: .int (iI a) :: st) sh M Q := Rn.irem hd (by rw [iI_0, iI_eq ⟨by omega, hb.2⟩ ⟨by decide, by decide⟩]; omega) (by rw [iI_rem ha hb]; exact k)
theorem In.inc {i : Nat} {n a : Int} {lv1 : List (Option Value)} (hd : decode K.2.1 pc = .ok (.iinc i n, 3)) (hx : lv[i]? = some (some (.int (iI a)))) (hn : i < K.2.2.1) (hp : i = 0 ∨ ∀ x, lv[i - 1]? = some x → w_n2 x = true) (he : lv.set i (some (.int (iI (a + n)))) = lv1) (k : Rn K sx cs (pc + 3) lv1 st sh M Q) : Rn K sx cs pc lv st sh M Q := Rn.iinc hd hx (iI_add a n) hn hp he k
theorem In.and {a b : Int} {x y : Nat} (ha : a = x) (hb : b = y) (hd : decode K.2.1 pc = .ok (.iand, 1)) (k : Rn K sx cs (pc + 1) lv (.int (iI ↑(x &&& y)) :: st) sh M Q) : Rn K sx cs pc lv (.int (iI b) :: .int (iI a) :: st) sh M Q := by
  subst ha; subst hb; exact Rn.iand hd (by rw [iI_and]; exact k)
theorem In.or {a b : Int} {x y : Nat} (ha : a = x) (hb : b = y) (hd : decode K.2.1 pc = .ok (.ior, 1)) (k : Rn K sx cs (pc + 1) lv (.int (iI ↑(x ||| y)) :: st) sh M Q) : Rn K sx cs pc lv (.int (iI b) :: .int (iI a) :: st) sh M Q := by
  subst ha; subst hb; exact Rn.ior hd (by rw [iI_or]; exact k)
theorem In.xor {a b : Int} {x y : Nat} (ha : a = x) (hb : b = y) (hd : decode K.2.1 pc = .ok (.ixor, 1)) (k : Rn K sx cs (pc + 1) lv (.int (iI ↑(x ^^^ y)) :: st) sh M Q) : Rn K sx cs pc lv (.int (iI b) :: .int (iI a) :: st) sh M Q := by
  subst ha; subst hb; exact Rn.ixor hd (by rw [iI_xor]; exact k)
theorem In.shl {b : Int} {y : Nat} (hb : b = y) (hy : y < 31) (hd : decode K.2.1 pc = .ok (.ishl, 1)) (k : Rn K sx cs (pc + 1) lv (.int (iI ↑(2 ^ y)) :: st) sh M Q) : Rn K sx cs pc lv (.int (iI b) :: .int (iI 1) :: st) sh M Q := by
  subst hb; exact Rn.ishl hd (by rw [iI_shl y hy]; exact k)
theorem In.shr {a b : Int} {x y : Nat} (ha : a = x) (hb : b = y) (hx : x < 2147483648) (hy : y < 31) (hd : decode K.2.1 pc = .ok (.ishr, 1)) (k : Rn K sx cs (pc + 1) lv (.int (iI ↑(x / 2 ^ y)) :: st) sh M Q) : Rn K sx cs pc lv (.int (iI b) :: .int (iI a) :: st) sh M Q := by
  subst ha; subst hb; exact Rn.ishr hd (by rw [iI_shr hx hy]; exact k)
theorem In.alen {b z t : Nat} (hd : decode K.2.1 pc = .ok (.arraylength, 1)) (hsh : sh[b]? = some (t, z)) (ht : t = 12 ∨ t = 13 ∨ t = 14) (k : Rn K sx cs (pc + 1) lv (.int (iI z) :: st) sh M Q) : Rn K sx cs pc lv (.ref b :: st) sh M Q := Rn.alen hd hsh ht (by rw [iI_nI]; exact k)
theorem In.vin {i : Int} {k z : Nat} (hi : i = k) (hk : k < z) (hz : z < 2147483648) : vp_in (iI i) z := by
  subst hi; rw [← iI_nI]; exact vp_in_nI hk hz
theorem In.ald {b z k : Nat} {i v : Int} (hd : decode K.2.1 pc = .ok (.iaload, 1)) (hsh : sh[b]? = some (12, z)) (hi : i = k) (hk : k < z) (hz : z < 2147483648) (hv : M.1 b k = iI v) (kk : Rn K sx cs (pc + 1) lv (.int (iI v) :: st) sh M Q) : Rn K sx cs pc lv (.int (iI i) :: .ref b :: st) sh M Q :=
  Rn.iald hd hsh (In.vin hi hk hz) (by rw [hi, iI_clamp (by omega), hv]; exact kk)
theorem In.zald {b z k : Nat} {i v : Int} (hd : decode K.2.1 pc = .ok (.baload, 1)) (hsh : sh[b]? = some (14, z)) (hi : i = k) (hk : k < z) (hz : z < 2147483648) (hv : M.1 b k = iI v) (kk : Rn K sx cs (pc + 1) lv (.int (iI v) :: st) sh M Q) : Rn K sx cs pc lv (.int (iI i) :: .ref b :: st) sh M Q :=
  Rn.zald hd hsh (In.vin hi hk hz) (by rw [hi, iI_clamp (by omega), hv]; exact kk)
theorem In.lald {b z k : Nat} {i v : Int} (hd : decode K.2.1 pc = .ok (.laload, 1)) (hsh : sh[b]? = some (13, z)) (hi : i = k) (hk : k < z) (hz : z < 2147483648) (hv : M.2.1 b k = jI v) (kk : Rn K sx cs (pc + 1) lv (.long (jI v) :: st) sh M Q) : Rn K sx cs pc lv (.int (iI i) :: .ref b :: st) sh M Q :=
  Rn.lald hd hsh (In.vin hi hk hz) (by rw [hi, iI_clamp (by omega), hv]; exact kk)
theorem In.ast {b z k : Nat} {i x : Int} (hd : decode K.2.1 pc = .ok (.iastore, 1)) (hsh : sh[b]? = some (12, z)) (hi : i = k) (hk : k < z) (hz : z < 2147483648) (kk : Rn K sx cs (pc + 1) lv st sh (w_ui M b k (iI x)) Q) : Rn K sx cs pc lv (.int (iI x) :: .int (iI i) :: .ref b :: st) sh M Q :=
  Rn.iast hd hsh (In.vin hi hk hz) (by rw [hi, iI_clamp (by omega)]; exact kk)
theorem In.last {b z k : Nat} {i x : Int} (hd : decode K.2.1 pc = .ok (.lastore, 1)) (hsh : sh[b]? = some (13, z)) (hi : i = k) (hk : k < z) (hz : z < 2147483648) (kk : Rn K sx cs (pc + 1) lv st sh (w_ul M b k (jI x)) Q) : Rn K sx cs pc lv (.long (jI x) :: .int (iI i) :: .ref b :: st) sh M Q :=
  Rn.last hd hsh (In.vin hi hk hz) (by rw [hi, iI_clamp (by omega)]; exact kk)
theorem In.zast1 {b z k : Nat} {i : Int} (hd : decode K.2.1 pc = .ok (.bastore, 1)) (hsh : sh[b]? = some (14, z)) (hi : i = k) (hk : k < z) (hz : z < 2147483648) (kk : Rn K sx cs (pc + 1) lv st sh (w_ui M b k (iI 1)) Q) : Rn K sx cs pc lv (.int (iI 1) :: .int (iI i) :: .ref b :: st) sh M Q :=
  Rn.zast (y := iI 1) hd hsh (In.vin hi hk hz) (by decide +kernel) (by rw [hi, iI_clamp (by omega)]; exact kk)
theorem In.getI {index b ci i z : Nat} {v : Int} {C nm ds : String} {fin : Bool} (hd : decode K.2.1 pc = .ok (.getfield index, 3)) (hf : w_fld ci i C nm ds fin false) (hw : Cond.fieldLink K.1.cls index C nm ds ∈ lw_g) (hsh : sh[b]? = some (ci, z)) (hv : M.1 b i = iI v) (k : Rn K sx cs (pc + 3) lv (.int (iI v) :: st) sh M Q) : Rn K sx cs pc lv (.ref b :: st) sh M Q := Rn.getI hd hf hw hsh (by rw [hv]; exact k)
theorem In.putI {index b ci i z : Nat} {C nm : String} {x : Int} (hd : decode K.2.1 pc = .ok (.putfield index, 3)) (hf : w_fld ci i C nm "I" false false) (hw : Cond.fieldLink K.1.cls index C nm "I" ∈ lw_g) (hsh : sh[b]? = some (ci, z)) (k : Rn K sx cs (pc + 3) lv st sh (w_ui M b i (iI x)) Q) : Rn K sx cs pc lv (.int (iI x) :: .ref b :: st) sh M Q := Rn.putI (ty0 := .int) hd hf hw hsh (by decide +kernel) rfl rfl k
theorem In.putZ0 {index b ci i z : Nat} {C nm : String} (hd : decode K.2.1 pc = .ok (.putfield index, 3)) (hf : w_fld ci i C nm "Z" false false) (hw : Cond.fieldLink K.1.cls index C nm "Z" ∈ lw_g) (hsh : sh[b]? = some (ci, z)) (k : Rn K sx cs (pc + 3) lv st sh (w_ui M b i (iI 0)) Q) : Rn K sx cs pc lv (.int (iI 0) :: .ref b :: st) sh M Q := Rn.putI (ty0 := .boolean) hd hf hw hsh (by decide +kernel) (by decide +kernel) (by decide +kernel) k
theorem In.putZ1 {index b ci i z : Nat} {C nm : String} (hd : decode K.2.1 pc = .ok (.putfield index, 3)) (hf : w_fld ci i C nm "Z" false false) (hw : Cond.fieldLink K.1.cls index C nm "Z" ∈ lw_g) (hsh : sh[b]? = some (ci, z)) (k : Rn K sx cs (pc + 3) lv st sh (w_ui M b i (iI 1)) Q) : Rn K sx cs pc lv (.int (iI 1) :: .ref b :: st) sh M Q := Rn.putI (ty0 := .boolean) hd hf hw hsh (by decide +kernel) (by decide +kernel) (by decide +kernel) k
theorem In.max {index : Nat} {a b : Int} (ha : -2147483648 ≤ a ∧ a < 2147483648) (hb : -2147483648 ≤ b ∧ b < 2147483648) (hd : decode K.2.1 pc = .ok (.invokestatic index, 3)) (hl : Cond.methodLink K.1.cls index Lib.Math.max.name ∈ lw_g) (hst : Cond.static Lib.Math.max.name ∈ lw_g) (hini : Cond.initialized "java/lang/Math" ∈ lw_g) (hcd : Cond.code Lib.Math.max.name Lib.Math.max.code 2 (some .int) ∈ lw_g) (hf : 1 ≤ K.2.2.2.2.frames) (hlo : (st.map fun v => v.category).sum + 13 ≤ K.2.2.2.2.locals) (k : Rn K sx cs (pc + 3) lv (.int (iI (if a < b then b else a)) :: st) sh M Q) : Rn K sx cs pc lv (.int (iI b) :: .int (iI a) :: st) sh M Q :=
  Rn.max hd hl hst hini hcd hf hlo (by
    have e : (if iI a < iI b then iI b else iI a) = iI (if a < b then b else a) := by
      simp only [iI_lt ha hb]; split <;> rfl
    rw [e]; exact k)
theorem In.min {index : Nat} {a b : Int} (ha : -2147483648 ≤ a ∧ a < 2147483648) (hb : -2147483648 ≤ b ∧ b < 2147483648) (hd : decode K.2.1 pc = .ok (.invokestatic index, 3)) (hl : Cond.methodLink K.1.cls index Lib.Math.min.name ∈ lw_g) (hst : Cond.static Lib.Math.min.name ∈ lw_g) (hini : Cond.initialized "java/lang/Math" ∈ lw_g) (hcd : Cond.code Lib.Math.min.name Lib.Math.min.code 2 (some .int) ∈ lw_g) (hf : 1 ≤ K.2.2.2.2.frames) (hlo : (st.map fun v => v.category).sum + 13 ≤ K.2.2.2.2.locals) (k : Rn K sx cs (pc + 3) lv (.int (iI (if b < a then b else a)) :: st) sh M Q) : Rn K sx cs pc lv (.int (iI b) :: .int (iI a) :: st) sh M Q :=
  Rn.min hd hl hst hini hcd hf hlo (by
    have e : (if iI b < iI a then iI b else iI a) = iI (if b < a then b else a) := by
      simp only [iI_lt hb ha]; split <;> rfl
    rw [e]; exact k)
theorem In.maxL {index : Nat} {a b : Int} (ha : -9223372036854775808 ≤ a ∧ a < 9223372036854775808) (hb : -9223372036854775808 ≤ b ∧ b < 9223372036854775808) (hd : decode K.2.1 pc = .ok (.invokestatic index, 3)) (hl : Cond.methodLink K.1.cls index Lib.MathLoose.max_long.x ∈ lw_g) (hst : Cond.static Lib.MathLoose.max_long.x ∈ lw_g) (hini : Cond.initialized "java/lang/Math" ∈ lw_g) (hcd : Cond.code Lib.MathLoose.max_long.x Lib.MathLoose.max_long.code 4 (some .long) ∈ lw_g) (hf : 1 ≤ K.2.2.2.2.frames) (hlo : (st.map fun v => v.category).sum + 15 ≤ K.2.2.2.2.locals) (k : Rn K sx cs (pc + 3) lv (.long (jI (if b < a then a else b)) :: st) sh M Q) : Rn K sx cs pc lv (.long (jI b) :: .long (jI a) :: st) sh M Q :=
  Rn.maxL hd hl hst hini hcd hf hlo (by
    have e : (if jI b < jI a then jI a else jI b) = jI (if b < a then a else b) := by
      simp only [jI_lt hb ha]; split <;> rfl
    rw [e]; exact k)
theorem In.ladd {a b : Int} (hd : decode K.2.1 pc = .ok (.ladd, 1)) (k : Rn K sx cs (pc + 1) lv (.long (jI (a + b)) :: st) sh M Q) : Rn K sx cs pc lv (.long (jI b) :: .long (jI a) :: st) sh M Q := Rn.ladd hd (by rw [jI_add]; exact k)
theorem In.lmul {a b : Int} (hd : decode K.2.1 pc = .ok (.lmul, 1)) (k : Rn K sx cs (pc + 1) lv (.long (jI (a * b)) :: st) sh M Q) : Rn K sx cs pc lv (.long (jI b) :: .long (jI a) :: st) sh M Q := Rn.lmul hd (by rw [jI_mul]; exact k)
theorem jI_0 : (0 : Int64) = jI 0 := by decide +kernel
theorem In.ldiv {a b : Int} (hd : decode K.2.1 pc = .ok (.ldiv, 1)) (ha : 0 ≤ a ∧ a < 9223372036854775808) (hb : 0 < b ∧ b < 9223372036854775808) (k : Rn K sx cs (pc + 1) lv (.long (jI (a / b)) :: st) sh M Q) : Rn K sx cs pc lv (.long (jI b) :: .long (jI a) :: st) sh M Q := Rn.ldiv hd (by rw [jI_0, jI_eq ⟨by omega, hb.2⟩ ⟨by decide, by decide⟩]; omega) (by rw [jI_div ha hb]; exact k)
theorem In.lrem {a b : Int} (hd : decode K.2.1 pc = .ok (.lrem, 1)) (ha : 0 ≤ a ∧ a < 9223372036854775808) (hb : 0 < b ∧ b < 9223372036854775808) (k : Rn K sx cs (pc + 1) lv (.long (jI (a % b)) :: st) sh M Q) : Rn K sx cs pc lv (.long (jI b) :: .long (jI a) :: st) sh M Q := Rn.lrem hd (by rw [jI_0, jI_eq ⟨by omega, hb.2⟩ ⟨by decide, by decide⟩]; omega) (by rw [jI_rem ha hb]; exact k)
theorem In.i2l {a : Int} (hd : decode K.2.1 pc = .ok (.i2l, 1)) (ha : -2147483648 ≤ a ∧ a < 2147483648) (k : Rn K sx cs (pc + 1) lv (.long (jI a) :: st) sh M Q) : Rn K sx cs pc lv (.int (iI a) :: st) sh M Q := Rn.i2l hd (by rw [iI_long ha]; exact k)
theorem In.lcmp {a b : Int} (hd : decode K.2.1 pc = .ok (.lcmp, 1)) (ha : -9223372036854775808 ≤ a ∧ a < 9223372036854775808) (hb : -9223372036854775808 ≤ b ∧ b < 9223372036854775808) (k : Rn K sx cs (pc + 1) lv (.int (iI (if b < a then 1 else if a = b then 0 else -1)) :: st) sh M Q) : Rn K sx cs pc lv (.long (jI b) :: .long (jI a) :: st) sh M Q := Rn.lcmp hd (by rw [jI_cmp ha hb]; exact k)
theorem In.sld {L b0 k : Nat} {xs : Nat → Int32} {i : Int} (hs : sx = some (L, xs, b0)) (hd : decode K.2.1 pc = .ok (.iaload, 1)) (hi : i = k) (hk : k < L) (hz : L < 2147483648) (kk : Rn K sx cs (pc + 1) lv (.int (iI (xs k).toInt) :: st) sh M Q) : Rn K sx cs pc lv (.int (iI i) :: .ref w_scr :: st) sh M Q :=
  Rn.sld hs hd (In.vin hi hk hz) (by rw [hi, iI_clamp (by omega), iI_of (xs k)]; exact kk)
theorem In.slen {L b0 : Nat} {xs : Nat → Int32} (hs : sx = some (L, xs, b0)) (hd : decode K.2.1 pc = .ok (.arraylength, 1)) (k : Rn K sx cs (pc + 1) lv (.int (iI L) :: st) sh M Q) : Rn K sx cs pc lv (.ref w_scr :: st) sh M Q := Rn.slen hs hd (by rw [iI_nI]; exact k)
theorem In.if_eq {a : Int} {off : Int} {tgt : Nat} (hd : decode K.2.1 pc = .ok (.ifCond .eq off, 3)) (ht : (pc : Int) + off = (tgt : Int)) (ha : -2147483648 ≤ a ∧ a < 2147483648)
    (kt : a = 0 → Rn K sx cs tgt lv st sh M Q) (kf : ¬ a = 0 → Rn K sx cs (pc + 3) lv st sh M Q) : Rn K sx cs pc lv (.int (iI a) :: st) sh M Q :=
  Rn.if_eq hd ht (fun h => kt (by rw [iI_0, iI_eq ha ⟨by decide, by decide⟩] at h; exact h)) (fun h => kf (by rw [iI_0, iI_eq ha ⟨by decide, by decide⟩] at h; exact h))
theorem In.if_ne {a : Int} {off : Int} {tgt : Nat} (hd : decode K.2.1 pc = .ok (.ifCond .ne off, 3)) (ht : (pc : Int) + off = (tgt : Int)) (ha : -2147483648 ≤ a ∧ a < 2147483648)
    (kt : ¬ a = 0 → Rn K sx cs tgt lv st sh M Q) (kf : a = 0 → Rn K sx cs (pc + 3) lv st sh M Q) : Rn K sx cs pc lv (.int (iI a) :: st) sh M Q :=
  Rn.if_ne hd ht (fun h => kt (by rw [iI_0, iI_eq ha ⟨by decide, by decide⟩] at h; exact h)) (fun h => kf (by rw [iI_0, iI_eq ha ⟨by decide, by decide⟩] at h; exact h))
theorem In.if_lt {a : Int} {off : Int} {tgt : Nat} (hd : decode K.2.1 pc = .ok (.ifCond .lt off, 3)) (ht : (pc : Int) + off = (tgt : Int)) (ha : -2147483648 ≤ a ∧ a < 2147483648)
    (kt : a < 0 → Rn K sx cs tgt lv st sh M Q) (kf : ¬ a < 0 → Rn K sx cs (pc + 3) lv st sh M Q) : Rn K sx cs pc lv (.int (iI a) :: st) sh M Q :=
  Rn.if_lt hd ht (fun h => kt (by rw [iI_0, iI_lt ha ⟨by decide, by decide⟩] at h; exact h)) (fun h => kf (by rw [iI_0, iI_lt ha ⟨by decide, by decide⟩] at h; exact h))
theorem In.if_ge {a : Int} {off : Int} {tgt : Nat} (hd : decode K.2.1 pc = .ok (.ifCond .ge off, 3)) (ht : (pc : Int) + off = (tgt : Int)) (ha : -2147483648 ≤ a ∧ a < 2147483648)
    (kt : 0 ≤ a → Rn K sx cs tgt lv st sh M Q) (kf : ¬ 0 ≤ a → Rn K sx cs (pc + 3) lv st sh M Q) : Rn K sx cs pc lv (.int (iI a) :: st) sh M Q :=
  Rn.if_ge hd ht (fun h => kt (by rw [iI_0, iI_le ⟨by decide, by decide⟩ ha] at h; exact h)) (fun h => kf (by rw [iI_0, iI_le ⟨by decide, by decide⟩ ha] at h; exact h))
theorem In.if_gt {a : Int} {off : Int} {tgt : Nat} (hd : decode K.2.1 pc = .ok (.ifCond .gt off, 3)) (ht : (pc : Int) + off = (tgt : Int)) (ha : -2147483648 ≤ a ∧ a < 2147483648)
    (kt : 0 < a → Rn K sx cs tgt lv st sh M Q) (kf : ¬ 0 < a → Rn K sx cs (pc + 3) lv st sh M Q) : Rn K sx cs pc lv (.int (iI a) :: st) sh M Q :=
  Rn.if_gt hd ht (fun h => kt (by rw [iI_0, iI_lt ⟨by decide, by decide⟩ ha] at h; exact h)) (fun h => kf (by rw [iI_0, iI_lt ⟨by decide, by decide⟩ ha] at h; exact h))
theorem In.if_le {a : Int} {off : Int} {tgt : Nat} (hd : decode K.2.1 pc = .ok (.ifCond .le off, 3)) (ht : (pc : Int) + off = (tgt : Int)) (ha : -2147483648 ≤ a ∧ a < 2147483648)
    (kt : a ≤ 0 → Rn K sx cs tgt lv st sh M Q) (kf : ¬ a ≤ 0 → Rn K sx cs (pc + 3) lv st sh M Q) : Rn K sx cs pc lv (.int (iI a) :: st) sh M Q :=
  Rn.if_le hd ht (fun h => kt (by rw [iI_0, iI_le ha ⟨by decide, by decide⟩] at h; exact h)) (fun h => kf (by rw [iI_0, iI_le ha ⟨by decide, by decide⟩] at h; exact h))
theorem In.icmp_eq {a b : Int} {off : Int} {tgt : Nat} (hd : decode K.2.1 pc = .ok (.if_icmp .eq off, 3)) (ht : (pc : Int) + off = (tgt : Int)) (ha : -2147483648 ≤ a ∧ a < 2147483648) (hb : -2147483648 ≤ b ∧ b < 2147483648)
    (kt : a = b → Rn K sx cs tgt lv st sh M Q) (kf : ¬ a = b → Rn K sx cs (pc + 3) lv st sh M Q) : Rn K sx cs pc lv (.int (iI b) :: .int (iI a) :: st) sh M Q :=
  Rn.icmp_eq hd ht (fun h => kt (by rw [iI_eq ha hb] at h; exact h)) (fun h => kf (by rw [iI_eq ha hb] at h; exact h))
theorem In.icmp_ne {a b : Int} {off : Int} {tgt : Nat} (hd : decode K.2.1 pc = .ok (.if_icmp .ne off, 3)) (ht : (pc : Int) + off = (tgt : Int)) (ha : -2147483648 ≤ a ∧ a < 2147483648) (hb : -2147483648 ≤ b ∧ b < 2147483648)
    (kt : ¬ a = b → Rn K sx cs tgt lv st sh M Q) (kf : a = b → Rn K sx cs (pc + 3) lv st sh M Q) : Rn K sx cs pc lv (.int (iI b) :: .int (iI a) :: st) sh M Q :=
  Rn.icmp_ne hd ht (fun h => kt (by rw [iI_eq ha hb] at h; exact h)) (fun h => kf (by rw [iI_eq ha hb] at h; exact h))
theorem In.icmp_lt {a b : Int} {off : Int} {tgt : Nat} (hd : decode K.2.1 pc = .ok (.if_icmp .lt off, 3)) (ht : (pc : Int) + off = (tgt : Int)) (ha : -2147483648 ≤ a ∧ a < 2147483648) (hb : -2147483648 ≤ b ∧ b < 2147483648)
    (kt : a < b → Rn K sx cs tgt lv st sh M Q) (kf : ¬ a < b → Rn K sx cs (pc + 3) lv st sh M Q) : Rn K sx cs pc lv (.int (iI b) :: .int (iI a) :: st) sh M Q :=
  Rn.icmp_lt hd ht (fun h => kt (by rw [iI_lt ha hb] at h; exact h)) (fun h => kf (by rw [iI_lt ha hb] at h; exact h))
theorem In.icmp_ge {a b : Int} {off : Int} {tgt : Nat} (hd : decode K.2.1 pc = .ok (.if_icmp .ge off, 3)) (ht : (pc : Int) + off = (tgt : Int)) (ha : -2147483648 ≤ a ∧ a < 2147483648) (hb : -2147483648 ≤ b ∧ b < 2147483648)
    (kt : b ≤ a → Rn K sx cs tgt lv st sh M Q) (kf : ¬ b ≤ a → Rn K sx cs (pc + 3) lv st sh M Q) : Rn K sx cs pc lv (.int (iI b) :: .int (iI a) :: st) sh M Q :=
  Rn.icmp_ge hd ht (fun h => kt (by rw [iI_le hb ha] at h; exact h)) (fun h => kf (by rw [iI_le hb ha] at h; exact h))
theorem In.icmp_gt {a b : Int} {off : Int} {tgt : Nat} (hd : decode K.2.1 pc = .ok (.if_icmp .gt off, 3)) (ht : (pc : Int) + off = (tgt : Int)) (ha : -2147483648 ≤ a ∧ a < 2147483648) (hb : -2147483648 ≤ b ∧ b < 2147483648)
    (kt : b < a → Rn K sx cs tgt lv st sh M Q) (kf : ¬ b < a → Rn K sx cs (pc + 3) lv st sh M Q) : Rn K sx cs pc lv (.int (iI b) :: .int (iI a) :: st) sh M Q :=
  Rn.icmp_gt hd ht (fun h => kt (by rw [iI_lt hb ha] at h; exact h)) (fun h => kf (by rw [iI_lt hb ha] at h; exact h))
theorem In.icmp_le {a b : Int} {off : Int} {tgt : Nat} (hd : decode K.2.1 pc = .ok (.if_icmp .le off, 3)) (ht : (pc : Int) + off = (tgt : Int)) (ha : -2147483648 ≤ a ∧ a < 2147483648) (hb : -2147483648 ≤ b ∧ b < 2147483648)
    (kt : a ≤ b → Rn K sx cs tgt lv st sh M Q) (kf : ¬ a ≤ b → Rn K sx cs (pc + 3) lv st sh M Q) : Rn K sx cs pc lv (.int (iI b) :: .int (iI a) :: st) sh M Q :=
  Rn.icmp_le hd ht (fun h => kt (by rw [iI_le ha hb] at h; exact h)) (fun h => kf (by rw [iI_le ha hb] at h; exact h))
theorem In.tabOut {dflt lo hi : Int} {offs : Array Int} {len : Nat} {a : Int} {tgt : Nat} (hd : decode K.2.1 pc = .ok (.tableswitch dflt lo hi offs, len)) (ha : -2147483648 ≤ a ∧ a < 2147483648) (h : a < lo ∨ hi < a) (ht : (pc : Int) + dflt = (tgt : Int)) (k : Rn K sx cs tgt lv st sh M Q) : Rn K sx cs pc lv (.int (iI a) :: st) sh M Q := Rn.tableOut hd (by rw [iI_toInt ha]; exact h) ht k
theorem In.tabIn {dflt lo hi : Int} {offs : Array Int} {len : Nat} {a : Int} {off : Int} {tgt : Nat} (v : Int) (hd : decode K.2.1 pc = .ok (.tableswitch dflt lo hi offs, len)) (e : a = v) (ha : -2147483648 ≤ v ∧ v < 2147483648) (h1 : lo ≤ v ∧ v ≤ hi) (ho : offs[(v - lo).toNat]? = some off) (ht : (pc : Int) + off = (tgt : Int)) (k : Rn K sx cs tgt lv st sh M Q) : Rn K sx cs pc lv (.int (iI a) :: st) sh M Q := by
  subst e
  exact Rn.tableIn hd (by rw [iI_toInt ha]; omega) (by rw [iI_toInt ha]; omega) (by rw [iI_toInt ha]; exact ho) ht k
theorem In.look {dflt : Int} {ps : Array (Int × Int)} {len : Nat} {a : Int} {off : Int} {tgt : Nat} (hd : decode K.2.1 pc = .ok (.lookupswitch dflt ps, len)) (ha : -2147483648 ≤ a ∧ a < 2147483648) (hp : (ps.toList.zip (ps.toList.drop 1)).all (fun (a, next) => a.1 < next.1) = true) (ho : Op.lookupswitch.offset ps.toList dflt a = off) (ht : (pc : Int) + off = (tgt : Int)) (k : Rn K sx cs tgt lv st sh M Q) : Rn K sx cs pc lv (.int (iI a) :: st) sh M Q := Rn.lookup hd hp (by rw [iI_toInt ha]; exact ho) ht k
theorem In.ldc {index : Nat} {v : Int32} {z : Int} (hd : decode K.2.1 pc = .ok (.ldc index, 2)) (hw : Cond.constant K.1.cls index v ∈ lw_g) (hv : v = iI z) (k : Rn K sx cs (pc + 2) lv (.int (iI z) :: st) sh M Q) : Rn K sx cs pc lv st sh M Q := Rn.ldc hd hw (by rw [hv]; exact k)
theorem In.ldc2 {index : Nat} {v : Int64} {z : Int} (hd : decode K.2.1 pc = .ok (.ldc2_w index, 3)) (hw : Cond.constantLong K.1.cls index v ∈ lw_g) (hv : v = jI z) (k : Rn K sx cs (pc + 3) lv (.long (jI z) :: st) sh M Q) : Rn K sx cs pc lv st sh M Q := Rn.ldc2 hd hw (by rw [hv]; exact k)
theorem w_pv {lv : List (Option Value)} {i : Nat} (h : (i == 0 || (match lv[i - 1]? with | some x => w_n2 x | none => true)) = true) : i = 0 ∨ ∀ x, lv[i - 1]? = some x → w_n2 x = true := by
  rcases Bool.or_eq_true_iff.mp h with h | h
  · exact Or.inl (by simpa using h)
  · refine Or.inr (fun x hx => ?_)
    rw [hx] at h
    exact h
end RI
end
section
/-! The shape of the made system. -/
def SH : wSh := [(10, 0), (3, 0), (8, 0), (12, 12), (12, 6), (12, 6), (6, 0), (12, 8), (12, 8), (5, 0), (12, 60), (7, 0), (3, 0), (8, 0), (12, 12), (12, 6), (12, 6), (0, 0), (1, 0), (12, 12), (2, 0), (12, 12), (9, 0), (3, 0), (8, 0), (12, 12), (12, 6), (12, 6), (0, 0), (4, 0), (3, 0), (8, 0), (12, 12), (12, 6), (12, 6), (6, 0), (12, 8), (12, 8), (4, 0), (3, 0), (8, 0), (12, 12), (12, 6), (12, 6), (6, 0), (12, 8), (12, 8), (11, 0), (12, 26), (12, 26), (12, 16), (12, 60), (12, 6), (12, 12), (12, 12), (13, 1681), (12, 100), (14, 2)]
def RGl : List (List (Option Nat)) := [[some 1, some 6, some 9, some 11, some 18, some 20, some 22, some 29, some 38], [some 2, some 4, some 5, none, none], [some 3], [], [], [], [some 7, some 8, none], [], [], [some 10, none], [], [some 12, some 17, none, none, none, none], [some 13, some 15, some 16, none, none], [some 14], [], [], [], [none, none, none], [some 19], [], [some 21], [], [some 23, some 28], [some 24, some 26, some 27, none, none], [some 25], [], [], [], [none, none, none], [some 30, some 35, none], [some 31, some 33, some 34, none, none], [some 32], [], [], [], [some 36, some 37, none], [], [], [some 39, some 44, none], [some 40, some 42, some 43, none, none], [some 41], [], [], [], [some 45, some 46, none], [], [], [some 48, some 49, none, some 50, none, some 51, none, none, none, some 52, none, none, some 53, some 54, some 55, some 56, some 57], [], [], [], [], [], [], [], [], [], []]
def RG : Nat → Nat → Option Nat := fun k i => (RGl.getD k []).getD i none
/-- the numbers of the objects of Hill -/
def isHill (h : Nat) : Prop := h = 1 ∨ h = 12 ∨ h = 23 ∨ h = 30 ∨ h = 39
/-- the numbers of the objects of Tree -/
def isTree (h : Nat) : Prop := h = 2 ∨ h = 13 ∨ h = 24 ∨ h = 31 ∨ h = 40
/-- the numbers of the objects of Sights -/
def isSights (h : Nat) : Prop := h = 6 ∨ h = 35 ∨ h = 44
/-- the numbers of the objects of Act -/
def isAct (h : Nat) : Prop := h = 17 ∨ h = 28
/-- the numbers of the objects of Image -/
def isImage (h : Nat) : Prop := h = 29 ∨ h = 38
theorem z_BH : SH[0]? = some (10, 0) := rfl
theorem z_Hill {h : Nat} (hh : isHill h) : SH[h]? = some (3, 0) := by rcases hh with rfl | rfl | rfl | rfl | rfl <;> rfl
theorem z_Tree {h : Nat} (hh : isTree h) : SH[h]? = some (8, 0) := by rcases hh with rfl | rfl | rfl | rfl | rfl <;> rfl
theorem z_Sights {h : Nat} (hh : isSights h) : SH[h]? = some (6, 0) := by rcases hh with rfl | rfl | rfl <;> rfl
theorem z_Pad : SH[9]? = some (5, 0) := rfl
theorem z_Telling : SH[11]? = some (7, 0) := rfl
theorem z_Act {h : Nat} (hh : isAct h) : SH[h]? = some (0, 0) := by rcases hh with rfl | rfl <;> rfl
theorem z_Choice : SH[18]? = some (1, 0) := rfl
theorem z_Cutting : SH[20]? = some (2, 0) := rfl
theorem z_Year : SH[22]? = some (9, 0) := rfl
theorem z_Image {h : Nat} (hh : isImage h) : SH[h]? = some (4, 0) := by rcases hh with rfl | rfl <;> rfl
theorem z_Md : SH[47]? = some (11, 0) := rfl
theorem r_Tree_parents {h : Nat} {M : wM} (hh : isTree h) (hG : M.2.2 = RG) : M.2.2 h 0 = some (h + 1) := by rw [hG]; rcases hh with rfl | rfl | rfl | rfl | rfl <;> rfl
theorem z_Tree_parents {h : Nat} (hh : isTree h) : SH[h + 1]? = some (12, 12) := by rcases hh with rfl | rfl | rfl | rfl | rfl <;> rfl
theorem r_Hill_tree {h : Nat} {M : wM} (hh : isHill h) (hG : M.2.2 = RG) : M.2.2 h 0 = some (h + 1) := by rw [hG]; rcases hh with rfl | rfl | rfl | rfl | rfl <;> rfl
theorem i_Hill_tree {h : Nat} (hh : isHill h) : isTree (h + 1) := by rcases hh with rfl | rfl | rfl | rfl | rfl <;> simp [isTree]
theorem r_Hill_loops {h : Nat} {M : wM} (hh : isHill h) (hG : M.2.2 = RG) : M.2.2 h 1 = some (h + 3) := by rw [hG]; rcases hh with rfl | rfl | rfl | rfl | rfl <;> rfl
theorem z_Hill_loops {h : Nat} (hh : isHill h) : SH[h + 3]? = some (12, 6) := by rcases hh with rfl | rfl | rfl | rfl | rfl <;> rfl
theorem r_Hill_chips {h : Nat} {M : wM} (hh : isHill h) (hG : M.2.2 = RG) : M.2.2 h 2 = some (h + 4) := by rw [hG]; rcases hh with rfl | rfl | rfl | rfl | rfl <;> rfl
theorem z_Hill_chips {h : Nat} (hh : isHill h) : SH[h + 4]? = some (12, 6) := by rcases hh with rfl | rfl | rfl | rfl | rfl <;> rfl
theorem r_BH_hill {M : wM} (hG : M.2.2 = RG) : M.2.2 0 0 = some 1 := by rw [hG]; rfl
theorem i_BH_hill : isHill 1 := by simp [isHill]
theorem r_Sights_loops {h : Nat} {M : wM} (hh : isSights h) (hG : M.2.2 = RG) : M.2.2 h 0 = some (h + 1) := by rw [hG]; rcases hh with rfl | rfl | rfl <;> rfl
theorem z_Sights_loops {h : Nat} (hh : isSights h) : SH[h + 1]? = some (12, 8) := by rcases hh with rfl | rfl | rfl <;> rfl
theorem r_Sights_fars {h : Nat} {M : wM} (hh : isSights h) (hG : M.2.2 = RG) : M.2.2 h 1 = some (h + 2) := by rw [hG]; rcases hh with rfl | rfl | rfl <;> rfl
theorem z_Sights_fars {h : Nat} (hh : isSights h) : SH[h + 2]? = some (12, 8) := by rcases hh with rfl | rfl | rfl <;> rfl
theorem r_BH_sights {M : wM} (hG : M.2.2 = RG) : M.2.2 0 1 = some 6 := by rw [hG]; rfl
theorem i_BH_sights : isSights 6 := by simp [isSights]
theorem r_Pad_signs {M : wM} (hG : M.2.2 = RG) : M.2.2 9 0 = some 10 := by rw [hG]; rfl
theorem z_Pad_signs : SH[10]? = some (12, 60) := rfl
theorem r_BH_pad {M : wM} (hG : M.2.2 = RG) : M.2.2 0 2 = some 9 := by rw [hG]; rfl
theorem r_Telling_hill {M : wM} (hG : M.2.2 = RG) : M.2.2 11 0 = some 12 := by rw [hG]; rfl
theorem i_Telling_hill : isHill 12 := by simp [isHill]
theorem r_Telling_act {M : wM} (hG : M.2.2 = RG) : M.2.2 11 1 = some 17 := by rw [hG]; rfl
theorem i_Telling_act : isAct 17 := by simp [isAct]
theorem r_BH_telling {M : wM} (hG : M.2.2 = RG) : M.2.2 0 3 = some 11 := by rw [hG]; rfl
theorem r_Choice_around {M : wM} (hG : M.2.2 = RG) : M.2.2 18 0 = some 19 := by rw [hG]; rfl
theorem z_Choice_around : SH[19]? = some (12, 12) := rfl
theorem r_BH_choice {M : wM} (hG : M.2.2 = RG) : M.2.2 0 4 = some 18 := by rw [hG]; rfl
theorem r_Cutting_worths {M : wM} (hG : M.2.2 = RG) : M.2.2 20 0 = some 21 := by rw [hG]; rfl
theorem z_Cutting_worths : SH[21]? = some (12, 12) := rfl
theorem r_BH_cutting {M : wM} (hG : M.2.2 = RG) : M.2.2 0 5 = some 20 := by rw [hG]; rfl
theorem r_Year_hill {M : wM} (hG : M.2.2 = RG) : M.2.2 22 0 = some 23 := by rw [hG]; rfl
theorem i_Year_hill : isHill 23 := by simp [isHill]
theorem r_Year_act {M : wM} (hG : M.2.2 = RG) : M.2.2 22 1 = some 28 := by rw [hG]; rfl
theorem i_Year_act : isAct 28 := by simp [isAct]
theorem r_BH_years {M : wM} (hG : M.2.2 = RG) : M.2.2 0 6 = some 22 := by rw [hG]; rfl
theorem r_Image_hill {h : Nat} {M : wM} (hh : isImage h) (hG : M.2.2 = RG) : M.2.2 h 0 = some (h + 1) := by rw [hG]; rcases hh with rfl | rfl <;> rfl
theorem i_Image_hill {h : Nat} (hh : isImage h) : isHill (h + 1) := by rcases hh with rfl | rfl <;> simp [isHill]
theorem r_Image_sights {h : Nat} {M : wM} (hh : isImage h) (hG : M.2.2 = RG) : M.2.2 h 1 = some (h + 6) := by rw [hG]; rcases hh with rfl | rfl <;> rfl
theorem i_Image_sights {h : Nat} (hh : isImage h) : isSights (h + 6) := by rcases hh with rfl | rfl <;> simp [isSights]
theorem r_BH_firstImage {M : wM} (hG : M.2.2 = RG) : M.2.2 0 7 = some 29 := by rw [hG]; rfl
theorem i_BH_firstImage : isImage 29 := by simp [isImage]
theorem r_BH_secondImage {M : wM} (hG : M.2.2 = RG) : M.2.2 0 8 = some 38 := by rw [hG]; rfl
theorem i_BH_secondImage : isImage 38 := by simp [isImage]
theorem r_Md_book {M : wM} (hG : M.2.2 = RG) : M.2.2 47 0 = some 48 := by rw [hG]; rfl
theorem z_Md_book : SH[48]? = some (12, 26) := rfl
theorem r_Md_now {M : wM} (hG : M.2.2 = RG) : M.2.2 47 1 = some 49 := by rw [hG]; rfl
theorem z_Md_now : SH[49]? = some (12, 26) := rfl
theorem r_Md_sight {M : wM} (hG : M.2.2 = RG) : M.2.2 47 3 = some 50 := by rw [hG]; rfl
theorem z_Md_sight : SH[50]? = some (12, 16) := rfl
theorem r_Md_pad {M : wM} (hG : M.2.2 = RG) : M.2.2 47 5 = some 51 := by rw [hG]; rfl
theorem z_Md_pad : SH[51]? = some (12, 60) := rfl
theorem r_Md_more {M : wM} (hG : M.2.2 = RG) : M.2.2 47 9 = some 52 := by rw [hG]; rfl
theorem z_Md_more : SH[52]? = some (12, 6) := rfl
theorem r_Md_counts {M : wM} (hG : M.2.2 = RG) : M.2.2 47 12 = some 53 := by rw [hG]; rfl
theorem z_Md_counts : SH[53]? = some (12, 12) := rfl
theorem r_Md_worth {M : wM} (hG : M.2.2 = RG) : M.2.2 47 13 = some 54 := by rw [hG]; rfl
theorem z_Md_worth : SH[54]? = some (12, 12) := rfl
theorem r_Md_choices {M : wM} (hG : M.2.2 = RG) : M.2.2 47 14 = some 55 := by rw [hG]; rfl
theorem z_Md_choices : SH[55]? = some (13, 1681) := rfl
theorem r_Md_image {M : wM} (hG : M.2.2 = RG) : M.2.2 47 15 = some 56 := by rw [hG]; rfl
theorem z_Md_image : SH[56]? = some (12, 100) := rfl
theorem r_Md_isKept {M : wM} (hG : M.2.2 = RG) : M.2.2 47 16 = some 57 := by rw [hG]; rfl
theorem z_Md_isKept : SH[57]? = some (14, 2) := rfl
end
section
/-! What the system speaks of, as mathematics: trees by parents, distance, sets as bits. -/
def up (f : Nat → Int) (k : Nat) (v : Int) : Nat → Int := fun j => if j = k then v else f j
theorem up_at (f : Nat → Int) (k : Nat) (v : Int) : up f k v k = v := by simp [up]
theorem up_ne (f : Nat → Int) (k j : Nat) (v : Int) (h : j ≠ k) : up f k v j = f j := by simp [up, h]
/-- a tree: each loop but the stem has a parent of less number -/
def tok (f : Nat → Int) : Prop := ∀ k, 1 ≤ k → k < 12 → 0 ≤ f k ∧ f k < k
def dst (f : Nat → Int) : Nat → Nat → Nat → Nat
  | 0, _, _ => 0
  | n + 1, a, b => if a = b then 0 else if b < a then dst f n (f a).toNat b + 1 else dst f n a (f b).toNat + 1
theorem dst_fuel {f : Nat → Int} (hf : tok f) : ∀ (n m a b : Nat), a < 12 → b < 12 → a + b ≤ n → a + b ≤ m → dst f n a b = dst f m a b
  | 0, 0, _, _, _, _, _, _ => rfl
  | 0, m + 1, a, b, _, _, h1, _ => by
    have : a = b := by omega
    simp [dst, this]
  | n + 1, 0, a, b, _, _, _, h2 => by
    have : a = b := by omega
    simp [dst, this]
  | n + 1, m + 1, a, b, ha, hb, h1, h2 => by
    simp only [dst]
    by_cases h : a = b
    · simp [h]
    · by_cases h3 : b < a
      · have hp := hf a (by omega) ha
        rw [if_neg h, if_neg h, if_pos h3, if_pos h3, dst_fuel hf n m (f a).toNat b (by omega) hb (by omega) (by omega)]
      · have hp := hf b (by omega) hb
        rw [if_neg h, if_neg h, if_neg h3, if_neg h3, dst_fuel hf n m a (f b).toNat ha (by omega) (by omega) (by omega)]
/-- the branches from one loop to another -/
def dist (f : Nat → Int) (a b : Nat) : Nat := dst f (a + b) a b
theorem dist_self (f : Nat → Int) (a : Nat) : dist f a a = 0 := by
  unfold dist
  cases h : a + a with
  | zero => rfl
  | succ n => simp [dst]
theorem dist_gt {f : Nat → Int} (hf : tok f) {a b : Nat} (ha : a < 12) (h : b < a) : dist f a b = dist f (f a).toNat b + 1 := by
  have hp := hf a (by omega) ha
  unfold dist
  obtain ⟨n, hn⟩ : ∃ n, a + b = n + 1 := ⟨a + b - 1, by omega⟩
  rw [hn, dst, if_neg (by omega), if_pos h, dst_fuel hf n ((f a).toNat + b) _ _ (by omega) (by omega) (by omega) (Nat.le_refl _)]
theorem dist_lt {f : Nat → Int} (hf : tok f) {a b : Nat} (hb : b < 12) (h : a < b) : dist f a b = dist f a (f b).toNat + 1 := by
  have hp := hf b (by omega) hb
  unfold dist
  obtain ⟨n, hn⟩ : ∃ n, a + b = n + 1 := ⟨a + b - 1, by omega⟩
  rw [hn, dst, if_neg (by omega), if_neg (by omega), dst_fuel hf n (a + (f b).toNat) _ _ (by omega) (by omega) (by omega) (Nat.le_refl _)]
theorem dist_comm {f : Nat → Int} (hf : tok f) : ∀ (n a b : Nat), a + b ≤ n → a < 12 → b < 12 → dist f a b = dist f b a
  | n, a, b, hn, ha, hb => by
    rcases Nat.lt_trichotomy a b with h | h | h
    · have hp := hf b (by omega) hb
      rw [dist_lt hf hb h, dist_gt hf hb h]
      cases n with
      | zero => omega
      | succ n => rw [dist_comm hf n a (f b).toNat (by omega) ha (by omega)]
    · rw [h]
    · have hp := hf a (by omega) ha
      rw [dist_gt hf ha h, dist_lt hf ha h]
      cases n with
      | zero => omega
      | succ n => rw [dist_comm hf n (f a).toNat b (by omega) (by omega) hb]
theorem dist_sym {f : Nat → Int} (hf : tok f) {a b : Nat} (ha : a < 12) (hb : b < 12) : dist f a b = dist f b a := dist_comm hf (a + b) a b (Nat.le_refl _) ha hb
theorem dist_le {f : Nat → Int} (hf : tok f) : ∀ (n a b : Nat), a + b ≤ n → a < 12 → b < 12 → dist f a b ≤ a + b
  | n, a, b, hn, ha, hb => by
    rcases Nat.lt_trichotomy a b with h | h | h
    · have hp := hf b (by omega) hb
      rw [dist_lt hf hb h]
      cases n with
      | zero => omega
      | succ n => have := dist_le hf n a (f b).toNat (by omega) ha (by omega); omega
    · rw [h, dist_self]; omega
    · have hp := hf a (by omega) ha
      rw [dist_gt hf ha h]
      cases n with
      | zero => omega
      | succ n => have := dist_le hf n (f a).toNat b (by omega) (by omega) hb; omega
theorem dist_22 {f : Nat → Int} (hf : tok f) {a b : Nat} (ha : a < 12) (hb : b < 12) : dist f a b ≤ 22 := by
  have := dist_le hf (a + b) a b (Nat.le_refl _) ha hb; omega
theorem dist_0 {f : Nat → Int} (hf : tok f) {a b : Nat} (ha : a < 12) (hb : b < 12) (h : dist f a b = 0) : a = b := by
  rcases Nat.lt_trichotomy a b with h1 | h1 | h1
  · rw [dist_lt hf hb h1] at h; omega
  · exact h1
  · rw [dist_gt hf ha h1] at h; omega
/-! sets as bits -/
def setOf (P : Nat → Bool) : Nat → Nat
  | 0 => 0
  | n + 1 => if P n then setOf P n ||| 2 ^ n else setOf P n
theorem setOf_lt (P : Nat → Bool) : ∀ n, setOf P n < 2 ^ n
  | 0 => by simp [setOf]
  | n + 1 => by
    have h := setOf_lt P n
    have h2 : 2 ^ n < 2 ^ (n + 1) := Nat.pow_lt_pow_right (by decide) (by omega)
    simp only [setOf]
    split
    · exact Nat.or_lt_two_pow (Nat.lt_trans h h2) h2
    · exact Nat.lt_trans h h2
theorem setOf_bit (P : Nat → Bool) : ∀ n l, (setOf P n).testBit l = (decide (l < n) && P l)
  | 0, l => by simp [setOf]
  | n + 1, l => by
    simp only [setOf]
    by_cases hl : l = n
    · subst hl
      have h := setOf_lt P l
      have h3 : (setOf P l).testBit l = false := Nat.testBit_lt_two_pow h
      cases hP : P l <;> simp [h3, hP]
    · have h4 : (2 ^ n).testBit l = false := by simp [Nat.testBit_two_pow]; omega
      have h5 : decide (l < n + 1) = decide (l < n) := by
        by_cases h : l < n <;> simp [h] <;> omega
      cases hP : P n <;> simp [setOf_bit P n l, h4, h5]
theorem setOf_congr {P P' : Nat → Bool} : ∀ n, (∀ l, l < n → P l = P' l) → setOf P n = setOf P' n
  | 0, _ => rfl
  | n + 1, h => by
    simp only [setOf]
    rw [h n (by omega), setOf_congr n (fun l hl => h l (by omega))]
def cnt (P : Nat → Bool) : Nat → Nat
  | 0 => 0
  | n + 1 => cnt P n + (if P n then 1 else 0)
theorem cnt_le (P : Nat → Bool) : ∀ n, cnt P n ≤ n
  | 0 => Nat.le_refl _
  | n + 1 => by have := cnt_le P n; simp only [cnt]; split <;> omega
theorem cnt_congr {P P' : Nat → Bool} : ∀ n, (∀ l, l < n → P l = P' l) → cnt P n = cnt P' n
  | 0, _ => rfl
  | n + 1, h => by simp only [cnt]; rw [h n (by omega), cnt_congr n (fun l hl => h l (by omega))]
/-- how many of the first twelve are in a set -/
def pc (s : Nat) : Nat := cnt (fun k => s.testBit k) 12
theorem pc_setOf (P : Nat → Bool) : pc (setOf P 12) = cnt P 12 := cnt_congr 12 (fun l hl => by simp [setOf_bit, hl])
/-- what an object of Tree holds -/
def treeAt (M : wM) (t : Nat) (f : Nat → Int) : Prop := ∀ k, 1 ≤ k → k < 12 → M.1 (t + 1) k = iI (f k)
/-- but for the cells of lo to hi (not hi) nothing differs -/
def Off (M M' : wM) (lo hi : Nat) : Prop := (∀ k, (k < lo ∨ hi ≤ k) → M'.1 k = M.1 k) ∧ M'.2 = M.2
theorem Off.rf {M : wM} {lo hi : Nat} : Off M M lo hi := ⟨fun _ _ => rfl, rfl⟩
theorem Off.tr {M M' M'' : wM} {lo hi : Nat} (h : Off M M' lo hi) (h2 : Off M' M'' lo hi) : Off M M'' lo hi := ⟨fun k hk => (h2.1 k hk).trans (h.1 k hk), h2.2.trans h.2⟩
theorem Off.wide {M M' : wM} {lo hi lo' hi' : Nat} (h : Off M M' lo hi) (h1 : lo' ≤ lo) (h2 : hi ≤ hi') : Off M M' lo' hi' := ⟨fun k hk => h.1 k (by omega), h.2⟩
theorem Off.ui (M : wM) (k j : Nat) (x : Int32) : Off M (w_ui M k j x) k (k + 1) := ⟨fun a ha => w_ui_off _ _ _ _ _ (by omega), rfl⟩
theorem Off.G {M M' : wM} {lo hi : Nat} (h : Off M M' lo hi) (hG : M.2.2 = RG) : M'.2.2 = RG := by rw [h.2]; exact hG
theorem treeAt.off {M M' : wM} {t lo hi : Nat} {f : Nat → Int} (h : treeAt M t f) (ho : Off M M' lo hi) (ht : t + 1 < lo ∨ hi ≤ t + 1) : treeAt M' t f := fun k h1 h2 => by rw [ho.1 _ ht]; exact h k h1 h2
end
section
/-! The hill, as mathematics: one list of 26 numbers: 0 to 11 parents, 12 to 17 where the balls hang, 18 to 23 chips, 24 the broken ones, 25 the winter. -/
def bk (β : Nat → Int) : Nat := (β 24).toNat
def clr (m b : Nat) : Nat := if m.testBit b then m - 2 ^ b else m
def hok (β : Nat → Int) : Prop := tok β ∧ β 0 = -6 ∧ (∀ b, b < 6 → β (12 + b) = -6 ∨ (0 ≤ β (12 + b) ∧ β (12 + b) < 12)) ∧ (∀ b c, b < 6 → c < 6 → b ≠ c → β (12 + b) = β (12 + c) → β (12 + b) = -6) ∧ (∀ b, b < 6 → 0 ≤ β (18 + b) ∧ β (18 + b) ≤ 9) ∧ (0 ≤ β 24 ∧ β 24 < 64) ∧ (0 ≤ β 25 ∧ β 25 ≤ 99) ∧ (∀ b, b < 6 → (bk β).testBit b = decide (β (18 + b) = 9)) ∧ (∀ b, b < 6 → β (18 + b) = 9 → β (12 + b) = -6)
theorem hok.t {β : Nat → Int} (h : hok β) : tok β := h.1
theorem hok.z {β : Nat → Int} (h : hok β) : β 0 = -6 := h.2.1
theorem hok.l {β : Nat → Int} (h : hok β) : ∀ b, b < 6 → β (12 + b) = -6 ∨ (0 ≤ β (12 + b) ∧ β (12 + b) < 12) := h.2.2.1
theorem hok.d {β : Nat → Int} (h : hok β) : ∀ b c, b < 6 → c < 6 → b ≠ c → β (12 + b) = β (12 + c) → β (12 + b) = -6 := h.2.2.2.1
theorem hok.c {β : Nat → Int} (h : hok β) : ∀ b, b < 6 → 0 ≤ β (18 + b) ∧ β (18 + b) ≤ 9 := h.2.2.2.2.1
theorem hok.b {β : Nat → Int} (h : hok β) : 0 ≤ β 24 ∧ β 24 < 64 := h.2.2.2.2.2.1
theorem hok.w {β : Nat → Int} (h : hok β) : 0 ≤ β 25 ∧ β 25 ≤ 99 := h.2.2.2.2.2.2.1
theorem hok.bb {β : Nat → Int} (h : hok β) : ∀ b, b < 6 → (bk β).testBit b = decide (β (18 + b) = 9) := h.2.2.2.2.2.2.2.1
theorem hok.bl {β : Nat → Int} (h : hok β) : ∀ b, b < 6 → β (18 + b) = 9 → β (12 + b) = -6 := h.2.2.2.2.2.2.2.2
theorem hok_bk {β : Nat → Int} (h : hok β) : β 24 = (bk β : Int) ∧ bk β < 64 := by
  have := h.b
  constructor <;> (unfold bk; omega)
/-- the loops on which balls hang -/
def hungS (β : Nat → Int) : Nat → Nat
  | 0 => 0
  | b + 1 => if β (12 + b) = -6 then hungS β b else hungS β b ||| 2 ^ (β (12 + b)).toNat
theorem hungS_lt {β : Nat → Int} (h : ∀ b, b < 6 → β (12 + b) = -6 ∨ (0 ≤ β (12 + b) ∧ β (12 + b) < 12)) : ∀ n, n ≤ 6 → hungS β n < 4096
  | 0, _ => by simp [hungS]
  | n + 1, hn => by
    have ih := hungS_lt h n (by omega)
    simp only [hungS]
    split
    · exact ih
    · have h2 : 2 ^ (β (12 + n)).toNat < 2 ^ 12 := Nat.pow_lt_pow_right (by decide) (by rcases h n (by omega) with h | h <;> omega)
      exact Nat.or_lt_two_pow (n := 12) ih h2
theorem hungS_bit {β : Nat → Int} (l : Nat) : ∀ n, (hungS β n).testBit l = true ↔ ∃ b, b < n ∧ β (12 + b) ≠ -6 ∧ (β (12 + b)).toNat = l
  | 0 => by simp [hungS]
  | n + 1 => by
    have ih := hungS_bit (β := β) l n
    simp only [hungS]
    split
    · rename_i h
      rw [ih]
      constructor
      · rintro ⟨b, h1, h2⟩; exact ⟨b, by omega, h2⟩
      · rintro ⟨b, h1, h2, h3⟩
        have : b ≠ n := fun e => by subst e; exact h2 h
        exact ⟨b, by omega, h2, h3⟩
    · rename_i h
      rw [Nat.testBit_or, Bool.or_eq_true, ih, Nat.testBit_two_pow]
      constructor
      · rintro (⟨b, h1, h2⟩ | h1)
        · exact ⟨b, by omega, h2⟩
        · exact ⟨n, by omega, h, by simpa using h1⟩
      · rintro ⟨b, h1, h2, h3⟩
        by_cases e : b = n
        · subst e; right; simpa using h3
        · left; exact ⟨b, by omega, h2, h3⟩
def chipS (β : Nat → Int) : Nat → Int
  | 0 => 0
  | b + 1 => chipS β b + β (18 + b)
theorem chipS_rg {β : Nat → Int} (h : ∀ b, b < 6 → 0 ≤ β (18 + b) ∧ β (18 + b) ≤ 9) : ∀ n, n ≤ 6 → 0 ≤ chipS β n ∧ chipS β n ≤ 9 * n
  | 0, _ => by simp [chipS]
  | n + 1, hn => by
    have ih := chipS_rg h n (by omega)
    have := h n (by omega)
    simp only [chipS]; omega
def putF (β : Nat → Int) (b : Nat) (l c : Int) : Nat → Int := up (up (up β (12 + b) l) (18 + b) c) 24 (clr (bk β) b)
def wayS (f : Nat → Int) (a b : Nat) : Nat := setOf (fun l => decide (dist f a l + dist f l b = dist f a b)) 12
def ringS (f : Nat → Int) (l : Nat) (lo hi : Int) : Nat := setOf (fun o => decide (lo ≤ dist f l o) && decide ((dist f l o : Int) ≤ hi)) 12
theorem clr_ok : ∀ m, m < 64 → ∀ b, b < 6 → iI (m : Nat) &&& (iI ((2 ^ b : Nat) : Int) ^^^ iI (-1)) = iI (clr m b : Nat) := by decide +kernel
theorem clr_lt {m b : Nat} (h : m < 64) : clr m b < 64 := by
  have : m - 2 ^ b ≤ m := Nat.sub_le _ _
  unfold clr; split <;> omega
theorem clr_bit : ∀ m, m < 64 → ∀ b, b < 6 → ∀ c, c < 6 → (clr m b).testBit c = (decide (c ≠ b) && m.testBit c) := by decide +kernel
theorem set_bit : ∀ m, m < 64 → ∀ b, b < 6 → (m ||| 2 ^ b) < 64 ∧ ∀ c, c < 6 → (m ||| 2 ^ b).testBit c = (decide (c = b) || m.testBit c) := by decide +kernel
/-- what an object of Hill holds -/
def hillAt (M : wM) (h : Nat) (β : Nat → Int) : Prop := treeAt M (h + 1) β ∧ (∀ b, b < 6 → M.1 (h + 3) b = iI (β (12 + b))) ∧ (∀ b, b < 6 → M.1 (h + 4) b = iI (β (18 + b))) ∧ M.1 h 3 = iI (β 24) ∧ M.1 h 4 = iI (β 25)
theorem hillAt.off {M M' : wM} {h lo hi : Nat} {β : Nat → Int} (k : hillAt M h β) (ho : Off M M' lo hi) (ht : h + 5 ≤ lo ∨ hi ≤ h) : hillAt M' h β := by
  obtain ⟨h1, h2, h3, h4, h5⟩ := k
  refine ⟨h1.off ho (by omega), fun b hb => ?_, fun b hb => ?_, ?_, ?_⟩
  · rw [ho.1 _ (by omega)]; exact h2 b hb
  · rw [ho.1 _ (by omega)]; exact h3 b hb
  · rw [ho.1 _ (by omega)]; exact h4
  · rw [ho.1 _ (by omega)]; exact h5
/-- what an object of Act holds -/
def actAt (M : wM) (c : Nat) (k o p : Int) : Prop := M.1 c 0 = iI k ∧ M.1 c 1 = iI o ∧ M.1 c 2 = iI p
theorem actAt.off {M M' : wM} {c lo hi : Nat} {k o p : Int} (h : actAt M c k o p) (ho : Off M M' lo hi) (ht : c < lo ∨ hi ≤ c) : actAt M' c k o p := by
  obtain ⟨h1, h2, h3⟩ := h
  exact ⟨by rw [ho.1 _ ht]; exact h1, by rw [ho.1 _ ht]; exact h2, by rw [ho.1 _ ht]; exact h3⟩
/-- the i-th of a set, from a number on -/
def nth (P : Nat → Bool) : Nat → Nat → Int → Int → Int
  | 0, _, _, _ => -6
  | n + 1, l, c, i => if P l then (if c = i then (l : Int) else nth P n (l + 1) (c + 1) i) else nth P n (l + 1) c i
theorem nth_rg (P : Nat → Bool) : ∀ n l c i, nth P n l c i = -6 ∨ (0 ≤ nth P n l c i ∧ nth P n l c i < l + n)
  | 0, _, _, _ => Or.inl rfl
  | n + 1, l, c, i => by
    simp only [nth]
    split
    · split
      · right; omega
      · rcases nth_rg P n (l + 1) (c + 1) i with h | h
        · exact Or.inl h
        · right; omega
    · rcases nth_rg P n (l + 1) c i with h | h
      · exact Or.inl h
      · right; omega
theorem nth_congr {P P' : Nat → Bool} : ∀ n l c i, (∀ k, l ≤ k → k < l + n → P k = P' k) → nth P n l c i = nth P' n l c i
  | 0, _, _, _, _ => rfl
  | n + 1, l, c, i, h => by
    simp only [nth]
    rw [h l (by omega) (by omega), nth_congr n (l + 1) (c + 1) i (fun k h1 h2 => h k (by omega) (by omega)), nth_congr n (l + 1) c i (fun k h1 h2 => h k (by omega) (by omega))]
end
section
/-! Small methods; Tree. -/
set_option maxRecDepth 20000
theorem m_BH_holds {M : wM} {a k : Nat} (ha : a < 2147483648) (hk : k < 31) : EvI k_BH_holds [.int (iI a), .int (iI k)] SH M (fun r M' => r = iI (if a.testBit k then 1 else 0) ∧ M' = M) := by
  refine EvI.of 0 (by decide) (Nat.le_of_ble_eq_true rfl) rfl ?_
  refine Rn.iload_n d_BH_holds_0 rfl ?_
  refine Rn.iload_n d_BH_holds_1 rfl ?_
  refine Rn.ishr d_BH_holds_2 ?_
  refine Rn.iconst (v := iI 1) d_BH_holds_3 rfl ?_
  refine Rn.iand d_BH_holds_4 ?_
  rw [iI_bit ha hk]
  refine In.if_eq (tgt := 12) d_BH_holds_5 (by decide) (by split <;> decide) (fun c5 => ?_) (fun c5 => ?_)
  · refine Rn.iconst (v := iI 0) d_BH_holds_12 rfl ?_
    exact Rn.iret d_BH_holds_13 rfl (by decide +kernel) ⟨by split at c5 <;> simp_all, rfl⟩
  · refine Rn.iconst (v := iI 1) d_BH_holds_8 rfl ?_
    refine Rn.goto (tgt := 13) d_BH_holds_9 (by decide) ?_
    exact Rn.iret d_BH_holds_13 rfl (by decide +kernel) ⟨by split at c5 <;> simp_all, rfl⟩
theorem m_BH_isLoop {M : wM} {a : Int} (ha : -2147483648 ≤ a ∧ a < 2147483648) : EvI k_BH_isLoop [.int (iI a)] SH M (fun r M' => r = iI (if 0 ≤ a ∧ a < 12 then 1 else 0) ∧ M' = M) := by
  refine EvI.of 0 (by decide) (Nat.le_of_ble_eq_true rfl) rfl ?_
  refine Rn.iload_n d_BH_isLoop_0 rfl ?_
  refine In.if_lt (tgt := 14) d_BH_isLoop_1 (by decide) ⟨by omega, by omega⟩ (fun c1 => ?_) (fun c1 => ?_)
  · refine Rn.iconst (v := iI 0) d_BH_isLoop_14 rfl ?_
    exact Rn.iret d_BH_isLoop_15 rfl (by decide +kernel) ⟨by rw [if_neg (by omega)], rfl⟩
  · refine Rn.iload_n d_BH_isLoop_4 rfl ?_
    refine Rn.bipush (v := iI 12) d_BH_isLoop_5 (by decide +kernel) ?_
    refine In.icmp_ge (tgt := 14) d_BH_isLoop_7 (by decide) ⟨by omega, by omega⟩ ⟨by omega, by omega⟩ (fun c7 => ?_) (fun c7 => ?_)
    · refine Rn.iconst (v := iI 0) d_BH_isLoop_14 rfl ?_
      exact Rn.iret d_BH_isLoop_15 rfl (by decide +kernel) ⟨by rw [if_neg (by omega)], rfl⟩
    · refine Rn.iconst (v := iI 1) d_BH_isLoop_10 rfl ?_
      refine Rn.goto (tgt := 15) d_BH_isLoop_11 (by decide) ?_
      exact Rn.iret d_BH_isLoop_15 rfl (by decide +kernel) ⟨by rw [if_pos (by omega)], rfl⟩
theorem m_BH_isBall {M : wM} {a : Int} (ha : -2147483648 ≤ a ∧ a < 2147483648) : EvI k_BH_isBall [.int (iI a)] SH M (fun r M' => r = iI (if 0 ≤ a ∧ a < 6 then 1 else 0) ∧ M' = M) := by
  refine EvI.of 0 (by decide) (Nat.le_of_ble_eq_true rfl) rfl ?_
  refine Rn.iload_n d_BH_isBall_0 rfl ?_
  refine In.if_lt (tgt := 14) d_BH_isBall_1 (by decide) ⟨by omega, by omega⟩ (fun c1 => ?_) (fun c1 => ?_)
  · refine Rn.iconst (v := iI 0) d_BH_isBall_14 rfl ?_
    exact Rn.iret d_BH_isBall_15 rfl (by decide +kernel) ⟨by rw [if_neg (by omega)], rfl⟩
  · refine Rn.iload_n d_BH_isBall_4 rfl ?_
    refine Rn.bipush (v := iI 6) d_BH_isBall_5 (by decide +kernel) ?_
    refine In.icmp_ge (tgt := 14) d_BH_isBall_7 (by decide) ⟨by omega, by omega⟩ ⟨by omega, by omega⟩ (fun c7 => ?_) (fun c7 => ?_)
    · refine Rn.iconst (v := iI 0) d_BH_isBall_14 rfl ?_
      exact Rn.iret d_BH_isBall_15 rfl (by decide +kernel) ⟨by rw [if_neg (by omega)], rfl⟩
    · refine Rn.iconst (v := iI 1) d_BH_isBall_10 rfl ?_
      refine Rn.goto (tgt := 15) d_BH_isBall_11 (by decide) ?_
      exact Rn.iret d_BH_isBall_15 rfl (by decide +kernel) ⟨by rw [if_pos (by omega)], rfl⟩
theorem m_Tree_parentOf {M : wM} {t k : Nat} {f : Nat → Int} (hh : isTree t) (hG : M.2.2 = RG) (hT : treeAt M t f) (h1 : 1 ≤ k) (h2 : k < 12) : EvI k_Tree_parentOf [.ref t, .int (iI k)] SH M (fun r M' => r = iI (f k) ∧ M' = M) := by
  refine EvI.of 0 (by decide) (Nat.le_of_ble_eq_true rfl) rfl ?_
  refine Rn.iload_n d_Tree_parentOf_0 rfl ?_
  refine In.if_lt (tgt := 22) d_Tree_parentOf_1 (by decide) ⟨by omega, by omega⟩ (fun c1 => ?_) (fun c1 => ?_)
  · omega
  · refine Rn.iload_n d_Tree_parentOf_4 rfl ?_
    refine Rn.aload_n d_Tree_parentOf_5 rfl ?_
    refine Rn.getR d_Tree_parentOf_6 f_Tree_parents g_36 (z_Tree (by assumption)) (r_Tree_parents (by assumption) (by assumption)) ?_
    refine In.alen d_Tree_parentOf_9 (z_Tree_parents (by assumption)) (by decide) ?_
    refine In.icmp_ge (tgt := 22) d_Tree_parentOf_10 (by decide) ⟨by omega, by omega⟩ ⟨by omega, by omega⟩ (fun c10 => ?_) (fun c10 => ?_)
    · omega
    · refine Rn.aload_n d_Tree_parentOf_13 rfl ?_
      refine Rn.getR d_Tree_parentOf_14 f_Tree_parents g_36 (z_Tree (by assumption)) (r_Tree_parents (by assumption) (by assumption)) ?_
      refine Rn.iload_n d_Tree_parentOf_17 rfl ?_
      refine In.ald d_Tree_parentOf_18 (z_Tree_parents (by assumption)) rfl h2 (by decide) (hT k h1 h2) ?_
      refine Rn.goto (tgt := 23) d_Tree_parentOf_19 (by decide) ?_
      exact Rn.iret d_Tree_parentOf_23 rfl rfl ⟨rfl, rfl⟩
theorem m_Tree_distance {M : wM} {t a b : Nat} {f : Nat → Int} (hh : isTree t) (hG : M.2.2 = RG) (hT : treeAt M t f) (hf : tok f) (ha : a < 12) (hb : b < 12) : EvI k_Tree_distance [.ref t, .int (iI a), .int (iI b)] SH M (fun r M' => r = iI (dist f a b) ∧ M' = M) := by
  refine EvI.of 5 (by decide) (Nat.le_of_ble_eq_true rfl) rfl ?_
  refine Rn.iconst (v := iI 0) d_Tree_distance_0 rfl ?_
  refine Rn.istore_n (lv1 := [_, _, _, _, _, _, _, _]) d_Tree_distance_1 (by decide) (w_pv rfl) rfl ?_
  refine Rn.iload_n d_Tree_distance_2 rfl ?_
  refine Rn.iload_n d_Tree_distance_3 rfl ?_
  refine In.min ⟨by omega, by omega⟩ ⟨by omega, by omega⟩ d_Tree_distance_4 g_389 g_390 g_14 g_391 (Nat.le_of_ble_eq_true rfl) (Nat.le_of_ble_eq_true rfl) ?_
  refine Rn.istore (lv1 := [_, _, _, _, _, _, _, _]) d_Tree_distance_7 (by decide) (w_pv rfl) rfl ?_
  refine Rn.iload_n d_Tree_distance_9 rfl ?_
  refine Rn.iload_n d_Tree_distance_10 rfl ?_
  refine In.max ⟨by omega, by omega⟩ ⟨by omega, by omega⟩ d_Tree_distance_11 g_392 g_393 g_14 g_394 (Nat.le_of_ble_eq_true rfl) (Nat.le_of_ble_eq_true rfl) ?_
  refine Rn.istore (lv1 := [_, _, _, _, _, _, _, _]) d_Tree_distance_14 (by decide) (w_pv rfl) rfl ?_
  refine Rn.iconst (v := iI 0) d_Tree_distance_16 rfl ?_
  refine Rn.istore (lv1 := [_, _, _, _, _, _, _, _]) d_Tree_distance_17 (by decide) (w_pv rfl) rfl ?_
  have e1 : (if (b : Int) < a then (b : Int) else a) = ((if b < a then b else a : Nat) : Int) := by split <;> split <;> omega
  have e2 : (if (a : Int) < b then (b : Int) else a) = ((if a < b then b else a : Nat) : Int) := by split <;> split <;> omega
  rw [e1, e2]
  have loop : ∀ (n : Nat) (lo hi s fr : Nat) (x7 : Option Value), lo ≤ hi → hi < 12 → lo + hi + s ≤ 22 → lo + hi ≤ n → fr + dist f lo hi = dist f a b → Rn k_Tree_distance none (0, 0) 19 [some (.ref t), some (.int (iI a)), some (.int (iI b)), some (.int (iI fr)), some (.int (iI lo)), some (.int (iI hi)), some (.int (iI s)), x7] [] SH M (w_FI (0, 0) SH (fun r M' => r = iI (dist f a b) ∧ M' = M)) := by
    intro n
    induction n with
    | zero =>
      intro lo hi s fr x7 h1 h2 h3 h4 h5
      refine Rn.iload d_Tree_distance_19 rfl ?_
      refine Rn.bipush (v := iI 24) d_Tree_distance_21 (by decide +kernel) ?_
      refine In.icmp_ge (tgt := 68) d_Tree_distance_23 (by decide) ⟨by omega, by omega⟩ ⟨by omega, by omega⟩ (fun c23 => ?_) (fun c23 => ?_)
      · omega
      · refine Rn.iload d_Tree_distance_26 rfl ?_
        refine Rn.iload d_Tree_distance_28 rfl ?_
        refine In.icmp_eq (tgt := 68) d_Tree_distance_30 (by decide) ⟨by omega, by omega⟩ ⟨by omega, by omega⟩ (fun c30 => ?_) (fun c30 => ?_)
        · refine Rn.iload_n d_Tree_distance_68 rfl ?_
          have : lo = hi := by omega
          subst this
          rw [dist_self] at h5
          exact Rn.iret d_Tree_distance_69 rfl rfl ⟨by rw [← h5]; simp, rfl⟩
        · omega
    | succ n ih =>
      intro lo hi s fr x7 h1 h2 h3 h4 h5
      refine Rn.iload d_Tree_distance_19 rfl ?_
      refine Rn.bipush (v := iI 24) d_Tree_distance_21 (by decide +kernel) ?_
      refine In.icmp_ge (tgt := 68) d_Tree_distance_23 (by decide) ⟨by omega, by omega⟩ ⟨by omega, by omega⟩ (fun c23 => ?_) (fun c23 => ?_)
      · omega
      · refine Rn.iload d_Tree_distance_26 rfl ?_
        refine Rn.iload d_Tree_distance_28 rfl ?_
        refine In.icmp_eq (tgt := 68) d_Tree_distance_30 (by decide) ⟨by omega, by omega⟩ ⟨by omega, by omega⟩ (fun c30 => ?_) (fun c30 => ?_)
        · refine Rn.iload_n d_Tree_distance_68 rfl ?_
          have : lo = hi := by omega
          subst this
          rw [dist_self] at h5
          exact Rn.iret d_Tree_distance_69 rfl rfl ⟨by rw [← h5]; simp, rfl⟩
        · have hp := hf hi (by omega) h2
          refine Rn.aload_n d_Tree_distance_33 rfl ?_
          refine Rn.iload d_Tree_distance_34 rfl ?_
          refine Rn.cVI d_Tree_distance_36 s_Tree_distance_Tree_parentOf g_395 g_226 g_227 ⟨rfl, rfl⟩ ⟨Nat.zero_le _, Nat.zero_le _⟩ (m_Tree_parentOf hh hG hT (k := hi) (by omega) h2) rfl rfl (z_Tree (by assumption)) c_Tree (Nat.le_of_ble_eq_true rfl) (fun r1 M1 h1 => ?_)
          obtain ⟨rfl, rfl⟩ := h1
          obtain ⟨u, hu⟩ : ∃ u : Nat, f hi = u := ⟨(f hi).toNat, by omega⟩
          have hd := dist_lt hf h2 (show lo < hi by omega)
          rw [hu] at hd hp ⊢
          refine Rn.istore (lv1 := [_, _, _, _, _, _, _, _]) d_Tree_distance_39 (by decide) (w_pv rfl) rfl ?_
          refine Rn.iload d_Tree_distance_41 rfl ?_
          refine Rn.iload d_Tree_distance_43 rfl ?_
          refine In.max ⟨by omega, by omega⟩ ⟨by omega, by omega⟩ d_Tree_distance_45 g_392 g_393 g_14 g_394 (Nat.le_of_ble_eq_true rfl) (Nat.le_of_ble_eq_true rfl) ?_
          refine Rn.istore (lv1 := [_, _, _, _, _, _, _, _]) d_Tree_distance_48 (by decide) (w_pv rfl) rfl ?_
          refine Rn.iload d_Tree_distance_50 rfl ?_
          refine Rn.iload d_Tree_distance_52 rfl ?_
          refine In.min ⟨by omega, by omega⟩ ⟨by omega, by omega⟩ d_Tree_distance_54 g_389 g_390 g_14 g_391 (Nat.le_of_ble_eq_true rfl) (Nat.le_of_ble_eq_true rfl) ?_
          refine Rn.istore (lv1 := [_, _, _, _, _, _, _, _]) d_Tree_distance_57 (by decide) (w_pv rfl) rfl ?_
          refine In.inc (lv1 := [_, _, _, _, _, _, _, _]) d_Tree_distance_59 rfl (by decide) (w_pv rfl) rfl ?_
          refine In.inc (lv1 := [_, _, _, _, _, _, _, _]) d_Tree_distance_62 rfl (by decide) (w_pv rfl) rfl ?_
          refine Rn.goto (tgt := 19) d_Tree_distance_65 (by decide) ?_
          have e3 : (if (lo : Int) < u then (u : Int) else lo) = ((if lo < u then u else lo : Nat) : Int) := by split <;> split <;> omega
          have e4 : (if (u : Int) < lo then (u : Int) else lo) = ((if u < lo then u else lo : Nat) : Int) := by split <;> split <;> omega
          rw [e3, e4]
          simp only [Int.toNat_natCast] at hd
          refine ih _ _ (s + 1) (fr + 1) _ ?_ ?_ ?_ ?_ ?_
          · split <;> split <;> omega
          · split <;> omega
          · split <;> split <;> omega
          · split <;> split <;> omega
          · rw [← h5, hd]
            by_cases h6 : lo < u
            · rw [if_pos h6, if_neg (by omega)]; omega
            · by_cases h7 : u < lo
              · rw [if_neg h6, if_pos h7, dist_sym hf (show u < 12 by omega) (show lo < 12 by omega)]; omega
              · have : u = lo := by omega
                subst this
                simp; omega
  refine loop 22 _ _ 0 0 _ ?_ ?_ ?_ ?_ ?_
  · split <;> split <;> omega
  · split <;> omega
  · split <;> split <;> omega
  · split <;> split <;> omega
  · by_cases h6 : a < b
    · rw [if_pos h6, if_neg (by omega)]; omega
    · by_cases h7 : b < a
      · rw [if_neg h6, if_pos h7, dist_sym hf hb ha]; omega
      · have : a = b := by omega
        subst this
        simp
end
section
/-! Act, bitCount, rows of ints, Hill's readers. -/
set_option maxRecDepth 20000
def bc2 (x : Int32) : Int32 := x - ((x.toUInt32 >>> ((iI 1).toUInt32 &&& Int32.toUInt32 31)).toInt32 &&& 1431655765)
def bc4 (x : Int32) : Int32 := (x &&& 858993459) + ((x.toUInt32 >>> ((iI 2).toUInt32 &&& Int32.toUInt32 31)).toInt32 &&& 858993459)
def bc8 (x : Int32) : Int32 := (x + (x.toUInt32 >>> ((iI 4).toUInt32 &&& Int32.toUInt32 31)).toInt32) &&& 252645135
def bc16 (x : Int32) : Int32 := x + (x.toUInt32 >>> ((iI 8).toUInt32 &&& Int32.toUInt32 31)).toInt32
def bc32 (x : Int32) : Int32 := x + (x.toUInt32 >>> ((iI 16).toUInt32 &&& Int32.toUInt32 31)).toInt32
def bcX (x : Int32) : Int32 := bc32 (bc16 (bc8 (bc4 (bc2 x)))) &&& iI 63
theorem bcX_ok2 : ∀ i, i < 64 → ∀ j, j < 64 → bcX (iI ((64 * i + j : Nat) : Int)) = iI (pc (64 * i + j) : Nat) := by decide +kernel
theorem bcX_ok {a : Nat} (h : a < 4096) : bcX (iI a) = iI (pc a) := by
  have h1 := bcX_ok2 (a / 64) (by omega) (a % 64) (by omega)
  rw [Nat.div_add_mod a 64] at h1
  exact h1
theorem m_Int_bitCount {M : wM} {a : Nat} (ha : a < 4096) : EvI k_Int_bitCount [.int (iI a)] SH M (fun r M' => r = iI (pc a) ∧ M' = M) := by
  refine EvI.of 0 (by decide) (Nat.le_of_ble_eq_true rfl) rfl ?_
  rw [show iI (pc a) = bcX (iI a) from (bcX_ok ha).symm]
  unfold bcX
  generalize iI (a : Int) = x
  refine Rn.iload_n d_Int_bitCount_0 rfl ?_
  refine Rn.iload_n d_Int_bitCount_1 rfl ?_
  refine Rn.iconst (v := iI 1) d_Int_bitCount_2 rfl ?_
  refine Rn.iushr d_Int_bitCount_3 rfl ?_
  refine Rn.ldcw d_Int_bitCount_4 g_360 ?_
  refine Rn.iand d_Int_bitCount_7 ?_
  refine Rn.isub d_Int_bitCount_8 ?_
  refine Rn.istore_n (lv1 := [some (.int (bc2 x))]) d_Int_bitCount_9 (by decide) (w_pv rfl) rfl ?_
  generalize bc2 x = x
  refine Rn.iload_n d_Int_bitCount_10 rfl ?_
  refine Rn.ldcw d_Int_bitCount_11 g_361 ?_
  refine Rn.iand d_Int_bitCount_14 ?_
  refine Rn.iload_n d_Int_bitCount_15 rfl ?_
  refine Rn.iconst (v := iI 2) d_Int_bitCount_16 rfl ?_
  refine Rn.iushr d_Int_bitCount_17 rfl ?_
  refine Rn.ldcw d_Int_bitCount_18 g_361 ?_
  refine Rn.iand d_Int_bitCount_21 ?_
  refine Rn.iadd d_Int_bitCount_22 ?_
  refine Rn.istore_n (lv1 := [some (.int (bc4 x))]) d_Int_bitCount_23 (by decide) (w_pv rfl) rfl ?_
  generalize bc4 x = x
  refine Rn.iload_n d_Int_bitCount_24 rfl ?_
  refine Rn.iload_n d_Int_bitCount_25 rfl ?_
  refine Rn.iconst (v := iI 4) d_Int_bitCount_26 rfl ?_
  refine Rn.iushr d_Int_bitCount_27 rfl ?_
  refine Rn.iadd d_Int_bitCount_28 ?_
  refine Rn.ldcw d_Int_bitCount_29 g_362 ?_
  refine Rn.iand d_Int_bitCount_32 ?_
  refine Rn.istore_n (lv1 := [some (.int (bc8 x))]) d_Int_bitCount_33 (by decide) (w_pv rfl) rfl ?_
  generalize bc8 x = x
  refine Rn.iload_n d_Int_bitCount_34 rfl ?_
  refine Rn.iload_n d_Int_bitCount_35 rfl ?_
  refine Rn.bipush (v := iI 8) d_Int_bitCount_36 (by decide +kernel) ?_
  refine Rn.iushr d_Int_bitCount_38 rfl ?_
  refine Rn.iadd d_Int_bitCount_39 ?_
  refine Rn.istore_n (lv1 := [some (.int (bc16 x))]) d_Int_bitCount_40 (by decide) (w_pv rfl) rfl ?_
  generalize bc16 x = x
  refine Rn.iload_n d_Int_bitCount_41 rfl ?_
  refine Rn.iload_n d_Int_bitCount_42 rfl ?_
  refine Rn.bipush (v := iI 16) d_Int_bitCount_43 (by decide +kernel) ?_
  refine Rn.iushr d_Int_bitCount_45 rfl ?_
  refine Rn.iadd d_Int_bitCount_46 ?_
  refine Rn.istore_n (lv1 := [some (.int (bc32 x))]) d_Int_bitCount_47 (by decide) (w_pv rfl) rfl ?_
  generalize bc32 x = x
  refine Rn.iload_n d_Int_bitCount_48 rfl ?_
  refine Rn.bipush (v := iI 63) d_Int_bitCount_49 (by decide +kernel) ?_
  refine Rn.iand d_Int_bitCount_51 ?_
  exact Rn.iret d_Int_bitCount_52 rfl rfl ⟨rfl, rfl⟩
theorem m_Act_set {M : wM} {c : Nat} {k o p : Int} (hh : isAct c) : EvV k_Act_set [.ref c, .int (iI k), .int (iI o), .int (iI p)] SH M (fun M' => actAt M' c k o p ∧ Off M M' c (c + 1)) := by
  refine EvV.of 0 (by decide) (Nat.le_of_ble_eq_true rfl) rfl ?_
  refine Rn.aload_n d_Act_set_0 rfl ?_
  refine Rn.iload_n d_Act_set_1 rfl ?_
  refine In.putI d_Act_set_2 f_Act_kind g_100 (z_Act (by assumption)) ?_
  refine Rn.aload_n d_Act_set_5 rfl ?_
  refine Rn.iload_n d_Act_set_6 rfl ?_
  refine In.putI d_Act_set_7 f_Act_one g_101 (z_Act (by assumption)) ?_
  refine Rn.aload_n d_Act_set_10 rfl ?_
  refine Rn.iload_n d_Act_set_11 rfl ?_
  refine In.putI d_Act_set_12 f_Act_other g_102 (z_Act (by assumption)) ?_
  exact Rn.vret d_Act_set_15 rfl ⟨⟨by simp [w_ui_if], by simp [w_ui_if], by simp [w_ui_if]⟩, ((Off.ui _ _ _ _).tr (Off.ui _ _ _ _)).tr (Off.ui _ _ _ _)⟩
theorem m_Act_kind {M : wM} {c : Nat} {k o p : Int} (hh : isAct c) (hA : actAt M c k o p) : EvI k_Act_kind [.ref c] SH M (fun r M' => r = iI k ∧ M' = M) := by
  refine EvI.of 0 (by decide) (Nat.le_of_ble_eq_true rfl) rfl ?_
  refine Rn.aload_n d_Act_kind_0 rfl ?_
  refine In.getI d_Act_kind_1 f_Act_kind g_100 (z_Act (by assumption)) hA.1 ?_
  exact Rn.iret d_Act_kind_4 rfl rfl ⟨rfl, rfl⟩
theorem m_Act_one {M : wM} {c : Nat} {k o p : Int} (hh : isAct c) (hA : actAt M c k o p) : EvI k_Act_one [.ref c] SH M (fun r M' => r = iI o ∧ M' = M) := by
  refine EvI.of 0 (by decide) (Nat.le_of_ble_eq_true rfl) rfl ?_
  refine Rn.aload_n d_Act_one_0 rfl ?_
  refine In.getI d_Act_one_1 f_Act_one g_101 (z_Act (by assumption)) hA.2.1 ?_
  exact Rn.iret d_Act_one_4 rfl rfl ⟨rfl, rfl⟩
theorem m_Act_other {M : wM} {c : Nat} {k o p : Int} (hh : isAct c) (hA : actAt M c k o p) : EvI k_Act_other [.ref c] SH M (fun r M' => r = iI p ∧ M' = M) := by
  refine EvI.of 0 (by decide) (Nat.le_of_ble_eq_true rfl) rfl ?_
  refine Rn.aload_n d_Act_other_0 rfl ?_
  refine In.getI d_Act_other_1 f_Act_other g_102 (z_Act (by assumption)) hA.2.2 ?_
  exact Rn.iret d_Act_other_4 rfl rfl ⟨rfl, rfl⟩
theorem m_BH_copyRow {M : wM} {a b z : Nat} (hza : SH[a]? = some (12, z)) (hzb : SH[b]? = some (12, z)) (hab : a ≠ b) (hz : z < 1000) : EvV k_BH_copyRow [.ref a, .ref b] SH M (fun M' => (∀ j, j < z → M'.1 b j = M.1 a j) ∧ Off M M' b (b + 1)) := by
  refine EvV.of 1 (by decide) (Nat.le_of_ble_eq_true rfl) rfl ?_
  refine Rn.iconst (v := iI 0) d_BH_copyRow_0 rfl ?_
  refine Rn.istore_n (lv1 := [_, _, _]) d_BH_copyRow_1 (by decide) (w_pv rfl) rfl ?_
  have loop : ∀ (n i : Nat) (Mc : wM), i + n = z → (∀ j, j < i → Mc.1 b j = M.1 a j) → Off M Mc b (b + 1) → Rn k_BH_copyRow none (0, 0) 2 [some (.ref a), some (.ref b), some (.int (iI i))] [] SH Mc (w_FV (0, 0) SH (fun M' => (∀ j, j < z → M'.1 b j = M.1 a j) ∧ Off M M' b (b + 1))) := by
    intro n
    induction n with
    | zero =>
      intro i Mc h1 h2 h3
      refine Rn.iload_n d_BH_copyRow_2 rfl ?_
      refine Rn.aload_n d_BH_copyRow_3 rfl ?_
      refine In.alen d_BH_copyRow_4 hza (by decide) ?_
      refine In.icmp_ge (tgt := 26) d_BH_copyRow_5 (by decide) ⟨by omega, by omega⟩ ⟨by omega, by omega⟩ (fun c5 => ?_) (fun c5 => ?_)
      · exact Rn.vret d_BH_copyRow_26 rfl ⟨fun j hj => h2 j (by omega), h3⟩
      · omega
    | succ n ih =>
      intro i Mc h1 h2 h3
      refine Rn.iload_n d_BH_copyRow_2 rfl ?_
      refine Rn.aload_n d_BH_copyRow_3 rfl ?_
      refine In.alen d_BH_copyRow_4 hza (by decide) ?_
      refine In.icmp_ge (tgt := 26) d_BH_copyRow_5 (by decide) ⟨by omega, by omega⟩ ⟨by omega, by omega⟩ (fun c5 => ?_) (fun c5 => ?_)
      · omega
      · refine Rn.iload_n d_BH_copyRow_8 rfl ?_
        refine Rn.aload_n d_BH_copyRow_9 rfl ?_
        refine In.alen d_BH_copyRow_10 hzb (by decide) ?_
        refine In.icmp_ge (tgt := 26) d_BH_copyRow_11 (by decide) ⟨by omega, by omega⟩ ⟨by omega, by omega⟩ (fun c11 => ?_) (fun c11 => ?_)
        · omega
        · refine Rn.aload_n d_BH_copyRow_14 rfl ?_
          refine Rn.iload_n d_BH_copyRow_15 rfl ?_
          refine Rn.aload_n d_BH_copyRow_16 rfl ?_
          refine Rn.iload_n d_BH_copyRow_17 rfl ?_
          refine In.ald d_BH_copyRow_18 hza rfl (by omega) (by omega) (iI_of _) ?_
          refine In.ast d_BH_copyRow_19 hzb rfl (by omega) (by omega) ?_
          refine In.inc (lv1 := [_, _, _]) d_BH_copyRow_20 rfl (by decide) (w_pv rfl) rfl ?_
          refine Rn.goto (tgt := 2) d_BH_copyRow_23 (by decide) ?_
          refine ih (i + 1) _ (by omega) (fun j hj => ?_) (h3.tr (Off.ui _ _ _ _))
          rw [← iI_of, w_ui_if]
          by_cases e : j = i
          · subst e; rw [if_pos ⟨rfl, rfl⟩, h3.1 a (by omega)]
          · rw [if_neg (by omega)]; exact h2 j (by omega)
  exact loop z 0 M (by omega) (fun j hj => by omega) Off.rf
theorem m_BH_memberAt {M : wM} {s : Nat} {i : Int} (hs : s < 2147483648) (hi : -2147483648 ≤ i ∧ i < 2147483648) : EvI k_BH_memberAt [.int (iI s), .int (iI i)] SH M (fun r M' => r = iI (nth (fun k => s.testBit k) 12 0 0 i) ∧ M' = M) := by
  refine EvI.of 2 (by decide) (Nat.le_of_ble_eq_true rfl) rfl ?_
  refine Rn.iconst (v := iI 0) d_BH_memberAt_0 rfl ?_
  refine Rn.istore_n (lv1 := [_, _, _, _]) d_BH_memberAt_1 (by decide) (w_pv rfl) rfl ?_
  refine Rn.iconst (v := iI 0) d_BH_memberAt_2 rfl ?_
  refine Rn.istore_n (lv1 := [_, _, _, _]) d_BH_memberAt_3 (by decide) (w_pv rfl) rfl ?_
  obtain ⟨V, hV⟩ : ∃ V, V = nth (fun k => s.testBit k) 12 0 0 i := ⟨_, rfl⟩
  rw [← hV]
  have loop : ∀ (n l c : Nat), l + n = 12 → c ≤ l → nth (fun k => s.testBit k) n l c i = V → Rn k_BH_memberAt none (0, 0) 4 [some (.int (iI s)), some (.int (iI i)), some (.int (iI c)), some (.int (iI l))] [] SH M (w_FI (0, 0) SH (fun r M' => r = iI V ∧ M' = M)) := by
    intro n
    induction n with
    | zero =>
      intro l c h1 h2 h3
      refine Rn.iload_n d_BH_memberAt_4 rfl ?_
      refine Rn.bipush (v := iI 12) d_BH_memberAt_5 (by decide +kernel) ?_
      refine In.icmp_ge (tgt := 37) d_BH_memberAt_7 (by decide) ⟨by omega, by omega⟩ ⟨by omega, by omega⟩ (fun c7 => ?_) (fun c7 => ?_)
      · refine Rn.bipush (v := iI (-6)) d_BH_memberAt_37 (by decide +kernel) ?_
        exact Rn.iret d_BH_memberAt_39 rfl rfl ⟨by rw [← h3]; rfl, rfl⟩
      · omega
    | succ n ih =>
      intro l c h1 h2 h3
      refine Rn.iload_n d_BH_memberAt_4 rfl ?_
      refine Rn.bipush (v := iI 12) d_BH_memberAt_5 (by decide +kernel) ?_
      refine In.icmp_ge (tgt := 37) d_BH_memberAt_7 (by decide) ⟨by omega, by omega⟩ ⟨by omega, by omega⟩ (fun c7 => ?_) (fun c7 => ?_)
      · omega
      · refine Rn.iload_n d_BH_memberAt_10 rfl ?_
        refine Rn.iload_n d_BH_memberAt_11 rfl ?_
        refine Rn.cSI d_BH_memberAt_12 s_BH_memberAt_BH_holds g_413 g_253 ⟨rfl, rfl⟩ ⟨Nat.zero_le _, Nat.zero_le _⟩ (m_BH_holds hs (show l < 31 by omega)) rfl rfl (Nat.le_of_ble_eq_true rfl) (fun r1 M1 h1 => ?_)
        obtain ⟨rfl, rfl⟩ := h1
        refine In.if_ne (tgt := 21) d_BH_memberAt_15 (by decide) (by split <;> decide) (fun c15 => ?_) (fun c15 => ?_)
        · refine Rn.iload_n d_BH_memberAt_21 rfl ?_
          refine Rn.iload_n d_BH_memberAt_22 rfl ?_
          have hb : s.testBit l = true := by revert c15; split <;> simp_all
          simp only [nth, hb, if_true] at h3
          refine In.icmp_ne (tgt := 28) d_BH_memberAt_23 (by decide) ⟨by omega, by omega⟩ ⟨by omega, by omega⟩ (fun c23 => ?_) (fun c23 => ?_)
          · refine In.inc (lv1 := [_, _, _, _]) d_BH_memberAt_28 rfl (by decide) (w_pv rfl) rfl ?_
            refine In.inc (lv1 := [_, _, _, _]) d_BH_memberAt_31 rfl (by decide) (w_pv rfl) rfl ?_
            refine Rn.goto (tgt := 4) d_BH_memberAt_34 (by decide) ?_
            rw [if_neg (by omega)] at h3
            exact ih (l + 1) (c + 1) (by omega) (by omega) h3
          · refine Rn.iload_n d_BH_memberAt_26 rfl ?_
            rw [if_pos (by omega)] at h3
            exact Rn.iret d_BH_memberAt_27 rfl rfl ⟨by rw [← h3], rfl⟩
        · refine Rn.goto (tgt := 31) d_BH_memberAt_18 (by decide) ?_
          refine In.inc (lv1 := [_, _, _, _]) d_BH_memberAt_31 rfl (by decide) (w_pv rfl) rfl ?_
          refine Rn.goto (tgt := 4) d_BH_memberAt_34 (by decide) ?_
          have hb : s.testBit l = false := by revert c15; split <;> simp_all
          simp only [nth, hb] at h3
          exact ih (l + 1) c (by omega) (by omega) h3
  exact loop 12 0 0 rfl (Nat.le_refl _) hV.symm
theorem m_Hill_tree {M : wM} {h : Nat} (hh : isHill h) (hG : M.2.2 = RG) : EvR k_Hill_tree [.ref h] SH M (fun r M' => r = h + 1 ∧ M' = M) := by
  refine EvR.of 0 (by decide) (Nat.le_of_ble_eq_true rfl) rfl ?_
  refine Rn.aload_n d_Hill_tree_0 rfl ?_
  refine Rn.getR d_Hill_tree_1 f_Hill_tree g_41 (z_Hill (by assumption)) (r_Hill_tree (by assumption) (by assumption)) ?_
  exact Rn.aret d_Hill_tree_4 rfl ⟨rfl, rfl⟩
theorem m_Hill_loopOf {M : wM} {h b : Nat} {β : Nat → Int} (hh : isHill h) (hG : M.2.2 = RG) (hA : hillAt M h β) (hb : b < 6) : EvI k_Hill_loopOf [.ref h, .int (iI b)] SH M (fun r M' => r = iI (β (12 + b)) ∧ M' = M) := by
  refine EvI.of 0 (by decide) (Nat.le_of_ble_eq_true rfl) rfl ?_
  refine Rn.iload_n d_Hill_loopOf_0 rfl ?_
  refine In.if_lt (tgt := 22) d_Hill_loopOf_1 (by decide) ⟨by omega, by omega⟩ (fun c1 => ?_) (fun c1 => ?_)
  · omega
  · refine Rn.iload_n d_Hill_loopOf_4 rfl ?_
    refine Rn.aload_n d_Hill_loopOf_5 rfl ?_
    refine Rn.getR d_Hill_loopOf_6 f_Hill_loops g_42 (z_Hill (by assumption)) (r_Hill_loops (by assumption) (by assumption)) ?_
    refine In.alen d_Hill_loopOf_9 (z_Hill_loops (by assumption)) (by decide) ?_
    refine In.icmp_ge (tgt := 22) d_Hill_loopOf_10 (by decide) ⟨by omega, by omega⟩ ⟨by omega, by omega⟩ (fun c10 => ?_) (fun c10 => ?_)
    · omega
    · refine Rn.aload_n d_Hill_loopOf_13 rfl ?_
      refine Rn.getR d_Hill_loopOf_14 f_Hill_loops g_42 (z_Hill (by assumption)) (r_Hill_loops (by assumption) (by assumption)) ?_
      refine Rn.iload_n d_Hill_loopOf_17 rfl ?_
      refine In.ald d_Hill_loopOf_18 (z_Hill_loops (by assumption)) rfl hb (by decide) (hA.2.1 b hb) ?_
      refine Rn.goto (tgt := 24) d_Hill_loopOf_19 (by decide) ?_
      exact Rn.iret d_Hill_loopOf_24 rfl rfl ⟨rfl, rfl⟩
theorem m_Hill_chipsOf {M : wM} {h b : Nat} {β : Nat → Int} (hh : isHill h) (hG : M.2.2 = RG) (hA : hillAt M h β) (hb : b < 6) : EvI k_Hill_chipsOf [.ref h, .int (iI b)] SH M (fun r M' => r = iI (β (18 + b)) ∧ M' = M) := by
  refine EvI.of 0 (by decide) (Nat.le_of_ble_eq_true rfl) rfl ?_
  refine Rn.iload_n d_Hill_chipsOf_0 rfl ?_
  refine In.if_lt (tgt := 22) d_Hill_chipsOf_1 (by decide) ⟨by omega, by omega⟩ (fun c1 => ?_) (fun c1 => ?_)
  · omega
  · refine Rn.iload_n d_Hill_chipsOf_4 rfl ?_
    refine Rn.aload_n d_Hill_chipsOf_5 rfl ?_
    refine Rn.getR d_Hill_chipsOf_6 f_Hill_chips g_43 (z_Hill (by assumption)) (r_Hill_chips (by assumption) (by assumption)) ?_
    refine In.alen d_Hill_chipsOf_9 (z_Hill_chips (by assumption)) (by decide) ?_
    refine In.icmp_ge (tgt := 22) d_Hill_chipsOf_10 (by decide) ⟨by omega, by omega⟩ ⟨by omega, by omega⟩ (fun c10 => ?_) (fun c10 => ?_)
    · omega
    · refine Rn.aload_n d_Hill_chipsOf_13 rfl ?_
      refine Rn.getR d_Hill_chipsOf_14 f_Hill_chips g_43 (z_Hill (by assumption)) (r_Hill_chips (by assumption) (by assumption)) ?_
      refine Rn.iload_n d_Hill_chipsOf_17 rfl ?_
      refine In.ald d_Hill_chipsOf_18 (z_Hill_chips (by assumption)) rfl hb (by decide) (hA.2.2.1 b hb) ?_
      refine Rn.goto (tgt := 23) d_Hill_chipsOf_19 (by decide) ?_
      exact Rn.iret d_Hill_chipsOf_23 rfl rfl ⟨rfl, rfl⟩
theorem m_Hill_isBroken {M : wM} {h b : Nat} {β : Nat → Int} (hh : isHill h) (hG : M.2.2 = RG) (hA : hillAt M h β) (hV : hok β) (hb : b < 6) : EvI k_Hill_isBroken [.ref h, .int (iI b)] SH M (fun r M' => r = iI (if (bk β).testBit b then 1 else 0) ∧ M' = M) := by
  refine EvI.of 0 (by decide) (Nat.le_of_ble_eq_true rfl) rfl ?_
  refine Rn.aload_n d_Hill_isBroken_0 rfl ?_
  refine In.getI d_Hill_isBroken_1 f_Hill_broken g_44 (z_Hill (by assumption)) (hA.2.2.2.1.trans (congrArg iI (hok_bk hV).1)) ?_
  refine Rn.iload_n d_Hill_isBroken_4 rfl ?_
  refine Rn.cSNI d_Hill_isBroken_5 s_Hill_isBroken_BH_holds (j := 10) (host := "BaubleHill") rfl g_253 ⟨rfl, rfl⟩ ⟨Nat.zero_le _, Nat.zero_le _⟩ (m_BH_holds (show bk β < 2147483648 by have := (hok_bk hV).2; omega) (show b < 31 by omega)) rfl rfl (Nat.le_of_ble_eq_true rfl) (fun r1 M1 h1 => ?_)
  obtain ⟨rfl, rfl⟩ := h1
  refine Rn.iret d_Hill_isBroken_8 rfl ?_ ⟨rfl, rfl⟩
  split <;> decide +kernel
theorem m_Hill_brokenBalls {M : wM} {h : Nat} {β : Nat → Int} (hh : isHill h) (hG : M.2.2 = RG) (hA : hillAt M h β) : EvI k_Hill_brokenBalls [.ref h] SH M (fun r M' => r = iI (β 24) ∧ M' = M) := by
  refine EvI.of 0 (by decide) (Nat.le_of_ble_eq_true rfl) rfl ?_
  refine Rn.aload_n d_Hill_brokenBalls_0 rfl ?_
  refine In.getI d_Hill_brokenBalls_1 f_Hill_broken g_44 (z_Hill (by assumption)) hA.2.2.2.1 ?_
  exact Rn.iret d_Hill_brokenBalls_4 rfl rfl ⟨rfl, rfl⟩
theorem m_Hill_winter {M : wM} {h : Nat} {β : Nat → Int} (hh : isHill h) (hG : M.2.2 = RG) (hA : hillAt M h β) : EvI k_Hill_winter [.ref h] SH M (fun r M' => r = iI (β 25) ∧ M' = M) := by
  refine EvI.of 0 (by decide) (Nat.le_of_ble_eq_true rfl) rfl ?_
  refine Rn.aload_n d_Hill_winter_0 rfl ?_
  refine In.getI d_Hill_winter_1 f_Hill_winter g_45 (z_Hill (by assumption)) hA.2.2.2.2 ?_
  exact Rn.iret d_Hill_winter_4 rfl rfl ⟨rfl, rfl⟩
theorem m_Hill_hungLoops {M : wM} {h : Nat} {β : Nat → Int} (hh : isHill h) (hG : M.2.2 = RG) (hA : hillAt M h β) (hl : ∀ b, b < 6 → β (12 + b) = -6 ∨ (0 ≤ β (12 + b) ∧ β (12 + b) < 12)) : EvI k_Hill_hungLoops [.ref h] SH M (fun r M' => r = iI (hungS β 6) ∧ M' = M) := by
  refine EvI.of 2 (by decide) (Nat.le_of_ble_eq_true rfl) rfl ?_
  refine Rn.iconst (v := iI 0) d_Hill_hungLoops_0 rfl ?_
  refine Rn.istore_n (lv1 := [_, _, _]) d_Hill_hungLoops_1 (by decide) (w_pv rfl) rfl ?_
  refine Rn.iconst (v := iI 0) d_Hill_hungLoops_2 rfl ?_
  refine Rn.istore_n (lv1 := [_, _, _]) d_Hill_hungLoops_3 (by decide) (w_pv rfl) rfl ?_
  have loop : ∀ (n i : Nat), i + n = 6 → Rn k_Hill_hungLoops none (0, 0) 4 [some (.ref h), some (.int (iI (hungS β i))), some (.int (iI i))] [] SH M (w_FI (0, 0) SH (fun r M' => r = iI (hungS β 6) ∧ M' = M)) := by
    intro n
    induction n with
    | zero =>
      intro i h1
      refine Rn.iload_n d_Hill_hungLoops_4 rfl ?_
      refine Rn.aload_n d_Hill_hungLoops_5 rfl ?_
      refine Rn.getR d_Hill_hungLoops_6 f_Hill_loops g_42 (z_Hill (by assumption)) (r_Hill_loops (by assumption) (by assumption)) ?_
      refine In.alen d_Hill_hungLoops_9 (z_Hill_loops (by assumption)) (by decide) ?_
      refine In.icmp_ge (tgt := 41) d_Hill_hungLoops_10 (by decide) ⟨by omega, by omega⟩ ⟨by omega, by omega⟩ (fun c10 => ?_) (fun c10 => ?_)
      · refine Rn.iload_n d_Hill_hungLoops_41 rfl ?_
        have : i = 6 := by omega
        subst this
        exact Rn.iret d_Hill_hungLoops_42 rfl rfl ⟨rfl, rfl⟩
      · omega
    | succ n ih =>
      intro i h1
      have hr := hl i (by omega)
      have ih := ih (i + 1) (by omega)
      simp only [hungS] at ih
      refine Rn.iload_n d_Hill_hungLoops_4 rfl ?_
      refine Rn.aload_n d_Hill_hungLoops_5 rfl ?_
      refine Rn.getR d_Hill_hungLoops_6 f_Hill_loops g_42 (z_Hill (by assumption)) (r_Hill_loops (by assumption) (by assumption)) ?_
      refine In.alen d_Hill_hungLoops_9 (z_Hill_loops (by assumption)) (by decide) ?_
      refine In.icmp_ge (tgt := 41) d_Hill_hungLoops_10 (by decide) ⟨by omega, by omega⟩ ⟨by omega, by omega⟩ (fun c10 => ?_) (fun c10 => ?_)
      · omega
      · refine Rn.aload_n d_Hill_hungLoops_13 rfl ?_
        refine Rn.getR d_Hill_hungLoops_14 f_Hill_loops g_42 (z_Hill (by assumption)) (r_Hill_loops (by assumption) (by assumption)) ?_
        refine Rn.iload_n d_Hill_hungLoops_17 rfl ?_
        refine In.ald d_Hill_hungLoops_18 (z_Hill_loops (by assumption)) rfl (by omega) (by decide) (hA.2.1 i (by omega)) ?_
        refine Rn.bipush (v := iI (-6)) d_Hill_hungLoops_19 (by decide +kernel) ?_
        refine In.icmp_eq (tgt := 35) d_Hill_hungLoops_21 (by decide) ⟨by omega, by omega⟩ ⟨by omega, by omega⟩ (fun c21 => ?_) (fun c21 => ?_)
        · refine In.inc (lv1 := [_, _, _]) d_Hill_hungLoops_35 rfl (by decide) (w_pv rfl) rfl ?_
          refine Rn.goto (tgt := 4) d_Hill_hungLoops_38 (by decide) ?_
          rw [if_pos c21] at ih
          exact ih
        · rw [if_neg c21] at ih
          refine Rn.iload_n d_Hill_hungLoops_24 rfl ?_
          refine Rn.iconst (v := iI 1) d_Hill_hungLoops_25 rfl ?_
          refine Rn.aload_n d_Hill_hungLoops_26 rfl ?_
          refine Rn.getR d_Hill_hungLoops_27 f_Hill_loops g_42 (z_Hill (by assumption)) (r_Hill_loops (by assumption) (by assumption)) ?_
          refine Rn.iload_n d_Hill_hungLoops_30 rfl ?_
          refine In.ald d_Hill_hungLoops_31 (z_Hill_loops (by assumption)) rfl (by omega) (by decide) (hA.2.1 i (by omega)) ?_
          refine In.shl ((Int.toNat_of_nonneg (show 0 ≤ β (12 + i) by omega)).symm) (by omega) d_Hill_hungLoops_32 ?_
          refine In.or rfl rfl d_Hill_hungLoops_33 ?_
          refine Rn.istore_n (lv1 := [_, _, _]) d_Hill_hungLoops_34 (by decide) (w_pv rfl) rfl ?_
          refine In.inc (lv1 := [_, _, _]) d_Hill_hungLoops_35 rfl (by decide) (w_pv rfl) rfl ?_
          refine Rn.goto (tgt := 4) d_Hill_hungLoops_38 (by decide) ?_
          exact ih
  exact loop 6 0 rfl
theorem m_Hill_allChips {M : wM} {h : Nat} {β : Nat → Int} (hh : isHill h) (hG : M.2.2 = RG) (hA : hillAt M h β) : EvI k_Hill_allChips [.ref h] SH M (fun r M' => r = iI (chipS β 6) ∧ M' = M) := by
  refine EvI.of 2 (by decide) (Nat.le_of_ble_eq_true rfl) rfl ?_
  refine Rn.iconst (v := iI 0) d_Hill_allChips_0 rfl ?_
  refine Rn.istore_n (lv1 := [_, _, _]) d_Hill_allChips_1 (by decide) (w_pv rfl) rfl ?_
  refine Rn.iconst (v := iI 0) d_Hill_allChips_2 rfl ?_
  refine Rn.istore_n (lv1 := [_, _, _]) d_Hill_allChips_3 (by decide) (w_pv rfl) rfl ?_
  have loop : ∀ (n i : Nat), i + n = 6 → Rn k_Hill_allChips none (0, 0) 4 [some (.ref h), some (.int (iI (chipS β i))), some (.int (iI i))] [] SH M (w_FI (0, 0) SH (fun r M' => r = iI (chipS β 6) ∧ M' = M)) := by
    intro n
    induction n with
    | zero =>
      intro i h1
      refine Rn.iload_n d_Hill_allChips_4 rfl ?_
      refine Rn.aload_n d_Hill_allChips_5 rfl ?_
      refine Rn.getR d_Hill_allChips_6 f_Hill_chips g_43 (z_Hill (by assumption)) (r_Hill_chips (by assumption) (by assumption)) ?_
      refine In.alen d_Hill_allChips_9 (z_Hill_chips (by assumption)) (by decide) ?_
      refine In.icmp_ge (tgt := 28) d_Hill_allChips_10 (by decide) ⟨by omega, by omega⟩ ⟨by omega, by omega⟩ (fun c10 => ?_) (fun c10 => ?_)
      · refine Rn.iload_n d_Hill_allChips_28 rfl ?_
        have : i = 6 := by omega
        subst this
        exact Rn.iret d_Hill_allChips_29 rfl rfl ⟨rfl, rfl⟩
      · omega
    | succ n ih =>
      intro i h1
      have ih := ih (i + 1) (by omega)
      simp only [chipS] at ih
      refine Rn.iload_n d_Hill_allChips_4 rfl ?_
      refine Rn.aload_n d_Hill_allChips_5 rfl ?_
      refine Rn.getR d_Hill_allChips_6 f_Hill_chips g_43 (z_Hill (by assumption)) (r_Hill_chips (by assumption) (by assumption)) ?_
      refine In.alen d_Hill_allChips_9 (z_Hill_chips (by assumption)) (by decide) ?_
      refine In.icmp_ge (tgt := 28) d_Hill_allChips_10 (by decide) ⟨by omega, by omega⟩ ⟨by omega, by omega⟩ (fun c10 => ?_) (fun c10 => ?_)
      · omega
      · refine Rn.iload_n d_Hill_allChips_13 rfl ?_
        refine Rn.aload_n d_Hill_allChips_14 rfl ?_
        refine Rn.getR d_Hill_allChips_15 f_Hill_chips g_43 (z_Hill (by assumption)) (r_Hill_chips (by assumption) (by assumption)) ?_
        refine Rn.iload_n d_Hill_allChips_18 rfl ?_
        refine In.ald d_Hill_allChips_19 (z_Hill_chips (by assumption)) rfl (by omega) (by decide) (hA.2.2.1 i (by omega)) ?_
        refine In.add d_Hill_allChips_20 ?_
        refine Rn.istore_n (lv1 := [_, _, _]) d_Hill_allChips_21 (by decide) (w_pv rfl) rfl ?_
        refine In.inc (lv1 := [_, _, _]) d_Hill_allChips_22 rfl (by decide) (w_pv rfl) rfl ?_
        refine Rn.goto (tgt := 4) d_Hill_allChips_25 (by decide) ?_
        exact ih
  exact loop 6 0 rfl
theorem m_Hill_anotherHangs {M : wM} {h b l : Nat} {β : Nat → Int} (hh : isHill h) (hG : M.2.2 = RG) (hA : hillAt M h β) (hl : ∀ b, b < 6 → β (12 + b) = -6 ∨ (0 ≤ β (12 + b) ∧ β (12 + b) < 12)) (hb : b < 6) (hl2 : l < 12) : EvI k_Hill_anotherHangs [.ref h, .int (iI b), .int (iI l)] SH M (fun r M' => r = iI (if β (12 + b) ≠ l ∧ (hungS β 6).testBit l = true then 1 else 0) ∧ M' = M) := by
  refine EvI.of 0 (by decide) (Nat.le_of_ble_eq_true rfl) rfl ?_
  have hr := hl b hb
  refine Rn.aload_n d_Hill_anotherHangs_0 rfl ?_
  refine Rn.iload_n d_Hill_anotherHangs_1 rfl ?_
  refine Rn.cVI d_Hill_anotherHangs_2 s_Hill_anotherHangs_Hill_loopOf g_244 g_245 g_246 ⟨rfl, rfl⟩ ⟨Nat.zero_le _, Nat.zero_le _⟩ (m_Hill_loopOf hh hG hA hb) rfl rfl (z_Hill (by assumption)) c_Hill (Nat.le_of_ble_eq_true rfl) (fun r1 M1 h1 => ?_)
  obtain ⟨rfl, rfl⟩ := h1
  refine Rn.iload_n d_Hill_anotherHangs_5 rfl ?_
  refine In.icmp_eq (tgt := 24) d_Hill_anotherHangs_6 (by decide) ⟨by omega, by omega⟩ ⟨by omega, by omega⟩ (fun c6 => ?_) (fun c6 => ?_)
  · refine Rn.iconst (v := iI 0) d_Hill_anotherHangs_24 rfl ?_
    exact Rn.iret d_Hill_anotherHangs_25 rfl (by decide +kernel) ⟨by rw [if_neg (fun q => q.1 c6)], rfl⟩
  · refine Rn.aload_n d_Hill_anotherHangs_9 rfl ?_
    refine Rn.cVI d_Hill_anotherHangs_10 s_Hill_anotherHangs_Hill_hungLoops g_248 g_249 g_250 ⟨rfl, rfl⟩ ⟨Nat.zero_le _, Nat.zero_le _⟩ (m_Hill_hungLoops hh hG hA hl) rfl rfl (z_Hill (by assumption)) c_Hill (Nat.le_of_ble_eq_true rfl) (fun r1 M1 h1 => ?_)
    obtain ⟨rfl, rfl⟩ := h1
    refine Rn.iload_n d_Hill_anotherHangs_13 rfl ?_
    refine Rn.cSNI d_Hill_anotherHangs_14 s_Hill_anotherHangs_BH_holds (j := 10) (host := "BaubleHill") rfl g_253 ⟨rfl, rfl⟩ ⟨Nat.zero_le _, Nat.zero_le _⟩ (m_BH_holds (show hungS β 6 < 2147483648 by have := hungS_lt hl 6 (Nat.le_refl _); omega) (show l < 31 by omega)) rfl rfl (Nat.le_of_ble_eq_true rfl) (fun r1 M1 h1 => ?_)
    obtain ⟨rfl, rfl⟩ := h1
    refine In.if_eq (tgt := 24) d_Hill_anotherHangs_17 (by decide) (by split <;> decide) (fun c17 => ?_) (fun c17 => ?_)
    · refine Rn.iconst (v := iI 0) d_Hill_anotherHangs_24 rfl ?_
      exact Rn.iret d_Hill_anotherHangs_25 rfl (by decide +kernel) ⟨by rw [if_neg (fun q => by rw [if_pos q.2] at c17; cases c17)], rfl⟩
    · refine Rn.iconst (v := iI 1) d_Hill_anotherHangs_20 rfl ?_
      refine Rn.goto (tgt := 25) d_Hill_anotherHangs_21 (by decide) ?_
      exact Rn.iret d_Hill_anotherHangs_25 rfl (by decide +kernel) ⟨by rw [if_pos ⟨c6, by revert c17; split <;> simp_all⟩], rfl⟩
end
section
theorem lw_dummy : True := trivial
end
