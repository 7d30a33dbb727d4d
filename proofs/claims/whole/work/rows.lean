section
-- ===== PART A: goes FIRST, ahead of the names: the tables' words, and 'selects' of the private methods out of them =====
/-- a private method of a class that the tables say can be made, by its rows of tables_1 -/
def lw_okq (q : MethodName × Nat) : Prop := (q.1.cls ≠ "java/lang/invoke/MethodHandle" ∧ q.1.cls ≠ "java/lang/invoke/VarHandle") ∧ Cond.instantiable q.1.cls q.2 ∈ tables_1 ∧ Cond.privateMethod q.1 ∈ tables_1 ∧ Cond.instanceMethod q.1 ∈ tables_1
theorem lw_p0 : lw_okq (⟨"BaubleHill$Pad", "signAt", "(I)I"⟩, 2) := ⟨⟨by decide +kernel, by decide +kernel⟩, List.mem_of_getElem? (i := 74) (by decide +kernel), List.mem_of_getElem? (i := 329) (by decide +kernel), List.mem_of_getElem? (i := 330) (by decide +kernel)⟩
theorem lw_p1 : lw_okq (⟨"BaubleHill$Hill", "blow", "(I)V"⟩, 5) := ⟨⟨by decide +kernel, by decide +kernel⟩, List.mem_of_getElem? (i := 25) (by decide +kernel), List.mem_of_getElem? (i := 378) (by decide +kernel), List.mem_of_getElem? (i := 379) (by decide +kernel)⟩
theorem lw_p2 : lw_okq (⟨"BaubleHill$Hill", "chip", "(II)V"⟩, 5) := ⟨⟨by decide +kernel, by decide +kernel⟩, List.mem_of_getElem? (i := 25) (by decide +kernel), List.mem_of_getElem? (i := 397) (by decide +kernel), List.mem_of_getElem? (i := 398) (by decide +kernel)⟩
theorem lw_p3 : lw_okq (⟨"BaubleHill$Hill", "packAll", "()V"⟩, 5) := ⟨⟨by decide +kernel, by decide +kernel⟩, List.mem_of_getElem? (i := 25) (by decide +kernel), List.mem_of_getElem? (i := 403) (by decide +kernel), List.mem_of_getElem? (i := 404) (by decide +kernel)⟩
theorem lw_p4 : lw_okq (⟨"BaubleHill$Telling", "noteBroken", "(I)V"⟩, 6) := ⟨⟨by decide +kernel, by decide +kernel⟩, List.mem_of_getElem? (i := 87) (by decide +kernel), List.mem_of_getElem? (i := 407) (by decide +kernel), List.mem_of_getElem? (i := 408) (by decide +kernel)⟩
theorem lw_p5 : lw_okq (⟨"BaubleHill$Choice", "lookAround", "(LBaubleHill$Tree;I)V"⟩, 1) := ⟨⟨by decide +kernel, by decide +kernel⟩, List.mem_of_getElem? (i := 130) (by decide +kernel), List.mem_of_getElem? (i := 500) (by decide +kernel), List.mem_of_getElem? (i := 501) (by decide +kernel)⟩
theorem lw_p6 : lw_okq (⟨"BaubleHill$Choice", "standsApart", "(I)Z"⟩, 1) := ⟨⟨by decide +kernel, by decide +kernel⟩, List.mem_of_getElem? (i := 130) (by decide +kernel), List.mem_of_getElem? (i := 506) (by decide +kernel), List.mem_of_getElem? (i := 507) (by decide +kernel)⟩
theorem lw_p7 : lw_okq (⟨"BaubleHill$Choice", "lightsAll", "(I)Z"⟩, 1) := ⟨⟨by decide +kernel, by decide +kernel⟩, List.mem_of_getElem? (i := 130) (by decide +kernel), List.mem_of_getElem? (i := 520) (by decide +kernel), List.mem_of_getElem? (i := 521) (by decide +kernel)⟩
theorem lw_p8 : lw_okq (⟨"BaubleHill$Year", "draw", "(I)V"⟩, 2) := ⟨⟨by decide +kernel, by decide +kernel⟩, List.mem_of_getElem? (i := 150) (by decide +kernel), List.mem_of_getElem? (i := 604) (by decide +kernel), List.mem_of_getElem? (i := 605) (by decide +kernel)⟩
theorem lw_p9 : lw_okq (⟨"BaubleHill", "imageOf", "(I)LBaubleHill$Image;"⟩, 9) := ⟨⟨by decide +kernel, by decide +kernel⟩, List.mem_of_getElem? (i := 17) (by decide +kernel), List.mem_of_getElem? (i := 615) (by decide +kernel), List.mem_of_getElem? (i := 616) (by decide +kernel)⟩
theorem lw_p10 : lw_okq (⟨"BaubleHillModel", "asNow", "()V"⟩, 17) := ⟨⟨by decide +kernel, by decide +kernel⟩, List.mem_of_getElem? (i := 645) (by decide +kernel), List.mem_of_getElem? (i := 716) (by decide +kernel), List.mem_of_getElem? (i := 717) (by decide +kernel)⟩
theorem lw_p11 : lw_okq (⟨"BaubleHillModel", "ballOn", "(I)I"⟩, 17) := ⟨⟨by decide +kernel, by decide +kernel⟩, List.mem_of_getElem? (i := 645) (by decide +kernel), List.mem_of_getElem? (i := 720) (by decide +kernel), List.mem_of_getElem? (i := 721) (by decide +kernel)⟩
theorem lw_p12 : lw_okq (⟨"BaubleHillModel", "faultOf", "()I"⟩, 17) := ⟨⟨by decide +kernel, by decide +kernel⟩, List.mem_of_getElem? (i := 645) (by decide +kernel), List.mem_of_getElem? (i := 736) (by decide +kernel), List.mem_of_getElem? (i := 737) (by decide +kernel)⟩
theorem lw_p13 : lw_okq (⟨"BaubleHillModel", "goWinters", "()I"⟩, 17) := ⟨⟨by decide +kernel, by decide +kernel⟩, List.mem_of_getElem? (i := 645) (by decide +kernel), List.mem_of_getElem? (i := 747) (by decide +kernel), List.mem_of_getElem? (i := 748) (by decide +kernel)⟩
theorem lw_p14 : lw_okq (⟨"BaubleHillModel", "endWinter", "()I"⟩, 17) := ⟨⟨by decide +kernel, by decide +kernel⟩, List.mem_of_getElem? (i := 645) (by decide +kernel), List.mem_of_getElem? (i := 751) (by decide +kernel), List.mem_of_getElem? (i := 752) (by decide +kernel)⟩
theorem lw_p15 : lw_okq (⟨"BaubleHillModel", "bend", "(II)I"⟩, 17) := ⟨⟨by decide +kernel, by decide +kernel⟩, List.mem_of_getElem? (i := 645) (by decide +kernel), List.mem_of_getElem? (i := 755) (by decide +kernel), List.mem_of_getElem? (i := 756) (by decide +kernel)⟩
def lw_privs_1 : List (MethodName × Nat) := [(⟨"BaubleHill$Pad", "signAt", "(I)I"⟩, 2), (⟨"BaubleHill$Hill", "blow", "(I)V"⟩, 5), (⟨"BaubleHill$Hill", "chip", "(II)V"⟩, 5), (⟨"BaubleHill$Hill", "packAll", "()V"⟩, 5), (⟨"BaubleHill$Telling", "noteBroken", "(I)V"⟩, 6), (⟨"BaubleHill$Choice", "lookAround", "(LBaubleHill$Tree;I)V"⟩, 1), (⟨"BaubleHill$Choice", "standsApart", "(I)Z"⟩, 1), (⟨"BaubleHill$Choice", "lightsAll", "(I)Z"⟩, 1), (⟨"BaubleHill$Year", "draw", "(I)V"⟩, 2), (⟨"BaubleHill", "imageOf", "(I)LBaubleHill$Image;"⟩, 9), (⟨"BaubleHillModel", "asNow", "()V"⟩, 17), (⟨"BaubleHillModel", "ballOn", "(I)I"⟩, 17), (⟨"BaubleHillModel", "faultOf", "()I"⟩, 17), (⟨"BaubleHillModel", "goWinters", "()I"⟩, 17), (⟨"BaubleHillModel", "endWinter", "()I"⟩, 17), (⟨"BaubleHillModel", "bend", "(II)I"⟩, 17)]
theorem lw_r1 : ∀ q ∈ lw_privs_1, lw_okq q := List.forall_mem_cons.mpr ⟨lw_p0, List.forall_mem_cons.mpr ⟨lw_p1, List.forall_mem_cons.mpr ⟨lw_p2, List.forall_mem_cons.mpr ⟨lw_p3, List.forall_mem_cons.mpr ⟨lw_p4, List.forall_mem_cons.mpr ⟨lw_p5, List.forall_mem_cons.mpr ⟨lw_p6, List.forall_mem_cons.mpr ⟨lw_p7, List.forall_mem_cons.mpr ⟨lw_p8, List.forall_mem_cons.mpr ⟨lw_p9, List.forall_mem_cons.mpr ⟨lw_p10, List.forall_mem_cons.mpr ⟨lw_p11, List.forall_mem_cons.mpr ⟨lw_p12, List.forall_mem_cons.mpr ⟨lw_p13, List.forall_mem_cons.mpr ⟨lw_p14, List.forall_mem_cons.mpr ⟨lw_p15, fun _ h => absurd h List.not_mem_nil⟩⟩⟩⟩⟩⟩⟩⟩⟩⟩⟩⟩⟩⟩⟩⟩
theorem lw_p16 : lw_okq (⟨"BaubleHillModel", "blow", "(I)I"⟩, 17) := ⟨⟨by decide +kernel, by decide +kernel⟩, List.mem_of_getElem? (i := 645) (by decide +kernel), List.mem_of_getElem? (i := 759) (by decide +kernel), List.mem_of_getElem? (i := 760) (by decide +kernel)⟩
theorem lw_p17 : lw_okq (⟨"BaubleHillModel", "hanging", "()I"⟩, 17) := ⟨⟨by decide +kernel, by decide +kernel⟩, List.mem_of_getElem? (i := 645) (by decide +kernel), List.mem_of_getElem? (i := 763) (by decide +kernel), List.mem_of_getElem? (i := 764) (by decide +kernel)⟩
theorem lw_p18 : lw_okq (⟨"BaubleHillModel", "apartOf", "(II)I"⟩, 17) := ⟨⟨by decide +kernel, by decide +kernel⟩, List.mem_of_getElem? (i := 645) (by decide +kernel), List.mem_of_getElem? (i := 770) (by decide +kernel), List.mem_of_getElem? (i := 771) (by decide +kernel)⟩
theorem lw_p19 : lw_okq (⟨"BaubleHillModel", "pack", "(I)I"⟩, 17) := ⟨⟨by decide +kernel, by decide +kernel⟩, List.mem_of_getElem? (i := 645) (by decide +kernel), List.mem_of_getElem? (i := 774) (by decide +kernel), List.mem_of_getElem? (i := 775) (by decide +kernel)⟩
theorem lw_p20 : lw_okq (⟨"BaubleHillModel", "hang", "(II)I"⟩, 17) := ⟨⟨by decide +kernel, by decide +kernel⟩, List.mem_of_getElem? (i := 645) (by decide +kernel), List.mem_of_getElem? (i := 781) (by decide +kernel), List.mem_of_getElem? (i := 782) (by decide +kernel)⟩
theorem lw_p21 : lw_okq (⟨"BaubleHillModel", "barOfWinters", "()I"⟩, 17) := ⟨⟨by decide +kernel, by decide +kernel⟩, List.mem_of_getElem? (i := 645) (by decide +kernel), List.mem_of_getElem? (i := 789) (by decide +kernel), List.mem_of_getElem? (i := 790) (by decide +kernel)⟩
theorem lw_p22 : lw_okq (⟨"BaubleHillModel", "meetOf", "(II)I"⟩, 17) := ⟨⟨by decide +kernel, by decide +kernel⟩, List.mem_of_getElem? (i := 645) (by decide +kernel), List.mem_of_getElem? (i := 812) (by decide +kernel), List.mem_of_getElem? (i := 813) (by decide +kernel)⟩
theorem lw_p23 : lw_okq (⟨"BaubleHillModel", "isFit", "(I)Z"⟩, 17) := ⟨⟨by decide +kernel, by decide +kernel⟩, List.mem_of_getElem? (i := 645) (by decide +kernel), List.mem_of_getElem? (i := 845) (by decide +kernel), List.mem_of_getElem? (i := 846) (by decide +kernel)⟩
theorem lw_p24 : lw_okq (⟨"BaubleHillModel", "worthOf", "(I)I"⟩, 17) := ⟨⟨by decide +kernel, by decide +kernel⟩, List.mem_of_getElem? (i := 645) (by decide +kernel), List.mem_of_getElem? (i := 857) (by decide +kernel), List.mem_of_getElem? (i := 858) (by decide +kernel)⟩
theorem lw_p25 : lw_okq (⟨"BaubleHillModel", "layChoices", "()V"⟩, 17) := ⟨⟨by decide +kernel, by decide +kernel⟩, List.mem_of_getElem? (i := 645) (by decide +kernel), List.mem_of_getElem? (i := 869) (by decide +kernel), List.mem_of_getElem? (i := 870) (by decide +kernel)⟩
def lw_privs_2 : List (MethodName × Nat) := [(⟨"BaubleHillModel", "blow", "(I)I"⟩, 17), (⟨"BaubleHillModel", "hanging", "()I"⟩, 17), (⟨"BaubleHillModel", "apartOf", "(II)I"⟩, 17), (⟨"BaubleHillModel", "pack", "(I)I"⟩, 17), (⟨"BaubleHillModel", "hang", "(II)I"⟩, 17), (⟨"BaubleHillModel", "barOfWinters", "()I"⟩, 17), (⟨"BaubleHillModel", "meetOf", "(II)I"⟩, 17), (⟨"BaubleHillModel", "isFit", "(I)Z"⟩, 17), (⟨"BaubleHillModel", "worthOf", "(I)I"⟩, 17), (⟨"BaubleHillModel", "layChoices", "()V"⟩, 17)]
theorem lw_r2 : ∀ q ∈ lw_privs_2, lw_okq q := List.forall_mem_cons.mpr ⟨lw_p16, List.forall_mem_cons.mpr ⟨lw_p17, List.forall_mem_cons.mpr ⟨lw_p18, List.forall_mem_cons.mpr ⟨lw_p19, List.forall_mem_cons.mpr ⟨lw_p20, List.forall_mem_cons.mpr ⟨lw_p21, List.forall_mem_cons.mpr ⟨lw_p22, List.forall_mem_cons.mpr ⟨lw_p23, List.forall_mem_cons.mpr ⟨lw_p24, List.forall_mem_cons.mpr ⟨lw_p25, fun _ h => absurd h List.not_mem_nil⟩⟩⟩⟩⟩⟩⟩⟩⟩⟩
def lw_privs : List (MethodName × Nat) := lw_privs_1 ++ (lw_privs_2)
def lw_tbl : List Cond := k2_sels lw_privs ++ tables_1
theorem lw_privs_ok : ∀ q ∈ lw_privs, lw_okq q := by
  show ∀ q ∈ lw_privs_1 ++ (lw_privs_2), lw_okq q
  exact List.forall_mem_append.mpr ⟨lw_r1, lw_r2⟩

/-- the words of the tables that a method may ask of its caller -/
def lw_g : List Cond := lw_tbl.filter goodWord
theorem g_mem {w : Cond} {i : Nat} (h : lw_tbl[i]? = some w) (hg : goodWord w = true) : w ∈ lw_g := List.mem_filter.mpr ⟨List.mem_of_getElem? h, hg⟩
theorem g_good : ∀ w ∈ lw_g, w ∈ lw_tbl ∧ goodWord w = true := fun _ h => List.mem_filter.mp h
theorem g_app (a b : List Cond) {w : Cond} {i : Nat} (h : b[i]? = some w) : w ∈ a ++ b := List.mem_append_right _ (List.mem_of_getElem? h)
theorem g_s1 {w : Cond} {i : Nat} (h : tables_1_1[i]? = some w) (hg : goodWord w = true) : w ∈ lw_g := List.mem_filter.mpr ⟨List.mem_append_right _ (List.mem_append_left _ (List.mem_of_getElem? h)), hg⟩
theorem g_s2 {w : Cond} {i : Nat} (h : tables_1_2[i]? = some w) (hg : goodWord w = true) : w ∈ lw_g := List.mem_filter.mpr ⟨List.mem_append_right _ (List.mem_append_right _ (List.mem_append_left _ (List.mem_of_getElem? h))), hg⟩
theorem g_s3 {w : Cond} {i : Nat} (h : tables_1_3[i]? = some w) (hg : goodWord w = true) : w ∈ lw_g := List.mem_filter.mpr ⟨List.mem_append_right _ (List.mem_append_right _ (List.mem_append_right _ (List.mem_append_left _ (List.mem_of_getElem? h)))), hg⟩
theorem g_s4 {w : Cond} {i : Nat} (h : tables_1_4[i]? = some w) (hg : goodWord w = true) : w ∈ lw_g := List.mem_filter.mpr ⟨List.mem_append_right _ (List.mem_append_right _ (List.mem_append_right _ (List.mem_append_right _ (List.mem_of_getElem? h)))), hg⟩
theorem g_n1 {w : Cond} {i : Nat} (h : tables_1_1[i]? = some w) : w ∈ lw_tbl := List.mem_append_right _ (List.mem_append_left _ (List.mem_of_getElem? h))
theorem g_n2 {w : Cond} {i : Nat} (h : tables_1_2[i]? = some w) : w ∈ lw_tbl := List.mem_append_right _ (List.mem_append_right _ (List.mem_append_left _ (List.mem_of_getElem? h)))
theorem g_n3 {w : Cond} {i : Nat} (h : tables_1_3[i]? = some w) : w ∈ lw_tbl := List.mem_append_right _ (List.mem_append_right _ (List.mem_append_right _ (List.mem_append_left _ (List.mem_of_getElem? h))))
theorem g_n4 {w : Cond} {i : Nat} (h : tables_1_4[i]? = some w) : w ∈ lw_tbl := List.mem_append_right _ (List.mem_append_right _ (List.mem_append_right _ (List.mem_append_right _ (List.mem_of_getElem? h))))
theorem g_all {ws : List Cond} (ps : List Nat) (hp : ws = ps.filterMap (fun i => lw_tbl[i]?)) (h : ws.all goodWord = true) : ∀ w ∈ ws, w ∈ lw_g := by
  intro w hw
  have h1 := List.all_eq_true.mp h w hw
  rw [hp] at hw
  obtain ⟨i, -, hi⟩ := List.mem_filterMap.mp hw
  exact g_mem hi h1
def T_Act : u_T := fun k => match k with
  | 0 => ("BaubleHill$Act", "kind", "I", false)
  | 1 => ("BaubleHill$Act", "one", "I", false)
  | _ => ("BaubleHill$Act", "other", "I", false)
def ty_Act : Nat → FieldType := fun k => match k with
  | 0 => .int
  | 1 => .int
  | _ => .int
theorem nm_Act : ∀ a, a < 3 → ∀ b, b < 3 → a ≠ b → (T_Act a).2.1 ≠ (T_Act b).2.1 := by decide +kernel
theorem ty_Act_ok : ∀ k, k < 3 → parseFieldDescriptor (T_Act k).2.2.1 = some (ty_Act k) := by decide +kernel
theorem in_Act : ∀ w ∈ u_ws "BaubleHill$Act" T_Act 3, w ∈ lw_g := g_all [129, 131, 133] (by decide +kernel) (by decide +kernel)
def T_Choice : u_T := fun k => match k with
  | _ => ("BaubleHill$Choice", "around", "[I", true)
def ty_Choice : Nat → FieldType := fun k => match k with
  | _ => .array .int
theorem nm_Choice : ∀ a, a < 1 → ∀ b, b < 1 → a ≠ b → (T_Choice a).2.1 ≠ (T_Choice b).2.1 := by decide +kernel
theorem ty_Choice_ok : ∀ k, k < 1 → parseFieldDescriptor (T_Choice k).2.2.1 = some (ty_Choice k) := by decide +kernel
theorem in_Choice : ∀ w ∈ u_ws "BaubleHill$Choice" T_Choice 1, w ∈ lw_g := g_all [162] (by decide +kernel) (by decide +kernel)
def T_Cutting : u_T := fun k => match k with
  | _ => ("BaubleHill$Cutting", "worths", "[I", true)
def ty_Cutting : Nat → FieldType := fun k => match k with
  | _ => .array .int
theorem nm_Cutting : ∀ a, a < 1 → ∀ b, b < 1 → a ≠ b → (T_Cutting a).2.1 ≠ (T_Cutting b).2.1 := by decide +kernel
theorem ty_Cutting_ok : ∀ k, k < 1 → parseFieldDescriptor (T_Cutting k).2.2.1 = some (ty_Cutting k) := by decide +kernel
theorem in_Cutting : ∀ w ∈ u_ws "BaubleHill$Cutting" T_Cutting 1, w ∈ lw_g := g_all [172] (by decide +kernel) (by decide +kernel)
def T_Hill : u_T := fun k => match k with
  | 0 => ("BaubleHill$Hill", "tree", "LBaubleHill$Tree;", true)
  | 1 => ("BaubleHill$Hill", "loops", "[I", true)
  | 2 => ("BaubleHill$Hill", "chips", "[I", true)
  | 3 => ("BaubleHill$Hill", "broken", "I", false)
  | _ => ("BaubleHill$Hill", "winter", "I", false)
def ty_Hill : Nat → FieldType := fun k => match k with
  | 0 => .object "BaubleHill$Tree"
  | 1 => .array .int
  | 2 => .array .int
  | 3 => .int
  | _ => .int
theorem nm_Hill : ∀ a, a < 5 → ∀ b, b < 5 → a ≠ b → (T_Hill a).2.1 ≠ (T_Hill b).2.1 := by decide +kernel
theorem ty_Hill_ok : ∀ k, k < 5 → parseFieldDescriptor (T_Hill k).2.2.1 = some (ty_Hill k) := by decide +kernel
theorem in_Hill : ∀ w ∈ u_ws "BaubleHill$Hill" T_Hill 5, w ∈ lw_g := g_all [72, 74, 76, 78, 80] (by decide +kernel) (by decide +kernel)
def T_Image : u_T := fun k => match k with
  | 0 => ("BaubleHill$Image", "hill", "LBaubleHill$Hill;", true)
  | 1 => ("BaubleHill$Image", "sights", "LBaubleHill$Sights;", true)
  | _ => ("BaubleHill$Image", "kept", "Z", false)
def ty_Image : Nat → FieldType := fun k => match k with
  | 0 => .object "BaubleHill$Hill"
  | 1 => .object "BaubleHill$Sights"
  | _ => .boolean
theorem nm_Image : ∀ a, a < 3 → ∀ b, b < 3 → a ≠ b → (T_Image a).2.1 ≠ (T_Image b).2.1 := by decide +kernel
theorem ty_Image_ok : ∀ k, k < 3 → parseFieldDescriptor (T_Image k).2.2.1 = some (ty_Image k) := by decide +kernel
theorem in_Image : ∀ w ∈ u_ws "BaubleHill$Image" T_Image 3, w ∈ lw_g := g_all [205, 207, 209] (by decide +kernel) (by decide +kernel)
def T_Pad : u_T := fun k => match k with
  | 0 => ("BaubleHill$Pad", "signs", "[I", true)
  | _ => ("BaubleHill$Pad", "count", "I", false)
def ty_Pad : Nat → FieldType := fun k => match k with
  | 0 => .array .int
  | _ => .int
theorem nm_Pad : ∀ a, a < 2 → ∀ b, b < 2 → a ≠ b → (T_Pad a).2.1 ≠ (T_Pad b).2.1 := by decide +kernel
theorem ty_Pad_ok : ∀ k, k < 2 → parseFieldDescriptor (T_Pad k).2.2.1 = some (ty_Pad k) := by decide +kernel
theorem in_Pad : ∀ w ∈ u_ws "BaubleHill$Pad" T_Pad 2, w ∈ lw_g := g_all [107, 109] (by decide +kernel) (by decide +kernel)
def T_Sights : u_T := fun k => match k with
  | 0 => ("BaubleHill$Sights", "loops", "[I", true)
  | 1 => ("BaubleHill$Sights", "fars", "[I", true)
  | _ => ("BaubleHill$Sights", "count", "I", false)
def ty_Sights : Nat → FieldType := fun k => match k with
  | 0 => .array .int
  | 1 => .array .int
  | _ => .int
theorem nm_Sights : ∀ a, a < 3 → ∀ b, b < 3 → a ≠ b → (T_Sights a).2.1 ≠ (T_Sights b).2.1 := by decide +kernel
theorem ty_Sights_ok : ∀ k, k < 3 → parseFieldDescriptor (T_Sights k).2.2.1 = some (ty_Sights k) := by decide +kernel
theorem in_Sights : ∀ w ∈ u_ws "BaubleHill$Sights" T_Sights 3, w ∈ lw_g := g_all [92, 94, 96] (by decide +kernel) (by decide +kernel)
def T_Telling : u_T := fun k => match k with
  | 0 => ("BaubleHill$Telling", "hill", "LBaubleHill$Hill;", true)
  | 1 => ("BaubleHill$Telling", "act", "LBaubleHill$Act;", true)
  | 2 => ("BaubleHill$Telling", "acts", "I", false)
  | 3 => ("BaubleHill$Telling", "why", "I", false)
  | 4 => ("BaubleHill$Telling", "actThatBroke", "I", false)
  | _ => ("BaubleHill$Telling", "ballThatBroke", "I", false)
def ty_Telling : Nat → FieldType := fun k => match k with
  | 0 => .object "BaubleHill$Hill"
  | 1 => .object "BaubleHill$Act"
  | 2 => .int
  | 3 => .int
  | 4 => .int
  | _ => .int
theorem nm_Telling : ∀ a, a < 6 → ∀ b, b < 6 → a ≠ b → (T_Telling a).2.1 ≠ (T_Telling b).2.1 := by decide +kernel
theorem ty_Telling_ok : ∀ k, k < 6 → parseFieldDescriptor (T_Telling k).2.2.1 = some (ty_Telling k) := by decide +kernel
theorem in_Telling : ∀ w ∈ u_ws "BaubleHill$Telling" T_Telling 6, w ∈ lw_g := g_all [142, 144, 146, 148, 150, 152] (by decide +kernel) (by decide +kernel)
def T_Tree : u_T := fun k => match k with
  | _ => ("BaubleHill$Tree", "parents", "[I", true)
def ty_Tree : Nat → FieldType := fun k => match k with
  | _ => .array .int
theorem nm_Tree : ∀ a, a < 1 → ∀ b, b < 1 → a ≠ b → (T_Tree a).2.1 ≠ (T_Tree b).2.1 := by decide +kernel
theorem ty_Tree_ok : ∀ k, k < 1 → parseFieldDescriptor (T_Tree k).2.2.1 = some (ty_Tree k) := by decide +kernel
theorem in_Tree : ∀ w ∈ u_ws "BaubleHill$Tree" T_Tree 1, w ∈ lw_g := g_all [63] (by decide +kernel) (by decide +kernel)
def T_Year : u_T := fun k => match k with
  | 0 => ("BaubleHill$Year", "hill", "LBaubleHill$Hill;", true)
  | _ => ("BaubleHill$Year", "act", "LBaubleHill$Act;", true)
def ty_Year : Nat → FieldType := fun k => match k with
  | 0 => .object "BaubleHill$Hill"
  | _ => .object "BaubleHill$Act"
theorem nm_Year : ∀ a, a < 2 → ∀ b, b < 2 → a ≠ b → (T_Year a).2.1 ≠ (T_Year b).2.1 := by decide +kernel
theorem ty_Year_ok : ∀ k, k < 2 → parseFieldDescriptor (T_Year k).2.2.1 = some (ty_Year k) := by decide +kernel
theorem in_Year : ∀ w ∈ u_ws "BaubleHill$Year" T_Year 2, w ∈ lw_g := g_all [187, 189] (by decide +kernel) (by decide +kernel)
def T_BH : u_T := fun k => match k with
  | 0 => ("BaubleHill", "hill", "LBaubleHill$Hill;", true)
  | 1 => ("BaubleHill", "sights", "LBaubleHill$Sights;", true)
  | 2 => ("BaubleHill", "pad", "LBaubleHill$Pad;", true)
  | 3 => ("BaubleHill", "telling", "LBaubleHill$Telling;", true)
  | 4 => ("BaubleHill", "choice", "LBaubleHill$Choice;", true)
  | 5 => ("BaubleHill", "cutting", "LBaubleHill$Cutting;", true)
  | 6 => ("BaubleHill", "years", "LBaubleHill$Year;", true)
  | 7 => ("BaubleHill", "firstImage", "LBaubleHill$Image;", true)
  | _ => ("BaubleHill", "secondImage", "LBaubleHill$Image;", true)
def ty_BH : Nat → FieldType := fun k => match k with
  | 0 => .object "BaubleHill$Hill"
  | 1 => .object "BaubleHill$Sights"
  | 2 => .object "BaubleHill$Pad"
  | 3 => .object "BaubleHill$Telling"
  | 4 => .object "BaubleHill$Choice"
  | 5 => .object "BaubleHill$Cutting"
  | 6 => .object "BaubleHill$Year"
  | 7 => .object "BaubleHill$Image"
  | _ => .object "BaubleHill$Image"
theorem nm_BH : ∀ a, a < 9 → ∀ b, b < 9 → a ≠ b → (T_BH a).2.1 ≠ (T_BH b).2.1 := by decide +kernel
theorem ty_BH_ok : ∀ k, k < 9 → parseFieldDescriptor (T_BH k).2.2.1 = some (ty_BH k) := by decide +kernel
theorem in_BH : ∀ w ∈ u_ws "BaubleHill" T_BH 9, w ∈ lw_g := g_all [221, 223, 225, 227, 229, 231, 233, 235, 237] (by decide +kernel) (by decide +kernel)
def T_Md : u_T := fun k => match k with
  | 0 => ("BaubleHillModel", "book", "[I", true)
  | 1 => ("BaubleHillModel", "now", "[I", true)
  | 2 => ("BaubleHillModel", "sights", "I", false)
  | 3 => ("BaubleHillModel", "sight", "[I", true)
  | 4 => ("BaubleHillModel", "signs", "I", false)
  | 5 => ("BaubleHillModel", "pad", "[I", true)
  | 6 => ("BaubleHillModel", "came", "I", false)
  | 7 => ("BaubleHillModel", "brokenAt", "I", false)
  | 8 => ("BaubleHillModel", "brokenWhich", "I", false)
  | 9 => ("BaubleHillModel", "more", "[I", true)
  | 10 => ("BaubleHillModel", "reason", "I", false)
  | 11 => ("BaubleHillModel", "acts", "I", false)
  | 12 => ("BaubleHillModel", "counts", "[I", true)
  | 13 => ("BaubleHillModel", "worth", "[I", true)
  | 14 => ("BaubleHillModel", "choices", "[J", true)
  | 15 => ("BaubleHillModel", "image", "[I", true)
  | _ => ("BaubleHillModel", "isKept", "[Z", true)
def ty_Md : Nat → FieldType := fun k => match k with
  | 0 => .array .int
  | 1 => .array .int
  | 2 => .int
  | 3 => .array .int
  | 4 => .int
  | 5 => .array .int
  | 6 => .int
  | 7 => .int
  | 8 => .int
  | 9 => .array .int
  | 10 => .int
  | 11 => .int
  | 12 => .array .int
  | 13 => .array .int
  | 14 => .array .long
  | 15 => .array .int
  | _ => .array .boolean
theorem nm_Md : ∀ a, a < 17 → ∀ b, b < 17 → a ≠ b → (T_Md a).2.1 ≠ (T_Md b).2.1 := by decide +kernel
theorem ty_Md_ok : ∀ k, k < 17 → parseFieldDescriptor (T_Md k).2.2.1 = some (ty_Md k) := by decide +kernel
theorem in_Md : ∀ w ∈ u_ws "BaubleHillModel" T_Md 17, w ∈ lw_g := g_all [693, 695, 697, 699, 701, 703, 705, 707, 709, 711, 713, 715, 717, 719, 721, 723, 725] (by decide +kernel) (by decide +kernel)
abbrev vwCl : List vw_C := [("BaubleHill$Act", T_Act, 3), ("BaubleHill$Choice", T_Choice, 1), ("BaubleHill$Cutting", T_Cutting, 1), ("BaubleHill$Hill", T_Hill, 5), ("BaubleHill$Image", T_Image, 3), ("BaubleHill$Pad", T_Pad, 2), ("BaubleHill$Sights", T_Sights, 3), ("BaubleHill$Telling", T_Telling, 6), ("BaubleHill$Tree", T_Tree, 1), ("BaubleHill$Year", T_Year, 2), ("BaubleHill", T_BH, 9), ("BaubleHillModel", T_Md, 17)]
/-- which fields of a class are references -/
def w_fk : Nat → List Bool := fun c => match c with
  | 0 => [false, false, false]
  | 1 => [true]
  | 2 => [true]
  | 3 => [true, true, true, false, false]
  | 4 => [true, true, false]
  | 5 => [true, false]
  | 6 => [true, true, false]
  | 7 => [true, true, false, false, false, false]
  | 8 => [true]
  | 9 => [true, true]
  | 10 => [true, true, true, true, true, true, true, true, true]
  | 11 => [true, true, false, true, false, true, false, false, false, true, false, false, true, true, true, true, true]
  | _ => []
abbrev wK : Type := MethodName × ByteArray × Nat × Option FieldType × Room
abbrev y_Act_init : MethodName := ⟨"BaubleHill$Act", "<init>", "()V"⟩
abbrev k_Act_init : wK := (y_Act_init, prog_2_method_1_code, 1, none, { frames := 1, cells := 0, slots := 0, locals := 12 })
abbrev y_Act_set : MethodName := ⟨"BaubleHill$Act", "set", "(III)V"⟩
abbrev k_Act_set : wK := (y_Act_set, prog_2_method_2_code, 4, none, { frames := 0, cells := 0, slots := 0, locals := 0 })
abbrev y_Act_kind : MethodName := ⟨"BaubleHill$Act", "kind", "()I"⟩
abbrev k_Act_kind : wK := (y_Act_kind, prog_2_method_3_code, 1, (Option.some FieldType.int), { frames := 0, cells := 0, slots := 0, locals := 0 })
abbrev y_Act_one : MethodName := ⟨"BaubleHill$Act", "one", "()I"⟩
abbrev k_Act_one : wK := (y_Act_one, prog_2_method_4_code, 1, (Option.some FieldType.int), { frames := 0, cells := 0, slots := 0, locals := 0 })
abbrev y_Act_other : MethodName := ⟨"BaubleHill$Act", "other", "()I"⟩
abbrev k_Act_other : wK := (y_Act_other, prog_2_method_5_code, 1, (Option.some FieldType.int), { frames := 0, cells := 0, slots := 0, locals := 0 })
abbrev y_Chance_ways : MethodName := ⟨"BaubleHill$Chance", "ways", "(II)J"⟩
abbrev k_Chance_ways : wK := (y_Chance_ways, prog_3_method_2_code, 5, (Option.some FieldType.long), { frames := 0, cells := 0, slots := 0, locals := 0 })
abbrev y_Chance_waysAtLeast : MethodName := ⟨"BaubleHill$Chance", "waysAtLeast", "(IIII)J"⟩
abbrev k_Chance_waysAtLeast : wK := (y_Chance_waysAtLeast, prog_3_method_3_code, 7, (Option.some FieldType.long), { frames := 1, cells := 0, slots := 0, locals := 24 })
abbrev y_Chance_lowest : MethodName := ⟨"BaubleHill$Chance", "lowest", "(JJI)J"⟩
abbrev k_Chance_lowest : wK := (y_Chance_lowest, prog_3_method_4_code, 7, (Option.some FieldType.long), { frames := 1, cells := 0, slots := 0, locals := 26 })
abbrev y_Chance_commonDivisor : MethodName := ⟨"BaubleHill$Chance", "commonDivisor", "(JJ)J"⟩
abbrev k_Chance_commonDivisor : wK := (y_Chance_commonDivisor, prog_3_method_5_code, 7, (Option.some FieldType.long), { frames := 0, cells := 0, slots := 0, locals := 0 })
abbrev y_Choice_init : MethodName := ⟨"BaubleHill$Choice", "<init>", "()V"⟩
abbrev k_Choice_init : wK := (y_Choice_init, prog_4_method_1_code, 1, none, { frames := 1, cells := 1, slots := 12, locals := 12 })
abbrev y_Choice_mostApart : MethodName := ⟨"BaubleHill$Choice", "mostApart", "(LBaubleHill$Tree;I)I"⟩
abbrev k_Choice_mostApart : wK := (y_Choice_mostApart, prog_4_method_2_code, 7, (Option.some FieldType.int), { frames := 4, cells := 0, slots := 0, locals := 97 })
abbrev y_Choice_fewestLighting : MethodName := ⟨"BaubleHill$Choice", "fewestLighting", "(LBaubleHill$Tree;I)I"⟩
abbrev k_Choice_fewestLighting : wK := (y_Choice_fewestLighting, prog_4_method_3_code, 7, (Option.some FieldType.int), { frames := 4, cells := 0, slots := 0, locals := 97 })
abbrev y_Choice_lookAround : MethodName := ⟨"BaubleHill$Choice", "lookAround", "(LBaubleHill$Tree;I)V"⟩
abbrev k_Choice_lookAround : wK := (y_Choice_lookAround, prog_4_method_4_code, 4, none, { frames := 3, cells := 0, slots := 0, locals := 74 })
abbrev y_Choice_standsApart : MethodName := ⟨"BaubleHill$Choice", "standsApart", "(I)Z"⟩
abbrev k_Choice_standsApart : wK := (y_Choice_standsApart, prog_4_method_5_code, 3, (Option.some FieldType.boolean), { frames := 1, cells := 0, slots := 0, locals := 21 })
abbrev y_Choice_lightsAll : MethodName := ⟨"BaubleHill$Choice", "lightsAll", "(I)Z"⟩
abbrev k_Choice_lightsAll : wK := (y_Choice_lightsAll, prog_4_method_6_code, 4, (Option.some FieldType.boolean), { frames := 1, cells := 0, slots := 0, locals := 21 })
abbrev y_Cutting_init : MethodName := ⟨"BaubleHill$Cutting", "<init>", "()V"⟩
abbrev k_Cutting_init : wK := (y_Cutting_init, prog_5_method_1_code, 1, none, { frames := 1, cells := 1, slots := 12, locals := 12 })
abbrev y_Cutting_worth : MethodName := ⟨"BaubleHill$Cutting", "worth", "(LBaubleHill$Tree;I)I"⟩
abbrev k_Cutting_worth : wK := (y_Cutting_worth, prog_5_method_2_code, 5, (Option.some FieldType.int), { frames := 1, cells := 0, slots := 0, locals := 21 })
abbrev y_Hill_init : MethodName := ⟨"BaubleHill$Hill", "<init>", "()V"⟩
abbrev k_Hill_init : wK := (y_Hill_init, prog_6_method_1_code, 2, none, { frames := 2, cells := 4, slots := 25, locals := 33 })
abbrev y_Hill_tree : MethodName := ⟨"BaubleHill$Hill", "tree", "()LBaubleHill$Tree;"⟩
abbrev k_Hill_tree : wK := (y_Hill_tree, prog_6_method_2_code, 1, (Option.some (FieldType.object "BaubleHill$Tree")), { frames := 0, cells := 0, slots := 0, locals := 0 })
abbrev y_Hill_loopOf : MethodName := ⟨"BaubleHill$Hill", "loopOf", "(I)I"⟩
abbrev k_Hill_loopOf : wK := (y_Hill_loopOf, prog_6_method_3_code, 2, (Option.some FieldType.int), { frames := 0, cells := 0, slots := 0, locals := 0 })
abbrev y_Hill_chipsOf : MethodName := ⟨"BaubleHill$Hill", "chipsOf", "(I)I"⟩
abbrev k_Hill_chipsOf : wK := (y_Hill_chipsOf, prog_6_method_4_code, 2, (Option.some FieldType.int), { frames := 0, cells := 0, slots := 0, locals := 0 })
abbrev y_Hill_isBroken : MethodName := ⟨"BaubleHill$Hill", "isBroken", "(I)Z"⟩
abbrev k_Hill_isBroken : wK := (y_Hill_isBroken, prog_6_method_5_code, 2, (Option.some FieldType.boolean), { frames := 1, cells := 0, slots := 0, locals := 21 })
abbrev y_Hill_brokenBalls : MethodName := ⟨"BaubleHill$Hill", "brokenBalls", "()I"⟩
abbrev k_Hill_brokenBalls : wK := (y_Hill_brokenBalls, prog_6_method_6_code, 1, (Option.some FieldType.int), { frames := 0, cells := 0, slots := 0, locals := 0 })
abbrev y_Hill_winter : MethodName := ⟨"BaubleHill$Hill", "winter", "()I"⟩
abbrev k_Hill_winter : wK := (y_Hill_winter, prog_6_method_7_code, 1, (Option.some FieldType.int), { frames := 0, cells := 0, slots := 0, locals := 0 })
abbrev y_Hill_hungLoops : MethodName := ⟨"BaubleHill$Hill", "hungLoops", "()I"⟩
abbrev k_Hill_hungLoops : wK := (y_Hill_hungLoops, prog_6_method_8_code, 3, (Option.some FieldType.int), { frames := 0, cells := 0, slots := 0, locals := 0 })
abbrev y_Hill_allChips : MethodName := ⟨"BaubleHill$Hill", "allChips", "()I"⟩
abbrev k_Hill_allChips : wK := (y_Hill_allChips, prog_6_method_9_code, 3, (Option.some FieldType.int), { frames := 0, cells := 0, slots := 0, locals := 0 })
abbrev y_Hill_anotherHangs : MethodName := ⟨"BaubleHill$Hill", "anotherHangs", "(II)Z"⟩
abbrev k_Hill_anotherHangs : wK := (y_Hill_anotherHangs, prog_6_method_10_code, 3, (Option.some FieldType.boolean), { frames := 1, cells := 0, slots := 0, locals := 22 })
abbrev y_Hill_put : MethodName := ⟨"BaubleHill$Hill", "put", "(III)V"⟩
abbrev k_Hill_put : wK := (y_Hill_put, prog_6_method_11_code, 4, none, { frames := 0, cells := 0, slots := 0, locals := 0 })
abbrev y_Hill_copyFrom : MethodName := ⟨"BaubleHill$Hill", "copyFrom", "(LBaubleHill$Hill;)V"⟩
abbrev k_Hill_copyFrom : wK := (y_Hill_copyFrom, prog_6_method_12_code, 2, none, { frames := 2, cells := 0, slots := 0, locals := 43 })
abbrev y_Hill_seenFrom : MethodName := ⟨"BaubleHill$Hill", "seenFrom", "(I)I"⟩
abbrev k_Hill_seenFrom : wK := (y_Hill_seenFrom, prog_6_method_13_code, 8, (Option.some FieldType.int), { frames := 3, cells := 0, slots := 0, locals := 73 })
abbrev y_Hill_whyNot : MethodName := ⟨"BaubleHill$Hill", "whyNot", "(LBaubleHill$Act;)I"⟩
abbrev k_Hill_whyNot : wK := (y_Hill_whyNot, prog_6_method_14_code, 2, (Option.some FieldType.int), { frames := 2, cells := 0, slots := 0, locals := 44 })
abbrev y_Hill_follow : MethodName := ⟨"BaubleHill$Hill", "follow", "(LBaubleHill$Act;)V"⟩
abbrev k_Hill_follow : wK := (y_Hill_follow, prog_6_method_15_code, 2, none, { frames := 4, cells := 0, slots := 0, locals := 98 })
abbrev y_Hill_blow : MethodName := ⟨"BaubleHill$Hill", "blow", "(I)V"⟩
abbrev k_Hill_blow : wK := (y_Hill_blow, prog_6_method_16_code, 5, none, { frames := 3, cells := 0, slots := 0, locals := 74 })
abbrev y_Hill_chip : MethodName := ⟨"BaubleHill$Hill", "chip", "(II)V"⟩
abbrev k_Hill_chip : wK := (y_Hill_chip, prog_6_method_17_code, 4, none, { frames := 1, cells := 0, slots := 0, locals := 23 })
abbrev y_Hill_packAll : MethodName := ⟨"BaubleHill$Hill", "packAll", "()V"⟩
abbrev k_Hill_packAll : wK := (y_Hill_packAll, prog_6_method_18_code, 2, none, { frames := 0, cells := 0, slots := 0, locals := 0 })
abbrev y_Image_init : MethodName := ⟨"BaubleHill$Image", "<init>", "()V"⟩
abbrev k_Image_init : wK := (y_Image_init, prog_7_method_1_code, 1, none, { frames := 3, cells := 8, slots := 49, locals := 54 })
abbrev y_Image_isKept : MethodName := ⟨"BaubleHill$Image", "isKept", "()Z"⟩
abbrev k_Image_isKept : wK := (y_Image_isKept, prog_7_method_2_code, 1, (Option.some FieldType.boolean), { frames := 0, cells := 0, slots := 0, locals := 0 })
abbrev y_Image_keep : MethodName := ⟨"BaubleHill$Image", "keep", "(LBaubleHill$Hill;LBaubleHill$Sights;)V"⟩
abbrev k_Image_keep : wK := (y_Image_keep, prog_7_method_3_code, 3, none, { frames := 3, cells := 0, slots := 0, locals := 64 })
abbrev y_Image_bringBack : MethodName := ⟨"BaubleHill$Image", "bringBack", "(LBaubleHill$Hill;LBaubleHill$Sights;)V"⟩
abbrev k_Image_bringBack : wK := (y_Image_bringBack, prog_7_method_4_code, 3, none, { frames := 3, cells := 0, slots := 0, locals := 64 })
abbrev y_Pad_init : MethodName := ⟨"BaubleHill$Pad", "<init>", "()V"⟩
abbrev k_Pad_init : wK := (y_Pad_init, prog_8_method_1_code, 1, none, { frames := 1, cells := 1, slots := 60, locals := 12 })
abbrev y_Pad_size : MethodName := ⟨"BaubleHill$Pad", "size", "()I"⟩
abbrev k_Pad_size : wK := (y_Pad_size, prog_8_method_2_code, 1, (Option.some FieldType.int), { frames := 0, cells := 0, slots := 0, locals := 0 })
abbrev y_Pad_add : MethodName := ⟨"BaubleHill$Pad", "add", "(I)V"⟩
abbrev k_Pad_add : wK := (y_Pad_add, prog_8_method_3_code, 2, none, { frames := 0, cells := 0, slots := 0, locals := 0 })
abbrev y_Pad_clear : MethodName := ⟨"BaubleHill$Pad", "clear", "()V"⟩
abbrev k_Pad_clear : wK := (y_Pad_clear, prog_8_method_4_code, 1, none, { frames := 0, cells := 0, slots := 0, locals := 0 })
abbrev y_Pad_firstWrong : MethodName := ⟨"BaubleHill$Pad", "firstWrong", "()I"⟩
abbrev k_Pad_firstWrong : wK := (y_Pad_firstWrong, prog_8_method_5_code, 5, (Option.some FieldType.int), { frames := 3, cells := 0, slots := 0, locals := 61 })
abbrev y_Pad_read : MethodName := ⟨"BaubleHill$Pad", "read", "(ILBaubleHill$Act;)I"⟩
abbrev k_Pad_read : wK := (y_Pad_read, prog_8_method_6_code, 5, (Option.some FieldType.int), { frames := 2, cells := 0, slots := 0, locals := 40 })
abbrev y_Pad_signAt : MethodName := ⟨"BaubleHill$Pad", "signAt", "(I)I"⟩
abbrev k_Pad_signAt : wK := (y_Pad_signAt, prog_8_method_7_code, 2, (Option.some FieldType.int), { frames := 0, cells := 0, slots := 0, locals := 0 })
abbrev y_Pad_isHead : MethodName := ⟨"BaubleHill$Pad", "isHead", "(I)Z"⟩
abbrev k_Pad_isHead : wK := (y_Pad_isHead, prog_8_method_8_code, 1, (Option.some FieldType.boolean), { frames := 2, cells := 0, slots := 0, locals := 40 })
abbrev y_Pad_signsAfter : MethodName := ⟨"BaubleHill$Pad", "signsAfter", "(I)I"⟩
abbrev k_Pad_signsAfter : wK := (y_Pad_signsAfter, prog_8_method_9_code, 1, (Option.some FieldType.int), { frames := 0, cells := 0, slots := 0, locals := 0 })
abbrev y_Pad_mayFollow : MethodName := ⟨"BaubleHill$Pad", "mayFollow", "(II)Z"⟩
abbrev k_Pad_mayFollow : wK := (y_Pad_mayFollow, prog_8_method_10_code, 2, (Option.some FieldType.boolean), { frames := 2, cells := 0, slots := 0, locals := 40 })
abbrev y_Pad_isBallLetter : MethodName := ⟨"BaubleHill$Pad", "isBallLetter", "(I)Z"⟩
abbrev k_Pad_isBallLetter : wK := (y_Pad_isBallLetter, prog_8_method_11_code, 1, (Option.some FieldType.boolean), { frames := 1, cells := 0, slots := 0, locals := 20 })
abbrev y_Sights_init : MethodName := ⟨"BaubleHill$Sights", "<init>", "()V"⟩
abbrev k_Sights_init : wK := (y_Sights_init, prog_9_method_1_code, 1, none, { frames := 1, cells := 2, slots := 16, locals := 12 })
abbrev y_Sights_size : MethodName := ⟨"BaubleHill$Sights", "size", "()I"⟩
abbrev k_Sights_size : wK := (y_Sights_size, prog_9_method_2_code, 1, (Option.some FieldType.int), { frames := 0, cells := 0, slots := 0, locals := 0 })
abbrev y_Sights_add : MethodName := ⟨"BaubleHill$Sights", "add", "(II)V"⟩
abbrev k_Sights_add : wK := (y_Sights_add, prog_9_method_3_code, 3, none, { frames := 0, cells := 0, slots := 0, locals := 0 })
abbrev y_Sights_clear : MethodName := ⟨"BaubleHill$Sights", "clear", "()V"⟩
abbrev k_Sights_clear : wK := (y_Sights_clear, prog_9_method_4_code, 1, none, { frames := 0, cells := 0, slots := 0, locals := 0 })
abbrev y_Sights_copyFrom : MethodName := ⟨"BaubleHill$Sights", "copyFrom", "(LBaubleHill$Sights;)V"⟩
abbrev k_Sights_copyFrom : wK := (y_Sights_copyFrom, prog_9_method_5_code, 2, none, { frames := 1, cells := 0, slots := 0, locals := 22 })
abbrev y_Sights_fitting : MethodName := ⟨"BaubleHill$Sights", "fitting", "(LBaubleHill$Tree;)I"⟩
abbrev k_Sights_fitting : wK := (y_Sights_fitting, prog_9_method_6_code, 4, (Option.some FieldType.int), { frames := 3, cells := 0, slots := 0, locals := 74 })
abbrev y_Telling_init : MethodName := ⟨"BaubleHill$Telling", "<init>", "()V"⟩
abbrev k_Telling_init : wK := (y_Telling_init, prog_10_method_1_code, 1, none, { frames := 3, cells := 6, slots := 33, locals := 54 })
abbrev y_Telling_tell : MethodName := ⟨"BaubleHill$Telling", "tell", "(LBaubleHill$Pad;LBaubleHill$Hill;)Z"⟩
abbrev k_Telling_tell : wK := (y_Telling_tell, prog_10_method_2_code, 6, (Option.some FieldType.boolean), { frames := 5, cells := 0, slots := 0, locals := 119 })
abbrev y_Telling_noteBroken : MethodName := ⟨"BaubleHill$Telling", "noteBroken", "(I)V"⟩
abbrev k_Telling_noteBroken : wK := (y_Telling_noteBroken, prog_10_method_3_code, 2, none, { frames := 2, cells := 0, slots := 0, locals := 44 })
abbrev y_Telling_hill : MethodName := ⟨"BaubleHill$Telling", "hill", "()LBaubleHill$Hill;"⟩
abbrev k_Telling_hill : wK := (y_Telling_hill, prog_10_method_4_code, 1, (Option.some (FieldType.object "BaubleHill$Hill")), { frames := 0, cells := 0, slots := 0, locals := 0 })
abbrev y_Telling_acts : MethodName := ⟨"BaubleHill$Telling", "acts", "()I"⟩
abbrev k_Telling_acts : wK := (y_Telling_acts, prog_10_method_5_code, 1, (Option.some FieldType.int), { frames := 0, cells := 0, slots := 0, locals := 0 })
abbrev y_Telling_why : MethodName := ⟨"BaubleHill$Telling", "why", "()I"⟩
abbrev k_Telling_why : wK := (y_Telling_why, prog_10_method_6_code, 1, (Option.some FieldType.int), { frames := 0, cells := 0, slots := 0, locals := 0 })
abbrev y_Telling_actThatBroke : MethodName := ⟨"BaubleHill$Telling", "actThatBroke", "()I"⟩
abbrev k_Telling_actThatBroke : wK := (y_Telling_actThatBroke, prog_10_method_7_code, 1, (Option.some FieldType.int), { frames := 0, cells := 0, slots := 0, locals := 0 })
abbrev y_Telling_ballThatBroke : MethodName := ⟨"BaubleHill$Telling", "ballThatBroke", "()I"⟩
abbrev k_Telling_ballThatBroke : wK := (y_Telling_ballThatBroke, prog_10_method_8_code, 1, (Option.some FieldType.int), { frames := 0, cells := 0, slots := 0, locals := 0 })
abbrev y_Tree_init : MethodName := ⟨"BaubleHill$Tree", "<init>", "()V"⟩
abbrev k_Tree_init : wK := (y_Tree_init, prog_11_method_1_code, 2, none, { frames := 1, cells := 1, slots := 12, locals := 12 })
abbrev y_Tree_parentOf : MethodName := ⟨"BaubleHill$Tree", "parentOf", "(I)I"⟩
abbrev k_Tree_parentOf : wK := (y_Tree_parentOf, prog_11_method_2_code, 2, (Option.some FieldType.int), { frames := 0, cells := 0, slots := 0, locals := 0 })
abbrev y_Tree_bend : MethodName := ⟨"BaubleHill$Tree", "bend", "(II)V"⟩
abbrev k_Tree_bend : wK := (y_Tree_bend, prog_11_method_3_code, 3, none, { frames := 0, cells := 0, slots := 0, locals := 0 })
abbrev y_Tree_copyFrom : MethodName := ⟨"BaubleHill$Tree", "copyFrom", "(LBaubleHill$Tree;)V"⟩
abbrev k_Tree_copyFrom : wK := (y_Tree_copyFrom, prog_11_method_4_code, 2, none, { frames := 1, cells := 0, slots := 0, locals := 22 })
abbrev y_Tree_distance : MethodName := ⟨"BaubleHill$Tree", "distance", "(II)I"⟩
abbrev k_Tree_distance : wK := (y_Tree_distance, prog_11_method_5_code, 8, (Option.some FieldType.int), { frames := 1, cells := 0, slots := 0, locals := 21 })
abbrev y_Tree_way : MethodName := ⟨"BaubleHill$Tree", "way", "(II)I"⟩
abbrev k_Tree_way : wK := (y_Tree_way, prog_11_method_6_code, 6, (Option.some FieldType.int), { frames := 2, cells := 0, slots := 0, locals := 48 })
abbrev y_Tree_ring : MethodName := ⟨"BaubleHill$Tree", "ring", "(III)I"⟩
abbrev k_Tree_ring : wK := (y_Tree_ring, prog_11_method_7_code, 7, (Option.some FieldType.int), { frames := 2, cells := 0, slots := 0, locals := 48 })
abbrev y_Tree_howFar : MethodName := ⟨"BaubleHill$Tree", "howFar", "(IIZ)I"⟩
abbrev k_Tree_howFar : wK := (y_Tree_howFar, prog_11_method_8_code, 7, (Option.some FieldType.int), { frames := 2, cells := 0, slots := 0, locals := 48 })
abbrev y_Tree_mostLeft : MethodName := ⟨"BaubleHill$Tree", "mostLeft", "(II)I"⟩
abbrev k_Tree_mostLeft : wK := (y_Tree_mostLeft, prog_11_method_9_code, 5, (Option.some FieldType.int), { frames := 3, cells := 0, slots := 0, locals := 74 })
abbrev y_Year_init : MethodName := ⟨"BaubleHill$Year", "<init>", "()V"⟩
abbrev k_Year_init : wK := (y_Year_init, prog_12_method_1_code, 1, none, { frames := 3, cells := 6, slots := 33, locals := 54 })
abbrev y_Year_pass : MethodName := ⟨"BaubleHill$Year", "pass", "(LBaubleHill$Hill;II)LBaubleHill$Hill;"⟩
abbrev k_Year_pass : wK := (y_Year_pass, prog_12_method_2_code, 6, (Option.some (FieldType.object "BaubleHill$Hill")), { frames := 5, cells := 0, slots := 0, locals := 119 })
abbrev y_Year_draw : MethodName := ⟨"BaubleHill$Year", "draw", "(I)V"⟩
abbrev k_Year_draw : wK := (y_Year_draw, prog_12_method_3_code, 4, none, { frames := 1, cells := 0, slots := 0, locals := 23 })
abbrev y_BH_init : MethodName := ⟨"BaubleHill", "<init>", "()V"⟩
abbrev k_BH_init : wK := (y_BH_init, prog_1_method_1_code, 1, none, { frames := 4, cells := 46, slots := 315, locals := 74 })
abbrev y_BH_branch : MethodName := ⟨"BaubleHill", "branch", "(II)I"⟩
abbrev k_BH_branch : wK := (y_BH_branch, prog_1_method_2_code, 4, (Option.some FieldType.int), { frames := 1, cells := 0, slots := 0, locals := 22 })
abbrev y_BH_ball : MethodName := ⟨"BaubleHill", "ball", "(III)I"⟩
abbrev k_BH_ball : wK := (y_BH_ball, prog_1_method_3_code, 5, (Option.some FieldType.int), { frames := 2, cells := 0, slots := 0, locals := 44 })
abbrev y_BH_say : MethodName := ⟨"BaubleHill", "say", "(I)I"⟩
abbrev k_BH_say : wK := (y_BH_say, prog_1_method_4_code, 2, (Option.some FieldType.int), { frames := 1, cells := 0, slots := 0, locals := 21 })
abbrev y_BH_wipe : MethodName := ⟨"BaubleHill", "wipe", "()I"⟩
abbrev k_BH_wipe : wK := (y_BH_wipe, prog_1_method_5_code, 2, (Option.some FieldType.int), { frames := 1, cells := 0, slots := 0, locals := 20 })
abbrev y_BH_fault : MethodName := ⟨"BaubleHill", "fault", "()I"⟩
abbrev k_BH_fault : wK := (y_BH_fault, prog_1_method_6_code, 1, (Option.some FieldType.int), { frames := 4, cells := 0, slots := 0, locals := 85 })
abbrev y_BH_judge : MethodName := ⟨"BaubleHill", "judge", "(I)I"⟩
abbrev k_BH_judge : wK := (y_BH_judge, prog_1_method_7_code, 2, (Option.some FieldType.int), { frames := 6, cells := 0, slots := 0, locals := 144 })
abbrev y_BH_done : MethodName := ⟨"BaubleHill", "done", "()I"⟩
abbrev k_BH_done : wK := (y_BH_done, prog_1_method_8_code, 1, (Option.some FieldType.int), { frames := 6, cells := 0, slots := 0, locals := 144 })
abbrev y_BH_behind : MethodName := ⟨"BaubleHill", "behind", "(II)I"⟩
abbrev k_BH_behind : wK := (y_BH_behind, prog_1_method_9_code, 3, (Option.some FieldType.int), { frames := 6, cells := 0, slots := 0, locals := 144 })
abbrev y_BH_then : MethodName := ⟨"BaubleHill", "then", "(I)I"⟩
abbrev k_BH_then : wK := (y_BH_then, prog_1_method_10_code, 2, (Option.some FieldType.int), { frames := 6, cells := 0, slots := 0, locals := 144 })
abbrev y_BH_apart : MethodName := ⟨"BaubleHill", "apart", "(II)I"⟩
abbrev k_BH_apart : wK := (y_BH_apart, prog_1_method_11_code, 3, (Option.some FieldType.int), { frames := 2, cells := 0, slots := 0, locals := 48 })
abbrev y_BH_meets : MethodName := ⟨"BaubleHill", "meets", "(II)I"⟩
abbrev k_BH_meets : wK := (y_BH_meets, prog_1_method_12_code, 3, (Option.some FieldType.int), { frames := 3, cells := 0, slots := 0, locals := 73 })
abbrev y_BH_sees : MethodName := ⟨"BaubleHill", "sees", "(I)I"⟩
abbrev k_BH_sees : wK := (y_BH_sees, prog_1_method_13_code, 2, (Option.some FieldType.int), { frames := 4, cells := 0, slots := 0, locals := 100 })
abbrev y_BH_near : MethodName := ⟨"BaubleHill", "near", "(I)I"⟩
abbrev k_BH_near : wK := (y_BH_near, prog_1_method_14_code, 8, (Option.some FieldType.int), { frames := 3, cells := 0, slots := 0, locals := 74 })
abbrev y_BH_room : MethodName := ⟨"BaubleHill", "room", "(II)I"⟩
abbrev k_BH_room : wK := (y_BH_room, prog_1_method_15_code, 4, (Option.some FieldType.int), { frames := 5, cells := 0, slots := 0, locals := 123 })
abbrev y_BH_candles : MethodName := ⟨"BaubleHill", "candles", "(II)I"⟩
abbrev k_BH_candles : wK := (y_BH_candles, prog_1_method_16_code, 4, (Option.some FieldType.int), { frames := 5, cells := 0, slots := 0, locals := 123 })
abbrev y_BH_seen : MethodName := ⟨"BaubleHill", "seen", "(II)I"⟩
abbrev k_BH_seen : wK := (y_BH_seen, prog_1_method_17_code, 3, (Option.some FieldType.int), { frames := 1, cells := 0, slots := 0, locals := 22 })
abbrev y_BH_forget : MethodName := ⟨"BaubleHill", "forget", "()I"⟩
abbrev k_BH_forget : wK := (y_BH_forget, prog_1_method_18_code, 2, (Option.some FieldType.int), { frames := 1, cells := 0, slots := 0, locals := 20 })
abbrev y_BH_where : MethodName := ⟨"BaubleHill", "where", "(I)I"⟩
abbrev k_BH_where : wK := (y_BH_where, prog_1_method_19_code, 3, (Option.some FieldType.int), { frames := 4, cells := 0, slots := 0, locals := 97 })
abbrev y_BH_ask : MethodName := ⟨"BaubleHill", "ask", "(I)I"⟩
abbrev k_BH_ask : wK := (y_BH_ask, prog_1_method_20_code, 7, (Option.some FieldType.int), { frames := 4, cells := 0, slots := 0, locals := 98 })
abbrev y_BH_cut : MethodName := ⟨"BaubleHill", "cut", "(I)I"⟩
abbrev k_BH_cut : wK := (y_BH_cut, prog_1_method_21_code, 3, (Option.some FieldType.int), { frames := 2, cells := 0, slots := 0, locals := 45 })
abbrev y_BH_tissue : MethodName := ⟨"BaubleHill", "tissue", "(IIIIII)J"⟩
abbrev k_BH_tissue : wK := (y_BH_tissue, prog_1_method_22_code, 8, (Option.some FieldType.long), { frames := 2, cells := 0, slots := 0, locals := 52 })
abbrev y_BH_year : MethodName := ⟨"BaubleHill", "year", "(III)I"⟩
abbrev k_BH_year : wK := (y_BH_year, prog_1_method_23_code, 5, (Option.some FieldType.int), { frames := 6, cells := 0, slots := 0, locals := 144 })
abbrev y_BH_image : MethodName := ⟨"BaubleHill", "image", "(I)I"⟩
abbrev k_BH_image : wK := (y_BH_image, prog_1_method_24_code, 2, (Option.some FieldType.int), { frames := 4, cells := 0, slots := 0, locals := 86 })
abbrev y_BH_restore : MethodName := ⟨"BaubleHill", "restore", "(I)I"⟩
abbrev k_BH_restore : wK := (y_BH_restore, prog_1_method_25_code, 2, (Option.some FieldType.int), { frames := 4, cells := 0, slots := 0, locals := 86 })
abbrev y_BH_told : MethodName := ⟨"BaubleHill", "told", "(I)I"⟩
abbrev k_BH_told : wK := (y_BH_told, prog_1_method_26_code, 2, (Option.some FieldType.int), { frames := 1, cells := 0, slots := 0, locals := 22 })
abbrev y_BH_imageOf : MethodName := ⟨"BaubleHill", "imageOf", "(I)LBaubleHill$Image;"⟩
abbrev k_BH_imageOf : wK := (y_BH_imageOf, prog_1_method_27_code, 2, (Option.some (FieldType.object "BaubleHill$Image")), { frames := 0, cells := 0, slots := 0, locals := 0 })
abbrev y_BH_isLoop : MethodName := ⟨"BaubleHill", "isLoop", "(I)Z"⟩
abbrev k_BH_isLoop : wK := (y_BH_isLoop, prog_1_method_28_code, 1, (Option.some FieldType.boolean), { frames := 0, cells := 0, slots := 0, locals := 0 })
abbrev y_BH_isBall : MethodName := ⟨"BaubleHill", "isBall", "(I)Z"⟩
abbrev k_BH_isBall : wK := (y_BH_isBall, prog_1_method_29_code, 1, (Option.some FieldType.boolean), { frames := 0, cells := 0, slots := 0, locals := 0 })
abbrev y_BH_holds : MethodName := ⟨"BaubleHill", "holds", "(II)Z"⟩
abbrev k_BH_holds : wK := (y_BH_holds, prog_1_method_30_code, 2, (Option.some FieldType.boolean), { frames := 0, cells := 0, slots := 0, locals := 0 })
abbrev y_BH_memberAt : MethodName := ⟨"BaubleHill", "memberAt", "(II)I"⟩
abbrev k_BH_memberAt : wK := (y_BH_memberAt, prog_1_method_31_code, 4, (Option.some FieldType.int), { frames := 1, cells := 0, slots := 0, locals := 21 })
abbrev y_BH_copyRow : MethodName := ⟨"BaubleHill", "copyRow", "([I[I)V"⟩
abbrev k_BH_copyRow : wK := (y_BH_copyRow, prog_1_method_32_code, 3, none, { frames := 0, cells := 0, slots := 0, locals := 0 })
abbrev y_Md_init : MethodName := ⟨"BaubleHillModel", "<init>", "()V"⟩
abbrev k_Md_init : wK := (y_Md_init, prog_14_method_1_code, 2, none, { frames := 1, cells := 10, slots := 1941, locals := 12 })
abbrev y_Md_in : MethodName := ⟨"BaubleHillModel", "in", "(III)Z"⟩
abbrev k_Md_in : wK := (y_Md_in, prog_14_method_2_code, 3, (Option.some FieldType.boolean), { frames := 0, cells := 0, slots := 0, locals := 0 })
abbrev y_Md_has : MethodName := ⟨"BaubleHillModel", "has", "(II)Z"⟩
abbrev k_Md_has : wK := (y_Md_has, prog_14_method_3_code, 2, (Option.some FieldType.boolean), { frames := 0, cells := 0, slots := 0, locals := 0 })
abbrev y_Md_bits : MethodName := ⟨"BaubleHillModel", "bits", "(I)I"⟩
abbrev k_Md_bits : wK := (y_Md_bits, prog_14_method_4_code, 3, (Option.some FieldType.int), { frames := 0, cells := 0, slots := 0, locals := 0 })
abbrev y_Md_branch : MethodName := ⟨"BaubleHillModel", "branch", "(II)I"⟩
abbrev k_Md_branch : wK := (y_Md_branch, prog_14_method_5_code, 4, (Option.some FieldType.int), { frames := 1, cells := 0, slots := 0, locals := 22 })
abbrev y_Md_ball : MethodName := ⟨"BaubleHillModel", "ball", "(III)I"⟩
abbrev k_Md_ball : wK := (y_Md_ball, prog_14_method_6_code, 6, (Option.some FieldType.int), { frames := 1, cells := 0, slots := 0, locals := 22 })
abbrev y_Md_say : MethodName := ⟨"BaubleHillModel", "say", "(I)I"⟩
abbrev k_Md_say : wK := (y_Md_say, prog_14_method_7_code, 2, (Option.some FieldType.int), { frames := 1, cells := 0, slots := 0, locals := 22 })
abbrev y_Md_wipe : MethodName := ⟨"BaubleHillModel", "wipe", "()I"⟩
abbrev k_Md_wipe : wK := (y_Md_wipe, prog_14_method_8_code, 2, (Option.some FieldType.int), { frames := 0, cells := 0, slots := 0, locals := 0 })
abbrev y_Md_step : MethodName := ⟨"BaubleHillModel", "step", "(II)I"⟩
abbrev k_Md_step : wK := (y_Md_step, prog_14_method_9_code, 3, (Option.some FieldType.int), { frames := 1, cells := 0, slots := 0, locals := 22 })
abbrev y_Md_faultOf : MethodName := ⟨"BaubleHillModel", "faultOf", "()I"⟩
abbrev k_Md_faultOf : wK := (y_Md_faultOf, prog_14_method_10_code, 3, (Option.some FieldType.int), { frames := 2, cells := 0, slots := 0, locals := 44 })
abbrev y_Md_fault : MethodName := ⟨"BaubleHillModel", "fault", "()I"⟩
abbrev k_Md_fault : wK := (y_Md_fault, prog_14_method_11_code, 1, (Option.some FieldType.int), { frames := 3, cells := 0, slots := 0, locals := 66 })
abbrev y_Md_asNow : MethodName := ⟨"BaubleHillModel", "asNow", "()V"⟩
abbrev k_Md_asNow : wK := (y_Md_asNow, prog_14_method_12_code, 2, none, { frames := 0, cells := 0, slots := 0, locals := 0 })
abbrev y_Md_ballOn : MethodName := ⟨"BaubleHillModel", "ballOn", "(I)I"⟩
abbrev k_Md_ballOn : wK := (y_Md_ballOn, prog_14_method_13_code, 3, (Option.some FieldType.int), { frames := 0, cells := 0, slots := 0, locals := 0 })
abbrev y_Md_hanging : MethodName := ⟨"BaubleHillModel", "hanging", "()I"⟩
abbrev k_Md_hanging : wK := (y_Md_hanging, prog_14_method_14_code, 3, (Option.some FieldType.int), { frames := 0, cells := 0, slots := 0, locals := 0 })
abbrev y_Md_apartOf : MethodName := ⟨"BaubleHillModel", "apartOf", "(II)I"⟩
abbrev k_Md_apartOf : wK := (y_Md_apartOf, prog_14_method_15_code, 6, (Option.some FieldType.int), { frames := 0, cells := 0, slots := 0, locals := 0 })
abbrev y_Md_meetOf : MethodName := ⟨"BaubleHillModel", "meetOf", "(II)I"⟩
abbrev k_Md_meetOf : wK := (y_Md_meetOf, prog_14_method_16_code, 5, (Option.some FieldType.int), { frames := 0, cells := 0, slots := 0, locals := 0 })
abbrev y_Md_hang : MethodName := ⟨"BaubleHillModel", "hang", "(II)I"⟩
abbrev k_Md_hang : wK := (y_Md_hang, prog_14_method_17_code, 4, (Option.some FieldType.int), { frames := 1, cells := 0, slots := 0, locals := 22 })
abbrev y_Md_pack : MethodName := ⟨"BaubleHillModel", "pack", "(I)I"⟩
abbrev k_Md_pack : wK := (y_Md_pack, prog_14_method_18_code, 2, (Option.some FieldType.int), { frames := 1, cells := 0, slots := 0, locals := 21 })
abbrev y_Md_blow : MethodName := ⟨"BaubleHillModel", "blow", "(I)I"⟩
abbrev k_Md_blow : wK := (y_Md_blow, prog_14_method_19_code, 5, (Option.some FieldType.int), { frames := 1, cells := 0, slots := 0, locals := 25 })
abbrev y_Md_bend : MethodName := ⟨"BaubleHillModel", "bend", "(II)I"⟩
abbrev k_Md_bend : wK := (y_Md_bend, prog_14_method_20_code, 3, (Option.some FieldType.int), { frames := 0, cells := 0, slots := 0, locals := 0 })
abbrev y_Md_endWinter : MethodName := ⟨"BaubleHillModel", "endWinter", "()I"⟩
abbrev k_Md_endWinter : wK := (y_Md_endWinter, prog_14_method_21_code, 2, (Option.some FieldType.int), { frames := 0, cells := 0, slots := 0, locals := 0 })
abbrev y_Md_goWinters : MethodName := ⟨"BaubleHillModel", "goWinters", "()I"⟩
abbrev k_Md_goWinters : wK := (y_Md_goWinters, prog_14_method_22_code, 6, (Option.some FieldType.int), { frames := 2, cells := 0, slots := 0, locals := 49 })
abbrev y_Md_judge : MethodName := ⟨"BaubleHillModel", "judge", "(I)I"⟩
abbrev k_Md_judge : wK := (y_Md_judge, prog_14_method_23_code, 3, (Option.some FieldType.int), { frames := 3, cells := 0, slots := 0, locals := 74 })
abbrev y_Md_barOfWinters : MethodName := ⟨"BaubleHillModel", "barOfWinters", "()I"⟩
abbrev k_Md_barOfWinters : wK := (y_Md_barOfWinters, prog_14_method_24_code, 1, (Option.some FieldType.int), { frames := 3, cells := 0, slots := 0, locals := 74 })
abbrev y_Md_done : MethodName := ⟨"BaubleHillModel", "done", "()I"⟩
abbrev k_Md_done : wK := (y_Md_done, prog_14_method_25_code, 2, (Option.some FieldType.int), { frames := 4, cells := 0, slots := 0, locals := 94 })
abbrev y_Md_behind : MethodName := ⟨"BaubleHillModel", "behind", "(II)I"⟩
abbrev k_Md_behind : wK := (y_Md_behind, prog_14_method_26_code, 3, (Option.some FieldType.int), { frames := 4, cells := 0, slots := 0, locals := 94 })
abbrev y_Md_then : MethodName := ⟨"BaubleHillModel", "then", "(I)I"⟩
abbrev k_Md_then : wK := (y_Md_then, prog_14_method_27_code, 2, (Option.some FieldType.int), { frames := 4, cells := 0, slots := 0, locals := 94 })
abbrev y_Md_areLoops : MethodName := ⟨"BaubleHillModel", "areLoops", "(II)Z"⟩
abbrev k_Md_areLoops : wK := (y_Md_areLoops, prog_14_method_28_code, 2, (Option.some FieldType.boolean), { frames := 1, cells := 0, slots := 0, locals := 22 })
abbrev y_Md_apart : MethodName := ⟨"BaubleHillModel", "apart", "(II)I"⟩
abbrev k_Md_apart : wK := (y_Md_apart, prog_14_method_29_code, 3, (Option.some FieldType.int), { frames := 2, cells := 0, slots := 0, locals := 43 })
abbrev y_Md_meets : MethodName := ⟨"BaubleHillModel", "meets", "(II)I"⟩
abbrev k_Md_meets : wK := (y_Md_meets, prog_14_method_30_code, 3, (Option.some FieldType.int), { frames := 2, cells := 0, slots := 0, locals := 43 })
abbrev y_Md_sees : MethodName := ⟨"BaubleHillModel", "sees", "(I)I"⟩
abbrev k_Md_sees : wK := (y_Md_sees, prog_14_method_31_code, 9, (Option.some FieldType.int), { frames := 1, cells := 0, slots := 0, locals := 25 })
abbrev y_Md_near : MethodName := ⟨"BaubleHillModel", "near", "(I)I"⟩
abbrev k_Md_near : wK := (y_Md_near, prog_14_method_32_code, 9, (Option.some FieldType.int), { frames := 1, cells := 0, slots := 0, locals := 25 })
abbrev y_Md_room : MethodName := ⟨"BaubleHillModel", "room", "(II)I"⟩
abbrev k_Md_room : wK := (y_Md_room, prog_14_method_33_code, 8, (Option.some FieldType.int), { frames := 1, cells := 0, slots := 0, locals := 25 })
abbrev y_Md_candles : MethodName := ⟨"BaubleHillModel", "candles", "(II)I"⟩
abbrev k_Md_candles : wK := (y_Md_candles, prog_14_method_34_code, 9, (Option.some FieldType.int), { frames := 1, cells := 0, slots := 0, locals := 25 })
abbrev y_Md_seen : MethodName := ⟨"BaubleHillModel", "seen", "(II)I"⟩
abbrev k_Md_seen : wK := (y_Md_seen, prog_14_method_35_code, 3, (Option.some FieldType.int), { frames := 1, cells := 0, slots := 0, locals := 22 })
abbrev y_Md_forget : MethodName := ⟨"BaubleHillModel", "forget", "()I"⟩
abbrev k_Md_forget : wK := (y_Md_forget, prog_14_method_36_code, 2, (Option.some FieldType.int), { frames := 0, cells := 0, slots := 0, locals := 0 })
abbrev y_Md_isFit : MethodName := ⟨"BaubleHillModel", "isFit", "(I)Z"⟩
abbrev k_Md_isFit : wK := (y_Md_isFit, prog_14_method_37_code, 4, (Option.some FieldType.boolean), { frames := 1, cells := 0, slots := 0, locals := 25 })
abbrev y_Md_where : MethodName := ⟨"BaubleHillModel", "where", "(I)I"⟩
abbrev k_Md_where : wK := (y_Md_where, prog_14_method_38_code, 4, (Option.some FieldType.int), { frames := 2, cells := 0, slots := 0, locals := 48 })
abbrev y_Md_ask : MethodName := ⟨"BaubleHillModel", "ask", "(I)I"⟩
abbrev k_Md_ask : wK := (y_Md_ask, prog_14_method_39_code, 8, (Option.some FieldType.int), { frames := 2, cells := 0, slots := 0, locals := 48 })
abbrev y_Md_worthOf : MethodName := ⟨"BaubleHillModel", "worthOf", "(I)I"⟩
abbrev k_Md_worthOf : wK := (y_Md_worthOf, prog_14_method_40_code, 3, (Option.some FieldType.int), { frames := 0, cells := 0, slots := 0, locals := 0 })
abbrev y_Md_cut : MethodName := ⟨"BaubleHillModel", "cut", "(I)I"⟩
abbrev k_Md_cut : wK := (y_Md_cut, prog_14_method_41_code, 4, (Option.some FieldType.int), { frames := 1, cells := 0, slots := 0, locals := 22 })
abbrev y_Md_layChoices : MethodName := ⟨"BaubleHillModel", "layChoices", "()V"⟩
abbrev k_Md_layChoices : wK := (y_Md_layChoices, prog_14_method_42_code, 3, none, { frames := 0, cells := 0, slots := 0, locals := 0 })
abbrev y_Md_lowest : MethodName := ⟨"BaubleHillModel", "lowest", "(JJI)J"⟩
abbrev k_Md_lowest : wK := (y_Md_lowest, prog_14_method_43_code, 11, (Option.some FieldType.long), { frames := 0, cells := 0, slots := 0, locals := 0 })
abbrev y_Md_tissue : MethodName := ⟨"BaubleHillModel", "tissue", "(IIIIII)J"⟩
abbrev k_Md_tissue : wK := (y_Md_tissue, prog_14_method_44_code, 10, (Option.some FieldType.long), { frames := 1, cells := 0, slots := 0, locals := 30 })
abbrev y_Md_year : MethodName := ⟨"BaubleHillModel", "year", "(III)I"⟩
abbrev k_Md_year : wK := (y_Md_year, prog_14_method_45_code, 8, (Option.some FieldType.int), { frames := 2, cells := 0, slots := 0, locals := 49 })
abbrev y_Md_image : MethodName := ⟨"BaubleHillModel", "image", "(I)I"⟩
abbrev k_Md_image : wK := (y_Md_image, prog_14_method_46_code, 4, (Option.some FieldType.int), { frames := 1, cells := 0, slots := 0, locals := 22 })
abbrev y_Md_restore : MethodName := ⟨"BaubleHillModel", "restore", "(I)I"⟩
abbrev k_Md_restore : wK := (y_Md_restore, prog_14_method_47_code, 4, (Option.some FieldType.int), { frames := 1, cells := 0, slots := 0, locals := 22 })
abbrev y_Md_told : MethodName := ⟨"BaubleHillModel", "told", "(I)I"⟩
abbrev k_Md_told : wK := (y_Md_told, prog_14_method_48_code, 2, (Option.some FieldType.int), { frames := 1, cells := 0, slots := 0, locals := 22 })
abbrev y_Int_bitCount : MethodName := ⟨"java/lang/Integer", "bitCount", "(I)I"⟩
abbrev k_Int_bitCount : wK := (y_Int_bitCount, prog_15_method_49_code, 1, (Option.some FieldType.int), { frames := 0, cells := 0, slots := 0, locals := 0 })
abbrev y_Law_law : MethodName := ⟨"BaubleHillLaw", "law", "([I)Z"⟩
abbrev k_Law_law : wK := (y_Law_law, code, 4, (Option.some FieldType.boolean), room_1)
theorem g_0 : Cond.initialized "BaubleHillLaw" ∈ lw_g := g_s1 (i := 0) rfl rfl
theorem g_1 : Cond.initialized "BaubleHill" ∈ lw_g := g_s1 (i := 1) rfl rfl
theorem g_2 : Cond.initialized "BaubleHill$Hill" ∈ lw_g := g_s1 (i := 2) rfl rfl
theorem g_3 : Cond.initialized "BaubleHill$Tree" ∈ lw_g := g_s1 (i := 3) rfl rfl
theorem g_4 : Cond.initialized "BaubleHill$Sights" ∈ lw_g := g_s1 (i := 4) rfl rfl
theorem g_5 : Cond.initialized "BaubleHill$Pad" ∈ lw_g := g_s1 (i := 5) rfl rfl
theorem g_6 : Cond.initialized "BaubleHill$Telling" ∈ lw_g := g_s1 (i := 6) rfl rfl
theorem g_7 : Cond.initialized "BaubleHill$Act" ∈ lw_g := g_s1 (i := 7) rfl rfl
theorem g_8 : Cond.initialized "BaubleHill$Choice" ∈ lw_g := g_s1 (i := 8) rfl rfl
theorem g_9 : Cond.initialized "BaubleHill$Cutting" ∈ lw_g := g_s1 (i := 9) rfl rfl
theorem g_10 : Cond.initialized "BaubleHill$Year" ∈ lw_g := g_s1 (i := 10) rfl rfl
theorem g_11 : Cond.initialized "BaubleHill$Image" ∈ lw_g := g_s1 (i := 11) rfl rfl
theorem g_12 : Cond.initialized "BaubleHillModel" ∈ lw_g := g_s1 (i := 12) rfl rfl
theorem g_13 : Cond.initialized "java/lang/Integer" ∈ lw_g := g_s1 (i := 13) rfl rfl
theorem g_14 : Cond.initialized "java/lang/Math" ∈ lw_g := g_s1 (i := 14) rfl rfl
theorem g_15 : Cond.initialized "BaubleHill$Chance" ∈ lw_g := g_s1 (i := 15) rfl rfl
theorem g_16 : Cond.classLink "BaubleHillLaw" 7 "BaubleHill" ∈ lw_g := g_s1 (i := 16) rfl rfl
theorem g_17 : Cond.instantiable "BaubleHill" 9 ∈ lw_g := g_s1 (i := 17) rfl rfl
theorem g_18 : Cond.methodLink "BaubleHillLaw" 9 ⟨"BaubleHill", "<init>", "()V"⟩ ∈ lw_g := g_s1 (i := 18) rfl rfl
theorem g_19 : Cond.instanceMethod ⟨"BaubleHill", "<init>", "()V"⟩ ∈ lw_g := g_s1 (i := 19) rfl rfl
theorem g_20 : Cond.code ⟨"BaubleHill", "<init>", "()V"⟩ prog_1_method_1_code 1 none ∈ lw_g := g_s1 (i := 20) rfl rfl
theorem g_21 : Cond.methodLink "BaubleHill" 3 ⟨"java/lang/Object", "<init>", "()V"⟩ ∈ lw_g := g_s1 (i := 21) rfl rfl
theorem g_22 : Cond.instanceMethod ⟨"java/lang/Object", "<init>", "()V"⟩ ∈ lw_g := g_s1 (i := 22) rfl rfl
theorem g_23 : Cond.code ⟨"java/lang/Object", "<init>", "()V"⟩ object_method_1_code 1 none ∈ lw_g := g_s1 (i := 23) rfl rfl
theorem g_24 : Cond.classLink "BaubleHill" 9 "BaubleHill$Hill" ∈ lw_g := g_s1 (i := 24) rfl rfl
theorem g_25 : Cond.instantiable "BaubleHill$Hill" 5 ∈ lw_g := g_s1 (i := 25) rfl rfl
theorem g_26 : Cond.methodLink "BaubleHill" 11 ⟨"BaubleHill$Hill", "<init>", "()V"⟩ ∈ lw_g := g_s1 (i := 26) rfl rfl
theorem g_27 : Cond.instanceMethod ⟨"BaubleHill$Hill", "<init>", "()V"⟩ ∈ lw_g := g_s1 (i := 27) rfl rfl
theorem g_28 : Cond.code ⟨"BaubleHill$Hill", "<init>", "()V"⟩ prog_6_method_1_code 2 none ∈ lw_g := g_s1 (i := 28) rfl rfl
theorem g_29 : Cond.methodLink "BaubleHill$Hill" 3 ⟨"java/lang/Object", "<init>", "()V"⟩ ∈ lw_g := g_s1 (i := 29) rfl rfl
theorem g_30 : Cond.classLink "BaubleHill$Hill" 9 "BaubleHill$Tree" ∈ lw_g := g_s1 (i := 30) rfl rfl
theorem g_31 : Cond.instantiable "BaubleHill$Tree" 1 ∈ lw_g := g_s1 (i := 31) rfl rfl
theorem g_32 : Cond.methodLink "BaubleHill$Hill" 11 ⟨"BaubleHill$Tree", "<init>", "()V"⟩ ∈ lw_g := g_s1 (i := 32) rfl rfl
theorem g_33 : Cond.instanceMethod ⟨"BaubleHill$Tree", "<init>", "()V"⟩ ∈ lw_g := g_s1 (i := 33) rfl rfl
theorem g_34 : Cond.code ⟨"BaubleHill$Tree", "<init>", "()V"⟩ prog_11_method_1_code 2 none ∈ lw_g := g_s1 (i := 34) rfl rfl
theorem g_35 : Cond.methodLink "BaubleHill$Tree" 3 ⟨"java/lang/Object", "<init>", "()V"⟩ ∈ lw_g := g_s1 (i := 35) rfl rfl
theorem g_36 : Cond.fieldLink "BaubleHill$Tree" 9 "BaubleHill$Tree" "parents" "[I" ∈ lw_g := g_s1 (i := 36) rfl rfl
theorem g_40 : Cond.arrayClass FieldType.int ∈ lw_g := g_s1 (i := 40) rfl rfl
theorem g_41 : Cond.fieldLink "BaubleHill$Hill" 12 "BaubleHill$Hill" "tree" "LBaubleHill$Tree;" ∈ lw_g := g_s1 (i := 41) rfl rfl
theorem g_42 : Cond.fieldLink "BaubleHill$Hill" 18 "BaubleHill$Hill" "loops" "[I" ∈ lw_g := g_s1 (i := 42) rfl rfl
theorem g_43 : Cond.fieldLink "BaubleHill$Hill" 22 "BaubleHill$Hill" "chips" "[I" ∈ lw_g := g_s1 (i := 43) rfl rfl
theorem g_44 : Cond.fieldLink "BaubleHill$Hill" 25 "BaubleHill$Hill" "broken" "I" ∈ lw_g := g_s1 (i := 44) rfl rfl
theorem g_45 : Cond.fieldLink "BaubleHill$Hill" 29 "BaubleHill$Hill" "winter" "I" ∈ lw_g := g_s1 (i := 45) rfl rfl
theorem g_57 : Cond.classLink "BaubleHill" 16 "BaubleHill$Sights" ∈ lw_g := g_s1 (i := 57) rfl rfl
theorem g_58 : Cond.instantiable "BaubleHill$Sights" 3 ∈ lw_g := g_s1 (i := 58) rfl rfl
theorem g_60 : Cond.instanceMethod ⟨"BaubleHill$Sights", "<init>", "()V"⟩ ∈ lw_g := g_s1 (i := 60) rfl rfl
theorem g_61 : Cond.code ⟨"BaubleHill$Sights", "<init>", "()V"⟩ prog_9_method_1_code 1 none ∈ lw_g := g_s1 (i := 61) rfl rfl
theorem g_62 : Cond.methodLink "BaubleHill$Sights" 3 ⟨"java/lang/Object", "<init>", "()V"⟩ ∈ lw_g := g_s1 (i := 62) rfl rfl
theorem g_63 : Cond.fieldLink "BaubleHill$Sights" 9 "BaubleHill$Sights" "loops" "[I" ∈ lw_g := g_s1 (i := 63) rfl rfl
theorem g_64 : Cond.fieldLink "BaubleHill$Sights" 15 "BaubleHill$Sights" "fars" "[I" ∈ lw_g := g_s1 (i := 64) rfl rfl
theorem g_65 : Cond.fieldLink "BaubleHill$Sights" 18 "BaubleHill$Sights" "count" "I" ∈ lw_g := g_s1 (i := 65) rfl rfl
theorem g_73 : Cond.classLink "BaubleHill" 23 "BaubleHill$Pad" ∈ lw_g := g_s1 (i := 73) rfl rfl
theorem g_74 : Cond.instantiable "BaubleHill$Pad" 2 ∈ lw_g := g_s1 (i := 74) rfl rfl
theorem g_76 : Cond.instanceMethod ⟨"BaubleHill$Pad", "<init>", "()V"⟩ ∈ lw_g := g_s1 (i := 76) rfl rfl
theorem g_77 : Cond.code ⟨"BaubleHill$Pad", "<init>", "()V"⟩ prog_8_method_1_code 1 none ∈ lw_g := g_s1 (i := 77) rfl rfl
theorem g_78 : Cond.methodLink "BaubleHill$Pad" 3 ⟨"java/lang/Object", "<init>", "()V"⟩ ∈ lw_g := g_s1 (i := 78) rfl rfl
theorem g_79 : Cond.fieldLink "BaubleHill$Pad" 9 "BaubleHill$Pad" "signs" "[I" ∈ lw_g := g_s1 (i := 79) rfl rfl
theorem g_80 : Cond.fieldLink "BaubleHill$Pad" 15 "BaubleHill$Pad" "count" "I" ∈ lw_g := g_s1 (i := 80) rfl rfl
theorem g_86 : Cond.classLink "BaubleHill" 30 "BaubleHill$Telling" ∈ lw_g := g_s1 (i := 86) rfl rfl
theorem g_87 : Cond.instantiable "BaubleHill$Telling" 6 ∈ lw_g := g_s1 (i := 87) rfl rfl
theorem g_89 : Cond.instanceMethod ⟨"BaubleHill$Telling", "<init>", "()V"⟩ ∈ lw_g := g_s1 (i := 89) rfl rfl
theorem g_90 : Cond.code ⟨"BaubleHill$Telling", "<init>", "()V"⟩ prog_10_method_1_code 1 none ∈ lw_g := g_s1 (i := 90) rfl rfl
theorem g_91 : Cond.methodLink "BaubleHill$Telling" 3 ⟨"java/lang/Object", "<init>", "()V"⟩ ∈ lw_g := g_s1 (i := 91) rfl rfl
theorem g_92 : Cond.classLink "BaubleHill$Telling" 9 "BaubleHill$Hill" ∈ lw_g := g_s1 (i := 92) rfl rfl
theorem g_93 : Cond.methodLink "BaubleHill$Telling" 11 ⟨"BaubleHill$Hill", "<init>", "()V"⟩ ∈ lw_g := g_s1 (i := 93) rfl rfl
theorem g_94 : Cond.classLink "BaubleHill$Telling" 18 "BaubleHill$Act" ∈ lw_g := g_s1 (i := 94) rfl rfl
theorem g_95 : Cond.instantiable "BaubleHill$Act" 3 ∈ lw_g := g_s1 (i := 95) rfl rfl
theorem g_97 : Cond.instanceMethod ⟨"BaubleHill$Act", "<init>", "()V"⟩ ∈ lw_g := g_s1 (i := 97) rfl rfl
theorem g_98 : Cond.code ⟨"BaubleHill$Act", "<init>", "()V"⟩ prog_2_method_1_code 1 none ∈ lw_g := g_s1 (i := 98) rfl rfl
theorem g_99 : Cond.methodLink "BaubleHill$Act" 1 ⟨"java/lang/Object", "<init>", "()V"⟩ ∈ lw_g := g_s1 (i := 99) rfl rfl
theorem g_100 : Cond.fieldLink "BaubleHill$Act" 9 "BaubleHill$Act" "kind" "I" ∈ lw_g := g_s1 (i := 100) rfl rfl
theorem g_101 : Cond.fieldLink "BaubleHill$Act" 13 "BaubleHill$Act" "one" "I" ∈ lw_g := g_s1 (i := 101) rfl rfl
theorem g_102 : Cond.fieldLink "BaubleHill$Act" 16 "BaubleHill$Act" "other" "I" ∈ lw_g := g_s1 (i := 102) rfl rfl
theorem g_110 : Cond.fieldLink "BaubleHill$Telling" 12 "BaubleHill$Telling" "hill" "LBaubleHill$Hill;" ∈ lw_g := g_s1 (i := 110) rfl rfl
theorem g_111 : Cond.fieldLink "BaubleHill$Telling" 21 "BaubleHill$Telling" "act" "LBaubleHill$Act;" ∈ lw_g := g_s1 (i := 111) rfl rfl
theorem g_112 : Cond.fieldLink "BaubleHill$Telling" 25 "BaubleHill$Telling" "acts" "I" ∈ lw_g := g_s1 (i := 112) rfl rfl
theorem g_113 : Cond.fieldLink "BaubleHill$Telling" 29 "BaubleHill$Telling" "why" "I" ∈ lw_g := g_s1 (i := 113) rfl rfl
theorem g_114 : Cond.fieldLink "BaubleHill$Telling" 32 "BaubleHill$Telling" "actThatBroke" "I" ∈ lw_g := g_s1 (i := 114) rfl rfl
theorem g_115 : Cond.fieldLink "BaubleHill$Telling" 35 "BaubleHill$Telling" "ballThatBroke" "I" ∈ lw_g := g_s1 (i := 115) rfl rfl
theorem g_129 : Cond.classLink "BaubleHill" 37 "BaubleHill$Choice" ∈ lw_g := g_s1 (i := 129) rfl rfl
theorem g_130 : Cond.instantiable "BaubleHill$Choice" 1 ∈ lw_g := g_s1 (i := 130) rfl rfl
theorem g_132 : Cond.instanceMethod ⟨"BaubleHill$Choice", "<init>", "()V"⟩ ∈ lw_g := g_s1 (i := 132) rfl rfl
theorem g_133 : Cond.code ⟨"BaubleHill$Choice", "<init>", "()V"⟩ prog_4_method_1_code 1 none ∈ lw_g := g_s1 (i := 133) rfl rfl
theorem g_134 : Cond.methodLink "BaubleHill$Choice" 3 ⟨"java/lang/Object", "<init>", "()V"⟩ ∈ lw_g := g_s1 (i := 134) rfl rfl
theorem g_135 : Cond.fieldLink "BaubleHill$Choice" 9 "BaubleHill$Choice" "around" "[I" ∈ lw_g := g_s1 (i := 135) rfl rfl
theorem g_139 : Cond.classLink "BaubleHill" 44 "BaubleHill$Cutting" ∈ lw_g := g_s1 (i := 139) rfl rfl
theorem g_140 : Cond.instantiable "BaubleHill$Cutting" 1 ∈ lw_g := g_s1 (i := 140) rfl rfl
theorem g_142 : Cond.instanceMethod ⟨"BaubleHill$Cutting", "<init>", "()V"⟩ ∈ lw_g := g_s1 (i := 142) rfl rfl
theorem g_143 : Cond.code ⟨"BaubleHill$Cutting", "<init>", "()V"⟩ prog_5_method_1_code 1 none ∈ lw_g := g_s1 (i := 143) rfl rfl
theorem g_144 : Cond.methodLink "BaubleHill$Cutting" 3 ⟨"java/lang/Object", "<init>", "()V"⟩ ∈ lw_g := g_s1 (i := 144) rfl rfl
theorem g_145 : Cond.fieldLink "BaubleHill$Cutting" 9 "BaubleHill$Cutting" "worths" "[I" ∈ lw_g := g_s1 (i := 145) rfl rfl
theorem g_149 : Cond.classLink "BaubleHill" 51 "BaubleHill$Year" ∈ lw_g := g_s1 (i := 149) rfl rfl
theorem g_150 : Cond.instantiable "BaubleHill$Year" 2 ∈ lw_g := g_s1 (i := 150) rfl rfl
theorem g_152 : Cond.instanceMethod ⟨"BaubleHill$Year", "<init>", "()V"⟩ ∈ lw_g := g_s1 (i := 152) rfl rfl
theorem g_153 : Cond.code ⟨"BaubleHill$Year", "<init>", "()V"⟩ prog_12_method_1_code 1 none ∈ lw_g := g_s1 (i := 153) rfl rfl
theorem g_154 : Cond.methodLink "BaubleHill$Year" 1 ⟨"java/lang/Object", "<init>", "()V"⟩ ∈ lw_g := g_s1 (i := 154) rfl rfl
theorem g_155 : Cond.classLink "BaubleHill$Year" 7 "BaubleHill$Hill" ∈ lw_g := g_s1 (i := 155) rfl rfl
theorem g_156 : Cond.methodLink "BaubleHill$Year" 9 ⟨"BaubleHill$Hill", "<init>", "()V"⟩ ∈ lw_g := g_s1 (i := 156) rfl rfl
theorem g_157 : Cond.classLink "BaubleHill$Year" 16 "BaubleHill$Act" ∈ lw_g := g_s1 (i := 157) rfl rfl
theorem g_159 : Cond.fieldLink "BaubleHill$Year" 10 "BaubleHill$Year" "hill" "LBaubleHill$Hill;" ∈ lw_g := g_s1 (i := 159) rfl rfl
theorem g_160 : Cond.fieldLink "BaubleHill$Year" 19 "BaubleHill$Year" "act" "LBaubleHill$Act;" ∈ lw_g := g_s1 (i := 160) rfl rfl
theorem g_166 : Cond.classLink "BaubleHill" 58 "BaubleHill$Image" ∈ lw_g := g_s1 (i := 166) rfl rfl
theorem g_167 : Cond.instantiable "BaubleHill$Image" 3 ∈ lw_g := g_s1 (i := 167) rfl rfl
theorem g_169 : Cond.instanceMethod ⟨"BaubleHill$Image", "<init>", "()V"⟩ ∈ lw_g := g_s1 (i := 169) rfl rfl
theorem g_170 : Cond.code ⟨"BaubleHill$Image", "<init>", "()V"⟩ prog_7_method_1_code 1 none ∈ lw_g := g_s1 (i := 170) rfl rfl
theorem g_171 : Cond.methodLink "BaubleHill$Image" 1 ⟨"java/lang/Object", "<init>", "()V"⟩ ∈ lw_g := g_s1 (i := 171) rfl rfl
theorem g_172 : Cond.classLink "BaubleHill$Image" 7 "BaubleHill$Hill" ∈ lw_g := g_s1 (i := 172) rfl rfl
theorem g_173 : Cond.methodLink "BaubleHill$Image" 9 ⟨"BaubleHill$Hill", "<init>", "()V"⟩ ∈ lw_g := g_s1 (i := 173) rfl rfl
theorem g_174 : Cond.classLink "BaubleHill$Image" 16 "BaubleHill$Sights" ∈ lw_g := g_s1 (i := 174) rfl rfl
theorem g_176 : Cond.fieldLink "BaubleHill$Image" 10 "BaubleHill$Image" "hill" "LBaubleHill$Hill;" ∈ lw_g := g_s1 (i := 176) rfl rfl
theorem g_177 : Cond.fieldLink "BaubleHill$Image" 19 "BaubleHill$Image" "sights" "LBaubleHill$Sights;" ∈ lw_g := g_s1 (i := 177) rfl rfl
theorem g_178 : Cond.fieldLink "BaubleHill$Image" 23 "BaubleHill$Image" "kept" "Z" ∈ lw_g := g_s1 (i := 178) rfl rfl
theorem g_186 : Cond.fieldLink "BaubleHill" 12 "BaubleHill" "hill" "LBaubleHill$Hill;" ∈ lw_g := g_s1 (i := 186) rfl rfl
theorem g_187 : Cond.fieldLink "BaubleHill" 19 "BaubleHill" "sights" "LBaubleHill$Sights;" ∈ lw_g := g_s1 (i := 187) rfl rfl
theorem g_188 : Cond.fieldLink "BaubleHill" 26 "BaubleHill" "pad" "LBaubleHill$Pad;" ∈ lw_g := g_s1 (i := 188) rfl rfl
theorem g_189 : Cond.fieldLink "BaubleHill" 33 "BaubleHill" "telling" "LBaubleHill$Telling;" ∈ lw_g := g_s1 (i := 189) rfl rfl
theorem g_190 : Cond.fieldLink "BaubleHill" 40 "BaubleHill" "choice" "LBaubleHill$Choice;" ∈ lw_g := g_s1 (i := 190) rfl rfl
theorem g_191 : Cond.fieldLink "BaubleHill" 47 "BaubleHill" "cutting" "LBaubleHill$Cutting;" ∈ lw_g := g_s1 (i := 191) rfl rfl
theorem g_192 : Cond.fieldLink "BaubleHill" 54 "BaubleHill" "years" "LBaubleHill$Year;" ∈ lw_g := g_s1 (i := 192) rfl rfl
theorem g_193 : Cond.fieldLink "BaubleHill" 61 "BaubleHill" "firstImage" "LBaubleHill$Image;" ∈ lw_g := g_s1 (i := 193) rfl rfl
theorem g_194 : Cond.fieldLink "BaubleHill" 65 "BaubleHill" "secondImage" "LBaubleHill$Image;" ∈ lw_g := g_s1 (i := 194) rfl rfl
theorem g_214 : Cond.methodLink "BaubleHillLaw" 13 ⟨"BaubleHill", "branch", "(II)I"⟩ ∈ lw_g := g_s1 (i := 214) rfl rfl
theorem g_215 : Cond.instanceMethod ⟨"BaubleHill", "branch", "(II)I"⟩ ∈ lw_g := g_s1 (i := 215) rfl rfl
theorem g_216 : Cond.selects "BaubleHill" ⟨"BaubleHill", "branch", "(II)I"⟩ ⟨"BaubleHill", "branch", "(II)I"⟩ ∈ lw_g := g_s1 (i := 216) rfl rfl
theorem g_217 : Cond.code ⟨"BaubleHill", "branch", "(II)I"⟩ prog_1_method_2_code 4 (Option.some FieldType.int) ∈ lw_g := g_s1 (i := 217) rfl rfl
theorem g_218 : Cond.methodLink "BaubleHill" 68 ⟨"BaubleHill", "isLoop", "(I)Z"⟩ ∈ lw_g := g_s1 (i := 218) rfl rfl
theorem g_219 : Cond.static ⟨"BaubleHill", "isLoop", "(I)Z"⟩ ∈ lw_g := g_s1 (i := 219) rfl rfl
theorem g_220 : Cond.code ⟨"BaubleHill", "isLoop", "(I)Z"⟩ prog_1_method_28_code 1 (Option.some FieldType.boolean) ∈ lw_g := g_s1 (i := 220) rfl rfl
theorem g_221 : Cond.methodLink "BaubleHill" 72 ⟨"BaubleHill$Hill", "tree", "()LBaubleHill$Tree;"⟩ ∈ lw_g := g_s1 (i := 221) rfl rfl
theorem g_222 : Cond.instanceMethod ⟨"BaubleHill$Hill", "tree", "()LBaubleHill$Tree;"⟩ ∈ lw_g := g_s1 (i := 222) rfl rfl
theorem g_223 : Cond.selects "BaubleHill$Hill" ⟨"BaubleHill$Hill", "tree", "()LBaubleHill$Tree;"⟩ ⟨"BaubleHill$Hill", "tree", "()LBaubleHill$Tree;"⟩ ∈ lw_g := g_s1 (i := 223) rfl rfl
theorem g_224 : Cond.code ⟨"BaubleHill$Hill", "tree", "()LBaubleHill$Tree;"⟩ prog_6_method_2_code 1 (Option.some (FieldType.object "BaubleHill$Tree")) ∈ lw_g := g_s1 (i := 224) rfl rfl
theorem g_225 : Cond.methodLink "BaubleHill" 76 ⟨"BaubleHill$Tree", "parentOf", "(I)I"⟩ ∈ lw_g := g_s1 (i := 225) rfl rfl
theorem g_226 : Cond.instanceMethod ⟨"BaubleHill$Tree", "parentOf", "(I)I"⟩ ∈ lw_g := g_s1 (i := 226) rfl rfl
theorem g_227 : Cond.selects "BaubleHill$Tree" ⟨"BaubleHill$Tree", "parentOf", "(I)I"⟩ ⟨"BaubleHill$Tree", "parentOf", "(I)I"⟩ ∈ lw_g := g_s1 (i := 227) rfl rfl
theorem g_228 : Cond.code ⟨"BaubleHill$Tree", "parentOf", "(I)I"⟩ prog_11_method_2_code 2 (Option.some FieldType.int) ∈ lw_g := g_s1 (i := 228) rfl rfl
theorem g_229 : Cond.methodLink "BaubleHill" 82 ⟨"BaubleHill$Tree", "bend", "(II)V"⟩ ∈ lw_g := g_s1 (i := 229) rfl rfl
theorem g_230 : Cond.instanceMethod ⟨"BaubleHill$Tree", "bend", "(II)V"⟩ ∈ lw_g := g_s1 (i := 230) rfl rfl
theorem g_231 : Cond.selects "BaubleHill$Tree" ⟨"BaubleHill$Tree", "bend", "(II)V"⟩ ⟨"BaubleHill$Tree", "bend", "(II)V"⟩ ∈ lw_g := g_s1 (i := 231) rfl rfl
theorem g_232 : Cond.code ⟨"BaubleHill$Tree", "bend", "(II)V"⟩ prog_11_method_3_code 3 none ∈ lw_g := g_s1 (i := 232) rfl rfl
theorem g_233 : Cond.methodLink "BaubleHillLaw" 18 ⟨"BaubleHill", "ball", "(III)I"⟩ ∈ lw_g := g_s1 (i := 233) rfl rfl
theorem g_234 : Cond.instanceMethod ⟨"BaubleHill", "ball", "(III)I"⟩ ∈ lw_g := g_s1 (i := 234) rfl rfl
theorem g_235 : Cond.selects "BaubleHill" ⟨"BaubleHill", "ball", "(III)I"⟩ ⟨"BaubleHill", "ball", "(III)I"⟩ ∈ lw_g := g_s1 (i := 235) rfl rfl
theorem g_236 : Cond.code ⟨"BaubleHill", "ball", "(III)I"⟩ prog_1_method_3_code 5 (Option.some FieldType.int) ∈ lw_g := g_s1 (i := 236) rfl rfl
theorem g_237 : Cond.methodLink "BaubleHill" 86 ⟨"BaubleHill", "isBall", "(I)Z"⟩ ∈ lw_g := g_s1 (i := 237) rfl rfl
theorem g_238 : Cond.static ⟨"BaubleHill", "isBall", "(I)Z"⟩ ∈ lw_g := g_s1 (i := 238) rfl rfl
theorem g_239 : Cond.code ⟨"BaubleHill", "isBall", "(I)Z"⟩ prog_1_method_29_code 1 (Option.some FieldType.boolean) ∈ lw_g := g_s1 (i := 239) rfl rfl
theorem g_240 : Cond.methodLink "BaubleHill" 89 ⟨"BaubleHill$Hill", "anotherHangs", "(II)Z"⟩ ∈ lw_g := g_s2 (i := 0) rfl rfl
theorem g_241 : Cond.instanceMethod ⟨"BaubleHill$Hill", "anotherHangs", "(II)Z"⟩ ∈ lw_g := g_s2 (i := 1) rfl rfl
theorem g_242 : Cond.selects "BaubleHill$Hill" ⟨"BaubleHill$Hill", "anotherHangs", "(II)Z"⟩ ⟨"BaubleHill$Hill", "anotherHangs", "(II)Z"⟩ ∈ lw_g := g_s2 (i := 2) rfl rfl
theorem g_243 : Cond.code ⟨"BaubleHill$Hill", "anotherHangs", "(II)Z"⟩ prog_6_method_10_code 3 (Option.some FieldType.boolean) ∈ lw_g := g_s2 (i := 3) rfl rfl
theorem g_244 : Cond.methodLink "BaubleHill$Hill" 36 ⟨"BaubleHill$Hill", "loopOf", "(I)I"⟩ ∈ lw_g := g_s2 (i := 4) rfl rfl
theorem g_245 : Cond.instanceMethod ⟨"BaubleHill$Hill", "loopOf", "(I)I"⟩ ∈ lw_g := g_s2 (i := 5) rfl rfl
theorem g_246 : Cond.selects "BaubleHill$Hill" ⟨"BaubleHill$Hill", "loopOf", "(I)I"⟩ ⟨"BaubleHill$Hill", "loopOf", "(I)I"⟩ ∈ lw_g := g_s2 (i := 6) rfl rfl
theorem g_247 : Cond.code ⟨"BaubleHill$Hill", "loopOf", "(I)I"⟩ prog_6_method_3_code 2 (Option.some FieldType.int) ∈ lw_g := g_s2 (i := 7) rfl rfl
theorem g_248 : Cond.methodLink "BaubleHill$Hill" 40 ⟨"BaubleHill$Hill", "hungLoops", "()I"⟩ ∈ lw_g := g_s2 (i := 8) rfl rfl
theorem g_249 : Cond.instanceMethod ⟨"BaubleHill$Hill", "hungLoops", "()I"⟩ ∈ lw_g := g_s2 (i := 9) rfl rfl
theorem g_250 : Cond.selects "BaubleHill$Hill" ⟨"BaubleHill$Hill", "hungLoops", "()I"⟩ ⟨"BaubleHill$Hill", "hungLoops", "()I"⟩ ∈ lw_g := g_s2 (i := 10) rfl rfl
theorem g_251 : Cond.code ⟨"BaubleHill$Hill", "hungLoops", "()I"⟩ prog_6_method_8_code 3 (Option.some FieldType.int) ∈ lw_g := g_s2 (i := 11) rfl rfl
theorem g_253 : Cond.static ⟨"BaubleHill", "holds", "(II)Z"⟩ ∈ lw_g := g_s2 (i := 13) rfl rfl
theorem g_254 : Cond.code ⟨"BaubleHill", "holds", "(II)Z"⟩ prog_1_method_30_code 2 (Option.some FieldType.boolean) ∈ lw_g := g_s2 (i := 14) rfl rfl
theorem g_255 : Cond.methodLink "BaubleHill" 93 ⟨"BaubleHill$Hill", "loopOf", "(I)I"⟩ ∈ lw_g := g_s2 (i := 15) rfl rfl
theorem g_256 : Cond.methodLink "BaubleHill" 96 ⟨"BaubleHill$Hill", "put", "(III)V"⟩ ∈ lw_g := g_s2 (i := 16) rfl rfl
theorem g_257 : Cond.instanceMethod ⟨"BaubleHill$Hill", "put", "(III)V"⟩ ∈ lw_g := g_s2 (i := 17) rfl rfl
theorem g_258 : Cond.selects "BaubleHill$Hill" ⟨"BaubleHill$Hill", "put", "(III)V"⟩ ⟨"BaubleHill$Hill", "put", "(III)V"⟩ ∈ lw_g := g_s2 (i := 18) rfl rfl
theorem g_259 : Cond.code ⟨"BaubleHill$Hill", "put", "(III)V"⟩ prog_6_method_11_code 4 none ∈ lw_g := g_s2 (i := 19) rfl rfl
theorem g_260 : Cond.methodLink "BaubleHillLaw" 23 ⟨"BaubleHill", "say", "(I)I"⟩ ∈ lw_g := g_s2 (i := 20) rfl rfl
theorem g_261 : Cond.instanceMethod ⟨"BaubleHill", "say", "(I)I"⟩ ∈ lw_g := g_s2 (i := 21) rfl rfl
theorem g_262 : Cond.selects "BaubleHill" ⟨"BaubleHill", "say", "(I)I"⟩ ⟨"BaubleHill", "say", "(I)I"⟩ ∈ lw_g := g_s2 (i := 22) rfl rfl
theorem g_263 : Cond.code ⟨"BaubleHill", "say", "(I)I"⟩ prog_1_method_4_code 2 (Option.some FieldType.int) ∈ lw_g := g_s2 (i := 23) rfl rfl
theorem g_264 : Cond.methodLink "BaubleHill" 100 ⟨"BaubleHill$Pad", "size", "()I"⟩ ∈ lw_g := g_s2 (i := 24) rfl rfl
theorem g_265 : Cond.instanceMethod ⟨"BaubleHill$Pad", "size", "()I"⟩ ∈ lw_g := g_s2 (i := 25) rfl rfl
theorem g_266 : Cond.selects "BaubleHill$Pad" ⟨"BaubleHill$Pad", "size", "()I"⟩ ⟨"BaubleHill$Pad", "size", "()I"⟩ ∈ lw_g := g_s2 (i := 26) rfl rfl
theorem g_267 : Cond.code ⟨"BaubleHill$Pad", "size", "()I"⟩ prog_8_method_2_code 1 (Option.some FieldType.int) ∈ lw_g := g_s2 (i := 27) rfl rfl
theorem g_268 : Cond.methodLink "BaubleHill" 104 ⟨"BaubleHill$Pad", "add", "(I)V"⟩ ∈ lw_g := g_s2 (i := 28) rfl rfl
theorem g_269 : Cond.instanceMethod ⟨"BaubleHill$Pad", "add", "(I)V"⟩ ∈ lw_g := g_s2 (i := 29) rfl rfl
theorem g_270 : Cond.selects "BaubleHill$Pad" ⟨"BaubleHill$Pad", "add", "(I)V"⟩ ⟨"BaubleHill$Pad", "add", "(I)V"⟩ ∈ lw_g := g_s2 (i := 30) rfl rfl
theorem g_271 : Cond.code ⟨"BaubleHill$Pad", "add", "(I)V"⟩ prog_8_method_3_code 2 none ∈ lw_g := g_s2 (i := 31) rfl rfl
theorem g_272 : Cond.methodLink "BaubleHillLaw" 28 ⟨"BaubleHill", "wipe", "()I"⟩ ∈ lw_g := g_s2 (i := 32) rfl rfl
theorem g_273 : Cond.instanceMethod ⟨"BaubleHill", "wipe", "()I"⟩ ∈ lw_g := g_s2 (i := 33) rfl rfl
theorem g_274 : Cond.selects "BaubleHill" ⟨"BaubleHill", "wipe", "()I"⟩ ⟨"BaubleHill", "wipe", "()I"⟩ ∈ lw_g := g_s2 (i := 34) rfl rfl
theorem g_275 : Cond.code ⟨"BaubleHill", "wipe", "()I"⟩ prog_1_method_5_code 2 (Option.some FieldType.int) ∈ lw_g := g_s2 (i := 35) rfl rfl
theorem g_276 : Cond.methodLink "BaubleHill" 108 ⟨"BaubleHill$Pad", "clear", "()V"⟩ ∈ lw_g := g_s2 (i := 36) rfl rfl
theorem g_277 : Cond.instanceMethod ⟨"BaubleHill$Pad", "clear", "()V"⟩ ∈ lw_g := g_s2 (i := 37) rfl rfl
theorem g_278 : Cond.selects "BaubleHill$Pad" ⟨"BaubleHill$Pad", "clear", "()V"⟩ ⟨"BaubleHill$Pad", "clear", "()V"⟩ ∈ lw_g := g_s2 (i := 38) rfl rfl
theorem g_279 : Cond.code ⟨"BaubleHill$Pad", "clear", "()V"⟩ prog_8_method_4_code 1 none ∈ lw_g := g_s2 (i := 39) rfl rfl
theorem g_280 : Cond.methodLink "BaubleHillLaw" 33 ⟨"BaubleHill", "fault", "()I"⟩ ∈ lw_g := g_s2 (i := 40) rfl rfl
theorem g_281 : Cond.instanceMethod ⟨"BaubleHill", "fault", "()I"⟩ ∈ lw_g := g_s2 (i := 41) rfl rfl
theorem g_282 : Cond.selects "BaubleHill" ⟨"BaubleHill", "fault", "()I"⟩ ⟨"BaubleHill", "fault", "()I"⟩ ∈ lw_g := g_s2 (i := 42) rfl rfl
theorem g_283 : Cond.code ⟨"BaubleHill", "fault", "()I"⟩ prog_1_method_6_code 1 (Option.some FieldType.int) ∈ lw_g := g_s2 (i := 43) rfl rfl
theorem g_284 : Cond.methodLink "BaubleHill" 111 ⟨"BaubleHill$Pad", "firstWrong", "()I"⟩ ∈ lw_g := g_s2 (i := 44) rfl rfl
theorem g_285 : Cond.instanceMethod ⟨"BaubleHill$Pad", "firstWrong", "()I"⟩ ∈ lw_g := g_s2 (i := 45) rfl rfl
theorem g_286 : Cond.selects "BaubleHill$Pad" ⟨"BaubleHill$Pad", "firstWrong", "()I"⟩ ⟨"BaubleHill$Pad", "firstWrong", "()I"⟩ ∈ lw_g := g_s2 (i := 46) rfl rfl
theorem g_287 : Cond.code ⟨"BaubleHill$Pad", "firstWrong", "()I"⟩ prog_8_method_5_code 5 (Option.some FieldType.int) ∈ lw_g := g_s2 (i := 47) rfl rfl
theorem g_288 : Cond.methodLink "BaubleHill$Pad" 19 ⟨"BaubleHill$Pad", "mayFollow", "(II)Z"⟩ ∈ lw_g := g_s2 (i := 48) rfl rfl
theorem g_289 : Cond.static ⟨"BaubleHill$Pad", "mayFollow", "(II)Z"⟩ ∈ lw_g := g_s2 (i := 49) rfl rfl
theorem g_290 : Cond.code ⟨"BaubleHill$Pad", "mayFollow", "(II)Z"⟩ prog_8_method_10_code 2 (Option.some FieldType.boolean) ∈ lw_g := g_s2 (i := 50) rfl rfl
theorem g_292 : Cond.methodLink "BaubleHill$Pad" 34 ⟨"BaubleHill$Pad", "isBallLetter", "(I)Z"⟩ ∈ lw_g := g_s2 (i := 52) rfl rfl
theorem g_293 : Cond.static ⟨"BaubleHill$Pad", "isBallLetter", "(I)Z"⟩ ∈ lw_g := g_s2 (i := 53) rfl rfl
theorem g_294 : Cond.code ⟨"BaubleHill$Pad", "isBallLetter", "(I)Z"⟩ prog_8_method_11_code 1 (Option.some FieldType.boolean) ∈ lw_g := g_s2 (i := 54) rfl rfl
theorem g_296 : Cond.methodLink "BaubleHill$Pad" 23 ⟨"BaubleHill$Pad", "isHead", "(I)Z"⟩ ∈ lw_g := g_s2 (i := 56) rfl rfl
theorem g_297 : Cond.static ⟨"BaubleHill$Pad", "isHead", "(I)Z"⟩ ∈ lw_g := g_s2 (i := 57) rfl rfl
theorem g_298 : Cond.code ⟨"BaubleHill$Pad", "isHead", "(I)Z"⟩ prog_8_method_8_code 1 (Option.some FieldType.boolean) ∈ lw_g := g_s2 (i := 58) rfl rfl
theorem g_299 : Cond.methodLink "BaubleHill$Pad" 27 ⟨"BaubleHill$Pad", "signsAfter", "(I)I"⟩ ∈ lw_g := g_s2 (i := 59) rfl rfl
theorem g_300 : Cond.static ⟨"BaubleHill$Pad", "signsAfter", "(I)I"⟩ ∈ lw_g := g_s2 (i := 60) rfl rfl
theorem g_301 : Cond.code ⟨"BaubleHill$Pad", "signsAfter", "(I)I"⟩ prog_8_method_9_code 1 (Option.some FieldType.int) ∈ lw_g := g_s2 (i := 61) rfl rfl
theorem g_302 : Cond.methodLink "BaubleHillLaw" 37 ⟨"BaubleHill", "judge", "(I)I"⟩ ∈ lw_g := g_s2 (i := 62) rfl rfl
theorem g_303 : Cond.instanceMethod ⟨"BaubleHill", "judge", "(I)I"⟩ ∈ lw_g := g_s2 (i := 63) rfl rfl
theorem g_304 : Cond.selects "BaubleHill" ⟨"BaubleHill", "judge", "(I)I"⟩ ⟨"BaubleHill", "judge", "(I)I"⟩ ∈ lw_g := g_s2 (i := 64) rfl rfl
theorem g_305 : Cond.code ⟨"BaubleHill", "judge", "(I)I"⟩ prog_1_method_7_code 2 (Option.some FieldType.int) ∈ lw_g := g_s2 (i := 65) rfl rfl
theorem g_306 : Cond.methodLink "BaubleHill" 114 ⟨"BaubleHill$Telling", "tell", "(LBaubleHill$Pad;LBaubleHill$Hill;)Z"⟩ ∈ lw_g := g_s2 (i := 66) rfl rfl
theorem g_307 : Cond.instanceMethod ⟨"BaubleHill$Telling", "tell", "(LBaubleHill$Pad;LBaubleHill$Hill;)Z"⟩ ∈ lw_g := g_s2 (i := 67) rfl rfl
theorem g_308 : Cond.selects "BaubleHill$Telling" ⟨"BaubleHill$Telling", "tell", "(LBaubleHill$Pad;LBaubleHill$Hill;)Z"⟩ ⟨"BaubleHill$Telling", "tell", "(LBaubleHill$Pad;LBaubleHill$Hill;)Z"⟩ ∈ lw_g := g_s2 (i := 68) rfl rfl
theorem g_309 : Cond.code ⟨"BaubleHill$Telling", "tell", "(LBaubleHill$Pad;LBaubleHill$Hill;)Z"⟩ prog_10_method_2_code 6 (Option.some FieldType.boolean) ∈ lw_g := g_s2 (i := 69) rfl rfl
theorem g_310 : Cond.methodLink "BaubleHill$Telling" 38 ⟨"BaubleHill$Hill", "copyFrom", "(LBaubleHill$Hill;)V"⟩ ∈ lw_g := g_s2 (i := 70) rfl rfl
theorem g_311 : Cond.instanceMethod ⟨"BaubleHill$Hill", "copyFrom", "(LBaubleHill$Hill;)V"⟩ ∈ lw_g := g_s2 (i := 71) rfl rfl
theorem g_312 : Cond.selects "BaubleHill$Hill" ⟨"BaubleHill$Hill", "copyFrom", "(LBaubleHill$Hill;)V"⟩ ⟨"BaubleHill$Hill", "copyFrom", "(LBaubleHill$Hill;)V"⟩ ∈ lw_g := g_s2 (i := 72) rfl rfl
theorem g_313 : Cond.code ⟨"BaubleHill$Hill", "copyFrom", "(LBaubleHill$Hill;)V"⟩ prog_6_method_12_code 2 none ∈ lw_g := g_s2 (i := 73) rfl rfl
theorem g_314 : Cond.methodLink "BaubleHill$Hill" 44 ⟨"BaubleHill$Tree", "copyFrom", "(LBaubleHill$Tree;)V"⟩ ∈ lw_g := g_s2 (i := 74) rfl rfl
theorem g_315 : Cond.instanceMethod ⟨"BaubleHill$Tree", "copyFrom", "(LBaubleHill$Tree;)V"⟩ ∈ lw_g := g_s2 (i := 75) rfl rfl
theorem g_316 : Cond.selects "BaubleHill$Tree" ⟨"BaubleHill$Tree", "copyFrom", "(LBaubleHill$Tree;)V"⟩ ⟨"BaubleHill$Tree", "copyFrom", "(LBaubleHill$Tree;)V"⟩ ∈ lw_g := g_s2 (i := 76) rfl rfl
theorem g_317 : Cond.code ⟨"BaubleHill$Tree", "copyFrom", "(LBaubleHill$Tree;)V"⟩ prog_11_method_4_code 2 none ∈ lw_g := g_s2 (i := 77) rfl rfl
theorem g_319 : Cond.static ⟨"BaubleHill", "copyRow", "([I[I)V"⟩ ∈ lw_g := g_s2 (i := 79) rfl rfl
theorem g_320 : Cond.code ⟨"BaubleHill", "copyRow", "([I[I)V"⟩ prog_1_method_32_code 3 none ∈ lw_g := g_s2 (i := 80) rfl rfl
theorem g_322 : Cond.methodLink "BaubleHill$Telling" 42 ⟨"BaubleHill$Pad", "firstWrong", "()I"⟩ ∈ lw_g := g_s2 (i := 82) rfl rfl
theorem g_323 : Cond.methodLink "BaubleHill$Telling" 48 ⟨"BaubleHill$Pad", "size", "()I"⟩ ∈ lw_g := g_s2 (i := 83) rfl rfl
theorem g_324 : Cond.methodLink "BaubleHill$Telling" 51 ⟨"BaubleHill$Pad", "read", "(ILBaubleHill$Act;)I"⟩ ∈ lw_g := g_s2 (i := 84) rfl rfl
theorem g_325 : Cond.instanceMethod ⟨"BaubleHill$Pad", "read", "(ILBaubleHill$Act;)I"⟩ ∈ lw_g := g_s2 (i := 85) rfl rfl
theorem g_326 : Cond.selects "BaubleHill$Pad" ⟨"BaubleHill$Pad", "read", "(ILBaubleHill$Act;)I"⟩ ⟨"BaubleHill$Pad", "read", "(ILBaubleHill$Act;)I"⟩ ∈ lw_g := g_s2 (i := 86) rfl rfl
theorem g_327 : Cond.code ⟨"BaubleHill$Pad", "read", "(ILBaubleHill$Act;)I"⟩ prog_8_method_6_code 5 (Option.some FieldType.int) ∈ lw_g := g_s2 (i := 87) rfl rfl
theorem g_328 : Cond.methodLink "BaubleHill$Pad" 31 ⟨"BaubleHill$Pad", "signAt", "(I)I"⟩ ∈ lw_g := g_s2 (i := 88) rfl rfl
theorem g_330 : Cond.instanceMethod ⟨"BaubleHill$Pad", "signAt", "(I)I"⟩ ∈ lw_g := g_s2 (i := 90) rfl rfl
theorem g_331 : Cond.code ⟨"BaubleHill$Pad", "signAt", "(I)I"⟩ prog_8_method_7_code 2 (Option.some FieldType.int) ∈ lw_g := g_s2 (i := 91) rfl rfl
theorem g_332 : Cond.methodLink "BaubleHill$Pad" 39 ⟨"BaubleHill$Act", "set", "(III)V"⟩ ∈ lw_g := g_s2 (i := 92) rfl rfl
theorem g_333 : Cond.instanceMethod ⟨"BaubleHill$Act", "set", "(III)V"⟩ ∈ lw_g := g_s2 (i := 93) rfl rfl
theorem g_334 : Cond.selects "BaubleHill$Act" ⟨"BaubleHill$Act", "set", "(III)V"⟩ ⟨"BaubleHill$Act", "set", "(III)V"⟩ ∈ lw_g := g_s2 (i := 94) rfl rfl
theorem g_335 : Cond.code ⟨"BaubleHill$Act", "set", "(III)V"⟩ prog_2_method_2_code 4 none ∈ lw_g := g_s2 (i := 95) rfl rfl
theorem g_336 : Cond.methodLink "BaubleHill$Telling" 55 ⟨"BaubleHill$Hill", "whyNot", "(LBaubleHill$Act;)I"⟩ ∈ lw_g := g_s2 (i := 96) rfl rfl
theorem g_337 : Cond.instanceMethod ⟨"BaubleHill$Hill", "whyNot", "(LBaubleHill$Act;)I"⟩ ∈ lw_g := g_s2 (i := 97) rfl rfl
theorem g_338 : Cond.selects "BaubleHill$Hill" ⟨"BaubleHill$Hill", "whyNot", "(LBaubleHill$Act;)I"⟩ ⟨"BaubleHill$Hill", "whyNot", "(LBaubleHill$Act;)I"⟩ ∈ lw_g := g_s2 (i := 98) rfl rfl
theorem g_339 : Cond.code ⟨"BaubleHill$Hill", "whyNot", "(LBaubleHill$Act;)I"⟩ prog_6_method_14_code 2 (Option.some FieldType.int) ∈ lw_g := g_s2 (i := 99) rfl rfl
theorem g_340 : Cond.methodLink "BaubleHill$Hill" 56 ⟨"BaubleHill$Act", "kind", "()I"⟩ ∈ lw_g := g_s2 (i := 100) rfl rfl
theorem g_341 : Cond.instanceMethod ⟨"BaubleHill$Act", "kind", "()I"⟩ ∈ lw_g := g_s2 (i := 101) rfl rfl
theorem g_342 : Cond.selects "BaubleHill$Act" ⟨"BaubleHill$Act", "kind", "()I"⟩ ⟨"BaubleHill$Act", "kind", "()I"⟩ ∈ lw_g := g_s2 (i := 102) rfl rfl
theorem g_343 : Cond.code ⟨"BaubleHill$Act", "kind", "()I"⟩ prog_2_method_3_code 1 (Option.some FieldType.int) ∈ lw_g := g_s2 (i := 103) rfl rfl
theorem g_344 : Cond.methodLink "BaubleHill$Hill" 61 ⟨"BaubleHill$Act", "one", "()I"⟩ ∈ lw_g := g_s2 (i := 104) rfl rfl
theorem g_345 : Cond.instanceMethod ⟨"BaubleHill$Act", "one", "()I"⟩ ∈ lw_g := g_s2 (i := 105) rfl rfl
theorem g_346 : Cond.selects "BaubleHill$Act" ⟨"BaubleHill$Act", "one", "()I"⟩ ⟨"BaubleHill$Act", "one", "()I"⟩ ∈ lw_g := g_s2 (i := 106) rfl rfl
theorem g_347 : Cond.code ⟨"BaubleHill$Act", "one", "()I"⟩ prog_2_method_4_code 1 (Option.some FieldType.int) ∈ lw_g := g_s2 (i := 107) rfl rfl
theorem g_348 : Cond.methodLink "BaubleHill$Hill" 64 ⟨"BaubleHill$Hill", "isBroken", "(I)Z"⟩ ∈ lw_g := g_s2 (i := 108) rfl rfl
theorem g_349 : Cond.instanceMethod ⟨"BaubleHill$Hill", "isBroken", "(I)Z"⟩ ∈ lw_g := g_s2 (i := 109) rfl rfl
theorem g_350 : Cond.selects "BaubleHill$Hill" ⟨"BaubleHill$Hill", "isBroken", "(I)Z"⟩ ⟨"BaubleHill$Hill", "isBroken", "(I)Z"⟩ ∈ lw_g := g_s2 (i := 110) rfl rfl
theorem g_351 : Cond.code ⟨"BaubleHill$Hill", "isBroken", "(I)Z"⟩ prog_6_method_5_code 2 (Option.some FieldType.boolean) ∈ lw_g := g_s2 (i := 111) rfl rfl
theorem g_352 : Cond.methodLink "BaubleHill$Hill" 68 ⟨"BaubleHill$Act", "other", "()I"⟩ ∈ lw_g := g_s2 (i := 112) rfl rfl
theorem g_353 : Cond.instanceMethod ⟨"BaubleHill$Act", "other", "()I"⟩ ∈ lw_g := g_s2 (i := 113) rfl rfl
theorem g_354 : Cond.selects "BaubleHill$Act" ⟨"BaubleHill$Act", "other", "()I"⟩ ⟨"BaubleHill$Act", "other", "()I"⟩ ∈ lw_g := g_s2 (i := 114) rfl rfl
theorem g_355 : Cond.code ⟨"BaubleHill$Act", "other", "()I"⟩ prog_2_method_5_code 1 (Option.some FieldType.int) ∈ lw_g := g_s2 (i := 115) rfl rfl
theorem g_356 : Cond.methodLink "BaubleHill$Hill" 71 ⟨"BaubleHill$Hill", "anotherHangs", "(II)Z"⟩ ∈ lw_g := g_s2 (i := 116) rfl rfl
theorem g_357 : Cond.methodLink "BaubleHill$Hill" 74 ⟨"java/lang/Integer", "bitCount", "(I)I"⟩ ∈ lw_g := g_s2 (i := 117) rfl rfl
theorem g_358 : Cond.static ⟨"java/lang/Integer", "bitCount", "(I)I"⟩ ∈ lw_g := g_s2 (i := 118) rfl rfl
theorem g_359 : Cond.code ⟨"java/lang/Integer", "bitCount", "(I)I"⟩ prog_15_method_49_code 1 (Option.some FieldType.int) ∈ lw_g := g_s2 (i := 119) rfl rfl
theorem g_360 : Cond.constant "java/lang/Integer" 265 (1431655765) ∈ lw_g := g_s2 (i := 120) rfl rfl
theorem g_361 : Cond.constant "java/lang/Integer" 266 (858993459) ∈ lw_g := g_s2 (i := 121) rfl rfl
theorem g_362 : Cond.constant "java/lang/Integer" 267 (252645135) ∈ lw_g := g_s2 (i := 122) rfl rfl
theorem g_363 : Cond.methodLink "BaubleHill$Hill" 79 ⟨"BaubleHill$Tree", "parentOf", "(I)I"⟩ ∈ lw_g := g_s2 (i := 123) rfl rfl
theorem g_364 : Cond.methodLink "BaubleHill$Telling" 59 ⟨"BaubleHill$Hill", "brokenBalls", "()I"⟩ ∈ lw_g := g_s2 (i := 124) rfl rfl
theorem g_365 : Cond.instanceMethod ⟨"BaubleHill$Hill", "brokenBalls", "()I"⟩ ∈ lw_g := g_s2 (i := 125) rfl rfl
theorem g_366 : Cond.selects "BaubleHill$Hill" ⟨"BaubleHill$Hill", "brokenBalls", "()I"⟩ ⟨"BaubleHill$Hill", "brokenBalls", "()I"⟩ ∈ lw_g := g_s2 (i := 126) rfl rfl
theorem g_367 : Cond.code ⟨"BaubleHill$Hill", "brokenBalls", "()I"⟩ prog_6_method_6_code 1 (Option.some FieldType.int) ∈ lw_g := g_s2 (i := 127) rfl rfl
theorem g_368 : Cond.methodLink "BaubleHill$Telling" 62 ⟨"BaubleHill$Hill", "follow", "(LBaubleHill$Act;)V"⟩ ∈ lw_g := g_s2 (i := 128) rfl rfl
theorem g_369 : Cond.instanceMethod ⟨"BaubleHill$Hill", "follow", "(LBaubleHill$Act;)V"⟩ ∈ lw_g := g_s2 (i := 129) rfl rfl
theorem g_370 : Cond.selects "BaubleHill$Hill" ⟨"BaubleHill$Hill", "follow", "(LBaubleHill$Act;)V"⟩ ⟨"BaubleHill$Hill", "follow", "(LBaubleHill$Act;)V"⟩ ∈ lw_g := g_s2 (i := 130) rfl rfl
theorem g_371 : Cond.code ⟨"BaubleHill$Hill", "follow", "(LBaubleHill$Act;)V"⟩ prog_6_method_15_code 2 none ∈ lw_g := g_s2 (i := 131) rfl rfl
theorem g_372 : Cond.methodLink "BaubleHill$Hill" 82 ⟨"BaubleHill$Hill", "chipsOf", "(I)I"⟩ ∈ lw_g := g_s2 (i := 132) rfl rfl
theorem g_373 : Cond.instanceMethod ⟨"BaubleHill$Hill", "chipsOf", "(I)I"⟩ ∈ lw_g := g_s2 (i := 133) rfl rfl
theorem g_374 : Cond.selects "BaubleHill$Hill" ⟨"BaubleHill$Hill", "chipsOf", "(I)I"⟩ ⟨"BaubleHill$Hill", "chipsOf", "(I)I"⟩ ∈ lw_g := g_s2 (i := 134) rfl rfl
theorem g_375 : Cond.code ⟨"BaubleHill$Hill", "chipsOf", "(I)I"⟩ prog_6_method_4_code 2 (Option.some FieldType.int) ∈ lw_g := g_s2 (i := 135) rfl rfl
theorem g_376 : Cond.methodLink "BaubleHill$Hill" 85 ⟨"BaubleHill$Hill", "put", "(III)V"⟩ ∈ lw_g := g_s2 (i := 136) rfl rfl
theorem g_377 : Cond.methodLink "BaubleHill$Hill" 89 ⟨"BaubleHill$Hill", "blow", "(I)V"⟩ ∈ lw_g := g_s2 (i := 137) rfl rfl
theorem g_379 : Cond.instanceMethod ⟨"BaubleHill$Hill", "blow", "(I)V"⟩ ∈ lw_g := g_s2 (i := 139) rfl rfl
theorem g_380 : Cond.code ⟨"BaubleHill$Hill", "blow", "(I)V"⟩ prog_6_method_16_code 5 none ∈ lw_g := g_s2 (i := 140) rfl rfl
theorem g_381 : Cond.methodLink "BaubleHill$Hill" 100 ⟨"BaubleHill$Tree", "ring", "(III)I"⟩ ∈ lw_g := g_s2 (i := 141) rfl rfl
theorem g_382 : Cond.instanceMethod ⟨"BaubleHill$Tree", "ring", "(III)I"⟩ ∈ lw_g := g_s2 (i := 142) rfl rfl
theorem g_383 : Cond.selects "BaubleHill$Tree" ⟨"BaubleHill$Tree", "ring", "(III)I"⟩ ⟨"BaubleHill$Tree", "ring", "(III)I"⟩ ∈ lw_g := g_s2 (i := 143) rfl rfl
theorem g_384 : Cond.code ⟨"BaubleHill$Tree", "ring", "(III)I"⟩ prog_11_method_7_code 7 (Option.some FieldType.int) ∈ lw_g := g_s2 (i := 144) rfl rfl
theorem g_385 : Cond.methodLink "BaubleHill$Tree" 32 ⟨"BaubleHill$Tree", "distance", "(II)I"⟩ ∈ lw_g := g_s2 (i := 145) rfl rfl
theorem g_386 : Cond.instanceMethod ⟨"BaubleHill$Tree", "distance", "(II)I"⟩ ∈ lw_g := g_s2 (i := 146) rfl rfl
theorem g_387 : Cond.selects "BaubleHill$Tree" ⟨"BaubleHill$Tree", "distance", "(II)I"⟩ ⟨"BaubleHill$Tree", "distance", "(II)I"⟩ ∈ lw_g := g_s2 (i := 147) rfl rfl
theorem g_388 : Cond.code ⟨"BaubleHill$Tree", "distance", "(II)I"⟩ prog_11_method_5_code 8 (Option.some FieldType.int) ∈ lw_g := g_s2 (i := 148) rfl rfl
theorem g_389 : Cond.methodLink "BaubleHill$Tree" 19 ⟨"java/lang/Math", "min", "(II)I"⟩ ∈ lw_g := g_s2 (i := 149) rfl rfl
theorem g_390 : Cond.static ⟨"java/lang/Math", "min", "(II)I"⟩ ∈ lw_g := g_s2 (i := 150) rfl rfl
theorem g_391 : Cond.code ⟨"java/lang/Math", "min", "(II)I"⟩ prog_16_method_69_code 2 (Option.some FieldType.int) ∈ lw_g := g_s2 (i := 151) rfl rfl
theorem g_392 : Cond.methodLink "BaubleHill$Tree" 25 ⟨"java/lang/Math", "max", "(II)I"⟩ ∈ lw_g := g_s2 (i := 152) rfl rfl
theorem g_393 : Cond.static ⟨"java/lang/Math", "max", "(II)I"⟩ ∈ lw_g := g_s2 (i := 153) rfl rfl
theorem g_394 : Cond.code ⟨"java/lang/Math", "max", "(II)I"⟩ prog_16_method_65_code 2 (Option.some FieldType.int) ∈ lw_g := g_s2 (i := 154) rfl rfl
theorem g_395 : Cond.methodLink "BaubleHill$Tree" 28 ⟨"BaubleHill$Tree", "parentOf", "(I)I"⟩ ∈ lw_g := g_s2 (i := 155) rfl rfl
theorem g_396 : Cond.methodLink "BaubleHill$Hill" 104 ⟨"BaubleHill$Hill", "chip", "(II)V"⟩ ∈ lw_g := g_s2 (i := 156) rfl rfl
theorem g_398 : Cond.instanceMethod ⟨"BaubleHill$Hill", "chip", "(II)V"⟩ ∈ lw_g := g_s2 (i := 158) rfl rfl
theorem g_399 : Cond.code ⟨"BaubleHill$Hill", "chip", "(II)V"⟩ prog_6_method_17_code 4 none ∈ lw_g := g_s2 (i := 159) rfl rfl
theorem g_400 : Cond.methodLink "BaubleHill$Hill" 107 ⟨"java/lang/Math", "min", "(II)I"⟩ ∈ lw_g := g_s2 (i := 160) rfl rfl
theorem g_401 : Cond.methodLink "BaubleHill$Hill" 93 ⟨"BaubleHill$Tree", "bend", "(II)V"⟩ ∈ lw_g := g_s2 (i := 161) rfl rfl
theorem g_402 : Cond.methodLink "BaubleHill$Hill" 97 ⟨"BaubleHill$Hill", "packAll", "()V"⟩ ∈ lw_g := g_s2 (i := 162) rfl rfl
theorem g_404 : Cond.instanceMethod ⟨"BaubleHill$Hill", "packAll", "()V"⟩ ∈ lw_g := g_s2 (i := 164) rfl rfl
theorem g_405 : Cond.code ⟨"BaubleHill$Hill", "packAll", "()V"⟩ prog_6_method_18_code 2 none ∈ lw_g := g_s2 (i := 165) rfl rfl
theorem g_406 : Cond.methodLink "BaubleHill$Telling" 66 ⟨"BaubleHill$Telling", "noteBroken", "(I)V"⟩ ∈ lw_g := g_s2 (i := 166) rfl rfl
theorem g_408 : Cond.instanceMethod ⟨"BaubleHill$Telling", "noteBroken", "(I)V"⟩ ∈ lw_g := g_s2 (i := 168) rfl rfl
theorem g_409 : Cond.code ⟨"BaubleHill$Telling", "noteBroken", "(I)V"⟩ prog_10_method_3_code 2 none ∈ lw_g := g_s2 (i := 169) rfl rfl
theorem g_411 : Cond.static ⟨"BaubleHill", "memberAt", "(II)I"⟩ ∈ lw_g := g_s2 (i := 171) rfl rfl
theorem g_412 : Cond.code ⟨"BaubleHill", "memberAt", "(II)I"⟩ prog_1_method_31_code 4 (Option.some FieldType.int) ∈ lw_g := g_s2 (i := 172) rfl rfl
theorem g_413 : Cond.methodLink "BaubleHill" 238 ⟨"BaubleHill", "holds", "(II)Z"⟩ ∈ lw_g := g_s2 (i := 173) rfl rfl
theorem g_414 : Cond.methodLink "BaubleHill" 118 ⟨"BaubleHill$Telling", "acts", "()I"⟩ ∈ lw_g := g_s2 (i := 174) rfl rfl
theorem g_415 : Cond.instanceMethod ⟨"BaubleHill$Telling", "acts", "()I"⟩ ∈ lw_g := g_s2 (i := 175) rfl rfl
theorem g_416 : Cond.selects "BaubleHill$Telling" ⟨"BaubleHill$Telling", "acts", "()I"⟩ ⟨"BaubleHill$Telling", "acts", "()I"⟩ ∈ lw_g := g_s2 (i := 176) rfl rfl
theorem g_417 : Cond.code ⟨"BaubleHill$Telling", "acts", "()I"⟩ prog_10_method_5_code 1 (Option.some FieldType.int) ∈ lw_g := g_s2 (i := 177) rfl rfl
theorem g_418 : Cond.methodLink "BaubleHill" 121 ⟨"BaubleHill$Telling", "why", "()I"⟩ ∈ lw_g := g_s2 (i := 178) rfl rfl
theorem g_419 : Cond.instanceMethod ⟨"BaubleHill$Telling", "why", "()I"⟩ ∈ lw_g := g_s2 (i := 179) rfl rfl
theorem g_420 : Cond.selects "BaubleHill$Telling" ⟨"BaubleHill$Telling", "why", "()I"⟩ ⟨"BaubleHill$Telling", "why", "()I"⟩ ∈ lw_g := g_s2 (i := 180) rfl rfl
theorem g_421 : Cond.code ⟨"BaubleHill$Telling", "why", "()I"⟩ prog_10_method_6_code 1 (Option.some FieldType.int) ∈ lw_g := g_s2 (i := 181) rfl rfl
theorem g_422 : Cond.methodLink "BaubleHillLaw" 41 ⟨"BaubleHill", "done", "()I"⟩ ∈ lw_g := g_s2 (i := 182) rfl rfl
theorem g_423 : Cond.instanceMethod ⟨"BaubleHill", "done", "()I"⟩ ∈ lw_g := g_s2 (i := 183) rfl rfl
theorem g_424 : Cond.selects "BaubleHill" ⟨"BaubleHill", "done", "()I"⟩ ⟨"BaubleHill", "done", "()I"⟩ ∈ lw_g := g_s2 (i := 184) rfl rfl
theorem g_425 : Cond.code ⟨"BaubleHill", "done", "()I"⟩ prog_1_method_8_code 1 (Option.some FieldType.int) ∈ lw_g := g_s2 (i := 185) rfl rfl
theorem g_426 : Cond.methodLink "BaubleHill" 124 ⟨"BaubleHill$Telling", "hill", "()LBaubleHill$Hill;"⟩ ∈ lw_g := g_s2 (i := 186) rfl rfl
theorem g_427 : Cond.instanceMethod ⟨"BaubleHill$Telling", "hill", "()LBaubleHill$Hill;"⟩ ∈ lw_g := g_s2 (i := 187) rfl rfl
theorem g_428 : Cond.selects "BaubleHill$Telling" ⟨"BaubleHill$Telling", "hill", "()LBaubleHill$Hill;"⟩ ⟨"BaubleHill$Telling", "hill", "()LBaubleHill$Hill;"⟩ ∈ lw_g := g_s2 (i := 188) rfl rfl
theorem g_429 : Cond.code ⟨"BaubleHill$Telling", "hill", "()LBaubleHill$Hill;"⟩ prog_10_method_4_code 1 (Option.some (FieldType.object "BaubleHill$Hill")) ∈ lw_g := g_s2 (i := 189) rfl rfl
theorem g_430 : Cond.methodLink "BaubleHill" 127 ⟨"BaubleHill$Hill", "copyFrom", "(LBaubleHill$Hill;)V"⟩ ∈ lw_g := g_s2 (i := 190) rfl rfl
theorem g_431 : Cond.methodLink "BaubleHillLaw" 45 ⟨"BaubleHill", "behind", "(II)I"⟩ ∈ lw_g := g_s2 (i := 191) rfl rfl
theorem g_432 : Cond.instanceMethod ⟨"BaubleHill", "behind", "(II)I"⟩ ∈ lw_g := g_s2 (i := 192) rfl rfl
theorem g_433 : Cond.selects "BaubleHill" ⟨"BaubleHill", "behind", "(II)I"⟩ ⟨"BaubleHill", "behind", "(II)I"⟩ ∈ lw_g := g_s2 (i := 193) rfl rfl
theorem g_434 : Cond.code ⟨"BaubleHill", "behind", "(II)I"⟩ prog_1_method_9_code 3 (Option.some FieldType.int) ∈ lw_g := g_s2 (i := 194) rfl rfl
theorem g_435 : Cond.methodLink "BaubleHill" 131 ⟨"BaubleHill$Hill", "chipsOf", "(I)I"⟩ ∈ lw_g := g_s2 (i := 195) rfl rfl
theorem g_436 : Cond.methodLink "BaubleHill" 134 ⟨"BaubleHill$Hill", "isBroken", "(I)Z"⟩ ∈ lw_g := g_s2 (i := 196) rfl rfl
theorem g_437 : Cond.methodLink "BaubleHillLaw" 49 ⟨"BaubleHill", "then", "(I)I"⟩ ∈ lw_g := g_s2 (i := 197) rfl rfl
theorem g_438 : Cond.instanceMethod ⟨"BaubleHill", "then", "(I)I"⟩ ∈ lw_g := g_s2 (i := 198) rfl rfl
theorem g_439 : Cond.selects "BaubleHill" ⟨"BaubleHill", "then", "(I)I"⟩ ⟨"BaubleHill", "then", "(I)I"⟩ ∈ lw_g := g_s2 (i := 199) rfl rfl
theorem g_440 : Cond.code ⟨"BaubleHill", "then", "(I)I"⟩ prog_1_method_10_code 2 (Option.some FieldType.int) ∈ lw_g := g_s2 (i := 200) rfl rfl
theorem g_441 : Cond.methodLink "BaubleHill" 137 ⟨"BaubleHill$Hill", "hungLoops", "()I"⟩ ∈ lw_g := g_s2 (i := 201) rfl rfl
theorem g_442 : Cond.methodLink "BaubleHill" 140 ⟨"BaubleHill$Hill", "brokenBalls", "()I"⟩ ∈ lw_g := g_s2 (i := 202) rfl rfl
theorem g_443 : Cond.methodLink "BaubleHill" 143 ⟨"BaubleHill$Hill", "allChips", "()I"⟩ ∈ lw_g := g_s2 (i := 203) rfl rfl
theorem g_444 : Cond.instanceMethod ⟨"BaubleHill$Hill", "allChips", "()I"⟩ ∈ lw_g := g_s2 (i := 204) rfl rfl
theorem g_445 : Cond.selects "BaubleHill$Hill" ⟨"BaubleHill$Hill", "allChips", "()I"⟩ ⟨"BaubleHill$Hill", "allChips", "()I"⟩ ∈ lw_g := g_s2 (i := 205) rfl rfl
theorem g_446 : Cond.code ⟨"BaubleHill$Hill", "allChips", "()I"⟩ prog_6_method_9_code 3 (Option.some FieldType.int) ∈ lw_g := g_s2 (i := 206) rfl rfl
theorem g_447 : Cond.methodLink "BaubleHill" 146 ⟨"BaubleHill$Hill", "winter", "()I"⟩ ∈ lw_g := g_s2 (i := 207) rfl rfl
theorem g_448 : Cond.instanceMethod ⟨"BaubleHill$Hill", "winter", "()I"⟩ ∈ lw_g := g_s2 (i := 208) rfl rfl
theorem g_449 : Cond.selects "BaubleHill$Hill" ⟨"BaubleHill$Hill", "winter", "()I"⟩ ⟨"BaubleHill$Hill", "winter", "()I"⟩ ∈ lw_g := g_s2 (i := 209) rfl rfl
theorem g_450 : Cond.code ⟨"BaubleHill$Hill", "winter", "()I"⟩ prog_6_method_7_code 1 (Option.some FieldType.int) ∈ lw_g := g_s2 (i := 210) rfl rfl
theorem g_451 : Cond.methodLink "BaubleHill" 149 ⟨"BaubleHill$Telling", "actThatBroke", "()I"⟩ ∈ lw_g := g_s2 (i := 211) rfl rfl
theorem g_452 : Cond.instanceMethod ⟨"BaubleHill$Telling", "actThatBroke", "()I"⟩ ∈ lw_g := g_s2 (i := 212) rfl rfl
theorem g_453 : Cond.selects "BaubleHill$Telling" ⟨"BaubleHill$Telling", "actThatBroke", "()I"⟩ ⟨"BaubleHill$Telling", "actThatBroke", "()I"⟩ ∈ lw_g := g_s2 (i := 213) rfl rfl
theorem g_454 : Cond.code ⟨"BaubleHill$Telling", "actThatBroke", "()I"⟩ prog_10_method_7_code 1 (Option.some FieldType.int) ∈ lw_g := g_s2 (i := 214) rfl rfl
theorem g_455 : Cond.methodLink "BaubleHill" 152 ⟨"BaubleHill$Telling", "ballThatBroke", "()I"⟩ ∈ lw_g := g_s2 (i := 215) rfl rfl
theorem g_456 : Cond.instanceMethod ⟨"BaubleHill$Telling", "ballThatBroke", "()I"⟩ ∈ lw_g := g_s2 (i := 216) rfl rfl
theorem g_457 : Cond.selects "BaubleHill$Telling" ⟨"BaubleHill$Telling", "ballThatBroke", "()I"⟩ ⟨"BaubleHill$Telling", "ballThatBroke", "()I"⟩ ∈ lw_g := g_s2 (i := 217) rfl rfl
theorem g_458 : Cond.code ⟨"BaubleHill$Telling", "ballThatBroke", "()I"⟩ prog_10_method_8_code 1 (Option.some FieldType.int) ∈ lw_g := g_s2 (i := 218) rfl rfl
theorem g_459 : Cond.methodLink "BaubleHillLaw" 53 ⟨"BaubleHill", "apart", "(II)I"⟩ ∈ lw_g := g_s2 (i := 219) rfl rfl
theorem g_460 : Cond.instanceMethod ⟨"BaubleHill", "apart", "(II)I"⟩ ∈ lw_g := g_s2 (i := 220) rfl rfl
theorem g_461 : Cond.selects "BaubleHill" ⟨"BaubleHill", "apart", "(II)I"⟩ ⟨"BaubleHill", "apart", "(II)I"⟩ ∈ lw_g := g_s2 (i := 221) rfl rfl
theorem g_462 : Cond.code ⟨"BaubleHill", "apart", "(II)I"⟩ prog_1_method_11_code 3 (Option.some FieldType.int) ∈ lw_g := g_s2 (i := 222) rfl rfl
theorem g_463 : Cond.methodLink "BaubleHill" 155 ⟨"BaubleHill$Tree", "distance", "(II)I"⟩ ∈ lw_g := g_s2 (i := 223) rfl rfl
theorem g_464 : Cond.methodLink "BaubleHillLaw" 57 ⟨"BaubleHill", "meets", "(II)I"⟩ ∈ lw_g := g_s2 (i := 224) rfl rfl
theorem g_465 : Cond.instanceMethod ⟨"BaubleHill", "meets", "(II)I"⟩ ∈ lw_g := g_s2 (i := 225) rfl rfl
theorem g_466 : Cond.selects "BaubleHill" ⟨"BaubleHill", "meets", "(II)I"⟩ ⟨"BaubleHill", "meets", "(II)I"⟩ ∈ lw_g := g_s2 (i := 226) rfl rfl
theorem g_467 : Cond.code ⟨"BaubleHill", "meets", "(II)I"⟩ prog_1_method_12_code 3 (Option.some FieldType.int) ∈ lw_g := g_s2 (i := 227) rfl rfl
theorem g_468 : Cond.methodLink "BaubleHill" 159 ⟨"BaubleHill$Tree", "way", "(II)I"⟩ ∈ lw_g := g_s2 (i := 228) rfl rfl
theorem g_469 : Cond.instanceMethod ⟨"BaubleHill$Tree", "way", "(II)I"⟩ ∈ lw_g := g_s2 (i := 229) rfl rfl
theorem g_470 : Cond.selects "BaubleHill$Tree" ⟨"BaubleHill$Tree", "way", "(II)I"⟩ ⟨"BaubleHill$Tree", "way", "(II)I"⟩ ∈ lw_g := g_s2 (i := 230) rfl rfl
theorem g_471 : Cond.code ⟨"BaubleHill$Tree", "way", "(II)I"⟩ prog_11_method_6_code 6 (Option.some FieldType.int) ∈ lw_g := g_s2 (i := 231) rfl rfl
theorem g_472 : Cond.methodLink "BaubleHill" 162 ⟨"BaubleHill", "memberAt", "(II)I"⟩ ∈ lw_g := g_s2 (i := 232) rfl rfl
theorem g_473 : Cond.methodLink "BaubleHillLaw" 61 ⟨"BaubleHill", "sees", "(I)I"⟩ ∈ lw_g := g_s2 (i := 233) rfl rfl
theorem g_474 : Cond.instanceMethod ⟨"BaubleHill", "sees", "(I)I"⟩ ∈ lw_g := g_s2 (i := 234) rfl rfl
theorem g_475 : Cond.selects "BaubleHill" ⟨"BaubleHill", "sees", "(I)I"⟩ ⟨"BaubleHill", "sees", "(I)I"⟩ ∈ lw_g := g_s2 (i := 235) rfl rfl
theorem g_476 : Cond.code ⟨"BaubleHill", "sees", "(I)I"⟩ prog_1_method_13_code 2 (Option.some FieldType.int) ∈ lw_g := g_s2 (i := 236) rfl rfl
theorem g_477 : Cond.methodLink "BaubleHill" 165 ⟨"BaubleHill$Hill", "seenFrom", "(I)I"⟩ ∈ lw_g := g_s2 (i := 237) rfl rfl
theorem g_478 : Cond.instanceMethod ⟨"BaubleHill$Hill", "seenFrom", "(I)I"⟩ ∈ lw_g := g_s2 (i := 238) rfl rfl
theorem g_479 : Cond.selects "BaubleHill$Hill" ⟨"BaubleHill$Hill", "seenFrom", "(I)I"⟩ ⟨"BaubleHill$Hill", "seenFrom", "(I)I"⟩ ∈ lw_g := g_s2 (i := 239) rfl rfl
theorem g_480 : Cond.code ⟨"BaubleHill$Hill", "seenFrom", "(I)I"⟩ prog_6_method_13_code 8 (Option.some FieldType.int) ∈ lw_g := g_s3 (i := 0) rfl rfl
theorem g_481 : Cond.methodLink "BaubleHill$Hill" 52 ⟨"BaubleHill$Tree", "way", "(II)I"⟩ ∈ lw_g := g_s3 (i := 1) rfl rfl
theorem g_482 : Cond.methodLink "BaubleHillLaw" 65 ⟨"BaubleHill", "near", "(I)I"⟩ ∈ lw_g := g_s3 (i := 2) rfl rfl
theorem g_483 : Cond.instanceMethod ⟨"BaubleHill", "near", "(I)I"⟩ ∈ lw_g := g_s3 (i := 3) rfl rfl
theorem g_484 : Cond.selects "BaubleHill" ⟨"BaubleHill", "near", "(I)I"⟩ ⟨"BaubleHill", "near", "(I)I"⟩ ∈ lw_g := g_s3 (i := 4) rfl rfl
theorem g_485 : Cond.code ⟨"BaubleHill", "near", "(I)I"⟩ prog_1_method_14_code 8 (Option.some FieldType.int) ∈ lw_g := g_s3 (i := 5) rfl rfl
theorem g_486 : Cond.methodLink "BaubleHill" 168 ⟨"BaubleHill$Tree", "howFar", "(IIZ)I"⟩ ∈ lw_g := g_s3 (i := 6) rfl rfl
theorem g_487 : Cond.instanceMethod ⟨"BaubleHill$Tree", "howFar", "(IIZ)I"⟩ ∈ lw_g := g_s3 (i := 7) rfl rfl
theorem g_488 : Cond.selects "BaubleHill$Tree" ⟨"BaubleHill$Tree", "howFar", "(IIZ)I"⟩ ⟨"BaubleHill$Tree", "howFar", "(IIZ)I"⟩ ∈ lw_g := g_s3 (i := 8) rfl rfl
theorem g_489 : Cond.code ⟨"BaubleHill$Tree", "howFar", "(IIZ)I"⟩ prog_11_method_8_code 7 (Option.some FieldType.int) ∈ lw_g := g_s3 (i := 9) rfl rfl
theorem g_491 : Cond.methodLink "BaubleHillLaw" 69 ⟨"BaubleHill", "room", "(II)I"⟩ ∈ lw_g := g_s3 (i := 11) rfl rfl
theorem g_492 : Cond.instanceMethod ⟨"BaubleHill", "room", "(II)I"⟩ ∈ lw_g := g_s3 (i := 12) rfl rfl
theorem g_493 : Cond.selects "BaubleHill" ⟨"BaubleHill", "room", "(II)I"⟩ ⟨"BaubleHill", "room", "(II)I"⟩ ∈ lw_g := g_s3 (i := 13) rfl rfl
theorem g_494 : Cond.code ⟨"BaubleHill", "room", "(II)I"⟩ prog_1_method_15_code 4 (Option.some FieldType.int) ∈ lw_g := g_s3 (i := 14) rfl rfl
theorem g_495 : Cond.methodLink "BaubleHill" 172 ⟨"BaubleHill$Choice", "mostApart", "(LBaubleHill$Tree;I)I"⟩ ∈ lw_g := g_s3 (i := 15) rfl rfl
theorem g_496 : Cond.instanceMethod ⟨"BaubleHill$Choice", "mostApart", "(LBaubleHill$Tree;I)I"⟩ ∈ lw_g := g_s3 (i := 16) rfl rfl
theorem g_497 : Cond.selects "BaubleHill$Choice" ⟨"BaubleHill$Choice", "mostApart", "(LBaubleHill$Tree;I)I"⟩ ⟨"BaubleHill$Choice", "mostApart", "(LBaubleHill$Tree;I)I"⟩ ∈ lw_g := g_s3 (i := 17) rfl rfl
theorem g_498 : Cond.code ⟨"BaubleHill$Choice", "mostApart", "(LBaubleHill$Tree;I)I"⟩ prog_4_method_2_code 7 (Option.some FieldType.int) ∈ lw_g := g_s3 (i := 18) rfl rfl
theorem g_499 : Cond.methodLink "BaubleHill$Choice" 15 ⟨"BaubleHill$Choice", "lookAround", "(LBaubleHill$Tree;I)V"⟩ ∈ lw_g := g_s3 (i := 19) rfl rfl
theorem g_501 : Cond.instanceMethod ⟨"BaubleHill$Choice", "lookAround", "(LBaubleHill$Tree;I)V"⟩ ∈ lw_g := g_s3 (i := 21) rfl rfl
theorem g_502 : Cond.code ⟨"BaubleHill$Choice", "lookAround", "(LBaubleHill$Tree;I)V"⟩ prog_4_method_4_code 4 none ∈ lw_g := g_s3 (i := 22) rfl rfl
theorem g_503 : Cond.methodLink "BaubleHill$Choice" 32 ⟨"BaubleHill$Tree", "ring", "(III)I"⟩ ∈ lw_g := g_s3 (i := 23) rfl rfl
theorem g_504 : Cond.methodLink "BaubleHill$Choice" 19 ⟨"java/lang/Integer", "bitCount", "(I)I"⟩ ∈ lw_g := g_s3 (i := 24) rfl rfl
theorem g_505 : Cond.methodLink "BaubleHill$Choice" 25 ⟨"BaubleHill$Choice", "standsApart", "(I)Z"⟩ ∈ lw_g := g_s3 (i := 25) rfl rfl
theorem g_507 : Cond.instanceMethod ⟨"BaubleHill$Choice", "standsApart", "(I)Z"⟩ ∈ lw_g := g_s3 (i := 27) rfl rfl
theorem g_508 : Cond.code ⟨"BaubleHill$Choice", "standsApart", "(I)Z"⟩ prog_4_method_5_code 3 (Option.some FieldType.boolean) ∈ lw_g := g_s3 (i := 28) rfl rfl
theorem g_510 : Cond.methodLink "BaubleHill" 176 ⟨"java/lang/Integer", "bitCount", "(I)I"⟩ ∈ lw_g := g_s3 (i := 30) rfl rfl
theorem g_511 : Cond.methodLink "BaubleHillLaw" 73 ⟨"BaubleHill", "candles", "(II)I"⟩ ∈ lw_g := g_s3 (i := 31) rfl rfl
theorem g_512 : Cond.instanceMethod ⟨"BaubleHill", "candles", "(II)I"⟩ ∈ lw_g := g_s3 (i := 32) rfl rfl
theorem g_513 : Cond.selects "BaubleHill" ⟨"BaubleHill", "candles", "(II)I"⟩ ⟨"BaubleHill", "candles", "(II)I"⟩ ∈ lw_g := g_s3 (i := 33) rfl rfl
theorem g_514 : Cond.code ⟨"BaubleHill", "candles", "(II)I"⟩ prog_1_method_16_code 4 (Option.some FieldType.int) ∈ lw_g := g_s3 (i := 34) rfl rfl
theorem g_515 : Cond.methodLink "BaubleHill" 181 ⟨"BaubleHill$Choice", "fewestLighting", "(LBaubleHill$Tree;I)I"⟩ ∈ lw_g := g_s3 (i := 35) rfl rfl
theorem g_516 : Cond.instanceMethod ⟨"BaubleHill$Choice", "fewestLighting", "(LBaubleHill$Tree;I)I"⟩ ∈ lw_g := g_s3 (i := 36) rfl rfl
theorem g_517 : Cond.selects "BaubleHill$Choice" ⟨"BaubleHill$Choice", "fewestLighting", "(LBaubleHill$Tree;I)I"⟩ ⟨"BaubleHill$Choice", "fewestLighting", "(LBaubleHill$Tree;I)I"⟩ ∈ lw_g := g_s3 (i := 37) rfl rfl
theorem g_518 : Cond.code ⟨"BaubleHill$Choice", "fewestLighting", "(LBaubleHill$Tree;I)I"⟩ prog_4_method_3_code 7 (Option.some FieldType.int) ∈ lw_g := g_s3 (i := 38) rfl rfl
theorem g_519 : Cond.methodLink "BaubleHill$Choice" 29 ⟨"BaubleHill$Choice", "lightsAll", "(I)Z"⟩ ∈ lw_g := g_s3 (i := 39) rfl rfl
theorem g_521 : Cond.instanceMethod ⟨"BaubleHill$Choice", "lightsAll", "(I)Z"⟩ ∈ lw_g := g_s3 (i := 41) rfl rfl
theorem g_522 : Cond.code ⟨"BaubleHill$Choice", "lightsAll", "(I)Z"⟩ prog_4_method_6_code 4 (Option.some FieldType.boolean) ∈ lw_g := g_s3 (i := 42) rfl rfl
theorem g_523 : Cond.methodLink "BaubleHillLaw" 77 ⟨"BaubleHill", "seen", "(II)I"⟩ ∈ lw_g := g_s3 (i := 43) rfl rfl
theorem g_524 : Cond.instanceMethod ⟨"BaubleHill", "seen", "(II)I"⟩ ∈ lw_g := g_s3 (i := 44) rfl rfl
theorem g_525 : Cond.selects "BaubleHill" ⟨"BaubleHill", "seen", "(II)I"⟩ ⟨"BaubleHill", "seen", "(II)I"⟩ ∈ lw_g := g_s3 (i := 45) rfl rfl
theorem g_526 : Cond.code ⟨"BaubleHill", "seen", "(II)I"⟩ prog_1_method_17_code 3 (Option.some FieldType.int) ∈ lw_g := g_s3 (i := 46) rfl rfl
theorem g_527 : Cond.methodLink "BaubleHill" 184 ⟨"BaubleHill$Sights", "size", "()I"⟩ ∈ lw_g := g_s3 (i := 47) rfl rfl
theorem g_528 : Cond.instanceMethod ⟨"BaubleHill$Sights", "size", "()I"⟩ ∈ lw_g := g_s3 (i := 48) rfl rfl
theorem g_529 : Cond.selects "BaubleHill$Sights" ⟨"BaubleHill$Sights", "size", "()I"⟩ ⟨"BaubleHill$Sights", "size", "()I"⟩ ∈ lw_g := g_s3 (i := 49) rfl rfl
theorem g_530 : Cond.code ⟨"BaubleHill$Sights", "size", "()I"⟩ prog_9_method_2_code 1 (Option.some FieldType.int) ∈ lw_g := g_s3 (i := 50) rfl rfl
theorem g_531 : Cond.methodLink "BaubleHill" 185 ⟨"BaubleHill$Sights", "add", "(II)V"⟩ ∈ lw_g := g_s3 (i := 51) rfl rfl
theorem g_532 : Cond.instanceMethod ⟨"BaubleHill$Sights", "add", "(II)V"⟩ ∈ lw_g := g_s3 (i := 52) rfl rfl
theorem g_533 : Cond.selects "BaubleHill$Sights" ⟨"BaubleHill$Sights", "add", "(II)V"⟩ ⟨"BaubleHill$Sights", "add", "(II)V"⟩ ∈ lw_g := g_s3 (i := 53) rfl rfl
theorem g_534 : Cond.code ⟨"BaubleHill$Sights", "add", "(II)V"⟩ prog_9_method_3_code 3 none ∈ lw_g := g_s3 (i := 54) rfl rfl
theorem g_535 : Cond.methodLink "BaubleHillLaw" 81 ⟨"BaubleHill", "forget", "()I"⟩ ∈ lw_g := g_s3 (i := 55) rfl rfl
theorem g_536 : Cond.instanceMethod ⟨"BaubleHill", "forget", "()I"⟩ ∈ lw_g := g_s3 (i := 56) rfl rfl
theorem g_537 : Cond.selects "BaubleHill" ⟨"BaubleHill", "forget", "()I"⟩ ⟨"BaubleHill", "forget", "()I"⟩ ∈ lw_g := g_s3 (i := 57) rfl rfl
theorem g_538 : Cond.code ⟨"BaubleHill", "forget", "()I"⟩ prog_1_method_18_code 2 (Option.some FieldType.int) ∈ lw_g := g_s3 (i := 58) rfl rfl
theorem g_539 : Cond.methodLink "BaubleHill" 187 ⟨"BaubleHill$Sights", "clear", "()V"⟩ ∈ lw_g := g_s3 (i := 59) rfl rfl
theorem g_540 : Cond.instanceMethod ⟨"BaubleHill$Sights", "clear", "()V"⟩ ∈ lw_g := g_s3 (i := 60) rfl rfl
theorem g_541 : Cond.selects "BaubleHill$Sights" ⟨"BaubleHill$Sights", "clear", "()V"⟩ ⟨"BaubleHill$Sights", "clear", "()V"⟩ ∈ lw_g := g_s3 (i := 61) rfl rfl
theorem g_542 : Cond.code ⟨"BaubleHill$Sights", "clear", "()V"⟩ prog_9_method_4_code 1 none ∈ lw_g := g_s3 (i := 62) rfl rfl
theorem g_543 : Cond.methodLink "BaubleHillLaw" 85 ⟨"BaubleHill", "where", "(I)I"⟩ ∈ lw_g := g_s3 (i := 63) rfl rfl
theorem g_544 : Cond.instanceMethod ⟨"BaubleHill", "where", "(I)I"⟩ ∈ lw_g := g_s3 (i := 64) rfl rfl
theorem g_545 : Cond.selects "BaubleHill" ⟨"BaubleHill", "where", "(I)I"⟩ ⟨"BaubleHill", "where", "(I)I"⟩ ∈ lw_g := g_s3 (i := 65) rfl rfl
theorem g_546 : Cond.code ⟨"BaubleHill", "where", "(I)I"⟩ prog_1_method_19_code 3 (Option.some FieldType.int) ∈ lw_g := g_s3 (i := 66) rfl rfl
theorem g_547 : Cond.methodLink "BaubleHill" 188 ⟨"BaubleHill$Sights", "fitting", "(LBaubleHill$Tree;)I"⟩ ∈ lw_g := g_s3 (i := 67) rfl rfl
theorem g_548 : Cond.instanceMethod ⟨"BaubleHill$Sights", "fitting", "(LBaubleHill$Tree;)I"⟩ ∈ lw_g := g_s3 (i := 68) rfl rfl
theorem g_549 : Cond.selects "BaubleHill$Sights" ⟨"BaubleHill$Sights", "fitting", "(LBaubleHill$Tree;)I"⟩ ⟨"BaubleHill$Sights", "fitting", "(LBaubleHill$Tree;)I"⟩ ∈ lw_g := g_s3 (i := 69) rfl rfl
theorem g_550 : Cond.code ⟨"BaubleHill$Sights", "fitting", "(LBaubleHill$Tree;)I"⟩ prog_9_method_6_code 4 (Option.some FieldType.int) ∈ lw_g := g_s3 (i := 70) rfl rfl
theorem g_551 : Cond.methodLink "BaubleHill$Sights" 26 ⟨"BaubleHill$Tree", "ring", "(III)I"⟩ ∈ lw_g := g_s3 (i := 71) rfl rfl
theorem g_552 : Cond.methodLink "BaubleHillLaw" 89 ⟨"BaubleHill", "ask", "(I)I"⟩ ∈ lw_g := g_s3 (i := 72) rfl rfl
theorem g_553 : Cond.instanceMethod ⟨"BaubleHill", "ask", "(I)I"⟩ ∈ lw_g := g_s3 (i := 73) rfl rfl
theorem g_554 : Cond.selects "BaubleHill" ⟨"BaubleHill", "ask", "(I)I"⟩ ⟨"BaubleHill", "ask", "(I)I"⟩ ∈ lw_g := g_s3 (i := 74) rfl rfl
theorem g_555 : Cond.code ⟨"BaubleHill", "ask", "(I)I"⟩ prog_1_method_20_code 7 (Option.some FieldType.int) ∈ lw_g := g_s3 (i := 75) rfl rfl
theorem g_556 : Cond.methodLink "BaubleHill" 192 ⟨"BaubleHill$Tree", "mostLeft", "(II)I"⟩ ∈ lw_g := g_s3 (i := 76) rfl rfl
theorem g_557 : Cond.instanceMethod ⟨"BaubleHill$Tree", "mostLeft", "(II)I"⟩ ∈ lw_g := g_s3 (i := 77) rfl rfl
theorem g_558 : Cond.selects "BaubleHill$Tree" ⟨"BaubleHill$Tree", "mostLeft", "(II)I"⟩ ⟨"BaubleHill$Tree", "mostLeft", "(II)I"⟩ ∈ lw_g := g_s3 (i := 78) rfl rfl
theorem g_559 : Cond.code ⟨"BaubleHill$Tree", "mostLeft", "(II)I"⟩ prog_11_method_9_code 5 (Option.some FieldType.int) ∈ lw_g := g_s3 (i := 79) rfl rfl
theorem g_560 : Cond.methodLink "BaubleHill$Tree" 39 ⟨"BaubleHill$Tree", "ring", "(III)I"⟩ ∈ lw_g := g_s3 (i := 80) rfl rfl
theorem g_561 : Cond.methodLink "BaubleHill$Tree" 43 ⟨"java/lang/Integer", "bitCount", "(I)I"⟩ ∈ lw_g := g_s3 (i := 81) rfl rfl
theorem g_562 : Cond.methodLink "BaubleHillLaw" 93 ⟨"BaubleHill", "cut", "(I)I"⟩ ∈ lw_g := g_s3 (i := 82) rfl rfl
theorem g_563 : Cond.instanceMethod ⟨"BaubleHill", "cut", "(I)I"⟩ ∈ lw_g := g_s3 (i := 83) rfl rfl
theorem g_564 : Cond.selects "BaubleHill" ⟨"BaubleHill", "cut", "(I)I"⟩ ⟨"BaubleHill", "cut", "(I)I"⟩ ∈ lw_g := g_s3 (i := 84) rfl rfl
theorem g_565 : Cond.code ⟨"BaubleHill", "cut", "(I)I"⟩ prog_1_method_21_code 3 (Option.some FieldType.int) ∈ lw_g := g_s3 (i := 85) rfl rfl
theorem g_566 : Cond.methodLink "BaubleHill" 195 ⟨"BaubleHill$Cutting", "worth", "(LBaubleHill$Tree;I)I"⟩ ∈ lw_g := g_s3 (i := 86) rfl rfl
theorem g_567 : Cond.instanceMethod ⟨"BaubleHill$Cutting", "worth", "(LBaubleHill$Tree;I)I"⟩ ∈ lw_g := g_s3 (i := 87) rfl rfl
theorem g_568 : Cond.selects "BaubleHill$Cutting" ⟨"BaubleHill$Cutting", "worth", "(LBaubleHill$Tree;I)I"⟩ ⟨"BaubleHill$Cutting", "worth", "(LBaubleHill$Tree;I)I"⟩ ∈ lw_g := g_s3 (i := 88) rfl rfl
theorem g_569 : Cond.code ⟨"BaubleHill$Cutting", "worth", "(LBaubleHill$Tree;I)I"⟩ prog_5_method_2_code 5 (Option.some FieldType.int) ∈ lw_g := g_s3 (i := 89) rfl rfl
theorem g_570 : Cond.methodLink "BaubleHill$Cutting" 15 ⟨"BaubleHill$Tree", "parentOf", "(I)I"⟩ ∈ lw_g := g_s3 (i := 90) rfl rfl
theorem g_571 : Cond.methodLink "BaubleHillLaw" 97 ⟨"BaubleHill", "tissue", "(IIIIII)J"⟩ ∈ lw_g := g_s3 (i := 91) rfl rfl
theorem g_572 : Cond.instanceMethod ⟨"BaubleHill", "tissue", "(IIIIII)J"⟩ ∈ lw_g := g_s3 (i := 92) rfl rfl
theorem g_573 : Cond.selects "BaubleHill" ⟨"BaubleHill", "tissue", "(IIIIII)J"⟩ ⟨"BaubleHill", "tissue", "(IIIIII)J"⟩ ∈ lw_g := g_s3 (i := 93) rfl rfl
theorem g_574 : Cond.code ⟨"BaubleHill", "tissue", "(IIIIII)J"⟩ prog_1_method_22_code 8 (Option.some FieldType.long) ∈ lw_g := g_s3 (i := 94) rfl rfl
theorem g_575 : Cond.constantLong "BaubleHill" 198 (-1000000000000000002) ∈ lw_g := g_s3 (i := 95) rfl rfl
theorem g_576 : Cond.methodLink "BaubleHill" 200 ⟨"BaubleHill$Chance", "waysAtLeast", "(IIII)J"⟩ ∈ lw_g := g_s3 (i := 96) rfl rfl
theorem g_577 : Cond.static ⟨"BaubleHill$Chance", "waysAtLeast", "(IIII)J"⟩ ∈ lw_g := g_s3 (i := 97) rfl rfl
theorem g_578 : Cond.code ⟨"BaubleHill$Chance", "waysAtLeast", "(IIII)J"⟩ prog_3_method_3_code 7 (Option.some FieldType.long) ∈ lw_g := g_s3 (i := 98) rfl rfl
theorem g_579 : Cond.methodLink "BaubleHill$Chance" 7 ⟨"BaubleHill$Chance", "ways", "(II)J"⟩ ∈ lw_g := g_s3 (i := 99) rfl rfl
theorem g_580 : Cond.static ⟨"BaubleHill$Chance", "ways", "(II)J"⟩ ∈ lw_g := g_s3 (i := 100) rfl rfl
theorem g_581 : Cond.code ⟨"BaubleHill$Chance", "ways", "(II)J"⟩ prog_3_method_2_code 5 (Option.some FieldType.long) ∈ lw_g := g_s3 (i := 101) rfl rfl
theorem g_582 : Cond.methodLink "BaubleHill" 206 ⟨"BaubleHill$Chance", "ways", "(II)J"⟩ ∈ lw_g := g_s3 (i := 102) rfl rfl
theorem g_583 : Cond.methodLink "BaubleHill" 210 ⟨"BaubleHill$Chance", "lowest", "(JJI)J"⟩ ∈ lw_g := g_s3 (i := 103) rfl rfl
theorem g_584 : Cond.static ⟨"BaubleHill$Chance", "lowest", "(JJI)J"⟩ ∈ lw_g := g_s3 (i := 104) rfl rfl
theorem g_585 : Cond.code ⟨"BaubleHill$Chance", "lowest", "(JJI)J"⟩ prog_3_method_4_code 7 (Option.some FieldType.long) ∈ lw_g := g_s3 (i := 105) rfl rfl
theorem g_586 : Cond.methodLink "BaubleHill$Chance" 13 ⟨"BaubleHill$Chance", "commonDivisor", "(JJ)J"⟩ ∈ lw_g := g_s3 (i := 106) rfl rfl
theorem g_587 : Cond.static ⟨"BaubleHill$Chance", "commonDivisor", "(JJ)J"⟩ ∈ lw_g := g_s3 (i := 107) rfl rfl
theorem g_588 : Cond.code ⟨"BaubleHill$Chance", "commonDivisor", "(JJ)J"⟩ prog_3_method_5_code 7 (Option.some FieldType.long) ∈ lw_g := g_s3 (i := 108) rfl rfl
theorem g_589 : Cond.methodLink "BaubleHill$Chance" 17 ⟨"java/lang/Math", "max", "(JJ)J"⟩ ∈ lw_g := g_s3 (i := 109) rfl rfl
theorem g_590 : Cond.static ⟨"java/lang/Math", "max", "(JJ)J"⟩ ∈ lw_g := g_s3 (i := 110) rfl rfl
theorem g_591 : Cond.code ⟨"java/lang/Math", "max", "(JJ)J"⟩ prog_16_method_66_code 4 (Option.some FieldType.long) ∈ lw_g := g_s3 (i := 111) rfl rfl
theorem g_592 : Cond.methodLink "BaubleHill" 214 ⟨"java/lang/Math", "max", "(II)I"⟩ ∈ lw_g := g_s3 (i := 112) rfl rfl
theorem g_593 : Cond.methodLink "BaubleHillLaw" 102 ⟨"BaubleHill", "year", "(III)I"⟩ ∈ lw_g := g_s3 (i := 113) rfl rfl
theorem g_594 : Cond.instanceMethod ⟨"BaubleHill", "year", "(III)I"⟩ ∈ lw_g := g_s3 (i := 114) rfl rfl
theorem g_595 : Cond.selects "BaubleHill" ⟨"BaubleHill", "year", "(III)I"⟩ ⟨"BaubleHill", "year", "(III)I"⟩ ∈ lw_g := g_s3 (i := 115) rfl rfl
theorem g_596 : Cond.code ⟨"BaubleHill", "year", "(III)I"⟩ prog_1_method_23_code 5 (Option.some FieldType.int) ∈ lw_g := g_s3 (i := 116) rfl rfl
theorem g_597 : Cond.methodLink "BaubleHill" 219 ⟨"BaubleHill$Year", "pass", "(LBaubleHill$Hill;II)LBaubleHill$Hill;"⟩ ∈ lw_g := g_s3 (i := 117) rfl rfl
theorem g_598 : Cond.instanceMethod ⟨"BaubleHill$Year", "pass", "(LBaubleHill$Hill;II)LBaubleHill$Hill;"⟩ ∈ lw_g := g_s3 (i := 118) rfl rfl
theorem g_599 : Cond.selects "BaubleHill$Year" ⟨"BaubleHill$Year", "pass", "(LBaubleHill$Hill;II)LBaubleHill$Hill;"⟩ ⟨"BaubleHill$Year", "pass", "(LBaubleHill$Hill;II)LBaubleHill$Hill;"⟩ ∈ lw_g := g_s3 (i := 119) rfl rfl
theorem g_600 : Cond.code ⟨"BaubleHill$Year", "pass", "(LBaubleHill$Hill;II)LBaubleHill$Hill;"⟩ prog_12_method_2_code 6 (Option.some (FieldType.object "BaubleHill$Hill")) ∈ lw_g := g_s3 (i := 120) rfl rfl
theorem g_601 : Cond.methodLink "BaubleHill$Year" 23 ⟨"BaubleHill$Hill", "copyFrom", "(LBaubleHill$Hill;)V"⟩ ∈ lw_g := g_s3 (i := 121) rfl rfl
theorem g_602 : Cond.constant "BaubleHill$Year" 27 (65537) ∈ lw_g := g_s3 (i := 122) rfl rfl
theorem g_603 : Cond.methodLink "BaubleHill$Year" 28 ⟨"BaubleHill$Year", "draw", "(I)V"⟩ ∈ lw_g := g_s3 (i := 123) rfl rfl
theorem g_605 : Cond.instanceMethod ⟨"BaubleHill$Year", "draw", "(I)V"⟩ ∈ lw_g := g_s3 (i := 125) rfl rfl
theorem g_606 : Cond.code ⟨"BaubleHill$Year", "draw", "(I)V"⟩ prog_12_method_3_code 4 none ∈ lw_g := g_s3 (i := 126) rfl rfl
theorem g_607 : Cond.methodLink "BaubleHill$Year" 40 ⟨"BaubleHill$Act", "set", "(III)V"⟩ ∈ lw_g := g_s3 (i := 127) rfl rfl
theorem g_608 : Cond.methodLink "BaubleHill$Year" 32 ⟨"BaubleHill$Hill", "whyNot", "(LBaubleHill$Act;)I"⟩ ∈ lw_g := g_s3 (i := 128) rfl rfl
theorem g_609 : Cond.methodLink "BaubleHill$Year" 36 ⟨"BaubleHill$Hill", "follow", "(LBaubleHill$Act;)V"⟩ ∈ lw_g := g_s3 (i := 129) rfl rfl
theorem g_610 : Cond.methodLink "BaubleHillLaw" 106 ⟨"BaubleHill", "image", "(I)I"⟩ ∈ lw_g := g_s3 (i := 130) rfl rfl
theorem g_611 : Cond.instanceMethod ⟨"BaubleHill", "image", "(I)I"⟩ ∈ lw_g := g_s3 (i := 131) rfl rfl
theorem g_612 : Cond.selects "BaubleHill" ⟨"BaubleHill", "image", "(I)I"⟩ ⟨"BaubleHill", "image", "(I)I"⟩ ∈ lw_g := g_s3 (i := 132) rfl rfl
theorem g_613 : Cond.code ⟨"BaubleHill", "image", "(I)I"⟩ prog_1_method_24_code 2 (Option.some FieldType.int) ∈ lw_g := g_s3 (i := 133) rfl rfl
theorem g_614 : Cond.methodLink "BaubleHill" 223 ⟨"BaubleHill", "imageOf", "(I)LBaubleHill$Image;"⟩ ∈ lw_g := g_s3 (i := 134) rfl rfl
theorem g_616 : Cond.instanceMethod ⟨"BaubleHill", "imageOf", "(I)LBaubleHill$Image;"⟩ ∈ lw_g := g_s3 (i := 136) rfl rfl
theorem g_617 : Cond.code ⟨"BaubleHill", "imageOf", "(I)LBaubleHill$Image;"⟩ prog_1_method_27_code 2 (Option.some (FieldType.object "BaubleHill$Image")) ∈ lw_g := g_s3 (i := 137) rfl rfl
theorem g_618 : Cond.methodLink "BaubleHill" 227 ⟨"BaubleHill$Image", "keep", "(LBaubleHill$Hill;LBaubleHill$Sights;)V"⟩ ∈ lw_g := g_s3 (i := 138) rfl rfl
theorem g_619 : Cond.instanceMethod ⟨"BaubleHill$Image", "keep", "(LBaubleHill$Hill;LBaubleHill$Sights;)V"⟩ ∈ lw_g := g_s3 (i := 139) rfl rfl
theorem g_620 : Cond.selects "BaubleHill$Image" ⟨"BaubleHill$Image", "keep", "(LBaubleHill$Hill;LBaubleHill$Sights;)V"⟩ ⟨"BaubleHill$Image", "keep", "(LBaubleHill$Hill;LBaubleHill$Sights;)V"⟩ ∈ lw_g := g_s3 (i := 140) rfl rfl
theorem g_621 : Cond.code ⟨"BaubleHill$Image", "keep", "(LBaubleHill$Hill;LBaubleHill$Sights;)V"⟩ prog_7_method_3_code 3 none ∈ lw_g := g_s3 (i := 141) rfl rfl
theorem g_622 : Cond.methodLink "BaubleHill$Image" 27 ⟨"BaubleHill$Hill", "copyFrom", "(LBaubleHill$Hill;)V"⟩ ∈ lw_g := g_s3 (i := 142) rfl rfl
theorem g_623 : Cond.methodLink "BaubleHill$Image" 31 ⟨"BaubleHill$Sights", "copyFrom", "(LBaubleHill$Sights;)V"⟩ ∈ lw_g := g_s3 (i := 143) rfl rfl
theorem g_624 : Cond.instanceMethod ⟨"BaubleHill$Sights", "copyFrom", "(LBaubleHill$Sights;)V"⟩ ∈ lw_g := g_s3 (i := 144) rfl rfl
theorem g_625 : Cond.selects "BaubleHill$Sights" ⟨"BaubleHill$Sights", "copyFrom", "(LBaubleHill$Sights;)V"⟩ ⟨"BaubleHill$Sights", "copyFrom", "(LBaubleHill$Sights;)V"⟩ ∈ lw_g := g_s3 (i := 145) rfl rfl
theorem g_626 : Cond.code ⟨"BaubleHill$Sights", "copyFrom", "(LBaubleHill$Sights;)V"⟩ prog_9_method_5_code 2 none ∈ lw_g := g_s3 (i := 146) rfl rfl
theorem g_628 : Cond.methodLink "BaubleHillLaw" 110 ⟨"BaubleHill", "restore", "(I)I"⟩ ∈ lw_g := g_s3 (i := 148) rfl rfl
theorem g_629 : Cond.instanceMethod ⟨"BaubleHill", "restore", "(I)I"⟩ ∈ lw_g := g_s3 (i := 149) rfl rfl
theorem g_630 : Cond.selects "BaubleHill" ⟨"BaubleHill", "restore", "(I)I"⟩ ⟨"BaubleHill", "restore", "(I)I"⟩ ∈ lw_g := g_s3 (i := 150) rfl rfl
theorem g_631 : Cond.code ⟨"BaubleHill", "restore", "(I)I"⟩ prog_1_method_25_code 2 (Option.some FieldType.int) ∈ lw_g := g_s3 (i := 151) rfl rfl
theorem g_632 : Cond.methodLink "BaubleHill" 231 ⟨"BaubleHill$Image", "isKept", "()Z"⟩ ∈ lw_g := g_s3 (i := 152) rfl rfl
theorem g_633 : Cond.instanceMethod ⟨"BaubleHill$Image", "isKept", "()Z"⟩ ∈ lw_g := g_s3 (i := 153) rfl rfl
theorem g_634 : Cond.selects "BaubleHill$Image" ⟨"BaubleHill$Image", "isKept", "()Z"⟩ ⟨"BaubleHill$Image", "isKept", "()Z"⟩ ∈ lw_g := g_s3 (i := 154) rfl rfl
theorem g_635 : Cond.code ⟨"BaubleHill$Image", "isKept", "()Z"⟩ prog_7_method_2_code 1 (Option.some FieldType.boolean) ∈ lw_g := g_s3 (i := 155) rfl rfl
theorem g_636 : Cond.methodLink "BaubleHill" 235 ⟨"BaubleHill$Image", "bringBack", "(LBaubleHill$Hill;LBaubleHill$Sights;)V"⟩ ∈ lw_g := g_s3 (i := 156) rfl rfl
theorem g_637 : Cond.instanceMethod ⟨"BaubleHill$Image", "bringBack", "(LBaubleHill$Hill;LBaubleHill$Sights;)V"⟩ ∈ lw_g := g_s3 (i := 157) rfl rfl
theorem g_638 : Cond.selects "BaubleHill$Image" ⟨"BaubleHill$Image", "bringBack", "(LBaubleHill$Hill;LBaubleHill$Sights;)V"⟩ ⟨"BaubleHill$Image", "bringBack", "(LBaubleHill$Hill;LBaubleHill$Sights;)V"⟩ ∈ lw_g := g_s3 (i := 158) rfl rfl
theorem g_639 : Cond.code ⟨"BaubleHill$Image", "bringBack", "(LBaubleHill$Hill;LBaubleHill$Sights;)V"⟩ prog_7_method_4_code 3 none ∈ lw_g := g_s3 (i := 159) rfl rfl
theorem g_640 : Cond.methodLink "BaubleHillLaw" 114 ⟨"BaubleHill", "told", "(I)I"⟩ ∈ lw_g := g_s3 (i := 160) rfl rfl
theorem g_641 : Cond.instanceMethod ⟨"BaubleHill", "told", "(I)I"⟩ ∈ lw_g := g_s3 (i := 161) rfl rfl
theorem g_642 : Cond.selects "BaubleHill" ⟨"BaubleHill", "told", "(I)I"⟩ ⟨"BaubleHill", "told", "(I)I"⟩ ∈ lw_g := g_s3 (i := 162) rfl rfl
theorem g_643 : Cond.code ⟨"BaubleHill", "told", "(I)I"⟩ prog_1_method_26_code 2 (Option.some FieldType.int) ∈ lw_g := g_s3 (i := 163) rfl rfl
theorem g_644 : Cond.classLink "BaubleHillLaw" 10 "BaubleHillModel" ∈ lw_g := g_s3 (i := 164) rfl rfl
theorem g_645 : Cond.instantiable "BaubleHillModel" 17 ∈ lw_g := g_s3 (i := 165) rfl rfl
theorem g_646 : Cond.methodLink "BaubleHillLaw" 12 ⟨"BaubleHillModel", "<init>", "()V"⟩ ∈ lw_g := g_s3 (i := 166) rfl rfl
theorem g_647 : Cond.instanceMethod ⟨"BaubleHillModel", "<init>", "()V"⟩ ∈ lw_g := g_s3 (i := 167) rfl rfl
theorem g_648 : Cond.code ⟨"BaubleHillModel", "<init>", "()V"⟩ prog_14_method_1_code 2 none ∈ lw_g := g_s3 (i := 168) rfl rfl
theorem g_649 : Cond.methodLink "BaubleHillModel" 1 ⟨"java/lang/Object", "<init>", "()V"⟩ ∈ lw_g := g_s3 (i := 169) rfl rfl
theorem g_650 : Cond.fieldLink "BaubleHillModel" 7 "BaubleHillModel" "book" "[I" ∈ lw_g := g_s3 (i := 170) rfl rfl
theorem g_651 : Cond.fieldLink "BaubleHillModel" 13 "BaubleHillModel" "now" "[I" ∈ lw_g := g_s3 (i := 171) rfl rfl
theorem g_652 : Cond.fieldLink "BaubleHillModel" 121 "BaubleHillModel" "sights" "I" ∈ lw_g := g_s3 (i := 172) rfl rfl
theorem g_653 : Cond.fieldLink "BaubleHillModel" 16 "BaubleHillModel" "sight" "[I" ∈ lw_g := g_s3 (i := 173) rfl rfl
theorem g_654 : Cond.fieldLink "BaubleHillModel" 53 "BaubleHillModel" "signs" "I" ∈ lw_g := g_s3 (i := 174) rfl rfl
theorem g_655 : Cond.fieldLink "BaubleHillModel" 19 "BaubleHillModel" "pad" "[I" ∈ lw_g := g_s3 (i := 175) rfl rfl
theorem g_656 : Cond.fieldLink "BaubleHillModel" 65 "BaubleHillModel" "came" "I" ∈ lw_g := g_s3 (i := 176) rfl rfl
theorem g_657 : Cond.fieldLink "BaubleHillModel" 68 "BaubleHillModel" "brokenAt" "I" ∈ lw_g := g_s3 (i := 177) rfl rfl
theorem g_658 : Cond.fieldLink "BaubleHillModel" 71 "BaubleHillModel" "brokenWhich" "I" ∈ lw_g := g_s3 (i := 178) rfl rfl
theorem g_659 : Cond.fieldLink "BaubleHillModel" 22 "BaubleHillModel" "more" "[I" ∈ lw_g := g_s3 (i := 179) rfl rfl
theorem g_660 : Cond.fieldLink "BaubleHillModel" 93 "BaubleHillModel" "reason" "I" ∈ lw_g := g_s3 (i := 180) rfl rfl
theorem g_661 : Cond.fieldLink "BaubleHillModel" 87 "BaubleHillModel" "acts" "I" ∈ lw_g := g_s3 (i := 181) rfl rfl
theorem g_662 : Cond.fieldLink "BaubleHillModel" 25 "BaubleHillModel" "counts" "[I" ∈ lw_g := g_s3 (i := 182) rfl rfl
theorem g_663 : Cond.fieldLink "BaubleHillModel" 28 "BaubleHillModel" "worth" "[I" ∈ lw_g := g_s3 (i := 183) rfl rfl
theorem g_664 : Cond.fieldLink "BaubleHillModel" 31 "BaubleHillModel" "choices" "[J" ∈ lw_g := g_s3 (i := 184) rfl rfl
theorem g_665 : Cond.fieldLink "BaubleHillModel" 35 "BaubleHillModel" "image" "[I" ∈ lw_g := g_s3 (i := 185) rfl rfl
theorem g_666 : Cond.fieldLink "BaubleHillModel" 38 "BaubleHillModel" "isKept" "[Z" ∈ lw_g := g_s3 (i := 186) rfl rfl
theorem g_702 : Cond.arrayClass FieldType.long ∈ lw_g := g_s3 (i := 222) rfl rfl
theorem g_703 : Cond.arrayClass FieldType.boolean ∈ lw_g := g_s3 (i := 223) rfl rfl
theorem g_704 : Cond.methodLink "BaubleHillLaw" 17 ⟨"BaubleHillModel", "branch", "(II)I"⟩ ∈ lw_g := g_s3 (i := 224) rfl rfl
theorem g_705 : Cond.instanceMethod ⟨"BaubleHillModel", "branch", "(II)I"⟩ ∈ lw_g := g_s3 (i := 225) rfl rfl
theorem g_706 : Cond.selects "BaubleHillModel" ⟨"BaubleHillModel", "branch", "(II)I"⟩ ⟨"BaubleHillModel", "branch", "(II)I"⟩ ∈ lw_g := g_s3 (i := 226) rfl rfl
theorem g_707 : Cond.code ⟨"BaubleHillModel", "branch", "(II)I"⟩ prog_14_method_5_code 4 (Option.some FieldType.int) ∈ lw_g := g_s3 (i := 227) rfl rfl
theorem g_708 : Cond.methodLink "BaubleHillModel" 42 ⟨"BaubleHillModel", "in", "(III)Z"⟩ ∈ lw_g := g_s3 (i := 228) rfl rfl
theorem g_709 : Cond.static ⟨"BaubleHillModel", "in", "(III)Z"⟩ ∈ lw_g := g_s3 (i := 229) rfl rfl
theorem g_710 : Cond.code ⟨"BaubleHillModel", "in", "(III)Z"⟩ prog_14_method_2_code 3 (Option.some FieldType.boolean) ∈ lw_g := g_s3 (i := 230) rfl rfl
theorem g_711 : Cond.methodLink "BaubleHillLaw" 22 ⟨"BaubleHillModel", "ball", "(III)I"⟩ ∈ lw_g := g_s3 (i := 231) rfl rfl
theorem g_712 : Cond.instanceMethod ⟨"BaubleHillModel", "ball", "(III)I"⟩ ∈ lw_g := g_s3 (i := 232) rfl rfl
theorem g_713 : Cond.selects "BaubleHillModel" ⟨"BaubleHillModel", "ball", "(III)I"⟩ ⟨"BaubleHillModel", "ball", "(III)I"⟩ ∈ lw_g := g_s3 (i := 233) rfl rfl
theorem g_714 : Cond.code ⟨"BaubleHillModel", "ball", "(III)I"⟩ prog_14_method_6_code 6 (Option.some FieldType.int) ∈ lw_g := g_s3 (i := 234) rfl rfl
theorem g_715 : Cond.methodLink "BaubleHillModel" 46 ⟨"BaubleHillModel", "asNow", "()V"⟩ ∈ lw_g := g_s3 (i := 235) rfl rfl
theorem g_717 : Cond.instanceMethod ⟨"BaubleHillModel", "asNow", "()V"⟩ ∈ lw_g := g_s3 (i := 237) rfl rfl
theorem g_718 : Cond.code ⟨"BaubleHillModel", "asNow", "()V"⟩ prog_14_method_12_code 2 none ∈ lw_g := g_s3 (i := 238) rfl rfl
theorem g_719 : Cond.methodLink "BaubleHillModel" 49 ⟨"BaubleHillModel", "ballOn", "(I)I"⟩ ∈ lw_g := g_s3 (i := 239) rfl rfl
theorem g_721 : Cond.instanceMethod ⟨"BaubleHillModel", "ballOn", "(I)I"⟩ ∈ lw_g := g_s4 (i := 1) rfl rfl
theorem g_722 : Cond.code ⟨"BaubleHillModel", "ballOn", "(I)I"⟩ prog_14_method_13_code 3 (Option.some FieldType.int) ∈ lw_g := g_s4 (i := 2) rfl rfl
theorem g_723 : Cond.methodLink "BaubleHillLaw" 27 ⟨"BaubleHillModel", "say", "(I)I"⟩ ∈ lw_g := g_s4 (i := 3) rfl rfl
theorem g_724 : Cond.instanceMethod ⟨"BaubleHillModel", "say", "(I)I"⟩ ∈ lw_g := g_s4 (i := 4) rfl rfl
theorem g_725 : Cond.selects "BaubleHillModel" ⟨"BaubleHillModel", "say", "(I)I"⟩ ⟨"BaubleHillModel", "say", "(I)I"⟩ ∈ lw_g := g_s4 (i := 5) rfl rfl
theorem g_726 : Cond.code ⟨"BaubleHillModel", "say", "(I)I"⟩ prog_14_method_7_code 2 (Option.some FieldType.int) ∈ lw_g := g_s4 (i := 6) rfl rfl
theorem g_727 : Cond.methodLink "BaubleHillLaw" 32 ⟨"BaubleHillModel", "wipe", "()I"⟩ ∈ lw_g := g_s4 (i := 7) rfl rfl
theorem g_728 : Cond.instanceMethod ⟨"BaubleHillModel", "wipe", "()I"⟩ ∈ lw_g := g_s4 (i := 8) rfl rfl
theorem g_729 : Cond.selects "BaubleHillModel" ⟨"BaubleHillModel", "wipe", "()I"⟩ ⟨"BaubleHillModel", "wipe", "()I"⟩ ∈ lw_g := g_s4 (i := 9) rfl rfl
theorem g_730 : Cond.code ⟨"BaubleHillModel", "wipe", "()I"⟩ prog_14_method_8_code 2 (Option.some FieldType.int) ∈ lw_g := g_s4 (i := 10) rfl rfl
theorem g_731 : Cond.methodLink "BaubleHillLaw" 36 ⟨"BaubleHillModel", "fault", "()I"⟩ ∈ lw_g := g_s4 (i := 11) rfl rfl
theorem g_732 : Cond.instanceMethod ⟨"BaubleHillModel", "fault", "()I"⟩ ∈ lw_g := g_s4 (i := 12) rfl rfl
theorem g_733 : Cond.selects "BaubleHillModel" ⟨"BaubleHillModel", "fault", "()I"⟩ ⟨"BaubleHillModel", "fault", "()I"⟩ ∈ lw_g := g_s4 (i := 13) rfl rfl
theorem g_734 : Cond.code ⟨"BaubleHillModel", "fault", "()I"⟩ prog_14_method_11_code 1 (Option.some FieldType.int) ∈ lw_g := g_s4 (i := 14) rfl rfl
theorem g_735 : Cond.methodLink "BaubleHillModel" 61 ⟨"BaubleHillModel", "faultOf", "()I"⟩ ∈ lw_g := g_s4 (i := 15) rfl rfl
theorem g_737 : Cond.instanceMethod ⟨"BaubleHillModel", "faultOf", "()I"⟩ ∈ lw_g := g_s4 (i := 17) rfl rfl
theorem g_738 : Cond.code ⟨"BaubleHillModel", "faultOf", "()I"⟩ prog_14_method_10_code 3 (Option.some FieldType.int) ∈ lw_g := g_s4 (i := 18) rfl rfl
theorem g_739 : Cond.methodLink "BaubleHillModel" 57 ⟨"BaubleHillModel", "step", "(II)I"⟩ ∈ lw_g := g_s4 (i := 19) rfl rfl
theorem g_740 : Cond.static ⟨"BaubleHillModel", "step", "(II)I"⟩ ∈ lw_g := g_s4 (i := 20) rfl rfl
theorem g_741 : Cond.code ⟨"BaubleHillModel", "step", "(II)I"⟩ prog_14_method_9_code 3 (Option.some FieldType.int) ∈ lw_g := g_s4 (i := 21) rfl rfl
theorem g_742 : Cond.methodLink "BaubleHillLaw" 40 ⟨"BaubleHillModel", "judge", "(I)I"⟩ ∈ lw_g := g_s4 (i := 22) rfl rfl
theorem g_743 : Cond.instanceMethod ⟨"BaubleHillModel", "judge", "(I)I"⟩ ∈ lw_g := g_s4 (i := 23) rfl rfl
theorem g_744 : Cond.selects "BaubleHillModel" ⟨"BaubleHillModel", "judge", "(I)I"⟩ ⟨"BaubleHillModel", "judge", "(I)I"⟩ ∈ lw_g := g_s4 (i := 24) rfl rfl
theorem g_745 : Cond.code ⟨"BaubleHillModel", "judge", "(I)I"⟩ prog_14_method_23_code 3 (Option.some FieldType.int) ∈ lw_g := g_s4 (i := 25) rfl rfl
theorem g_746 : Cond.methodLink "BaubleHillModel" 108 ⟨"BaubleHillModel", "goWinters", "()I"⟩ ∈ lw_g := g_s4 (i := 26) rfl rfl
theorem g_748 : Cond.instanceMethod ⟨"BaubleHillModel", "goWinters", "()I"⟩ ∈ lw_g := g_s4 (i := 28) rfl rfl
theorem g_749 : Cond.code ⟨"BaubleHillModel", "goWinters", "()I"⟩ prog_14_method_22_code 6 (Option.some FieldType.int) ∈ lw_g := g_s4 (i := 29) rfl rfl
theorem g_750 : Cond.methodLink "BaubleHillModel" 90 ⟨"BaubleHillModel", "endWinter", "()I"⟩ ∈ lw_g := g_s4 (i := 30) rfl rfl
theorem g_752 : Cond.instanceMethod ⟨"BaubleHillModel", "endWinter", "()I"⟩ ∈ lw_g := g_s4 (i := 32) rfl rfl
theorem g_753 : Cond.code ⟨"BaubleHillModel", "endWinter", "()I"⟩ prog_14_method_21_code 2 (Option.some FieldType.int) ∈ lw_g := g_s4 (i := 33) rfl rfl
theorem g_754 : Cond.methodLink "BaubleHillModel" 96 ⟨"BaubleHillModel", "bend", "(II)I"⟩ ∈ lw_g := g_s4 (i := 34) rfl rfl
theorem g_756 : Cond.instanceMethod ⟨"BaubleHillModel", "bend", "(II)I"⟩ ∈ lw_g := g_s4 (i := 36) rfl rfl
theorem g_757 : Cond.code ⟨"BaubleHillModel", "bend", "(II)I"⟩ prog_14_method_20_code 3 (Option.some FieldType.int) ∈ lw_g := g_s4 (i := 37) rfl rfl
theorem g_758 : Cond.methodLink "BaubleHillModel" 99 ⟨"BaubleHillModel", "blow", "(I)I"⟩ ∈ lw_g := g_s4 (i := 38) rfl rfl
theorem g_760 : Cond.instanceMethod ⟨"BaubleHillModel", "blow", "(I)I"⟩ ∈ lw_g := g_s4 (i := 40) rfl rfl
theorem g_761 : Cond.code ⟨"BaubleHillModel", "blow", "(I)I"⟩ prog_14_method_19_code 5 (Option.some FieldType.int) ∈ lw_g := g_s4 (i := 41) rfl rfl
theorem g_762 : Cond.methodLink "BaubleHillModel" 78 ⟨"BaubleHillModel", "hanging", "()I"⟩ ∈ lw_g := g_s4 (i := 42) rfl rfl
theorem g_764 : Cond.instanceMethod ⟨"BaubleHillModel", "hanging", "()I"⟩ ∈ lw_g := g_s4 (i := 44) rfl rfl
theorem g_765 : Cond.code ⟨"BaubleHillModel", "hanging", "()I"⟩ prog_14_method_14_code 3 (Option.some FieldType.int) ∈ lw_g := g_s4 (i := 45) rfl rfl
theorem g_766 : Cond.methodLink "BaubleHillModel" 81 ⟨"BaubleHillModel", "bits", "(I)I"⟩ ∈ lw_g := g_s4 (i := 46) rfl rfl
theorem g_767 : Cond.static ⟨"BaubleHillModel", "bits", "(I)I"⟩ ∈ lw_g := g_s4 (i := 47) rfl rfl
theorem g_768 : Cond.code ⟨"BaubleHillModel", "bits", "(I)I"⟩ prog_14_method_4_code 3 (Option.some FieldType.int) ∈ lw_g := g_s4 (i := 48) rfl rfl
theorem g_769 : Cond.methodLink "BaubleHillModel" 84 ⟨"BaubleHillModel", "apartOf", "(II)I"⟩ ∈ lw_g := g_s4 (i := 49) rfl rfl
theorem g_771 : Cond.instanceMethod ⟨"BaubleHillModel", "apartOf", "(II)I"⟩ ∈ lw_g := g_s4 (i := 51) rfl rfl
theorem g_772 : Cond.code ⟨"BaubleHillModel", "apartOf", "(II)I"⟩ prog_14_method_15_code 6 (Option.some FieldType.int) ∈ lw_g := g_s4 (i := 52) rfl rfl
theorem g_773 : Cond.methodLink "BaubleHillModel" 102 ⟨"BaubleHillModel", "pack", "(I)I"⟩ ∈ lw_g := g_s4 (i := 53) rfl rfl
theorem g_775 : Cond.instanceMethod ⟨"BaubleHillModel", "pack", "(I)I"⟩ ∈ lw_g := g_s4 (i := 55) rfl rfl
theorem g_776 : Cond.code ⟨"BaubleHillModel", "pack", "(I)I"⟩ prog_14_method_18_code 2 (Option.some FieldType.int) ∈ lw_g := g_s4 (i := 56) rfl rfl
theorem g_777 : Cond.methodLink "BaubleHillModel" 74 ⟨"BaubleHillModel", "has", "(II)Z"⟩ ∈ lw_g := g_s4 (i := 57) rfl rfl
theorem g_778 : Cond.static ⟨"BaubleHillModel", "has", "(II)Z"⟩ ∈ lw_g := g_s4 (i := 58) rfl rfl
theorem g_779 : Cond.code ⟨"BaubleHillModel", "has", "(II)Z"⟩ prog_14_method_3_code 2 (Option.some FieldType.boolean) ∈ lw_g := g_s4 (i := 59) rfl rfl
theorem g_780 : Cond.methodLink "BaubleHillModel" 105 ⟨"BaubleHillModel", "hang", "(II)I"⟩ ∈ lw_g := g_s4 (i := 60) rfl rfl
theorem g_782 : Cond.instanceMethod ⟨"BaubleHillModel", "hang", "(II)I"⟩ ∈ lw_g := g_s4 (i := 62) rfl rfl
theorem g_783 : Cond.code ⟨"BaubleHillModel", "hang", "(II)I"⟩ prog_14_method_17_code 4 (Option.some FieldType.int) ∈ lw_g := g_s4 (i := 63) rfl rfl
theorem g_784 : Cond.methodLink "BaubleHillLaw" 44 ⟨"BaubleHillModel", "done", "()I"⟩ ∈ lw_g := g_s4 (i := 64) rfl rfl
theorem g_785 : Cond.instanceMethod ⟨"BaubleHillModel", "done", "()I"⟩ ∈ lw_g := g_s4 (i := 65) rfl rfl
theorem g_786 : Cond.selects "BaubleHillModel" ⟨"BaubleHillModel", "done", "()I"⟩ ⟨"BaubleHillModel", "done", "()I"⟩ ∈ lw_g := g_s4 (i := 66) rfl rfl
theorem g_787 : Cond.code ⟨"BaubleHillModel", "done", "()I"⟩ prog_14_method_25_code 2 (Option.some FieldType.int) ∈ lw_g := g_s4 (i := 67) rfl rfl
theorem g_788 : Cond.methodLink "BaubleHillModel" 111 ⟨"BaubleHillModel", "barOfWinters", "()I"⟩ ∈ lw_g := g_s4 (i := 68) rfl rfl
theorem g_790 : Cond.instanceMethod ⟨"BaubleHillModel", "barOfWinters", "()I"⟩ ∈ lw_g := g_s4 (i := 70) rfl rfl
theorem g_791 : Cond.code ⟨"BaubleHillModel", "barOfWinters", "()I"⟩ prog_14_method_24_code 1 (Option.some FieldType.int) ∈ lw_g := g_s4 (i := 71) rfl rfl
theorem g_792 : Cond.methodLink "BaubleHillLaw" 48 ⟨"BaubleHillModel", "behind", "(II)I"⟩ ∈ lw_g := g_s4 (i := 72) rfl rfl
theorem g_793 : Cond.instanceMethod ⟨"BaubleHillModel", "behind", "(II)I"⟩ ∈ lw_g := g_s4 (i := 73) rfl rfl
theorem g_794 : Cond.selects "BaubleHillModel" ⟨"BaubleHillModel", "behind", "(II)I"⟩ ⟨"BaubleHillModel", "behind", "(II)I"⟩ ∈ lw_g := g_s4 (i := 74) rfl rfl
theorem g_795 : Cond.code ⟨"BaubleHillModel", "behind", "(II)I"⟩ prog_14_method_26_code 3 (Option.some FieldType.int) ∈ lw_g := g_s4 (i := 75) rfl rfl
theorem g_796 : Cond.methodLink "BaubleHillLaw" 52 ⟨"BaubleHillModel", "then", "(I)I"⟩ ∈ lw_g := g_s4 (i := 76) rfl rfl
theorem g_797 : Cond.instanceMethod ⟨"BaubleHillModel", "then", "(I)I"⟩ ∈ lw_g := g_s4 (i := 77) rfl rfl
theorem g_798 : Cond.selects "BaubleHillModel" ⟨"BaubleHillModel", "then", "(I)I"⟩ ⟨"BaubleHillModel", "then", "(I)I"⟩ ∈ lw_g := g_s4 (i := 78) rfl rfl
theorem g_799 : Cond.code ⟨"BaubleHillModel", "then", "(I)I"⟩ prog_14_method_27_code 2 (Option.some FieldType.int) ∈ lw_g := g_s4 (i := 79) rfl rfl
theorem g_800 : Cond.methodLink "BaubleHillLaw" 56 ⟨"BaubleHillModel", "apart", "(II)I"⟩ ∈ lw_g := g_s4 (i := 80) rfl rfl
theorem g_801 : Cond.instanceMethod ⟨"BaubleHillModel", "apart", "(II)I"⟩ ∈ lw_g := g_s4 (i := 81) rfl rfl
theorem g_802 : Cond.selects "BaubleHillModel" ⟨"BaubleHillModel", "apart", "(II)I"⟩ ⟨"BaubleHillModel", "apart", "(II)I"⟩ ∈ lw_g := g_s4 (i := 82) rfl rfl
theorem g_803 : Cond.code ⟨"BaubleHillModel", "apart", "(II)I"⟩ prog_14_method_29_code 3 (Option.some FieldType.int) ∈ lw_g := g_s4 (i := 83) rfl rfl
theorem g_804 : Cond.methodLink "BaubleHillModel" 114 ⟨"BaubleHillModel", "areLoops", "(II)Z"⟩ ∈ lw_g := g_s4 (i := 84) rfl rfl
theorem g_805 : Cond.static ⟨"BaubleHillModel", "areLoops", "(II)Z"⟩ ∈ lw_g := g_s4 (i := 85) rfl rfl
theorem g_806 : Cond.code ⟨"BaubleHillModel", "areLoops", "(II)Z"⟩ prog_14_method_28_code 2 (Option.some FieldType.boolean) ∈ lw_g := g_s4 (i := 86) rfl rfl
theorem g_807 : Cond.methodLink "BaubleHillLaw" 60 ⟨"BaubleHillModel", "meets", "(II)I"⟩ ∈ lw_g := g_s4 (i := 87) rfl rfl
theorem g_808 : Cond.instanceMethod ⟨"BaubleHillModel", "meets", "(II)I"⟩ ∈ lw_g := g_s4 (i := 88) rfl rfl
theorem g_809 : Cond.selects "BaubleHillModel" ⟨"BaubleHillModel", "meets", "(II)I"⟩ ⟨"BaubleHillModel", "meets", "(II)I"⟩ ∈ lw_g := g_s4 (i := 89) rfl rfl
theorem g_810 : Cond.code ⟨"BaubleHillModel", "meets", "(II)I"⟩ prog_14_method_30_code 3 (Option.some FieldType.int) ∈ lw_g := g_s4 (i := 90) rfl rfl
theorem g_811 : Cond.methodLink "BaubleHillModel" 117 ⟨"BaubleHillModel", "meetOf", "(II)I"⟩ ∈ lw_g := g_s4 (i := 91) rfl rfl
theorem g_813 : Cond.instanceMethod ⟨"BaubleHillModel", "meetOf", "(II)I"⟩ ∈ lw_g := g_s4 (i := 93) rfl rfl
theorem g_814 : Cond.code ⟨"BaubleHillModel", "meetOf", "(II)I"⟩ prog_14_method_16_code 5 (Option.some FieldType.int) ∈ lw_g := g_s4 (i := 94) rfl rfl
theorem g_815 : Cond.methodLink "BaubleHillLaw" 64 ⟨"BaubleHillModel", "sees", "(I)I"⟩ ∈ lw_g := g_s4 (i := 95) rfl rfl
theorem g_816 : Cond.instanceMethod ⟨"BaubleHillModel", "sees", "(I)I"⟩ ∈ lw_g := g_s4 (i := 96) rfl rfl
theorem g_817 : Cond.selects "BaubleHillModel" ⟨"BaubleHillModel", "sees", "(I)I"⟩ ⟨"BaubleHillModel", "sees", "(I)I"⟩ ∈ lw_g := g_s4 (i := 97) rfl rfl
theorem g_818 : Cond.code ⟨"BaubleHillModel", "sees", "(I)I"⟩ prog_14_method_31_code 9 (Option.some FieldType.int) ∈ lw_g := g_s4 (i := 98) rfl rfl
theorem g_819 : Cond.methodLink "BaubleHillLaw" 68 ⟨"BaubleHillModel", "near", "(I)I"⟩ ∈ lw_g := g_s4 (i := 99) rfl rfl
theorem g_820 : Cond.instanceMethod ⟨"BaubleHillModel", "near", "(I)I"⟩ ∈ lw_g := g_s4 (i := 100) rfl rfl
theorem g_821 : Cond.selects "BaubleHillModel" ⟨"BaubleHillModel", "near", "(I)I"⟩ ⟨"BaubleHillModel", "near", "(I)I"⟩ ∈ lw_g := g_s4 (i := 101) rfl rfl
theorem g_822 : Cond.code ⟨"BaubleHillModel", "near", "(I)I"⟩ prog_14_method_32_code 9 (Option.some FieldType.int) ∈ lw_g := g_s4 (i := 102) rfl rfl
theorem g_823 : Cond.constant "BaubleHillModel" 120 (1000000) ∈ lw_g := g_s4 (i := 103) rfl rfl
theorem g_824 : Cond.methodLink "BaubleHillLaw" 72 ⟨"BaubleHillModel", "room", "(II)I"⟩ ∈ lw_g := g_s4 (i := 104) rfl rfl
theorem g_825 : Cond.instanceMethod ⟨"BaubleHillModel", "room", "(II)I"⟩ ∈ lw_g := g_s4 (i := 105) rfl rfl
theorem g_826 : Cond.selects "BaubleHillModel" ⟨"BaubleHillModel", "room", "(II)I"⟩ ⟨"BaubleHillModel", "room", "(II)I"⟩ ∈ lw_g := g_s4 (i := 106) rfl rfl
theorem g_827 : Cond.code ⟨"BaubleHillModel", "room", "(II)I"⟩ prog_14_method_33_code 8 (Option.some FieldType.int) ∈ lw_g := g_s4 (i := 107) rfl rfl
theorem g_828 : Cond.methodLink "BaubleHillLaw" 76 ⟨"BaubleHillModel", "candles", "(II)I"⟩ ∈ lw_g := g_s4 (i := 108) rfl rfl
theorem g_829 : Cond.instanceMethod ⟨"BaubleHillModel", "candles", "(II)I"⟩ ∈ lw_g := g_s4 (i := 109) rfl rfl
theorem g_830 : Cond.selects "BaubleHillModel" ⟨"BaubleHillModel", "candles", "(II)I"⟩ ⟨"BaubleHillModel", "candles", "(II)I"⟩ ∈ lw_g := g_s4 (i := 110) rfl rfl
theorem g_831 : Cond.code ⟨"BaubleHillModel", "candles", "(II)I"⟩ prog_14_method_34_code 9 (Option.some FieldType.int) ∈ lw_g := g_s4 (i := 111) rfl rfl
theorem g_832 : Cond.methodLink "BaubleHillLaw" 80 ⟨"BaubleHillModel", "seen", "(II)I"⟩ ∈ lw_g := g_s4 (i := 112) rfl rfl
theorem g_833 : Cond.instanceMethod ⟨"BaubleHillModel", "seen", "(II)I"⟩ ∈ lw_g := g_s4 (i := 113) rfl rfl
theorem g_834 : Cond.selects "BaubleHillModel" ⟨"BaubleHillModel", "seen", "(II)I"⟩ ⟨"BaubleHillModel", "seen", "(II)I"⟩ ∈ lw_g := g_s4 (i := 114) rfl rfl
theorem g_835 : Cond.code ⟨"BaubleHillModel", "seen", "(II)I"⟩ prog_14_method_35_code 3 (Option.some FieldType.int) ∈ lw_g := g_s4 (i := 115) rfl rfl
theorem g_836 : Cond.methodLink "BaubleHillLaw" 84 ⟨"BaubleHillModel", "forget", "()I"⟩ ∈ lw_g := g_s4 (i := 116) rfl rfl
theorem g_837 : Cond.instanceMethod ⟨"BaubleHillModel", "forget", "()I"⟩ ∈ lw_g := g_s4 (i := 117) rfl rfl
theorem g_838 : Cond.selects "BaubleHillModel" ⟨"BaubleHillModel", "forget", "()I"⟩ ⟨"BaubleHillModel", "forget", "()I"⟩ ∈ lw_g := g_s4 (i := 118) rfl rfl
theorem g_839 : Cond.code ⟨"BaubleHillModel", "forget", "()I"⟩ prog_14_method_36_code 2 (Option.some FieldType.int) ∈ lw_g := g_s4 (i := 119) rfl rfl
theorem g_840 : Cond.methodLink "BaubleHillLaw" 88 ⟨"BaubleHillModel", "where", "(I)I"⟩ ∈ lw_g := g_s4 (i := 120) rfl rfl
theorem g_841 : Cond.instanceMethod ⟨"BaubleHillModel", "where", "(I)I"⟩ ∈ lw_g := g_s4 (i := 121) rfl rfl
theorem g_842 : Cond.selects "BaubleHillModel" ⟨"BaubleHillModel", "where", "(I)I"⟩ ⟨"BaubleHillModel", "where", "(I)I"⟩ ∈ lw_g := g_s4 (i := 122) rfl rfl
theorem g_843 : Cond.code ⟨"BaubleHillModel", "where", "(I)I"⟩ prog_14_method_38_code 4 (Option.some FieldType.int) ∈ lw_g := g_s4 (i := 123) rfl rfl
theorem g_844 : Cond.methodLink "BaubleHillModel" 124 ⟨"BaubleHillModel", "isFit", "(I)Z"⟩ ∈ lw_g := g_s4 (i := 124) rfl rfl
theorem g_846 : Cond.instanceMethod ⟨"BaubleHillModel", "isFit", "(I)Z"⟩ ∈ lw_g := g_s4 (i := 126) rfl rfl
theorem g_847 : Cond.code ⟨"BaubleHillModel", "isFit", "(I)Z"⟩ prog_14_method_37_code 4 (Option.some FieldType.boolean) ∈ lw_g := g_s4 (i := 127) rfl rfl
theorem g_848 : Cond.methodLink "BaubleHillLaw" 92 ⟨"BaubleHillModel", "ask", "(I)I"⟩ ∈ lw_g := g_s4 (i := 128) rfl rfl
theorem g_849 : Cond.instanceMethod ⟨"BaubleHillModel", "ask", "(I)I"⟩ ∈ lw_g := g_s4 (i := 129) rfl rfl
theorem g_850 : Cond.selects "BaubleHillModel" ⟨"BaubleHillModel", "ask", "(I)I"⟩ ⟨"BaubleHillModel", "ask", "(I)I"⟩ ∈ lw_g := g_s4 (i := 130) rfl rfl
theorem g_851 : Cond.code ⟨"BaubleHillModel", "ask", "(I)I"⟩ prog_14_method_39_code 8 (Option.some FieldType.int) ∈ lw_g := g_s4 (i := 131) rfl rfl
theorem g_852 : Cond.methodLink "BaubleHillLaw" 96 ⟨"BaubleHillModel", "cut", "(I)I"⟩ ∈ lw_g := g_s4 (i := 132) rfl rfl
theorem g_853 : Cond.instanceMethod ⟨"BaubleHillModel", "cut", "(I)I"⟩ ∈ lw_g := g_s4 (i := 133) rfl rfl
theorem g_854 : Cond.selects "BaubleHillModel" ⟨"BaubleHillModel", "cut", "(I)I"⟩ ⟨"BaubleHillModel", "cut", "(I)I"⟩ ∈ lw_g := g_s4 (i := 134) rfl rfl
theorem g_855 : Cond.code ⟨"BaubleHillModel", "cut", "(I)I"⟩ prog_14_method_41_code 4 (Option.some FieldType.int) ∈ lw_g := g_s4 (i := 135) rfl rfl
theorem g_856 : Cond.methodLink "BaubleHillModel" 128 ⟨"BaubleHillModel", "worthOf", "(I)I"⟩ ∈ lw_g := g_s4 (i := 136) rfl rfl
theorem g_858 : Cond.instanceMethod ⟨"BaubleHillModel", "worthOf", "(I)I"⟩ ∈ lw_g := g_s4 (i := 138) rfl rfl
theorem g_859 : Cond.code ⟨"BaubleHillModel", "worthOf", "(I)I"⟩ prog_14_method_40_code 3 (Option.some FieldType.int) ∈ lw_g := g_s4 (i := 139) rfl rfl
theorem g_860 : Cond.methodLink "BaubleHillLaw" 101 ⟨"BaubleHillModel", "tissue", "(IIIIII)J"⟩ ∈ lw_g := g_s4 (i := 140) rfl rfl
theorem g_861 : Cond.instanceMethod ⟨"BaubleHillModel", "tissue", "(IIIIII)J"⟩ ∈ lw_g := g_s4 (i := 141) rfl rfl
theorem g_862 : Cond.selects "BaubleHillModel" ⟨"BaubleHillModel", "tissue", "(IIIIII)J"⟩ ⟨"BaubleHillModel", "tissue", "(IIIIII)J"⟩ ∈ lw_g := g_s4 (i := 142) rfl rfl
theorem g_863 : Cond.code ⟨"BaubleHillModel", "tissue", "(IIIIII)J"⟩ prog_14_method_44_code 10 (Option.some FieldType.long) ∈ lw_g := g_s4 (i := 143) rfl rfl
theorem g_864 : Cond.constantLong "BaubleHillModel" 131 (-1000000000000000002) ∈ lw_g := g_s4 (i := 144) rfl rfl
theorem g_865 : Cond.methodLink "BaubleHillModel" 133 ⟨"BaubleHillModel", "lowest", "(JJI)J"⟩ ∈ lw_g := g_s4 (i := 145) rfl rfl
theorem g_866 : Cond.static ⟨"BaubleHillModel", "lowest", "(JJI)J"⟩ ∈ lw_g := g_s4 (i := 146) rfl rfl
theorem g_867 : Cond.code ⟨"BaubleHillModel", "lowest", "(JJI)J"⟩ prog_14_method_43_code 11 (Option.some FieldType.long) ∈ lw_g := g_s4 (i := 147) rfl rfl
theorem g_868 : Cond.methodLink "BaubleHillModel" 137 ⟨"BaubleHillModel", "layChoices", "()V"⟩ ∈ lw_g := g_s4 (i := 148) rfl rfl
theorem g_870 : Cond.instanceMethod ⟨"BaubleHillModel", "layChoices", "()V"⟩ ∈ lw_g := g_s4 (i := 150) rfl rfl
theorem g_871 : Cond.code ⟨"BaubleHillModel", "layChoices", "()V"⟩ prog_14_method_42_code 3 none ∈ lw_g := g_s4 (i := 151) rfl rfl
theorem g_872 : Cond.methodLink "BaubleHillLaw" 105 ⟨"BaubleHillModel", "year", "(III)I"⟩ ∈ lw_g := g_s4 (i := 152) rfl rfl
theorem g_873 : Cond.instanceMethod ⟨"BaubleHillModel", "year", "(III)I"⟩ ∈ lw_g := g_s4 (i := 153) rfl rfl
theorem g_874 : Cond.selects "BaubleHillModel" ⟨"BaubleHillModel", "year", "(III)I"⟩ ⟨"BaubleHillModel", "year", "(III)I"⟩ ∈ lw_g := g_s4 (i := 154) rfl rfl
theorem g_875 : Cond.code ⟨"BaubleHillModel", "year", "(III)I"⟩ prog_14_method_45_code 8 (Option.some FieldType.int) ∈ lw_g := g_s4 (i := 155) rfl rfl
theorem g_876 : Cond.constant "BaubleHillModel" 140 (65537) ∈ lw_g := g_s4 (i := 156) rfl rfl
theorem g_877 : Cond.methodLink "BaubleHillLaw" 109 ⟨"BaubleHillModel", "image", "(I)I"⟩ ∈ lw_g := g_s4 (i := 157) rfl rfl
theorem g_878 : Cond.instanceMethod ⟨"BaubleHillModel", "image", "(I)I"⟩ ∈ lw_g := g_s4 (i := 158) rfl rfl
theorem g_879 : Cond.selects "BaubleHillModel" ⟨"BaubleHillModel", "image", "(I)I"⟩ ⟨"BaubleHillModel", "image", "(I)I"⟩ ∈ lw_g := g_s4 (i := 159) rfl rfl
theorem g_880 : Cond.code ⟨"BaubleHillModel", "image", "(I)I"⟩ prog_14_method_46_code 4 (Option.some FieldType.int) ∈ lw_g := g_s4 (i := 160) rfl rfl
theorem g_881 : Cond.methodLink "BaubleHillLaw" 113 ⟨"BaubleHillModel", "restore", "(I)I"⟩ ∈ lw_g := g_s4 (i := 161) rfl rfl
theorem g_882 : Cond.instanceMethod ⟨"BaubleHillModel", "restore", "(I)I"⟩ ∈ lw_g := g_s4 (i := 162) rfl rfl
theorem g_883 : Cond.selects "BaubleHillModel" ⟨"BaubleHillModel", "restore", "(I)I"⟩ ⟨"BaubleHillModel", "restore", "(I)I"⟩ ∈ lw_g := g_s4 (i := 163) rfl rfl
theorem g_884 : Cond.code ⟨"BaubleHillModel", "restore", "(I)I"⟩ prog_14_method_47_code 4 (Option.some FieldType.int) ∈ lw_g := g_s4 (i := 164) rfl rfl
theorem g_885 : Cond.methodLink "BaubleHillLaw" 117 ⟨"BaubleHillModel", "told", "(I)I"⟩ ∈ lw_g := g_s4 (i := 165) rfl rfl
theorem g_886 : Cond.instanceMethod ⟨"BaubleHillModel", "told", "(I)I"⟩ ∈ lw_g := g_s4 (i := 166) rfl rfl
theorem g_887 : Cond.selects "BaubleHillModel" ⟨"BaubleHillModel", "told", "(I)I"⟩ ⟨"BaubleHillModel", "told", "(I)I"⟩ ∈ lw_g := g_s4 (i := 167) rfl rfl
theorem g_888 : Cond.code ⟨"BaubleHillModel", "told", "(I)I"⟩ prog_14_method_48_code 2 (Option.some FieldType.int) ∈ lw_g := g_s4 (i := 168) rfl rfl
theorem gs_0 : Cond.selects "BaubleHill$Pad" ⟨"BaubleHill$Pad", "signAt", "(I)I"⟩ ⟨"BaubleHill$Pad", "signAt", "(I)I"⟩ ∈ lw_g := g_mem (i := 0) rfl rfl
theorem gs_1 : Cond.selects "BaubleHill$Hill" ⟨"BaubleHill$Hill", "blow", "(I)V"⟩ ⟨"BaubleHill$Hill", "blow", "(I)V"⟩ ∈ lw_g := g_mem (i := 1) rfl rfl
theorem gs_2 : Cond.selects "BaubleHill$Hill" ⟨"BaubleHill$Hill", "chip", "(II)V"⟩ ⟨"BaubleHill$Hill", "chip", "(II)V"⟩ ∈ lw_g := g_mem (i := 2) rfl rfl
theorem gs_3 : Cond.selects "BaubleHill$Hill" ⟨"BaubleHill$Hill", "packAll", "()V"⟩ ⟨"BaubleHill$Hill", "packAll", "()V"⟩ ∈ lw_g := g_mem (i := 3) rfl rfl
theorem gs_4 : Cond.selects "BaubleHill$Telling" ⟨"BaubleHill$Telling", "noteBroken", "(I)V"⟩ ⟨"BaubleHill$Telling", "noteBroken", "(I)V"⟩ ∈ lw_g := g_mem (i := 4) rfl rfl
theorem gs_5 : Cond.selects "BaubleHill$Choice" ⟨"BaubleHill$Choice", "lookAround", "(LBaubleHill$Tree;I)V"⟩ ⟨"BaubleHill$Choice", "lookAround", "(LBaubleHill$Tree;I)V"⟩ ∈ lw_g := g_mem (i := 5) rfl rfl
theorem gs_6 : Cond.selects "BaubleHill$Choice" ⟨"BaubleHill$Choice", "standsApart", "(I)Z"⟩ ⟨"BaubleHill$Choice", "standsApart", "(I)Z"⟩ ∈ lw_g := g_mem (i := 6) rfl rfl
theorem gs_7 : Cond.selects "BaubleHill$Choice" ⟨"BaubleHill$Choice", "lightsAll", "(I)Z"⟩ ⟨"BaubleHill$Choice", "lightsAll", "(I)Z"⟩ ∈ lw_g := g_mem (i := 7) rfl rfl
theorem gs_8 : Cond.selects "BaubleHill$Year" ⟨"BaubleHill$Year", "draw", "(I)V"⟩ ⟨"BaubleHill$Year", "draw", "(I)V"⟩ ∈ lw_g := g_mem (i := 8) rfl rfl
theorem gs_9 : Cond.selects "BaubleHill" ⟨"BaubleHill", "imageOf", "(I)LBaubleHill$Image;"⟩ ⟨"BaubleHill", "imageOf", "(I)LBaubleHill$Image;"⟩ ∈ lw_g := g_mem (i := 9) rfl rfl
theorem gs_10 : Cond.selects "BaubleHillModel" ⟨"BaubleHillModel", "asNow", "()V"⟩ ⟨"BaubleHillModel", "asNow", "()V"⟩ ∈ lw_g := g_mem (i := 10) rfl rfl
theorem gs_11 : Cond.selects "BaubleHillModel" ⟨"BaubleHillModel", "ballOn", "(I)I"⟩ ⟨"BaubleHillModel", "ballOn", "(I)I"⟩ ∈ lw_g := g_mem (i := 11) rfl rfl
theorem gs_12 : Cond.selects "BaubleHillModel" ⟨"BaubleHillModel", "faultOf", "()I"⟩ ⟨"BaubleHillModel", "faultOf", "()I"⟩ ∈ lw_g := g_mem (i := 12) rfl rfl
theorem gs_13 : Cond.selects "BaubleHillModel" ⟨"BaubleHillModel", "goWinters", "()I"⟩ ⟨"BaubleHillModel", "goWinters", "()I"⟩ ∈ lw_g := g_mem (i := 13) rfl rfl
theorem gs_14 : Cond.selects "BaubleHillModel" ⟨"BaubleHillModel", "endWinter", "()I"⟩ ⟨"BaubleHillModel", "endWinter", "()I"⟩ ∈ lw_g := g_mem (i := 14) rfl rfl
theorem gs_15 : Cond.selects "BaubleHillModel" ⟨"BaubleHillModel", "bend", "(II)I"⟩ ⟨"BaubleHillModel", "bend", "(II)I"⟩ ∈ lw_g := g_mem (i := 15) rfl rfl
theorem gs_16 : Cond.selects "BaubleHillModel" ⟨"BaubleHillModel", "blow", "(I)I"⟩ ⟨"BaubleHillModel", "blow", "(I)I"⟩ ∈ lw_g := g_mem (i := 16) rfl rfl
theorem gs_17 : Cond.selects "BaubleHillModel" ⟨"BaubleHillModel", "hanging", "()I"⟩ ⟨"BaubleHillModel", "hanging", "()I"⟩ ∈ lw_g := g_mem (i := 17) rfl rfl
theorem gs_18 : Cond.selects "BaubleHillModel" ⟨"BaubleHillModel", "apartOf", "(II)I"⟩ ⟨"BaubleHillModel", "apartOf", "(II)I"⟩ ∈ lw_g := g_mem (i := 18) rfl rfl
theorem gs_19 : Cond.selects "BaubleHillModel" ⟨"BaubleHillModel", "pack", "(I)I"⟩ ⟨"BaubleHillModel", "pack", "(I)I"⟩ ∈ lw_g := g_mem (i := 19) rfl rfl
theorem gs_20 : Cond.selects "BaubleHillModel" ⟨"BaubleHillModel", "hang", "(II)I"⟩ ⟨"BaubleHillModel", "hang", "(II)I"⟩ ∈ lw_g := g_mem (i := 20) rfl rfl
theorem gs_21 : Cond.selects "BaubleHillModel" ⟨"BaubleHillModel", "barOfWinters", "()I"⟩ ⟨"BaubleHillModel", "barOfWinters", "()I"⟩ ∈ lw_g := g_mem (i := 21) rfl rfl
theorem gs_22 : Cond.selects "BaubleHillModel" ⟨"BaubleHillModel", "meetOf", "(II)I"⟩ ⟨"BaubleHillModel", "meetOf", "(II)I"⟩ ∈ lw_g := g_mem (i := 22) rfl rfl
theorem gs_23 : Cond.selects "BaubleHillModel" ⟨"BaubleHillModel", "isFit", "(I)Z"⟩ ⟨"BaubleHillModel", "isFit", "(I)Z"⟩ ∈ lw_g := g_mem (i := 23) rfl rfl
theorem gs_24 : Cond.selects "BaubleHillModel" ⟨"BaubleHillModel", "worthOf", "(I)I"⟩ ⟨"BaubleHillModel", "worthOf", "(I)I"⟩ ∈ lw_g := g_mem (i := 24) rfl rfl
theorem gs_25 : Cond.selects "BaubleHillModel" ⟨"BaubleHillModel", "layChoices", "()V"⟩ ⟨"BaubleHillModel", "layChoices", "()V"⟩ ∈ lw_g := g_mem (i := 25) rfl rfl
/-- the words of calls of a nest mate's private methods -/
def w_nest : List (String × Nat × MethodName × String) := [("BaubleHill", 18, ⟨"BaubleHill$Sights", "<init>", "()V"⟩, "BaubleHill"), ("BaubleHill", 25, ⟨"BaubleHill$Pad", "<init>", "()V"⟩, "BaubleHill"), ("BaubleHill", 32, ⟨"BaubleHill$Telling", "<init>", "()V"⟩, "BaubleHill"), ("BaubleHill$Telling", 20, ⟨"BaubleHill$Act", "<init>", "()V"⟩, "BaubleHill"), ("BaubleHill", 39, ⟨"BaubleHill$Choice", "<init>", "()V"⟩, "BaubleHill"), ("BaubleHill", 46, ⟨"BaubleHill$Cutting", "<init>", "()V"⟩, "BaubleHill"), ("BaubleHill", 53, ⟨"BaubleHill$Year", "<init>", "()V"⟩, "BaubleHill"), ("BaubleHill$Year", 18, ⟨"BaubleHill$Act", "<init>", "()V"⟩, "BaubleHill"), ("BaubleHill", 60, ⟨"BaubleHill$Image", "<init>", "()V"⟩, "BaubleHill"), ("BaubleHill$Image", 18, ⟨"BaubleHill$Sights", "<init>", "()V"⟩, "BaubleHill"), ("BaubleHill$Hill", 32, ⟨"BaubleHill", "holds", "(II)Z"⟩, "BaubleHill"), ("BaubleHill$Pad", 43, ⟨"BaubleHill", "isLoop", "(I)Z"⟩, "BaubleHill"), ("BaubleHill$Pad", 46, ⟨"BaubleHill", "isBall", "(I)Z"⟩, "BaubleHill"), ("BaubleHill$Tree", 15, ⟨"BaubleHill", "copyRow", "([I[I)V"⟩, "BaubleHill"), ("BaubleHill$Hill", 48, ⟨"BaubleHill", "copyRow", "([I[I)V"⟩, "BaubleHill"), ("BaubleHill$Telling", 70, ⟨"BaubleHill", "memberAt", "(II)I"⟩, "BaubleHill"), ("BaubleHill$Tree", 35, ⟨"BaubleHill", "holds", "(II)Z"⟩, "BaubleHill"), ("BaubleHill$Choice", 38, ⟨"BaubleHill", "holds", "(II)Z"⟩, "BaubleHill"), ("BaubleHill$Sights", 22, ⟨"BaubleHill", "copyRow", "([I[I)V"⟩, "BaubleHill")]
theorem gn_0 : Cond.methodLinkNest "BaubleHill" 18 ⟨"BaubleHill$Sights", "<init>", "()V"⟩ "BaubleHill" ∈ lw_tbl := g_n1 (i := 59) rfl
theorem gn_1 : Cond.methodLinkNest "BaubleHill" 25 ⟨"BaubleHill$Pad", "<init>", "()V"⟩ "BaubleHill" ∈ lw_tbl := g_n1 (i := 75) rfl
theorem gn_2 : Cond.methodLinkNest "BaubleHill" 32 ⟨"BaubleHill$Telling", "<init>", "()V"⟩ "BaubleHill" ∈ lw_tbl := g_n1 (i := 88) rfl
theorem gn_3 : Cond.methodLinkNest "BaubleHill$Telling" 20 ⟨"BaubleHill$Act", "<init>", "()V"⟩ "BaubleHill" ∈ lw_tbl := g_n1 (i := 96) rfl
theorem gn_4 : Cond.methodLinkNest "BaubleHill" 39 ⟨"BaubleHill$Choice", "<init>", "()V"⟩ "BaubleHill" ∈ lw_tbl := g_n1 (i := 131) rfl
theorem gn_5 : Cond.methodLinkNest "BaubleHill" 46 ⟨"BaubleHill$Cutting", "<init>", "()V"⟩ "BaubleHill" ∈ lw_tbl := g_n1 (i := 141) rfl
theorem gn_6 : Cond.methodLinkNest "BaubleHill" 53 ⟨"BaubleHill$Year", "<init>", "()V"⟩ "BaubleHill" ∈ lw_tbl := g_n1 (i := 151) rfl
theorem gn_7 : Cond.methodLinkNest "BaubleHill$Year" 18 ⟨"BaubleHill$Act", "<init>", "()V"⟩ "BaubleHill" ∈ lw_tbl := g_n1 (i := 158) rfl
theorem gn_8 : Cond.methodLinkNest "BaubleHill" 60 ⟨"BaubleHill$Image", "<init>", "()V"⟩ "BaubleHill" ∈ lw_tbl := g_n1 (i := 168) rfl
theorem gn_9 : Cond.methodLinkNest "BaubleHill$Image" 18 ⟨"BaubleHill$Sights", "<init>", "()V"⟩ "BaubleHill" ∈ lw_tbl := g_n1 (i := 175) rfl
theorem gn_10 : Cond.methodLinkNest "BaubleHill$Hill" 32 ⟨"BaubleHill", "holds", "(II)Z"⟩ "BaubleHill" ∈ lw_tbl := g_n2 (i := 12) rfl
theorem gn_11 : Cond.methodLinkNest "BaubleHill$Pad" 43 ⟨"BaubleHill", "isLoop", "(I)Z"⟩ "BaubleHill" ∈ lw_tbl := g_n2 (i := 51) rfl
theorem gn_12 : Cond.methodLinkNest "BaubleHill$Pad" 46 ⟨"BaubleHill", "isBall", "(I)Z"⟩ "BaubleHill" ∈ lw_tbl := g_n2 (i := 55) rfl
theorem gn_13 : Cond.methodLinkNest "BaubleHill$Tree" 15 ⟨"BaubleHill", "copyRow", "([I[I)V"⟩ "BaubleHill" ∈ lw_tbl := g_n2 (i := 78) rfl
theorem gn_14 : Cond.methodLinkNest "BaubleHill$Hill" 48 ⟨"BaubleHill", "copyRow", "([I[I)V"⟩ "BaubleHill" ∈ lw_tbl := g_n2 (i := 81) rfl
theorem gn_15 : Cond.methodLinkNest "BaubleHill$Telling" 70 ⟨"BaubleHill", "memberAt", "(II)I"⟩ "BaubleHill" ∈ lw_tbl := g_n2 (i := 170) rfl
theorem gn_16 : Cond.methodLinkNest "BaubleHill$Tree" 35 ⟨"BaubleHill", "holds", "(II)Z"⟩ "BaubleHill" ∈ lw_tbl := g_n3 (i := 10) rfl
theorem gn_17 : Cond.methodLinkNest "BaubleHill$Choice" 38 ⟨"BaubleHill", "holds", "(II)Z"⟩ "BaubleHill" ∈ lw_tbl := g_n3 (i := 29) rfl
theorem gn_18 : Cond.methodLinkNest "BaubleHill$Sights" 22 ⟨"BaubleHill", "copyRow", "([I[I)V"⟩ "BaubleHill" ∈ lw_tbl := g_n3 (i := 147) rfl
end
section
/-! A world by numbers: the cells of the system have numbers 0, 1, ..; what they hold is a memory of ints, longs and references by number and place. -/
abbrev wM : Type := (Nat → Nat → Int32) × (Nat → Nat → Int64) × (Nat → Nat → Option Nat)
/-- kind (0 to 11 a class of vwCl, 12 int[], 13 long[], 14 boolean[]) and length, by number -/
abbrev wSh : Type := List (Nat × Nat)
abbrev wD : Type := ClassId × ClassId × ClassId
def w_cv (ad : Nat → Nat) : Value → Value
  | .ref k => .ref (ad k)
  | v => v
theorem w_cv_cat (ad : Nat → Nat) (v : Value) : (w_cv ad v).category = v.category := by cases v <;> rfl
def w_fs (ad : Nat → Nat) (M : wM) (k : Nat) : Nat → List Bool → List Value
  | _, [] => []
  | i, true :: t => va_rf ((M.2.2 k i).map ad) :: w_fs ad M k (i + 1) t
  | i, false :: t => .int (M.1 k i) :: w_fs ad M k (i + 1) t
def w_cell (D3 : wD) (ad : Nat → Nat) (M : wM) (k : Nat) (s : Nat × Nat) : va_E :=
  if s.1 = 12 then .inl (D3.1, s.2, .inl (M.1 k)) else if s.1 = 13 then .inl (D3.2.1, s.2, .inr (.inl (M.2.1 k))) else if s.1 = 14 then .inl (D3.2.2, s.2, .inl (M.1 k)) else .inr (s.1, w_fs ad M k 0 (w_fk s.1))
def w_W (D3 : wD) (ad : Nat → Nat) (sh : wSh) (M : wM) : va_W := sh.mapIdx (fun k s => (ad k, w_cell D3 ad M k s))
def w_ty (D3 : wD) : List (ClassId × FieldType) := [(D3.1, .int), (D3.2.1, .long), (D3.2.2, .boolean)]
def w_ui (M : wM) (k j : Nat) (x : Int32) : wM := (va_up M.1 k (upd (M.1 k) j x), M.2)
def w_ul (M : wM) (k j : Nat) (x : Int64) : wM := (M.1, va_up M.2.1 k (vp_updL (M.2.1 k) j x), M.2.2)
def w_ur (M : wM) (k j : Nat) (x : Option Nat) : wM := (M.1, M.2.1, va_up M.2.2 k (fun i => if i = j then x else M.2.2 k i))
theorem w_ui_2 (M : wM) (k j : Nat) (x : Int32) : (w_ui M k j x).2 = M.2 := rfl
theorem w_ui_at (M : wM) (k j : Nat) (x : Int32) : (w_ui M k j x).1 k j = x := by simp [w_ui, va_up, upd]
theorem w_ui_row (M : wM) (k j i : Nat) (x : Int32) (h : i ≠ j) : (w_ui M k j x).1 k i = M.1 k i := by simp [w_ui, va_up, upd, h]
theorem w_ui_off (M : wM) (k j a : Nat) (x : Int32) (h : a ≠ k) : (w_ui M k j x).1 a = M.1 a := by simp [w_ui, va_up, h]
theorem w_ui_if (M : wM) (k j a i : Nat) (x : Int32) : (w_ui M k j x).1 a i = if a = k ∧ i = j then x else M.1 a i := by
  by_cases h : a = k
  · subst h
    by_cases h2 : i = j
    · subst h2; simp [w_ui_at]
    · simp [w_ui_row _ _ _ _ _ h2, h2]
  · rw [w_ui_off _ _ _ _ _ h]; simp [h]
theorem w_ul_1 (M : wM) (k j : Nat) (x : Int64) : (w_ul M k j x).1 = M.1 := rfl
theorem w_ul_22 (M : wM) (k j : Nat) (x : Int64) : (w_ul M k j x).2.2 = M.2.2 := rfl
theorem w_ul_if (M : wM) (k j a i : Nat) (x : Int64) : (w_ul M k j x).2.1 a i = if a = k ∧ i = j then x else M.2.1 a i := by
  by_cases h : a = k
  · subst h
    by_cases h2 : i = j
    · subst h2; simp [w_ul, va_up, vp_updL]
    · simp [w_ul, va_up, vp_updL, h2]
  · simp [w_ul, va_up, h]
theorem w_ur_1 (M : wM) (k j : Nat) (x : Option Nat) : (w_ur M k j x).1 = M.1 := rfl
theorem w_ur_21 (M : wM) (k j : Nat) (x : Option Nat) : (w_ur M k j x).2.1 = M.2.1 := rfl
theorem w_ur_if (M : wM) (k j a i : Nat) (x : Option Nat) : (w_ur M k j x).2.2 a i = if a = k ∧ i = j then x else M.2.2 a i := by
  by_cases h : a = k
  · subst h; simp [w_ur, va_up]
  · simp [w_ur, va_up, h]
theorem w_get {D3 : wD} {ad : Nat → Nat} {sh : wSh} {M : wM} {k : Nat} {s : Nat × Nat} (h : sh[k]? = some s) : (w_W D3 ad sh M)[k]? = some (ad k, w_cell D3 ad M k s) := by
  simp [w_W, List.getElem?_mapIdx, h]
theorem w_len (D3 : wD) (ad : Nat → Nat) (sh : wSh) (M : wM) : (w_W D3 ad sh M).length = sh.length := by simp [w_W]
theorem w_fs_len (ad : Nat → Nat) (M : wM) (k : Nat) : ∀ (t : List Bool) (i : Nat), (w_fs ad M k i t).length = t.length
  | [], _ => rfl
  | true :: t, i => by simp [w_fs, w_fs_len ad M k t (i + 1)]
  | false :: t, i => by simp [w_fs, w_fs_len ad M k t (i + 1)]
def w_fv (ad : Nat → Nat) (M : wM) (k : Nat) (i : Nat) : Bool → Value
  | true => va_rf ((M.2.2 k i).map ad)
  | false => .int (M.1 k i)
theorem w_fs_get (ad : Nat → Nat) (M : wM) (k : Nat) : ∀ (t : List Bool) (i j : Nat) (b : Bool), t[j]? = some b → (w_fs ad M k i t)[j]? = some (w_fv ad M k (i + j) b)
  | [], _, _, _, h => by simp at h
  | c :: t, i, 0, b, h => by
    simp at h
    subst h
    cases c <;> simp [w_fs, w_fv]
  | c :: t, i, j + 1, b, h => by
    simp at h
    have h2 := w_fs_get ad M k t (i + 1) j b h
    cases c <;> simp [w_fs, h2, Nat.add_assoc, Nat.add_comm 1 j]
theorem w_fs_congr (ad ad' : Nat → Nat) (M M' : wM) (k : Nat) (h1 : M'.1 k = M.1 k) (h2 : ∀ i, (M'.2.2 k i).map ad' = (M.2.2 k i).map ad) : ∀ (t : List Bool) (i : Nat), w_fs ad' M' k i t = w_fs ad M k i t
  | [], _ => rfl
  | true :: t, i => by simp only [w_fs, h2, w_fs_congr ad ad' M M' k h1 h2 t (i + 1)]
  | false :: t, i => by simp only [w_fs, h1, w_fs_congr ad ad' M M' k h1 h2 t (i + 1)]
theorem w_fs_set {ad : Nat → Nat} {M M' : wM} {k : Nat} {t : List Bool} {j : Nat} {v : Value} {b : Bool} (hj : t[j]? = some b) (hv : w_fv ad M' k j b = v) (h1 : ∀ i, i ≠ j → M'.1 k i = M.1 k i) (h2 : ∀ i, i ≠ j → M'.2.2 k i = M.2.2 k i) : (w_fs ad M k 0 t).set j v = w_fs ad M' k 0 t := by
  apply List.ext_getElem?
  intro i
  have hl : j < (w_fs ad M k 0 t).length := by rw [w_fs_len]; exact (List.getElem?_eq_some_iff.mp hj).1
  by_cases hi : i = j
  · subst hi
    rw [List.getElem?_set_self hl, w_fs_get ad M' k t 0 i b hj, Nat.zero_add, hv]
  · rw [List.getElem?_set_ne (Ne.symm hi)]
    cases hc : t[i]? with
    | none =>
      have hl2 : t.length ≤ i := by simpa using hc
      rw [List.getElem?_eq_none (by rw [w_fs_len]; exact hl2), List.getElem?_eq_none (by rw [w_fs_len]; exact hl2)]
    | some c =>
      rw [w_fs_get ad M k t 0 i c hc, w_fs_get ad M' k t 0 i c hc]
      cases c <;> simp [w_fv, h1 i hi, h2 i hi]
theorem w_cell_congr {D3 : wD} {ad ad' : Nat → Nat} {M M' : wM} {k : Nat} {s : Nat × Nat} (h1 : M'.1 k = M.1 k) (h2 : M'.2.1 k = M.2.1 k) (h3 : ∀ i, (M'.2.2 k i).map ad' = (M.2.2 k i).map ad) : w_cell D3 ad' M' k s = w_cell D3 ad M k s := by
  simp only [w_cell, h1, h2, w_fs_congr ad ad' M M' k h1 h3]
theorem w_set {D3 : wD} {ad : Nat → Nat} {sh : wSh} {M M' : wM} {k : Nat} {s : Nat × Nat} {e : va_E} (h : sh[k]? = some s) (he : e = w_cell D3 ad M' k s) (ho : ∀ j, j ≠ k → M'.1 j = M.1 j ∧ M'.2.1 j = M.2.1 j ∧ M'.2.2 j = M.2.2 j) : (w_W D3 ad sh M).set k (ad k, e) = w_W D3 ad sh M' := by
  apply List.ext_getElem?
  intro i
  have hl : k < (w_W D3 ad sh M).length := by rw [w_len]; exact (List.getElem?_eq_some_iff.mp h).1
  by_cases hi : i = k
  · subst hi
    rw [List.getElem?_set_self hl, w_get h, he]
  · rw [List.getElem?_set_ne (Ne.symm hi)]
    cases hc : sh[i]? with
    | none =>
      have hl2 : sh.length ≤ i := by simpa using hc
      rw [List.getElem?_eq_none (by rw [w_len]; exact hl2), List.getElem?_eq_none (by rw [w_len]; exact hl2)]
    | some c =>
      obtain ⟨o1, o2, o3⟩ := ho i hi
      rw [w_get hc, w_get hc, w_cell_congr o1 o2 (fun j => by rw [o3])]
/-- references lie within -/
def w_wf (sh : wSh) (M : wM) : Prop := ∀ k i j, M.2.2 k i = some j → j < sh.length
theorem w_push {D3 : wD} {ad : Nat → Nat} {sh : wSh} {M M' : wM} {s : Nat × Nat} {q : Nat} {e : va_E} (hw : w_wf sh M) (ho : ∀ j, j < sh.length → M'.1 j = M.1 j ∧ M'.2.1 j = M.2.1 j ∧ M'.2.2 j = M.2.2 j) (he : e = w_cell D3 (va_up ad sh.length q) M' sh.length s) : w_W D3 ad sh M ++ [(q, e)] = w_W D3 (va_up ad sh.length q) (sh ++ [s]) M' := by
  apply List.ext_getElem?
  intro i
  by_cases hi : i < sh.length
  · rw [List.getElem?_append_left (by rw [w_len]; exact hi)]
    cases hc : sh[i]? with
    | none => rw [List.getElem?_eq_none_iff] at hc; omega
    | some c =>
      rw [w_get hc, w_get (sh := sh ++ [s]) (by rw [List.getElem?_append_left hi]; exact hc)]
      obtain ⟨o1, o2, o3⟩ := ho i hi
      have e1 : va_up ad sh.length q i = ad i := by simp [va_up, Nat.ne_of_lt hi]
      rw [e1, w_cell_congr (ad := ad) o1 o2 (fun j => by
        rw [o3]
        cases hr : M.2.2 i j with
        | none => rfl
        | some x =>
          have hx : x < sh.length := hw i j x hr
          simp [va_up, Nat.ne_of_lt hx])]
  · by_cases h2 : i = sh.length
    · subst h2
      rw [w_get (sh := sh ++ [s]) (s := s) (by simp), List.getElem?_append_right (by rw [w_len]; exact Nat.le_refl _), w_len, Nat.sub_self]
      simp [va_up, he]
    · rw [List.getElem?_eq_none (by simp [w_len]; omega), List.getElem?_eq_none (by rw [w_len]; simp; omega)]
theorem w_addr {D3 : wD} {ad : Nat → Nat} {sh : wSh} {M : wM} {k : Nat} {q : Nat × va_E} (h : (w_W D3 ad sh M)[k]? = some q) : k < sh.length ∧ q.1 = ad k := by
  have hl : k < sh.length := by
    have h1 := (List.getElem?_eq_some_iff.mp h).1
    rw [w_len] at h1
    exact h1
  rw [w_get (List.getElem?_eq_getElem hl)] at h
  cases h
  exact ⟨hl, rfl⟩
/-- the words of calls of a nest mate's private methods hold -/
def w_nw (U : State) : Prop := ∀ q ∈ w_nest, va_Nw (.methodLinkNest q.1 q.2.1 q.2.2.1 q.2.2.2) U
theorem w_nw.warm {s U : State} (hW : s.WarmedH U.vm) (h : w_nw s) : w_nw U := fun q hq => va_Nw.warmM hW (h q hq)
theorem w_nw.same {u U : State} (hv : u.vm = U.vm) (h : w_nw u) : w_nw U := fun q hq => va_Nw.same rfl hv (h q hq)
end
section
/-! The judgement Rn: 'from this instruction, with these locals, this stack and this memory, in whatever machine, the method comes to a return with Q'. -/
/-- the number that the law's script has -/
abbrev w_scr : Nat := 9999
def w_sx (sx : Option (Nat × (Nat → Int32) × Nat)) (A : Nat → Prop) (s : State) : Prop := match sx with
  | none => True
  | some q => va_X q.2.2 q.1 q.2.1 s s.heap ∧ q.2.2 < s.heap.size ∧ ¬ A q.2.2
def w_sa (sx : Option (Nat × (Nat → Int32) × Nat)) (ad : Nat → Nat) : Prop := match sx with
  | none => True
  | some q => ad w_scr = q.2.2
def w_C (K : wK) (sx : Option (Nat × (Nat → Int32) × Nat)) (p : Program) (s : State) (m : MethodId) (args : Array Value) (meth : Method) (c : Code) (A : Nat → Prop) (D3 : wD) (D : va_G) : Prop :=
  p.tables.exec = Jvm.exec ∧ c.code = K.2.1 ∧ c.maxLocals = K.2.2.1 ∧ s.vm.findClass K.1.cls = some m.cls ∧ (∀ w ∈ lw_g, w.before args s = true) ∧ va_K D vwCl (w_ty D3) s ∧ (∀ q, s.heap.size ≤ q → A q) ∧ w_nw s ∧ meth.name = K.1.name ∧ w_sx sx A s
/-- the locals: the listed ones are held -/
def w_L (nL : Nat) (ad : Nat → Nat) (lv : List (Option Value)) (ls : Array Slot) : Prop := ls.size = nL ∧ lv_wf ls ∧ ∀ (i : Nat) (v : Value), lv[i]? = some (some v) → ls[i]? = some (.val (w_cv ad v))
def w_S (K : wK) (sx : Option (Nat × (Nat → Int32) × Nat)) (s : State) (A : Nat → Prop) (D3 : wD) (D : va_G) (ad : Nat → Nat) (sh : wSh) (M : wM) (H : Heap) (locs : List Loc) (lv : List (Option Value)) (ls : Array Slot) (cs : Nat × Nat) : Prop :=
  va_P D vwCl (w_W D3 ad sh M) H ∧ va_D A (w_W D3 ad sh M) ∧ va_S A s.heap H locs ∧ w_L K.2.2.1 ad lv ls ∧ (cs.1 ≤ K.2.2.2.2.cells ∧ cs.2 ≤ K.2.2.2.2.slots) ∧ w_wf sh M ∧ w_sa sx ad
/-- the numbering grows -/
def w_X (ad : Nat → Nat) (sh : wSh) (ad' : Nat → Nat) (sh' : wSh) : Prop := (∀ k, k < sh.length → ad' k = ad k) ∧ ad' w_scr = ad w_scr ∧ sh.length ≤ sh'.length ∧ (sh'.length = sh.length → ad' = ad)
theorem w_X.rf {ad : Nat → Nat} {sh : wSh} : w_X ad sh ad sh := ⟨fun _ _ => rfl, rfl, Nat.le_refl _, fun _ => rfl⟩
theorem w_X.tr {a b c : Nat → Nat} {x y z : wSh} (h1 : w_X a x b y) (h2 : w_X b y c z) : w_X a x c z :=
  ⟨fun k hk => (h2.1 k (Nat.lt_of_lt_of_le hk h1.2.2.1)).trans (h1.1 k hk), h2.2.1.trans h1.2.1, Nat.le_trans h1.2.2.1 h2.2.2.1, fun h => by
    have e1 := h1.2.2.1
    have e2 := h2.2.2.1
    rw [h2.2.2.2 (by omega), h1.2.2.2 (by omega)]⟩
/-- a return instruction that fits the answer -/
def w_rt (K : wK) (v : Option Value) (pc : Nat) : Prop := match v with
  | none => decode K.2.1 pc = .ok (.return_, 1) ∧ K.2.2.2.1 = none
  | some (.int x) => decode K.2.1 pc = .ok (.ireturn, 1) ∧ ∃ ty, K.2.2.2.1 = some ty ∧ narrow ty (.int x) = .int x
  | some (.long _) => decode K.2.1 pc = .ok (.lreturn, 1) ∧ K.2.2.2.1 = some .long
  | some (.ref _) => decode K.2.1 pc = .ok (.areturn, 1) ∧ ∃ n, K.2.2.2.1 = some (.object n)
  | _ => False
def w_E (K : wK) (sx : Option (Nat × (Nat → Int32) × Nat)) (p : Program) (l : Launch) (e : Env) (s : State) (m : MethodId) (args : Array Value) (below : List Frame) (meth : Method) (c : Code) (A : Nat → Prop) (D3 : wD) (D : va_G) (Qf : State → Prop) (Q : Option Value → wSh → wM → Nat × Nat → Prop) (ad : Nat → Nat) (sh : wSh) : Prop :=
  ∀ (v : Option Value) (sh' : wSh) (M' : wM) (cs' : Nat × Nat) (ad' : Nat → Nat) (H' : Heap) (locs' : List Loc) (pc' : Nat) (ls' : Array Slot), Q v sh' M' cs' → w_X ad sh ad' sh' → va_P D vwCl (w_W D3 ad' sh' M') H' → va_D A (w_W D3 ad' sh' M') → va_S A s.heap H' locs' → w_wf sh' M' → w_rt K v pc' →
    W p l e K.2.2.2.2 s m args below meth c H' locs' cs'.1 cs'.2 Qf (F0 m pc' ls' (v.map (w_cv ad')).toList)
theorem w_E.mv {K : wK} {sx : Option (Nat × (Nat → Int32) × Nat)} {p : Program} {l : Launch} {e : Env} {s : State} {m : MethodId} {args : Array Value} {below : List Frame} {meth : Method} {c : Code} {A : Nat → Prop} {D3 : wD} {D : va_G} {Qf : State → Prop} {Q : Option Value → wSh → wM → Nat × Nat → Prop} {ad ad' : Nat → Nat} {sh sh' : wSh} (h : w_E K sx p l e s m args below meth c A D3 D Qf Q ad sh) (hx : w_X ad sh ad' sh') : w_E K sx p l e s m args below meth c A D3 D Qf Q ad' sh' :=
  fun v sh2 M2 cs2 ad2 H2 locs2 pc2 ls2 hq h2 hP hD hS hw hr => h v sh2 M2 cs2 ad2 H2 locs2 pc2 ls2 hq (hx.tr h2) hP hD hS hw hr
def Rn (K : wK) (sx : Option (Nat × (Nat → Int32) × Nat)) (cs : Nat × Nat) (pc : Nat) (lv : List (Option Value)) (st : List Value) (sh : wSh) (M : wM) (Q : Option Value → wSh → wM → Nat × Nat → Prop) : Prop :=
  ∀ (p : Program) (l : Launch) (e : Env) (s : State) (m : MethodId) (args : Array Value) (below : List Frame) (meth : Method) (c : Code) (A : Nat → Prop) (D3 : wD) (D : va_G) (Qf : State → Prop) (ad : Nat → Nat) (H : Heap) (locs : List Loc) (ls : Array Slot),
    w_C K sx p s m args meth c A D3 D → w_S K sx s A D3 D ad sh M H locs lv ls cs → w_E K sx p l e s m args below meth c A D3 D Qf Q ad sh →
    W p l e K.2.2.2.2 s m args below meth c H locs cs.1 cs.2 Qf (F0 m pc ls (st.map (w_cv ad)))
/-! the locals -/
def w_pr (ad : Nat → Nat) : Nat → List (Option Value) → List (Nat × Value)
  | _, [] => []
  | i, none :: t => w_pr ad (i + 1) t
  | i, some v :: t => (i, w_cv ad v) :: w_pr ad (i + 1) t
theorem w_pr_mem (ad : Nat → Nat) : ∀ (lv : List (Option Value)) (i : Nat) (q : Nat × Value), q ∈ w_pr ad i lv ↔ ∃ j v, lv[j]? = some (some v) ∧ q = (i + j, w_cv ad v)
  | [], i, q => by simp [w_pr]
  | none :: t, i, q => by
    rw [w_pr, w_pr_mem ad t (i + 1) q]
    constructor
    · rintro ⟨j, v, h, rfl⟩
      exact ⟨j + 1, v, by simpa using h, by rw [Nat.add_assoc, Nat.add_comm 1 j]⟩
    · rintro ⟨j, v, h, rfl⟩
      cases j with
      | zero => simp at h
      | succ j => exact ⟨j, v, by simpa using h, by rw [Nat.add_assoc, Nat.add_comm 1 j]⟩
  | some w :: t, i, q => by
    rw [w_pr, List.mem_cons, w_pr_mem ad t (i + 1) q]
    constructor
    · rintro (rfl | ⟨j, v, h, rfl⟩)
      · exact ⟨0, w, by simp, rfl⟩
      · exact ⟨j + 1, v, by simpa using h, by rw [Nat.add_assoc, Nat.add_comm 1 j]⟩
    · rintro ⟨j, v, h, rfl⟩
      cases j with
      | zero => simp at h; subst h; exact Or.inl rfl
      | succ j => exact Or.inr ⟨j, v, by simpa using h, by rw [Nat.add_assoc, Nat.add_comm 1 j]⟩
theorem w_L.has {nL : Nat} {ad : Nat → Nat} {lv : List (Option Value)} {ls : Array Slot} (h : w_L nL ad lv ls) : lv_has ls nL (w_pr ad 0 lv) :=
  ⟨h.1, h.2.1, fun q hq => by
    obtain ⟨j, v, h1, rfl⟩ := (w_pr_mem ad lv 0 q).mp hq
    simpa using h.2.2 j v h1⟩
/-- not the first half of a long or a double -/
def w_n2 : Option Value → Bool
  | some (.long _) => false
  | some (.double _) => false
  | _ => true
theorem w_n2_cat {v : Value} (h : w_n2 (some v) = true) : v.category = 1 := by cases v <;> first | rfl | cases h
theorem w_L.st1 {nL : Nat} {ad : Nat → Nat} {lv lv' : List (Option Value)} {ls' : Array Slot} {i : Nat} {v : Value} (h : lv_has ls' nL ((i, w_cv ad v) :: (w_pr ad 0 lv).filter (fun q => !(q.1 == i) && !(q.1 + 1 == i && q.2.category == 2))))
    (hl : ∀ j w, lv'[j]? = some (some w) → (j = i ∧ w = v) ∨ (j ≠ i ∧ lv[j]? = some (some w) ∧ (j + 1 = i → w.category = 1))) : w_L nL ad lv' ls' := by
  refine ⟨h.1, h.2.1, fun j w hj => ?_⟩
  rcases hl j w hj with ⟨rfl, rfl⟩ | ⟨h1, h2, h3⟩
  · exact h.2.2 (j, w_cv ad w) List.mem_cons_self
  · refine h.2.2 (j, w_cv ad w) (List.mem_cons_of_mem _ (List.mem_filter.mpr ⟨(w_pr_mem ad lv 0 _).mpr ⟨j, w, h2, by simp⟩, ?_⟩))
    by_cases h4 : j + 1 = i
    · have h5 := h3 h4
      simp [h1, w_cv_cat, h5]
    · simp [h1, h4]
theorem w_L.st2 {nL : Nat} {ad : Nat → Nat} {lv lv' : List (Option Value)} {ls' : Array Slot} {i : Nat} {v : Value} (h : lv_has ls' nL ((i, w_cv ad v) :: (w_pr ad 0 lv).filter (fun q => !(q.1 == i) && (!(q.1 == i + 1) && !(q.1 + 1 == i && q.2.category == 2)))))
    (hl : ∀ j w, lv'[j]? = some (some w) → (j = i ∧ w = v) ∨ (j ≠ i ∧ j ≠ i + 1 ∧ lv[j]? = some (some w) ∧ (j + 1 = i → w.category = 1))) : w_L nL ad lv' ls' := by
  refine ⟨h.1, h.2.1, fun j w hj => ?_⟩
  rcases hl j w hj with ⟨rfl, rfl⟩ | ⟨h1, h0, h2, h3⟩
  · exact h.2.2 (j, w_cv ad w) List.mem_cons_self
  · refine h.2.2 (j, w_cv ad w) (List.mem_cons_of_mem _ (List.mem_filter.mpr ⟨(w_pr_mem ad lv 0 _).mpr ⟨j, w, h2, by simp⟩, ?_⟩))
    by_cases h4 : j + 1 = i
    · have h5 := h3 h4
      simp [h1, h0, w_cv_cat, h5]
    · simp [h1, h0, h4]
theorem w_set1 {lv : List (Option Value)} {i : Nat} {v : Value} (hp : i = 0 ∨ ∀ x, lv[i - 1]? = some x → w_n2 x = true) : ∀ j w, (lv.set i (some v))[j]? = some (some w) → (j = i ∧ w = v) ∨ (j ≠ i ∧ lv[j]? = some (some w) ∧ (j + 1 = i → w.category = 1)) := by
  intro j w hj
  by_cases h : j = i
  · subst h
    have hl : j < lv.length := by have := (List.getElem?_eq_some_iff.mp hj).1; simpa using this
    rw [List.getElem?_set_self hl] at hj
    cases hj
    exact Or.inl ⟨rfl, rfl⟩
  · rw [List.getElem?_set_ne (Ne.symm h)] at hj
    refine Or.inr ⟨h, hj, fun e => ?_⟩
    subst e
    rcases hp with hp | hp
    · omega
    · exact w_n2_cat (hp (some w) (by simpa using hj))
theorem w_set2 {lv : List (Option Value)} {i : Nat} {v : Value} (hp : i = 0 ∨ ∀ x, lv[i - 1]? = some x → w_n2 x = true) : ∀ j w, ((lv.set i (some v)).set (i + 1) none)[j]? = some (some w) → (j = i ∧ w = v) ∨ (j ≠ i ∧ j ≠ i + 1 ∧ lv[j]? = some (some w) ∧ (j + 1 = i → w.category = 1)) := by
  intro j w hj
  by_cases h0 : j = i + 1
  · subst h0
    have hl : i + 1 < lv.length := by have := (List.getElem?_eq_some_iff.mp hj).1; simpa using this
    rw [List.getElem?_set_self (by simpa using hl)] at hj
    cases hj
  · rw [List.getElem?_set_ne (Ne.symm h0)] at hj
    rcases w_set1 hp j w hj with h | ⟨h1, h2, h3⟩
    · exact Or.inl h
    · exact Or.inr ⟨h1, h0, h2, h3⟩
end
section
/-! The rows of Rn: one an instruction. -/
section RN
variable {K : wK} {sx : Option (Nat × (Nat → Int32) × Nat)} {cs : Nat × Nat} {pc : Nat} {lv : List (Option Value)} {st : List Value} {sh : wSh} {M : wM} {Q : Option Value → wSh → wM → Nat × Nat → Prop}
theorem Rn.iconst {n : Int} {v : Int32} (hd : decode K.2.1 pc = .ok (.iconst n, 1)) (hv : Int32.ofInt n = v)
    (k : Rn K sx cs (pc + 1) lv (.int v :: st) sh M Q) : Rn K sx cs pc lv (st) sh M Q := by
  intro p l e s m args below meth c A D3 D Qf ad H locs ls hC hS hE
  exact lv_iconst hC.1 hC.2.1 hd hv (k p l e s m args below meth c A D3 D Qf ad H locs ls hC hS hE)
theorem Rn.bipush {n : Int} {v : Int32} (hd : decode K.2.1 pc = .ok (.bipush n, 2)) (hv : (Int8.ofInt n).toInt32 = v)
    (k : Rn K sx cs (pc + 2) lv (.int v :: st) sh M Q) : Rn K sx cs pc lv (st) sh M Q := by
  intro p l e s m args below meth c A D3 D Qf ad H locs ls hC hS hE
  exact lv_bipush hC.1 hC.2.1 hd hv (k p l e s m args below meth c A D3 D Qf ad H locs ls hC hS hE)
theorem Rn.sipush {n : Int} {v : Int32} (hd : decode K.2.1 pc = .ok (.sipush n, 3)) (hv : (Int16.ofInt n).toInt32 = v)
    (k : Rn K sx cs (pc + 3) lv (.int v :: st) sh M Q) : Rn K sx cs pc lv (st) sh M Q := by
  intro p l e s m args below meth c A D3 D Qf ad H locs ls hC hS hE
  exact lv_sipush hC.1 hC.2.1 hd hv (k p l e s m args below meth c A D3 D Qf ad H locs ls hC hS hE)
theorem Rn.lconst {n : Fin 2} {v : Int64} (hd : decode K.2.1 pc = .ok (.lconst n, 1)) (hv : Int64.ofNat (n : Nat) = v)
    (k : Rn K sx cs (pc + 1) lv (.long v :: st) sh M Q) : Rn K sx cs pc lv (st) sh M Q := by
  intro p l e s m args below meth c A D3 D Qf ad H locs ls hC hS hE
  exact lv_lconst hC.1 hC.2.1 hd hv (k p l e s m args below meth c A D3 D Qf ad H locs ls hC hS hE)
theorem Rn.ldc {index : Nat} {v : Int32} (hd : decode K.2.1 pc = .ok (.ldc index, 2)) (hw : Cond.constant K.1.cls index v ∈ lw_g)
    (k : Rn K sx cs (pc + 2) lv (.int v :: st) sh M Q) : Rn K sx cs pc lv (st) sh M Q := by
  intro p l e s m args below meth c A D3 D Qf ad H locs ls hC hS hE
  exact lv_ldc hC.1 hC.2.1 hC.2.2.2.1 (hC.2.2.2.2.1 _ hw) hd (k p l e s m args below meth c A D3 D Qf ad H locs ls hC hS hE)
theorem Rn.ldcw {index : Nat} {v : Int32} (hd : decode K.2.1 pc = .ok (.ldc_w index, 3)) (hw : Cond.constant K.1.cls index v ∈ lw_g)
    (k : Rn K sx cs (pc + 3) lv (.int v :: st) sh M Q) : Rn K sx cs pc lv (st) sh M Q := by
  intro p l e s m args below meth c A D3 D Qf ad H locs ls hC hS hE
  exact lv_ldcw hC.1 hC.2.1 hC.2.2.2.1 (hC.2.2.2.2.1 _ hw) hd (k p l e s m args below meth c A D3 D Qf ad H locs ls hC hS hE)
theorem Rn.ldc2 {index : Nat} {v : Int64} (hd : decode K.2.1 pc = .ok (.ldc2_w index, 3)) (hw : Cond.constantLong K.1.cls index v ∈ lw_g)
    (k : Rn K sx cs (pc + 3) lv (.long v :: st) sh M Q) : Rn K sx cs pc lv (st) sh M Q := by
  intro p l e s m args below meth c A D3 D Qf ad H locs ls hC hS hE
  exact lv_ldc2 hC.1 hC.2.1 hC.2.2.2.1 (hC.2.2.2.2.1 _ hw) hd (k p l e s m args below meth c A D3 D Qf ad H locs ls hC hS hE)
theorem Rn.iload_n {i : Fin 4} {x : Int32} (hd : decode K.2.1 pc = .ok (.iload_n i, 1)) (hl : lv[(i : Nat)]? = some (some (.int x)))
    (k : Rn K sx cs (pc + 1) lv (.int x :: st) sh M Q) : Rn K sx cs pc lv (st) sh M Q := by
  intro p l e s m args below meth c A D3 D Qf ad H locs ls hC hS hE
  exact lv_iload_n hC.1 hC.2.1 hd rfl (hS.2.2.2.1.2.2 _ _ hl) (k p l e s m args below meth c A D3 D Qf ad H locs ls hC hS hE)
theorem Rn.iload {i : Nat} {x : Int32} (hd : decode K.2.1 pc = .ok (.iload i, 2)) (hl : lv[i]? = some (some (.int x)))
    (k : Rn K sx cs (pc + 2) lv (.int x :: st) sh M Q) : Rn K sx cs pc lv (st) sh M Q := by
  intro p l e s m args below meth c A D3 D Qf ad H locs ls hC hS hE
  exact lv_iload hC.1 hC.2.1 hd (hS.2.2.2.1.2.2 _ _ hl) (k p l e s m args below meth c A D3 D Qf ad H locs ls hC hS hE)
theorem Rn.lload_n {i : Fin 4} {x : Int64} (hd : decode K.2.1 pc = .ok (.lload_n i, 1)) (hl : lv[(i : Nat)]? = some (some (.long x)))
    (k : Rn K sx cs (pc + 1) lv (.long x :: st) sh M Q) : Rn K sx cs pc lv (st) sh M Q := by
  intro p l e s m args below meth c A D3 D Qf ad H locs ls hC hS hE
  exact lv_lload_n hC.1 hC.2.1 hd rfl (hS.2.2.2.1.2.2 _ _ hl) (k p l e s m args below meth c A D3 D Qf ad H locs ls hC hS hE)
theorem Rn.lload {i : Nat} {x : Int64} (hd : decode K.2.1 pc = .ok (.lload i, 2)) (hl : lv[i]? = some (some (.long x)))
    (k : Rn K sx cs (pc + 2) lv (.long x :: st) sh M Q) : Rn K sx cs pc lv (st) sh M Q := by
  intro p l e s m args below meth c A D3 D Qf ad H locs ls hC hS hE
  exact lv_lload hC.1 hC.2.1 hd (hS.2.2.2.1.2.2 _ _ hl) (k p l e s m args below meth c A D3 D Qf ad H locs ls hC hS hE)
theorem Rn.aload_n {i : Fin 4} {x : Nat} (hd : decode K.2.1 pc = .ok (.aload_n i, 1)) (hl : lv[(i : Nat)]? = some (some (.ref x)))
    (k : Rn K sx cs (pc + 1) lv (.ref x :: st) sh M Q) : Rn K sx cs pc lv (st) sh M Q := by
  intro p l e s m args below meth c A D3 D Qf ad H locs ls hC hS hE
  exact lv_aload_n hC.1 hC.2.1 hd rfl (hS.2.2.2.1.2.2 _ _ hl) (k p l e s m args below meth c A D3 D Qf ad H locs ls hC hS hE)
theorem Rn.aload {i : Nat} {x : Nat} (hd : decode K.2.1 pc = .ok (.aload i, 2)) (hl : lv[i]? = some (some (.ref x)))
    (k : Rn K sx cs (pc + 2) lv (.ref x :: st) sh M Q) : Rn K sx cs pc lv (st) sh M Q := by
  intro p l e s m args below meth c A D3 D Qf ad H locs ls hC hS hE
  exact lv_aload hC.1 hC.2.1 hd (hS.2.2.2.1.2.2 _ _ hl) (k p l e s m args below meth c A D3 D Qf ad H locs ls hC hS hE)
theorem Rn.istore_n {i : Fin 4} {x : Int32} {lv1 : List (Option Value)} (hd : decode K.2.1 pc = .ok (.istore_n i, 1)) (hn : (i : Nat) < K.2.2.1) (hp : (i : Nat) = 0 ∨ ∀ x, lv[(i : Nat) - 1]? = some x → w_n2 x = true) (he : lv.set (i : Nat) (some (.int x)) = lv1)
    (k : Rn K sx cs (pc + 1) lv1 (st) sh M Q) : Rn K sx cs pc lv (.int x :: st) sh M Q := by
  intro p l e s m args below meth c A D3 D Qf ad H locs ls hC hS hE
  have hn : (i : Nat) < K.2.2.1 := hn
  refine lv_istore_n (lv' := _) hC.1 hC.2.1 hd rfl hS.2.2.2.1.has hn rfl (fun ls' hl => ?_)
  exact k p l e s m args below meth c A D3 D Qf ad H locs ls' hC ⟨hS.1, hS.2.1, hS.2.2.1, w_L.st1 (v := .int x) hl (fun j w hj => by subst he; exact w_set1 hp j w hj), hS.2.2.2.2⟩ hE
theorem Rn.istore {i : Nat} {x : Int32} {lv1 : List (Option Value)} (hd : decode K.2.1 pc = .ok (.istore i, 2)) (hn : i < K.2.2.1) (hp : i = 0 ∨ ∀ x, lv[i - 1]? = some x → w_n2 x = true) (he : lv.set i (some (.int x)) = lv1)
    (k : Rn K sx cs (pc + 2) lv1 (st) sh M Q) : Rn K sx cs pc lv (.int x :: st) sh M Q := by
  intro p l e s m args below meth c A D3 D Qf ad H locs ls hC hS hE
  have hn : i < K.2.2.1 := hn
  refine lv_istore (lv' := _) hC.1 hC.2.1 hd hS.2.2.2.1.has hn rfl (fun ls' hl => ?_)
  exact k p l e s m args below meth c A D3 D Qf ad H locs ls' hC ⟨hS.1, hS.2.1, hS.2.2.1, w_L.st1 (v := .int x) hl (fun j w hj => by subst he; exact w_set1 hp j w hj), hS.2.2.2.2⟩ hE
theorem Rn.astore_n {i : Fin 4} {x : Nat} {lv1 : List (Option Value)} (hd : decode K.2.1 pc = .ok (.astore_n i, 1)) (hn : (i : Nat) < K.2.2.1) (hp : (i : Nat) = 0 ∨ ∀ x, lv[(i : Nat) - 1]? = some x → w_n2 x = true) (he : lv.set (i : Nat) (some (.ref x)) = lv1)
    (k : Rn K sx cs (pc + 1) lv1 (st) sh M Q) : Rn K sx cs pc lv (.ref x :: st) sh M Q := by
  intro p l e s m args below meth c A D3 D Qf ad H locs ls hC hS hE
  have hn : (i : Nat) < K.2.2.1 := hn
  refine lv_astore_n (lv' := _) hC.1 hC.2.1 hd rfl hS.2.2.2.1.has hn rfl (fun ls' hl => ?_)
  exact k p l e s m args below meth c A D3 D Qf ad H locs ls' hC ⟨hS.1, hS.2.1, hS.2.2.1, w_L.st1 (v := .ref x) hl (fun j w hj => by subst he; exact w_set1 hp j w hj), hS.2.2.2.2⟩ hE
theorem Rn.astore {i : Nat} {x : Nat} {lv1 : List (Option Value)} (hd : decode K.2.1 pc = .ok (.astore i, 2)) (hn : i < K.2.2.1) (hp : i = 0 ∨ ∀ x, lv[i - 1]? = some x → w_n2 x = true) (he : lv.set i (some (.ref x)) = lv1)
    (k : Rn K sx cs (pc + 2) lv1 (st) sh M Q) : Rn K sx cs pc lv (.ref x :: st) sh M Q := by
  intro p l e s m args below meth c A D3 D Qf ad H locs ls hC hS hE
  have hn : i < K.2.2.1 := hn
  refine lv_astore (lv' := _) hC.1 hC.2.1 hd hS.2.2.2.1.has hn rfl (fun ls' hl => ?_)
  exact k p l e s m args below meth c A D3 D Qf ad H locs ls' hC ⟨hS.1, hS.2.1, hS.2.2.1, w_L.st1 (v := .ref x) hl (fun j w hj => by subst he; exact w_set1 hp j w hj), hS.2.2.2.2⟩ hE
theorem Rn.lstore_n {i : Fin 4} {x : Int64} {lv1 : List (Option Value)} (hd : decode K.2.1 pc = .ok (.lstore_n i, 1)) (hn : (i : Nat) + 1 < K.2.2.1) (hp : (i : Nat) = 0 ∨ ∀ x, lv[(i : Nat) - 1]? = some x → w_n2 x = true) (he : (lv.set (i : Nat) (some (.long x))).set ((i : Nat) + 1) none = lv1)
    (k : Rn K sx cs (pc + 1) lv1 (st) sh M Q) : Rn K sx cs pc lv (.long x :: st) sh M Q := by
  intro p l e s m args below meth c A D3 D Qf ad H locs ls hC hS hE
  have hn : (i : Nat) + 1 < K.2.2.1 := hn
  refine lv_lstore_n (lv' := _) hC.1 hC.2.1 hd rfl hS.2.2.2.1.has hn rfl (fun ls' hl => ?_)
  exact k p l e s m args below meth c A D3 D Qf ad H locs ls' hC ⟨hS.1, hS.2.1, hS.2.2.1, w_L.st2 (v := .long x) hl (fun j w hj => by subst he; exact w_set2 hp j w hj), hS.2.2.2.2⟩ hE
theorem Rn.lstore {i : Nat} {x : Int64} {lv1 : List (Option Value)} (hd : decode K.2.1 pc = .ok (.lstore i, 2)) (hn : i + 1 < K.2.2.1) (hp : i = 0 ∨ ∀ x, lv[i - 1]? = some x → w_n2 x = true) (he : (lv.set i (some (.long x))).set (i + 1) none = lv1)
    (k : Rn K sx cs (pc + 2) lv1 (st) sh M Q) : Rn K sx cs pc lv (.long x :: st) sh M Q := by
  intro p l e s m args below meth c A D3 D Qf ad H locs ls hC hS hE
  have hn : i + 1 < K.2.2.1 := hn
  refine lv_lstore (lv' := _) hC.1 hC.2.1 hd hS.2.2.2.1.has hn rfl (fun ls' hl => ?_)
  exact k p l e s m args below meth c A D3 D Qf ad H locs ls' hC ⟨hS.1, hS.2.1, hS.2.2.1, w_L.st2 (v := .long x) hl (fun j w hj => by subst he; exact w_set2 hp j w hj), hS.2.2.2.2⟩ hE
theorem Rn.iinc {i : Nat} {n : Int} {x v : Int32} {lv1 : List (Option Value)} (hd : decode K.2.1 pc = .ok (.iinc i n, 3)) (hx : lv[i]? = some (some (.int x))) (hv : x + Int32.ofInt n = v) (hn : i < K.2.2.1) (hp : i = 0 ∨ ∀ x, lv[i - 1]? = some x → w_n2 x = true) (he : lv.set i (some (.int v)) = lv1)
    (k : Rn K sx cs (pc + 3) lv1 (st) sh M Q) : Rn K sx cs pc lv (st) sh M Q := by
  intro p l e s m args below meth c A D3 D Qf ad H locs ls hC hS hE
  have hh := hS.2.2.2.1.has
  have hm : (i, Value.int x) ∈ w_pr ad 0 lv := (w_pr_mem ad lv 0 _).mpr ⟨i, .int x, hx, by simp [w_cv]⟩
  obtain ⟨kx, hk⟩ := List.getElem?_of_mem hm
  have hn : i < K.2.2.1 := hn
  refine lv_iinc (lv' := _) hC.1 hC.2.1 hd hh hk hv hn rfl (fun ls' hl => ?_)
  exact k p l e s m args below meth c A D3 D Qf ad H locs ls' hC ⟨hS.1, hS.2.1, hS.2.2.1, w_L.st1 (v := .int v) hl (fun j w hj => by subst he; exact w_set1 hp j w hj), hS.2.2.2.2⟩ hE
theorem Rn.iadd {x y : Int32} (hd : decode K.2.1 pc = .ok (.iadd, 1))
    (k : Rn K sx cs (pc + 1) lv (.int (x + y) :: st) sh M Q) : Rn K sx cs pc lv (.int y :: .int x :: st) sh M Q := by
  intro p l e s m args below meth c A D3 D Qf ad H locs ls hC hS hE
  exact lv_iadd hC.1 hC.2.1 hd (k p l e s m args below meth c A D3 D Qf ad H locs ls hC hS hE)
theorem Rn.isub {x y : Int32} (hd : decode K.2.1 pc = .ok (.isub, 1))
    (k : Rn K sx cs (pc + 1) lv (.int (x - y) :: st) sh M Q) : Rn K sx cs pc lv (.int y :: .int x :: st) sh M Q := by
  intro p l e s m args below meth c A D3 D Qf ad H locs ls hC hS hE
  exact lv_isub hC.1 hC.2.1 hd (k p l e s m args below meth c A D3 D Qf ad H locs ls hC hS hE)
theorem Rn.imul {x y : Int32} (hd : decode K.2.1 pc = .ok (.imul, 1))
    (k : Rn K sx cs (pc + 1) lv (.int (x * y) :: st) sh M Q) : Rn K sx cs pc lv (.int y :: .int x :: st) sh M Q := by
  intro p l e s m args below meth c A D3 D Qf ad H locs ls hC hS hE
  exact lv_imul hC.1 hC.2.1 hd (k p l e s m args below meth c A D3 D Qf ad H locs ls hC hS hE)
theorem Rn.iand {x y : Int32} (hd : decode K.2.1 pc = .ok (.iand, 1))
    (k : Rn K sx cs (pc + 1) lv (.int (x &&& y) :: st) sh M Q) : Rn K sx cs pc lv (.int y :: .int x :: st) sh M Q := by
  intro p l e s m args below meth c A D3 D Qf ad H locs ls hC hS hE
  exact lv_iand hC.1 hC.2.1 hd (k p l e s m args below meth c A D3 D Qf ad H locs ls hC hS hE)
theorem Rn.ior {x y : Int32} (hd : decode K.2.1 pc = .ok (.ior, 1))
    (k : Rn K sx cs (pc + 1) lv (.int (x ||| y) :: st) sh M Q) : Rn K sx cs pc lv (.int y :: .int x :: st) sh M Q := by
  intro p l e s m args below meth c A D3 D Qf ad H locs ls hC hS hE
  exact lv_ior hC.1 hC.2.1 hd (k p l e s m args below meth c A D3 D Qf ad H locs ls hC hS hE)
theorem Rn.ixor {x y : Int32} (hd : decode K.2.1 pc = .ok (.ixor, 1))
    (k : Rn K sx cs (pc + 1) lv (.int (x ^^^ y) :: st) sh M Q) : Rn K sx cs pc lv (.int y :: .int x :: st) sh M Q := by
  intro p l e s m args below meth c A D3 D Qf ad H locs ls hC hS hE
  exact lv_ixor hC.1 hC.2.1 hd (k p l e s m args below meth c A D3 D Qf ad H locs ls hC hS hE)
theorem Rn.ishl {x y : Int32} (hd : decode K.2.1 pc = .ok (.ishl, 1))
    (k : Rn K sx cs (pc + 1) lv (.int (x <<< (y &&& 31)) :: st) sh M Q) : Rn K sx cs pc lv (.int y :: .int x :: st) sh M Q := by
  intro p l e s m args below meth c A D3 D Qf ad H locs ls hC hS hE
  exact lv_ishl hC.1 hC.2.1 hd (k p l e s m args below meth c A D3 D Qf ad H locs ls hC hS hE)
theorem Rn.ishr {x y : Int32} (hd : decode K.2.1 pc = .ok (.ishr, 1))
    (k : Rn K sx cs (pc + 1) lv (.int (x >>> (y &&& 31)) :: st) sh M Q) : Rn K sx cs pc lv (.int y :: .int x :: st) sh M Q := by
  intro p l e s m args below meth c A D3 D Qf ad H locs ls hC hS hE
  exact lv_ishr hC.1 hC.2.1 hd (k p l e s m args below meth c A D3 D Qf ad H locs ls hC hS hE)
theorem Rn.iushr {x y v : Int32} (hd : decode K.2.1 pc = .ok (.iushr, 1)) (hv : (x.toUInt32 >>> (y.toUInt32 &&& Int32.toUInt32 31)).toInt32 = v)
    (k : Rn K sx cs (pc + 1) lv (.int v :: st) sh M Q) : Rn K sx cs pc lv (.int y :: .int x :: st) sh M Q := by
  intro p l e s m args below meth c A D3 D Qf ad H locs ls hC hS hE
  exact lv_iushr hC.1 hC.2.1 hd hv (k p l e s m args below meth c A D3 D Qf ad H locs ls hC hS hE)
theorem Rn.idiv {x y : Int32} (hd : decode K.2.1 pc = .ok (.idiv, 1)) (hne : ¬ y = 0)
    (k : Rn K sx cs (pc + 1) lv (.int (x / y) :: st) sh M Q) : Rn K sx cs pc lv (.int y :: .int x :: st) sh M Q := by
  intro p l e s m args below meth c A D3 D Qf ad H locs ls hC hS hE
  exact lv_idiv hC.1 hC.2.1 hd hne (k p l e s m args below meth c A D3 D Qf ad H locs ls hC hS hE)
theorem Rn.irem {x y : Int32} (hd : decode K.2.1 pc = .ok (.irem, 1)) (hne : ¬ y = 0)
    (k : Rn K sx cs (pc + 1) lv (.int (x - x / y * y) :: st) sh M Q) : Rn K sx cs pc lv (.int y :: .int x :: st) sh M Q := by
  intro p l e s m args below meth c A D3 D Qf ad H locs ls hC hS hE
  exact lv_irem hC.1 hC.2.1 hd hne (k p l e s m args below meth c A D3 D Qf ad H locs ls hC hS hE)
theorem Rn.ladd {x y : Int64} (hd : decode K.2.1 pc = .ok (.ladd, 1))
    (k : Rn K sx cs (pc + 1) lv (.long (x + y) :: st) sh M Q) : Rn K sx cs pc lv (.long y :: .long x :: st) sh M Q := by
  intro p l e s m args below meth c A D3 D Qf ad H locs ls hC hS hE
  exact lv_ladd hC.1 hC.2.1 hd (k p l e s m args below meth c A D3 D Qf ad H locs ls hC hS hE)
theorem Rn.lsub {x y : Int64} (hd : decode K.2.1 pc = .ok (.lsub, 1))
    (k : Rn K sx cs (pc + 1) lv (.long (x - y) :: st) sh M Q) : Rn K sx cs pc lv (.long y :: .long x :: st) sh M Q := by
  intro p l e s m args below meth c A D3 D Qf ad H locs ls hC hS hE
  exact lv_lsub hC.1 hC.2.1 hd (k p l e s m args below meth c A D3 D Qf ad H locs ls hC hS hE)
theorem Rn.lmul {x y : Int64} (hd : decode K.2.1 pc = .ok (.lmul, 1))
    (k : Rn K sx cs (pc + 1) lv (.long (x * y) :: st) sh M Q) : Rn K sx cs pc lv (.long y :: .long x :: st) sh M Q := by
  intro p l e s m args below meth c A D3 D Qf ad H locs ls hC hS hE
  exact lv_lmul hC.1 hC.2.1 hd (k p l e s m args below meth c A D3 D Qf ad H locs ls hC hS hE)
theorem Rn.ldiv {x y : Int64} (hd : decode K.2.1 pc = .ok (.ldiv, 1)) (hne : ¬ y = 0)
    (k : Rn K sx cs (pc + 1) lv (.long (x / y) :: st) sh M Q) : Rn K sx cs pc lv (.long y :: .long x :: st) sh M Q := by
  intro p l e s m args below meth c A D3 D Qf ad H locs ls hC hS hE
  exact lv_ldiv hC.1 hC.2.1 hd hne (k p l e s m args below meth c A D3 D Qf ad H locs ls hC hS hE)
theorem Rn.lrem {x y : Int64} (hd : decode K.2.1 pc = .ok (.lrem, 1)) (hne : ¬ y = 0)
    (k : Rn K sx cs (pc + 1) lv (.long (x - x / y * y) :: st) sh M Q) : Rn K sx cs pc lv (.long y :: .long x :: st) sh M Q := by
  intro p l e s m args below meth c A D3 D Qf ad H locs ls hC hS hE
  exact lv_lrem hC.1 hC.2.1 hd hne (k p l e s m args below meth c A D3 D Qf ad H locs ls hC hS hE)
theorem Rn.i2l {x : Int32} (hd : decode K.2.1 pc = .ok (.i2l, 1))
    (k : Rn K sx cs (pc + 1) lv (.long x.toInt64 :: st) sh M Q) : Rn K sx cs pc lv (.int x :: st) sh M Q := by
  intro p l e s m args below meth c A D3 D Qf ad H locs ls hC hS hE
  exact lv_i2l hC.1 hC.2.1 hd rfl (k p l e s m args below meth c A D3 D Qf ad H locs ls hC hS hE)
theorem Rn.lcmp {x y : Int64} (hd : decode K.2.1 pc = .ok (.lcmp, 1))
    (k : Rn K sx cs (pc + 1) lv (.int (lg_cmp x y) :: st) sh M Q) : Rn K sx cs pc lv (.long y :: .long x :: st) sh M Q := by
  intro p l e s m args below meth c A D3 D Qf ad H locs ls hC hS hE
  exact W.lcmp hC.1 hC.2.1 hd (k p l e s m args below meth c A D3 D Qf ad H locs ls hC hS hE)
theorem Rn.dup {a : Value} (hd : decode K.2.1 pc = .ok (.dup, 1)) (ha : a.category = 1)
    (k : Rn K sx cs (pc + 1) lv (a :: a :: st) sh M Q) : Rn K sx cs pc lv (a :: st) sh M Q := by
  intro p l e s m args below meth c A D3 D Qf ad H locs ls hC hS hE
  exact lv_dup hC.1 hC.2.1 hd ((w_cv_cat ad a).trans ha) (k p l e s m args below meth c A D3 D Qf ad H locs ls hC hS hE)
theorem Rn.dup2 {a b : Value} (hd : decode K.2.1 pc = .ok (.dup2, 1)) (ha : a.category = 1) (hb : b.category = 1)
    (k : Rn K sx cs (pc + 1) lv (a :: b :: a :: b :: st) sh M Q) : Rn K sx cs pc lv (a :: b :: st) sh M Q := by
  intro p l e s m args below meth c A D3 D Qf ad H locs ls hC hS hE
  exact lv_dup2_11 hC.1 hC.2.1 hd ((w_cv_cat ad a).trans ha) ((w_cv_cat ad b).trans hb) (k p l e s m args below meth c A D3 D Qf ad H locs ls hC hS hE)
theorem Rn.pop {a : Value} (hd : decode K.2.1 pc = .ok (.pop, 1)) (ha : a.category = 1)
    (k : Rn K sx cs (pc + 1) lv (st) sh M Q) : Rn K sx cs pc lv (a :: st) sh M Q := by
  intro p l e s m args below meth c A D3 D Qf ad H locs ls hC hS hE
  exact lv_pop hC.1 hC.2.1 hd ((w_cv_cat ad a).trans ha) (k p l e s m args below meth c A D3 D Qf ad H locs ls hC hS hE)
theorem Rn.goto {off : Int} {tgt : Nat} (hd : decode K.2.1 pc = .ok (.goto off, 3)) (ht : (pc : Int) + off = (tgt : Int))
    (k : Rn K sx cs tgt lv (st) sh M Q) : Rn K sx cs pc lv (st) sh M Q := by
  intro p l e s m args below meth c A D3 D Qf ad H locs ls hC hS hE
  exact lv_goto hC.1 hC.2.1 hd ht (k p l e s m args below meth c A D3 D Qf ad H locs ls hC hS hE)
theorem Rn.if_eq {x : Int32} {off : Int} {tgt : Nat} (hd : decode K.2.1 pc = .ok (.ifCond .eq off, 3)) (ht : (pc : Int) + off = (tgt : Int))
    (kt : x = 0 → Rn K sx cs tgt lv st sh M Q) (kf : ¬ x = 0 → Rn K sx cs (pc + 3) lv st sh M Q) : Rn K sx cs pc lv (.int x :: st) sh M Q := by
  intro p l e s m args below meth c A D3 D Qf ad H locs ls hC hS hE
  exact lv_if_eq hC.1 hC.2.1 hd ht (fun h => kt h p l e s m args below meth c A D3 D Qf ad H locs ls hC hS hE) (fun h => kf h p l e s m args below meth c A D3 D Qf ad H locs ls hC hS hE)
theorem Rn.if_ne {x : Int32} {off : Int} {tgt : Nat} (hd : decode K.2.1 pc = .ok (.ifCond .ne off, 3)) (ht : (pc : Int) + off = (tgt : Int))
    (kt : ¬ x = 0 → Rn K sx cs tgt lv st sh M Q) (kf : x = 0 → Rn K sx cs (pc + 3) lv st sh M Q) : Rn K sx cs pc lv (.int x :: st) sh M Q := by
  intro p l e s m args below meth c A D3 D Qf ad H locs ls hC hS hE
  exact lv_if_ne hC.1 hC.2.1 hd ht (fun h => kt h p l e s m args below meth c A D3 D Qf ad H locs ls hC hS hE) (fun h => kf h p l e s m args below meth c A D3 D Qf ad H locs ls hC hS hE)
theorem Rn.if_lt {x : Int32} {off : Int} {tgt : Nat} (hd : decode K.2.1 pc = .ok (.ifCond .lt off, 3)) (ht : (pc : Int) + off = (tgt : Int))
    (kt : x < 0 → Rn K sx cs tgt lv st sh M Q) (kf : ¬ x < 0 → Rn K sx cs (pc + 3) lv st sh M Q) : Rn K sx cs pc lv (.int x :: st) sh M Q := by
  intro p l e s m args below meth c A D3 D Qf ad H locs ls hC hS hE
  exact lv_if_lt hC.1 hC.2.1 hd ht (fun h => kt h p l e s m args below meth c A D3 D Qf ad H locs ls hC hS hE) (fun h => kf h p l e s m args below meth c A D3 D Qf ad H locs ls hC hS hE)
theorem Rn.if_ge {x : Int32} {off : Int} {tgt : Nat} (hd : decode K.2.1 pc = .ok (.ifCond .ge off, 3)) (ht : (pc : Int) + off = (tgt : Int))
    (kt : 0 ≤ x → Rn K sx cs tgt lv st sh M Q) (kf : ¬ 0 ≤ x → Rn K sx cs (pc + 3) lv st sh M Q) : Rn K sx cs pc lv (.int x :: st) sh M Q := by
  intro p l e s m args below meth c A D3 D Qf ad H locs ls hC hS hE
  exact lv_if_ge hC.1 hC.2.1 hd ht (fun h => kt h p l e s m args below meth c A D3 D Qf ad H locs ls hC hS hE) (fun h => kf h p l e s m args below meth c A D3 D Qf ad H locs ls hC hS hE)
theorem Rn.if_gt {x : Int32} {off : Int} {tgt : Nat} (hd : decode K.2.1 pc = .ok (.ifCond .gt off, 3)) (ht : (pc : Int) + off = (tgt : Int))
    (kt : 0 < x → Rn K sx cs tgt lv st sh M Q) (kf : ¬ 0 < x → Rn K sx cs (pc + 3) lv st sh M Q) : Rn K sx cs pc lv (.int x :: st) sh M Q := by
  intro p l e s m args below meth c A D3 D Qf ad H locs ls hC hS hE
  exact lv_if_gt hC.1 hC.2.1 hd ht (fun h => kt h p l e s m args below meth c A D3 D Qf ad H locs ls hC hS hE) (fun h => kf h p l e s m args below meth c A D3 D Qf ad H locs ls hC hS hE)
theorem Rn.if_le {x : Int32} {off : Int} {tgt : Nat} (hd : decode K.2.1 pc = .ok (.ifCond .le off, 3)) (ht : (pc : Int) + off = (tgt : Int))
    (kt : x ≤ 0 → Rn K sx cs tgt lv st sh M Q) (kf : ¬ x ≤ 0 → Rn K sx cs (pc + 3) lv st sh M Q) : Rn K sx cs pc lv (.int x :: st) sh M Q := by
  intro p l e s m args below meth c A D3 D Qf ad H locs ls hC hS hE
  exact lv_if_le hC.1 hC.2.1 hd ht (fun h => kt h p l e s m args below meth c A D3 D Qf ad H locs ls hC hS hE) (fun h => kf h p l e s m args below meth c A D3 D Qf ad H locs ls hC hS hE)
theorem Rn.icmp_eq {x y : Int32} {off : Int} {tgt : Nat} (hd : decode K.2.1 pc = .ok (.if_icmp .eq off, 3)) (ht : (pc : Int) + off = (tgt : Int))
    (kt : x = y → Rn K sx cs tgt lv st sh M Q) (kf : ¬ x = y → Rn K sx cs (pc + 3) lv st sh M Q) : Rn K sx cs pc lv (.int y :: .int x :: st) sh M Q := by
  intro p l e s m args below meth c A D3 D Qf ad H locs ls hC hS hE
  exact lv_icmp_eq hC.1 hC.2.1 hd ht (fun h => kt h p l e s m args below meth c A D3 D Qf ad H locs ls hC hS hE) (fun h => kf h p l e s m args below meth c A D3 D Qf ad H locs ls hC hS hE)
theorem Rn.icmp_ne {x y : Int32} {off : Int} {tgt : Nat} (hd : decode K.2.1 pc = .ok (.if_icmp .ne off, 3)) (ht : (pc : Int) + off = (tgt : Int))
    (kt : ¬ x = y → Rn K sx cs tgt lv st sh M Q) (kf : x = y → Rn K sx cs (pc + 3) lv st sh M Q) : Rn K sx cs pc lv (.int y :: .int x :: st) sh M Q := by
  intro p l e s m args below meth c A D3 D Qf ad H locs ls hC hS hE
  exact lv_icmp_ne hC.1 hC.2.1 hd ht (fun h => kt h p l e s m args below meth c A D3 D Qf ad H locs ls hC hS hE) (fun h => kf h p l e s m args below meth c A D3 D Qf ad H locs ls hC hS hE)
theorem Rn.icmp_lt {x y : Int32} {off : Int} {tgt : Nat} (hd : decode K.2.1 pc = .ok (.if_icmp .lt off, 3)) (ht : (pc : Int) + off = (tgt : Int))
    (kt : x < y → Rn K sx cs tgt lv st sh M Q) (kf : ¬ x < y → Rn K sx cs (pc + 3) lv st sh M Q) : Rn K sx cs pc lv (.int y :: .int x :: st) sh M Q := by
  intro p l e s m args below meth c A D3 D Qf ad H locs ls hC hS hE
  exact lv_icmp_lt hC.1 hC.2.1 hd ht (fun h => kt h p l e s m args below meth c A D3 D Qf ad H locs ls hC hS hE) (fun h => kf h p l e s m args below meth c A D3 D Qf ad H locs ls hC hS hE)
theorem Rn.icmp_ge {x y : Int32} {off : Int} {tgt : Nat} (hd : decode K.2.1 pc = .ok (.if_icmp .ge off, 3)) (ht : (pc : Int) + off = (tgt : Int))
    (kt : y ≤ x → Rn K sx cs tgt lv st sh M Q) (kf : ¬ y ≤ x → Rn K sx cs (pc + 3) lv st sh M Q) : Rn K sx cs pc lv (.int y :: .int x :: st) sh M Q := by
  intro p l e s m args below meth c A D3 D Qf ad H locs ls hC hS hE
  exact lv_icmp_ge hC.1 hC.2.1 hd ht (fun h => kt h p l e s m args below meth c A D3 D Qf ad H locs ls hC hS hE) (fun h => kf h p l e s m args below meth c A D3 D Qf ad H locs ls hC hS hE)
theorem Rn.icmp_gt {x y : Int32} {off : Int} {tgt : Nat} (hd : decode K.2.1 pc = .ok (.if_icmp .gt off, 3)) (ht : (pc : Int) + off = (tgt : Int))
    (kt : y < x → Rn K sx cs tgt lv st sh M Q) (kf : ¬ y < x → Rn K sx cs (pc + 3) lv st sh M Q) : Rn K sx cs pc lv (.int y :: .int x :: st) sh M Q := by
  intro p l e s m args below meth c A D3 D Qf ad H locs ls hC hS hE
  exact lv_icmp_gt hC.1 hC.2.1 hd ht (fun h => kt h p l e s m args below meth c A D3 D Qf ad H locs ls hC hS hE) (fun h => kf h p l e s m args below meth c A D3 D Qf ad H locs ls hC hS hE)
theorem Rn.icmp_le {x y : Int32} {off : Int} {tgt : Nat} (hd : decode K.2.1 pc = .ok (.if_icmp .le off, 3)) (ht : (pc : Int) + off = (tgt : Int))
    (kt : x ≤ y → Rn K sx cs tgt lv st sh M Q) (kf : ¬ x ≤ y → Rn K sx cs (pc + 3) lv st sh M Q) : Rn K sx cs pc lv (.int y :: .int x :: st) sh M Q := by
  intro p l e s m args below meth c A D3 D Qf ad H locs ls hC hS hE
  exact lv_icmp_le hC.1 hC.2.1 hd ht (fun h => kt h p l e s m args below meth c A D3 D Qf ad H locs ls hC hS hE) (fun h => kf h p l e s m args below meth c A D3 D Qf ad H locs ls hC hS hE)
theorem Rn.tableOut {dflt lo hi : Int} {offs : Array Int} {len : Nat} {x : Int32} {tgt : Nat} (hd : decode K.2.1 pc = .ok (.tableswitch dflt lo hi offs, len)) (h : x.toInt < lo ∨ hi < x.toInt) (ht : (pc : Int) + dflt = (tgt : Int))
    (k : Rn K sx cs tgt lv st sh M Q) : Rn K sx cs pc lv (.int x :: st) sh M Q := by
  intro p l e s m args below meth c A D3 D Qf ad H locs ls hC hS hE
  exact lv_tableOut hC.1 hC.2.1 hd h ht (k p l e s m args below meth c A D3 D Qf ad H locs ls hC hS hE)
theorem Rn.tableIn {dflt lo hi : Int} {offs : Array Int} {len : Nat} {x : Int32} {off : Int} {tgt : Nat} (hd : decode K.2.1 pc = .ok (.tableswitch dflt lo hi offs, len)) (h1 : ¬ x.toInt < lo) (h2 : ¬ hi < x.toInt) (ho : offs[(x.toInt - lo).toNat]? = some off) (ht : (pc : Int) + off = (tgt : Int))
    (k : Rn K sx cs tgt lv st sh M Q) : Rn K sx cs pc lv (.int x :: st) sh M Q := by
  intro p l e s m args below meth c A D3 D Qf ad H locs ls hC hS hE
  exact lv_tableIn hC.1 hC.2.1 hd h1 h2 ho ht (k p l e s m args below meth c A D3 D Qf ad H locs ls hC hS hE)
theorem Rn.lookup {dflt : Int} {ps : Array (Int × Int)} {len : Nat} {x : Int32} {off : Int} {tgt : Nat} (hd : decode K.2.1 pc = .ok (.lookupswitch dflt ps, len)) (hp : (ps.toList.zip (ps.toList.drop 1)).all (fun (a, next) => a.1 < next.1) = true) (ho : Op.lookupswitch.offset ps.toList dflt x.toInt = off) (ht : (pc : Int) + off = (tgt : Int))
    (k : Rn K sx cs tgt lv st sh M Q) : Rn K sx cs pc lv (.int x :: st) sh M Q := by
  intro p l e s m args below meth c A D3 D Qf ad H locs ls hC hS hE
  exact lv_lookup hC.1 hC.2.1 hd hp ho ht (k p l e s m args below meth c A D3 D Qf ad H locs ls hC hS hE)
theorem Rn.mono {Q' : Option Value → wSh → wM → Nat × Nat → Prop} (h : ∀ v sh' M' cs', Q' v sh' M' cs' → Q v sh' M' cs') (k : Rn K sx cs pc lv st sh M Q') : Rn K sx cs pc lv st sh M Q := by
  intro p l e s m args below meth c A D3 D Qf ad H locs ls hC hS hE
  exact k p l e s m args below meth c A D3 D Qf ad H locs ls hC hS (fun v sh' M' cs' ad' H' locs' pc' ls' hq hx hP hD hS2 hw hr => hE v sh' M' cs' ad' H' locs' pc' ls' (h v sh' M' cs' hq) hx hP hD hS2 hw hr)
theorem Rn.locals {lv1 : List (Option Value)} (h : ∀ (i : Nat) (v : Value), lv1[i]? = some (some v) → lv[i]? = some (some v)) (k : Rn K sx cs pc lv1 st sh M Q) : Rn K sx cs pc lv st sh M Q := by
  intro p l e s m args below meth c A D3 D Qf ad H locs ls hC hS hE
  exact k p l e s m args below meth c A D3 D Qf ad H locs ls hC ⟨hS.1, hS.2.1, hS.2.2.1, ⟨hS.2.2.2.1.1, hS.2.2.2.1.2.1, fun i v hv => hS.2.2.2.1.2.2 i v (h i v hv)⟩, hS.2.2.2.2⟩ hE
theorem Rn.ret {v : Option Value} (hr : w_rt K v pc) (hst : st = v.toList) (hq : Q v sh M cs) : Rn K sx cs pc lv st sh M Q := by
  intro p l e s m args below meth c A D3 D Qf ad H locs ls hC hS hE
  have h := hE v sh M cs ad H locs pc ls hq w_X.rf hS.1 hS.2.1 hS.2.2.1 hS.2.2.2.2.2.1 hr
  subst hst
  cases v with
  | none => exact h
  | some x => exact h
/-- a field: its class's number, its place, its names, whether it is final, whether a reference -/
def w_fld (ci i : Nat) (C nm ds : String) (fin rf : Bool) : Prop := ∃ (T : u_T) (N : Nat) (ty : Nat → FieldType), vwCl[ci]? = some (C, T, N) ∧ (∀ w ∈ u_ws C T N, w ∈ lw_g) ∧ i < N ∧ T i = (C, nm, ds, fin) ∧ (w_fk ci)[i]? = some rf ∧ (w_fk ci).length = N ∧ (∀ k, k < N → parseFieldDescriptor (T k).2.2.1 = some (ty k)) ∧ (∀ a, a < N → ∀ b, b < N → a ≠ b → (T a).2.1 ≠ (T b).2.1) ∧ ci ≠ 12 ∧ ci ≠ 13 ∧ ci ≠ 14
theorem w_cellO {D3 : wD} {ad : Nat → Nat} {M : wM} {k ci z : Nat} (h1 : ci ≠ 12) (h2 : ci ≠ 13) (h3 : ci ≠ 14) : w_cell D3 ad M k (ci, z) = .inr (ci, w_fs ad M k 0 (w_fk ci)) := by simp [w_cell, h1, h2, h3]
theorem w_cellI {D3 : wD} {ad : Nat → Nat} {M : wM} {k z : Nat} : w_cell D3 ad M k (12, z) = .inl (D3.1, z, .inl (M.1 k)) := by simp [w_cell]
theorem w_cellJ {D3 : wD} {ad : Nat → Nat} {M : wM} {k z : Nat} : w_cell D3 ad M k (13, z) = .inl (D3.2.1, z, .inr (.inl (M.2.1 k))) := by simp [w_cell]
theorem w_cellZ {D3 : wD} {ad : Nat → Nat} {M : wM} {k z : Nat} : w_cell D3 ad M k (14, z) = .inl (D3.2.2, z, .inl (M.1 k)) := by simp [w_cell]
theorem Rn.getI {index b ci i z : Nat} {C nm ds : String} {fin : Bool} (hd : decode K.2.1 pc = .ok (.getfield index, 3)) (hf : w_fld ci i C nm ds fin false) (hw : Cond.fieldLink K.1.cls index C nm ds ∈ lw_g) (hsh : sh[b]? = some (ci, z))
    (k : Rn K sx cs (pc + 3) lv (.int (M.1 b i) :: st) sh M Q) : Rn K sx cs pc lv (.ref b :: st) sh M Q := by
  intro p l e s m args below meth c A D3 D Qf ad H locs ls hC hS hE
  obtain ⟨T, N, ty, h1, h2, h3, h4, h5, h6, h7, h8, h9, h10, h11⟩ := hf
  have hg : (w_W D3 ad sh M)[b]? = some (ad b, .inr (ci, w_fs ad M b 0 (w_fk ci))) := by rw [w_get hsh, w_cellO h9 h10 h11]
  refine va_get (ref := C) (T := T) (N := N) hC.1 hC.2.1 hC.2.2.2.2.1 h2 hC.2.2.2.1 hC.2.2.2.2.2.1 hS.1 b hg h1 i h3 (by rw [h4]; exact hC.2.2.2.2.1 _ hw) (fun x hx => by rw [h4] at hx ⊢; exact hx) (w_fs_get ad M b (w_fk ci) 0 i false h5) hd ?_
  rw [Nat.zero_add]
  exact (k p l e s m args below meth c A D3 D Qf ad H locs ls hC hS hE)
theorem Rn.getR {index b ci i z r : Nat} {C nm ds : String} {fin : Bool} (hd : decode K.2.1 pc = .ok (.getfield index, 3)) (hf : w_fld ci i C nm ds fin true) (hw : Cond.fieldLink K.1.cls index C nm ds ∈ lw_g) (hsh : sh[b]? = some (ci, z)) (hr : M.2.2 b i = some r)
    (k : Rn K sx cs (pc + 3) lv (.ref r :: st) sh M Q) : Rn K sx cs pc lv (.ref b :: st) sh M Q := by
  intro p l e s m args below meth c A D3 D Qf ad H locs ls hC hS hE
  obtain ⟨T, N, ty, h1, h2, h3, h4, h5, h6, h7, h8, h9, h10, h11⟩ := hf
  have hg : (w_W D3 ad sh M)[b]? = some (ad b, .inr (ci, w_fs ad M b 0 (w_fk ci))) := by rw [w_get hsh, w_cellO h9 h10 h11]
  refine va_get (ref := C) (T := T) (N := N) hC.1 hC.2.1 hC.2.2.2.2.1 h2 hC.2.2.2.1 hC.2.2.2.2.2.1 hS.1 b hg h1 i h3 (by rw [h4]; exact hC.2.2.2.2.1 _ hw) (fun x hx => by rw [h4] at hx ⊢; exact hx) (w_fs_get ad M b (w_fk ci) 0 i true h5) hd ?_
  rw [Nat.zero_add]
  have e9 : w_fv ad M b i true = .ref (ad r) := by simp [w_fv, hr, va_rf]
  rw [e9]
  exact (k p l e s m args below meth c A D3 D Qf ad H locs ls hC hS hE)
theorem w_uiO {D3 : wD} {ad : Nat → Nat} {b ci i z : Nat} {x : Int32} (hsh : sh[b]? = some (ci, z)) (h5 : (w_fk ci)[i]? = some false) (h9 : ci ≠ 12) (h10 : ci ≠ 13) (h11 : ci ≠ 14) : (w_W D3 ad sh M).set b (ad b, .inr (ci, (w_fs ad M b 0 (w_fk ci)).set i (.int x))) = w_W D3 ad sh (w_ui M b i x) := by
  refine w_set hsh ?_ (fun j hj => ⟨w_ui_off _ _ _ _ _ hj, rfl, rfl⟩)
  rw [w_cellO h9 h10 h11, w_fs_set (M := M) (M' := w_ui M b i x) h5 (by simp [w_fv, w_ui_at]) (fun j hj => w_ui_row _ _ _ _ _ hj) (fun j hj => rfl)]
theorem Rn.putI {index b ci i z : Nat} {C nm ds : String} {x : Int32} {ty0 : FieldType} (hd : decode K.2.1 pc = .ok (.putfield index, 3)) (hf : w_fld ci i C nm ds false false) (hw : Cond.fieldLink K.1.cls index C nm ds ∈ lw_g) (hsh : sh[b]? = some (ci, z)) (hds : parseFieldDescriptor ds = some ty0) (hn : narrow ty0 (.int x) = .int x) (hfit : fits ty0 (.int x) = true)
    (k : Rn K sx cs (pc + 3) lv st sh (w_ui M b i x) Q) : Rn K sx cs pc lv (.int x :: .ref b :: st) sh M Q := by
  intro p l e s m args below meth c A D3 D Qf ad H locs ls hC hS hE
  obtain ⟨T, N, ty, h1, h2, h3, h4, h5, h6, h7, h8, h9, h10, h11⟩ := hf
  have hg : (w_W D3 ad sh M)[b]? = some (ad b, .inr (ci, w_fs ad M b 0 (w_fk ci))) := by rw [w_get hsh, w_cellO h9 h10 h11]
  refine va_put (v := .int x) (ref := C) (T := T) (N := N) (ty := ty0) hC.1 hC.2.1 hC.2.2.2.2.1 h2 ty h7 h8 hC.2.2.2.1 hC.2.2.2.2.2.1 hS.1 hS.2.1 hS.2.2.1 b hg h1 i h3 (by rw [h4]; exact hC.2.2.2.2.1 _ hw) (fun y hy => by rw [h4] at hy ⊢; exact hy) (by rw [h4]) (by rw [h4]; exact hds) hn hfit (by rw [w_fs_len, h6]; exact h3) hd (fun H1 locs1 hP hD hSS => ?_)
  rw [w_uiO hsh h5 h9 h10 h11] at hP hD
  exact k p l e s m args below meth c A D3 D Qf ad H1 locs1 ls hC ⟨hP, hD, hSS, hS.2.2.2.1, hS.2.2.2.2.1, hS.2.2.2.2.2⟩ hE
theorem w_urO {D3 : wD} {ad : Nat → Nat} {b ci i z r : Nat} (hsh : sh[b]? = some (ci, z)) (h5 : (w_fk ci)[i]? = some true) (h9 : ci ≠ 12) (h10 : ci ≠ 13) (h11 : ci ≠ 14) : (w_W D3 ad sh M).set b (ad b, .inr (ci, (w_fs ad M b 0 (w_fk ci)).set i (.ref (ad r)))) = w_W D3 ad sh (w_ur M b i (some r)) := by
  refine w_set hsh ?_ (fun j hj => ⟨rfl, rfl, by simp [w_ur, va_up, hj]⟩)
  rw [w_cellO h9 h10 h11, w_fs_set (M := M) (M' := w_ur M b i (some r)) h5 (by simp [w_fv, w_ur_if, va_rf]) (fun j hj => rfl) (fun j hj => by simp [w_ur_if, hj])]
/-- a final reference field, in a constructor -/
theorem Rn.putR {index b ci i z r : Nat} {C nm ds : String} {ty0 : FieldType} (hd : decode K.2.1 pc = .ok (.putfield index, 3)) (hf : w_fld ci i C nm ds true true) (hw : Cond.fieldLink K.1.cls index C nm ds ∈ lw_g) (hsh : sh[b]? = some (ci, z)) (hds : parseFieldDescriptor ds = some ty0) (hn : ∀ a, narrow ty0 (.ref a) = .ref a) (hfit : ∀ a, fits ty0 (.ref a) = true) (hin : K.1.name = "<init>") (hcls : C = K.1.cls) (hrl : r < sh.length)
    (k : Rn K sx cs (pc + 3) lv st sh (w_ur M b i (some r)) Q) : Rn K sx cs pc lv (.ref r :: .ref b :: st) sh M Q := by
  intro p l e s m args below meth c A D3 D Qf ad H locs ls hC hS hE
  obtain ⟨T, N, ty, h1, h2, h3, h4, h5, h6, h7, h8, h9, h10, h11⟩ := hf
  have hg : (w_W D3 ad sh M)[b]? = some (ad b, .inr (ci, w_fs ad M b 0 (w_fk ci))) := by rw [w_get hsh, w_cellO h9 h10 h11]
  refine va_putF (v := .ref (ad r)) (ref := C) (T := T) (N := N) (ty := ty0) hC.1 hC.2.1 hC.2.2.2.2.1 h2 ty h7 h8 hC.2.2.2.1 hC.2.2.2.2.2.1 hS.1 hS.2.1 hS.2.2.1 b hg h1 i h3 (by rw [h4]; exact hC.2.2.2.2.1 _ hw) (fun y hy => by rw [h4] at hy ⊢; exact hy) (by rw [h4]) (hC.2.2.2.2.2.2.2.2.1.trans hin) (by rw [h4]; exact hcls) (by rw [h4]; exact hds) (hn _) (hfit _) (by rw [w_fs_len, h6]; exact h3) hd (fun H1 locs1 hP hD hSS => ?_)
  rw [w_urO hsh h5 h9 h10 h11] at hP hD
  refine k p l e s m args below meth c A D3 D Qf ad H1 locs1 ls hC ⟨hP, hD, hSS, hS.2.2.2.1, hS.2.2.2.2.1, fun a j x hx => ?_, hS.2.2.2.2.2.2⟩ hE
  rw [w_ur_if] at hx
  split at hx
  · cases hx; exact hrl
  · exact hS.2.2.2.2.2.1 a j x hx
/-! arrays -/
theorem Rn.alen {b z t : Nat} (hd : decode K.2.1 pc = .ok (.arraylength, 1)) (hsh : sh[b]? = some (t, z)) (ht : t = 12 ∨ t = 13 ∨ t = 14)
    (k : Rn K sx cs (pc + 1) lv (.int (nI z) :: st) sh M Q) : Rn K sx cs pc lv (.ref b :: st) sh M Q := by
  intro p l e s m args below meth c A D3 D Qf ad H locs ls hC hS hE
  have hK := hC.2.2.2.2.2.1
  rcases ht with rfl | rfl | rfl
  · exact va_alen (tys := w_ty D3) (ty := .int) hC.1 hC.2.1 hK hS.1 b 0 (x := (z, .inl (M.1 b))) (by rw [w_get hsh, w_cellI]) rfl rfl hd (k p l e s m args below meth c A D3 D Qf ad H locs ls hC hS hE)
  · exact va_alen (tys := w_ty D3) (ty := .long) hC.1 hC.2.1 hK hS.1 b 1 (x := (z, .inr (.inl (M.2.1 b)))) (by rw [w_get hsh, w_cellJ]) rfl rfl hd (k p l e s m args below meth c A D3 D Qf ad H locs ls hC hS hE)
  · exact va_alen (tys := w_ty D3) (ty := .boolean) hC.1 hC.2.1 hK hS.1 b 2 (x := (z, .inl (M.1 b))) (by rw [w_get hsh, w_cellZ]) rfl rfl hd (k p l e s m args below meth c A D3 D Qf ad H locs ls hC hS hE)
theorem Rn.iald {b z : Nat} {i : Int32} (hd : decode K.2.1 pc = .ok (.iaload, 1)) (hsh : sh[b]? = some (12, z)) (hin : vp_in i z)
    (k : Rn K sx cs (pc + 1) lv (.int (M.1 b i.toNatClampNeg) :: st) sh M Q) : Rn K sx cs pc lv (.int i :: .ref b :: st) sh M Q := by
  intro p l e s m args below meth c A D3 D Qf ad H locs ls hC hS hE
  exact va_iald (tys := w_ty D3) hC.1 hC.2.1 hC.2.2.2.2.2.1 hS.1 b 0 (by rw [w_get hsh, w_cellI]) rfl hin hd (k p l e s m args below meth c A D3 D Qf ad H locs ls hC hS hE)
theorem Rn.lald {b z : Nat} {i : Int32} (hd : decode K.2.1 pc = .ok (.laload, 1)) (hsh : sh[b]? = some (13, z)) (hin : vp_in i z)
    (k : Rn K sx cs (pc + 1) lv (.long (M.2.1 b i.toNatClampNeg) :: st) sh M Q) : Rn K sx cs pc lv (.int i :: .ref b :: st) sh M Q := by
  intro p l e s m args below meth c A D3 D Qf ad H locs ls hC hS hE
  exact va_lald (tys := w_ty D3) hC.1 hC.2.1 hC.2.2.2.2.2.1 hS.1 b 1 (by rw [w_get hsh, w_cellJ]) rfl hin hd (k p l e s m args below meth c A D3 D Qf ad H locs ls hC hS hE)
theorem Rn.zald {b z : Nat} {i : Int32} (hd : decode K.2.1 pc = .ok (.baload, 1)) (hsh : sh[b]? = some (14, z)) (hin : vp_in i z)
    (k : Rn K sx cs (pc + 1) lv (.int (M.1 b i.toNatClampNeg) :: st) sh M Q) : Rn K sx cs pc lv (.int i :: .ref b :: st) sh M Q := by
  intro p l e s m args below meth c A D3 D Qf ad H locs ls hC hS hE
  exact va_zald (tys := w_ty D3) hC.1 hC.2.1 hC.2.2.2.2.2.1 hS.1 b 2 (by rw [w_get hsh, w_cellZ]) rfl hin hd (k p l e s m args below meth c A D3 D Qf ad H locs ls hC hS hE)
theorem w_ui_row' (M : wM) (k j : Nat) (x : Int32) : (w_ui M k j x).1 k = upd (M.1 k) j x := by simp [w_ui, va_up]
theorem w_ul_row' (M : wM) (k j : Nat) (x : Int64) : (w_ul M k j x).2.1 k = vp_updL (M.2.1 k) j x := by simp [w_ul, va_up]
theorem Rn.iast {b z : Nat} {i x : Int32} (hd : decode K.2.1 pc = .ok (.iastore, 1)) (hsh : sh[b]? = some (12, z)) (hin : vp_in i z)
    (k : Rn K sx cs (pc + 1) lv st sh (w_ui M b i.toNatClampNeg x) Q) : Rn K sx cs pc lv (.int x :: .int i :: .ref b :: st) sh M Q := by
  intro p l e s m args below meth c A D3 D Qf ad H locs ls hC hS hE
  refine va_iast (tys := w_ty D3) hC.1 hC.2.1 hC.2.2.2.2.2.1 hS.1 hS.2.1 hS.2.2.1 b 0 (by rw [w_get hsh, w_cellI]) rfl hin hd (fun H1 locs1 hP hD hSS => ?_)
  rw [w_set (M := M) (M' := w_ui M b i.toNatClampNeg x) hsh (by rw [w_cellI, w_ui_row']) (fun j hj => ⟨w_ui_off _ _ _ _ _ hj, rfl, rfl⟩)] at hP hD
  exact k p l e s m args below meth c A D3 D Qf ad H1 locs1 ls hC ⟨hP, hD, hSS, hS.2.2.2.1, hS.2.2.2.2.1, hS.2.2.2.2.2⟩ hE
theorem Rn.last {b z : Nat} {i : Int32} {x : Int64} (hd : decode K.2.1 pc = .ok (.lastore, 1)) (hsh : sh[b]? = some (13, z)) (hin : vp_in i z)
    (k : Rn K sx cs (pc + 1) lv st sh (w_ul M b i.toNatClampNeg x) Q) : Rn K sx cs pc lv (.long x :: .int i :: .ref b :: st) sh M Q := by
  intro p l e s m args below meth c A D3 D Qf ad H locs ls hC hS hE
  refine va_last (tys := w_ty D3) hC.1 hC.2.1 hC.2.2.2.2.2.1 hS.1 hS.2.1 hS.2.2.1 b 1 (by rw [w_get hsh, w_cellJ]) rfl hin hd (fun H1 locs1 hP hD hSS => ?_)
  rw [w_set (M := M) (M' := w_ul M b i.toNatClampNeg x) hsh (by rw [w_cellJ, w_ul_row']) (fun j hj => ⟨rfl, by simp [w_ul, va_up, hj], rfl⟩)] at hP hD
  exact k p l e s m args below meth c A D3 D Qf ad H1 locs1 ls hC ⟨hP, hD, hSS, hS.2.2.2.1, hS.2.2.2.2.1, hS.2.2.2.2.2⟩ hE
theorem Rn.zast {b z : Nat} {i x y : Int32} (hd : decode K.2.1 pc = .ok (.bastore, 1)) (hsh : sh[b]? = some (14, z)) (hin : vp_in i z) (hx : vp_nar .boolean x = y)
    (k : Rn K sx cs (pc + 1) lv st sh (w_ui M b i.toNatClampNeg y) Q) : Rn K sx cs pc lv (.int x :: .int i :: .ref b :: st) sh M Q := by
  intro p l e s m args below meth c A D3 D Qf ad H locs ls hC hS hE
  subst hx
  refine va_zast (tys := w_ty D3) hC.1 hC.2.1 hC.2.2.2.2.2.1 hS.1 hS.2.1 hS.2.2.1 b 2 (by rw [w_get hsh, w_cellZ]) rfl hin hd (fun H1 locs1 hP hD hSS => ?_)
  rw [w_set (M := M) (M' := w_ui M b i.toNatClampNeg (vp_nar .boolean x)) hsh (by rw [w_cellZ, w_ui_row']) (fun j hj => ⟨w_ui_off _ _ _ _ _ hj, rfl, rfl⟩)] at hP hD
  exact k p l e s m args below meth c A D3 D Qf ad H1 locs1 ls hC ⟨hP, hD, hSS, hS.2.2.2.1, hS.2.2.2.2.1, hS.2.2.2.2.2⟩ hE
/-! the law's own script -/
theorem Rn.sld {L b0 : Nat} {xs : Nat → Int32} {i : Int32} (hs : sx = some (L, xs, b0)) (hd : decode K.2.1 pc = .ok (.iaload, 1)) (hin : vp_in i L)
    (k : Rn K sx cs (pc + 1) lv (.int (xs i.toNatClampNeg) :: st) sh M Q) : Rn K sx cs pc lv (.int i :: .ref w_scr :: st) sh M Q := by
  intro p l e s m args below meth c A D3 D Qf ad H locs ls hC hS hE
  subst hs
  obtain ⟨h1, h2, h3⟩ : va_X b0 L xs s s.heap ∧ b0 < s.heap.size ∧ ¬ A b0 := hC.2.2.2.2.2.2.2.2.2
  have h4 : ad w_scr = b0 := hS.2.2.2.2.2.2
  show W p l e _ s m args below meth c H locs _ _ Qf (F0 m pc ls (.int i :: .ref (ad w_scr) :: st.map (w_cv ad)))
  rw [h4]
  exact va_sld hC.1 hC.2.1 h1 h2 h3 hS.2.2.1 hin hd (k p l e s m args below meth c A D3 D Qf ad H locs ls hC hS hE)
theorem Rn.slen {L b0 : Nat} {xs : Nat → Int32} (hs : sx = some (L, xs, b0)) (hd : decode K.2.1 pc = .ok (.arraylength, 1))
    (k : Rn K sx cs (pc + 1) lv (.int (nI L) :: st) sh M Q) : Rn K sx cs pc lv (.ref w_scr :: st) sh M Q := by
  intro p l e s m args below meth c A D3 D Qf ad H locs ls hC hS hE
  subst hs
  obtain ⟨h1, h2, h3⟩ : va_X b0 L xs s s.heap ∧ b0 < s.heap.size ∧ ¬ A b0 := hC.2.2.2.2.2.2.2.2.2
  have h4 : ad w_scr = b0 := hS.2.2.2.2.2.2
  show W p l e _ s m args below meth c H locs _ _ Qf (F0 m pc ls (.ref (ad w_scr) :: st.map (w_cv ad)))
  rw [h4]
  exact va_slen hC.1 hC.2.1 h1 h2 h3 hS.2.2.1 hd (k p l e s m args below meth c A D3 D Qf ad H locs ls hC hS hE)
end RN
end
section
/-! Contracts over Rn, calls, what is made. -/
def w_ws (K : wK) : List Cond := Cond.code K.1 K.2.1 K.2.2.1 K.2.2.2.1 :: lw_g
def w_Pc (D3 : wD) (D : va_G) (ad : Nat → Nat) (sh : wSh) (M : wM) (As : List Value) (sz : Nat) : Array Value → State → Prop :=
  va_Pc (As.map (w_cv ad)) (fun U => U.heap.size = sz ∧ va_P D vwCl (w_W D3 ad sh M) U.heap ∧ va_K D vwCl (w_ty D3) U ∧ va_D (fun _ => True) (w_W D3 ad sh M) ∧ w_nw U)
def w_Qc (D3 : wD) (D : va_G) (ad : Nat → Nat) (sh : wSh) (Q : Option Value → wSh → wM → Prop) (A : Nat → Prop) : Array Value → State → Outcome → State → Prop := fun _ st oc t =>
  (∃ (v : Option Value) (sh' : wSh) (M' : wM) (ad' : Nat → Nat), oc = .returned (v.map (w_cv ad')) ∧ Q v sh' M' ∧ w_X ad sh ad' sh' ∧ w_wf sh' M' ∧ va_P D vwCl (w_W D3 ad' sh' M') t.heap ∧ va_D A (w_W D3 ad' sh' M')) ∧ va_F A st t
/-- a method's contract: with these arguments and this memory it returns, and Q -/
def Ev (K : wK) (As : List Value) (sh : wSh) (M : wM) (Q : Option Value → wSh → wM → Prop) : Prop :=
  w_wf sh M → ∀ (l : Launch) (D3 : wD) (D : va_G) (ad : Nat → Nat) (sz : Nat), Met l K.1 (w_ws K) K.2.2.2.2 (w_Pc D3 D ad sh M As sz) (w_Qc D3 D ad sh Q (va_A (w_W D3 ad sh M) sz)) K.2.2.2.2.cells K.2.2.2.2.slots (va_A (w_W D3 ad sh M) sz)
theorem Ev.mono {K : wK} {As : List Value} {sh : wSh} {M : wM} {Q Q' : Option Value → wSh → wM → Prop} (h : ∀ v sh' M', Q' v sh' M' → Q v sh' M') (k : Ev K As sh M Q') : Ev K As sh M Q := by
  intro hwf l D3 D ad sz p e ha hc hk s m args below hf hap hP hK
  obtain ⟨n, o, h1, h2, h3, h4, h5⟩ := k hwf l D3 D ad sz p e ha hc hk s m args below hf hap hP hK
  refine ⟨n, o, h1, h2, h3, ?_, h5⟩
  obtain ⟨⟨v, sh', M', ad', a1, a2, a3⟩, a4⟩ := h4
  exact ⟨⟨v, sh', M', ad', a1, h _ _ _ a2, a3⟩, a4⟩
/-! the entry -/
def w_lv : List Value → List (Option Value)
  | [] => []
  | .long x :: t => some (.long x) :: none :: w_lv t
  | .double x :: t => some (.double x) :: none :: w_lv t
  | v :: t => some v :: w_lv t
theorem w_lv_1 {v : Value} (h : v.category = 1) (t : List Value) : w_lv (v :: t) = some v :: w_lv t := by cases v <;> first | rfl | cases h
theorem w_lv_2 {v : Value} (h : v.category = 2) (t : List Value) : w_lv (v :: t) = some v :: none :: w_lv t := by cases v <;> first | rfl | cases h
theorem w_lv_args (ad : Nat → Nat) : ∀ (As : List Value) (i j : Nat) (v : Value), (w_lv As)[j]? = some (some v) → (i + j, w_cv ad v) ∈ lv_args i (As.map (w_cv ad))
  | [], _, _, _, h => by simp [w_lv] at h
  | a :: t, i, j, v, h => by
    have hc := w_cv_cat ad a
    rcases lv_cat a with h1 | h2
    · rw [w_lv_1 h1] at h
      rw [List.map_cons, lv_args, if_neg (by rw [hc, h1]; decide)]
      cases j with
      | zero => simp at h; subst h; exact List.mem_cons_self
      | succ j =>
        have := w_lv_args ad t (i + 1) j v (by simpa using h)
        rw [Nat.add_assoc, Nat.add_comm 1 j] at this
        exact List.mem_cons_of_mem _ this
    · rw [w_lv_2 h2] at h
      rw [List.map_cons, lv_args, if_pos (by rw [hc, h2])]
      match j, h with
      | 0, h => simp at h; subst h; exact List.mem_cons_self
      | 1, h => simp at h
      | j + 2, h =>
        have := w_lv_args ad t (i + 2) j v (by simpa using h)
        rw [Nat.add_assoc, Nat.add_comm 2 j] at this
        exact List.mem_cons_of_mem _ this
theorem w_sl (ad : Nat → Nat) (As : List Value) : (lg_sl (As.map (w_cv ad))).length = (lg_sl As).length := by
  induction As with
  | nil => rfl
  | cons a t ih =>
    have hc := w_cv_cat ad a
    simp only [lg_sl, List.map_cons, List.flatMap_cons, List.length_append] at ih ⊢
    rw [ih, hc]
    by_cases h : a.category = 2 <;> simp [h]
theorem w_L.entry {ad : Nat → Nat} {As : List Value} {n : Nat} {lv : List (Option Value)} (hn : (lg_sl As).length ≤ n) (hlv : ∀ (j : Nat) (v : Value), lv[j]? = some (some v) → (w_lv As)[j]? = some (some v)) :
    w_L n ad lv ((lg_sl (As.map (w_cv ad)) ++ List.replicate (n - (lg_sl (As.map (w_cv ad))).length) Slot.unset).toArray) := by
  have h := lv_entry (As.map (w_cv ad)) (n := n) (by rw [w_sl]; exact hn)
  refine ⟨h.1, h.2.1, fun j v hj => ?_⟩
  have h2 := w_lv_args ad As 0 j v (hlv j v hj)
  rw [Nat.zero_add] at h2
  exact h.2.2 _ h2
theorem w_pad (As : List Value) (k : Nat) : ∀ (j : Nat) (v : Value), (w_lv As ++ List.replicate k none)[j]? = some (some v) → (w_lv As)[j]? = some (some v) := by
  intro j v h
  by_cases hj : j < (w_lv As).length
  · rw [List.getElem?_append_left hj] at h; exact h
  · rw [List.getElem?_append_right (by omega)] at h
    have := List.mem_of_getElem? h
    simp at this
theorem Ev.of {K : wK} {As : List Value} {sh : wSh} {M : wM} {Q : Option Value → wSh → wM → Prop} {lv : List (Option Value)} (k0 : Nat) (hy : plainName K.1.cls = true) (hn : (lg_sl As).length ≤ K.2.2.1) (hlv : w_lv As ++ List.replicate k0 none = lv)
    (body : Rn K none (0, 0) 0 lv [] sh M (fun v sh' M' cs' => Q v sh' M' ∧ cs'.1 ≤ K.2.2.2.2.cells ∧ cs'.2 ≤ K.2.2.2.2.slots)) : Ev K As sh M Q := by
  subst hlv
  intro hwf l D3 D ad sz
  refine Met.ofW (cc := K.2.1) (maxL := K.2.2.1) (ret := K.2.2.2.1) hy rfl ?_
  intro p e s m args below meth c s₁ B hml hv
  obtain ⟨rfl, hsz, hP, hK, hD0, hnw⟩ := hv
  have hts := atoms_spec (ws := w_ws K) B.pre
  have hown : s.vm.findClass K.1.cls = some m.cls := findClass_of_methodNamed B.named
  have hlocks := B.notSynchronized
  have hin : meth.name = K.1.name := (name_of_methodNamed B.named B.method).1
  have hr := B.returns
  subst hsz
  have hD := hD0.self (sz := s.heap.size)
  generalize hAe : va_A (w_W D3 ad sh M) s.heap.size = A at hD ⊢
  have hA : ∀ q : Nat, s.heap.size ≤ q → A q := fun q h => by rw [← hAe]; exact Or.inr h
  rw [lg_entry_eq]
  have hl := w_L.entry (ad := ad) hn (w_pad As k0)
  generalize (lg_sl (As.map (w_cv ad)) ++ List.replicate (K.2.2.1 - (lg_sl (As.map (w_cv ad))).length) Slot.unset).toArray = ls at hl ⊢
  refine body p l e s m (As.map (w_cv ad)).toArray below meth c A D3 D _ ad s.heap [] ls
    ⟨B.exec, B.bytes, hml, hown, fun w hw => hts w (List.mem_cons_of_mem _ hw), hK, hA, hnw, hin, trivial⟩
    ⟨hP, hD, va_S.rf, hl, ⟨Nat.zero_le _, Nat.zero_le _⟩, hwf, trivial⟩ ?_
  intro v sh' M' cs' ad' H' locs' pc' ls' hq hx hP' hD' hS' hwf' hrt
  refine W.widen (k := K.2.2.2.2.cells) (n := K.2.2.2.2.slots) hq.2.1 hq.2.2 ?_
  have fin : ∀ t : State, t.heap = H' → w_Qc D3 D ad sh Q A (As.map (w_cv ad)).toArray s (.returned (v.map (w_cv ad'))) t := fun t ht =>
    ⟨⟨v, sh', M', ad', rfl, hq.1, hx, hwf', by rw [ht]; exact hP', hD'⟩, hS'.F ht⟩
  match v, hrt with
  | none, hrt => exact W.vret B.exec B.bytes (hr.trans hrt.2) (fun t ht _ => fin t ht) hS'.2.2 hrt.1
  | some (.int x), hrt =>
    obtain ⟨hd, ty, h1, h2⟩ := hrt
    exact W.zret B.exec B.bytes (hr.trans h1) h2 (fun t ht _ => fin t ht) hS'.2.2 hd
  | some (.long x), hrt => exact W.lret B.exec B.bytes (hr.trans hrt.2) (fun t ht _ => fin t ht) hS'.2.2 hrt.1
  | some (.ref x), hrt =>
    obtain ⟨hd, n, h1⟩ := hrt
    exact W.aret (v := .ref (ad' x)) B.exec B.bytes (hr.trans h1) (Or.inl ⟨n, rfl⟩) (Or.inr ⟨ad' x, rfl⟩) (fun t ht _ => fin t ht) hS'.2.2 hd
/-! calls -/
theorem w_run {p : Program} {l : Launch} {e : Env} {R : Room} {s : State} {m : MethodId} {args : Array Value} {below : List Frame} {meth : Method} {c : Code} {H : Heap} {locs : List Loc} {cells slots mc ms : Nat} {Qf : State → Prop} {pc : Nat} {ls : Array Slot} {st0 rest : List Value} {D3 : wD} {D : va_G} {ad : Nat → Nat} {sh : wSh} {M : wM} {Q' : Option Value → wSh → wM → Prop} {a : Array Value} {A : Nat → Prop}
    (hr : va_Run p l e R s m args below meth c H locs cells slots mc ms (F0 m pc ls st0) rest (w_Qc D3 D ad sh Q' (va_A (w_W D3 ad sh M) H.size) a) (va_A (w_W D3 ad sh M) H.size)) (hD : va_D A (w_W D3 ad sh M)) (hS : va_S A s.heap H locs) (hA : ∀ q, s.heap.size ≤ q → A q)
    (kk : ∀ (v : Option Value) (sh' : wSh) (M' : wM) (ad' : Nat → Nat) (H1 : Heap) (locs1 : List Loc), Q' v sh' M' → w_X ad sh ad' sh' → w_wf sh' M' → va_P D vwCl (w_W D3 ad' sh' M') H1 → va_D A (w_W D3 ad' sh' M') → va_S A s.heap H1 locs1 → W p l e R s m args below meth c H1 locs1 (cells + mc) (slots + ms) Qf (F0 m (pc + 3) ls ((v.map (w_cv ad')).toList ++ rest))) :
    W p l e R s m args below meth c H locs cells slots Qf (F0 m pc ls st0) := by
  have hF : ∀ q, va_A (w_W D3 ad sh M) H.size q → A q := by
    intro q hq
    rcases hq with ⟨k, e2, hk⟩ | hq
    · exact hD.2 k (q, e2) hk
    · exact hA q (Nat.le_trans hS.1 hq)
  intro T hT X
  obtain ⟨v0, st₀, t, T', L, h0, X', hL, e1, e2, ⟨⟨v, sh', M', ad', hv, hq, hx, hwf, hP', hD'⟩, hz, hk⟩, stp⟩ := hr T hT X
  cases hv
  rw [h0] at hz hk
  obtain ⟨t2, a1, b1⟩ := kk v sh' M' ad' T'.heap (locs ++ L) hq hx hwf (by rw [e1]; exact hP') (hD'.weaken (fun _ q _ h => hF q.1 h))
    ⟨Nat.le_trans hS.1 (by rw [e1]; exact hz), fun q h1 h2 => by rw [e1, hk q (Nat.lt_of_lt_of_le h1 hS.1) (fun z => h2 (hF q z))]; exact hS.2.1 q h1 h2, fun q hq => by
      rcases List.mem_append.mp hq with h | h
      · exact hS.2.2 q h
      · exact hF _ (hL q h)⟩ T' rfl X'
  exact ⟨t2, stp t2 a1, b1⟩
/-- what a call site needs of the callee, but its link -/
def w_site (K K' : wK) (n : Nat) : Prop := Cond.code K'.1 K'.2.1 K'.2.2.1 K'.2.2.2.1 ∈ lw_g ∧ Cond.initialized K'.1.cls ∈ lw_g ∧
  (K'.1.cls ≠ "java/lang/invoke/MethodHandle" ∧ K'.1.cls ≠ "java/lang/invoke/VarHandle" ∧ (parseMethodDescriptor K'.1.desc).map (fun d => d.parameters.length) = some n) ∧ (K'.2.2.2.2.frames + 1 ≤ K.2.2.2.2.frames ∧ 8 + (K'.2.2.1 + 11) + K'.2.2.2.2.locals ≤ K.2.2.2.2.locals)
theorem w_good {K' : wK} (h : Cond.code K'.1 K'.2.1 K'.2.2.1 K'.2.2.2.1 ∈ lw_g) : GoodIn lw_g (w_ws K') := by
  intro w hw
  rcases List.mem_cons.mp hw with rfl | hw
  · exact ⟨h, good_of_word (g_good _ h).2⟩
  · exact ⟨hw, good_of_word (g_good _ hw).2⟩
theorem w_fb {D3 : wD} {D : va_G} {ad : Nat → Nat} {sh : wSh} {M : wM} {As : List Value} {sz : Nat} : FrameBlind (w_Pc D3 D ad sh M As sz) := fun a U g mk q => by
  obtain ⟨q0, q1, qP, qK, qD, qN⟩ := q
  exact ⟨q0, q1, qP, va_K.moved (u := U) (U := U.calling g mk a) (Vm.Alike.refl U.vm) qK, qD, qN.same rfl⟩
section CALLS
variable {K K' : wK} {sx : Option (Nat × (Nat → Int32) × Nat)} {cs : Nat × Nat} {pc : Nat} {lv : List (Option Value)} {st rest As : List Value} {sh : wSh} {M : wM} {Q : Option Value → wSh → wM → Nat × Nat → Prop} {Q' : Option Value → wSh → wM → Prop} {index n b ci z : Nat}
/-- the references of a list lie within -/
def w_in (n : Nat) (l : List Value) : Prop := ∀ k, Value.ref k ∈ l → k < n ∨ k = w_scr
def w_inL (n : Nat) (l : List (Option Value)) : Prop := ∀ k, some (Value.ref k) ∈ l → k < n ∨ k = w_scr
theorem w_in.map {n : Nat} {l : List Value} {ad ad' : Nat → Nat} (h : w_in n l) (h1 : ∀ k, k < n → ad' k = ad k) (h2 : ad' w_scr = ad w_scr) : l.map (w_cv ad') = l.map (w_cv ad) := by
  apply List.map_congr_left
  intro v hv
  cases v with
  | ref k =>
    rcases h k hv with hk | rfl
    · simp [w_cv, h1 k hk]
    · simp [w_cv, h2]
  | _ => rfl
theorem w_L.mv {nL n : Nat} {ad ad' : Nat → Nat} {lv : List (Option Value)} {ls : Array Slot} (h : w_L nL ad lv ls) (hl : w_inL n lv) (h1 : ∀ k, k < n → ad' k = ad k) (h2 : ad' w_scr = ad w_scr) : w_L nL ad' lv ls := by
  refine ⟨h.1, h.2.1, fun i v hv => ?_⟩
  rw [h.2.2 i v hv]
  cases v with
  | ref k =>
    rcases hl k (List.mem_of_getElem? hv) with hk | rfl
    · simp [w_cv, h1 k hk]
    · simp [w_cv, h2]
  | _ => rfl
/-- behind a call that may make cells -/
theorem w_back {p : Program} {l : Launch} {e : Env} {s : State} {m : MethodId} {args : Array Value} {below : List Frame} {meth : Method} {c : Code} {A : Nat → Prop} {D3 : wD} {D : va_G} {Qf : State → Prop} {ad : Nat → Nat} {H : Heap} {locs : List Loc} {ls : Array Slot} {a : Array Value} {st0 : List Value}
    (hC : w_C K sx p s m args meth c A D3 D) (hS : w_S K sx s A D3 D ad sh M H locs lv ls cs) (hE : w_E K sx p l e s m args below meth c A D3 D Qf Q ad sh)
    (hr : va_Run p l e K.2.2.2.2 s m args below meth c H locs cs.1 cs.2 K'.2.2.2.2.cells K'.2.2.2.2.slots (F0 m pc ls st0) (rest.map (w_cv ad)) (w_Qc D3 D ad sh Q' (va_A (w_W D3 ad sh M) H.size) a) (va_A (w_W D3 ad sh M) H.size))
    (hcc : cs.1 + K'.2.2.2.2.cells ≤ K.2.2.2.2.cells ∧ cs.2 + K'.2.2.2.2.slots ≤ K.2.2.2.2.slots) (hok : (w_in sh.length rest ∧ w_inL sh.length lv) ∨ ∀ v sh' M', Q' v sh' M' → sh'.length = sh.length)
    (k : ∀ v sh' M', Q' v sh' M' → sh.length ≤ sh'.length → Rn K sx (cs.1 + K'.2.2.2.2.cells, cs.2 + K'.2.2.2.2.slots) (pc + 3) lv (v.toList ++ rest) sh' M' Q) :
    W p l e K.2.2.2.2 s m args below meth c H locs cs.1 cs.2 Qf (F0 m pc ls st0) := by
  refine w_run hr hS.2.1 hS.2.2.1 hC.2.2.2.2.2.2.1 (fun v sh' M' ad' H1 locs1 hq hx hwf hP hD hSS => ?_)
  have hm : rest.map (w_cv ad') = rest.map (w_cv ad) := by
    rcases hok with hok | hok
    · exact hok.1.map hx.1 hx.2.1
    · rw [hx.2.2.2 (hok v sh' M' hq)]
  have hL : w_L K.2.2.1 ad' lv ls := by
    rcases hok with hok | hok
    · exact hS.2.2.2.1.mv hok.2 hx.1 hx.2.1
    · rw [hx.2.2.2 (hok v sh' M' hq)]; exact hS.2.2.2.1
  have h2 := k v sh' M' hq hx.2.2.1 p l e s m args below meth c A D3 D Qf ad' H1 locs1 ls hC ⟨hP, hD, hSS, hL, hcc, hwf, by
    have h3 := hS.2.2.2.2.2.2
    cases sx with
    | none => trivial
    | some q => exact hx.2.1.trans h3⟩ (hE.mv hx)
  rw [List.map_append, hm] at h2
  cases v with
  | none => exact h2
  | some x => exact h2
theorem Rn.callV (hd : decode K.2.1 pc = .ok (.invokevirtual index, 3)) (hs : w_site K K' n) (hl : Cond.methodLink K.1.cls index K'.1 ∈ lw_g) (hi : Cond.instanceMethod K'.1 ∈ lw_g) (hse : Cond.selects K'.1.cls K'.1 K'.1 ∈ lw_g) (hE' : Ev K' (.ref b :: As) sh M Q') (hst : st = As.reverse ++ .ref b :: rest) (hn : As.length = n) (hsh : sh[b]? = some (ci, z)) (hci : ∃ T N, vwCl[ci]? = some (K'.1.cls, T, N) ∧ ci ≠ 12 ∧ ci ≠ 13 ∧ ci ≠ 14) (hW : (rest.map fun v => v.category).sum ≤ 8)
    (hcc : cs.1 + K'.2.2.2.2.cells ≤ K.2.2.2.2.cells ∧ cs.2 + K'.2.2.2.2.slots ≤ K.2.2.2.2.slots) (hok : (w_in sh.length rest ∧ w_inL sh.length lv) ∨ ∀ v sh' M', Q' v sh' M' → sh'.length = sh.length)
    (k : ∀ v sh' M', Q' v sh' M' → sh.length ≤ sh'.length → Rn K sx (cs.1 + K'.2.2.2.2.cells, cs.2 + K'.2.2.2.2.slots) (pc + 3) lv (v.toList ++ rest) sh' M' Q) : Rn K sx cs pc lv st sh M Q := by
  subst hst
  intro p l e s m args below meth c A D3 D Qf ad H locs ls hC hS hE
  obtain ⟨T0, N0, hc1, hc2, hc3, hc4⟩ := hci
  have hts := hC.2.2.2.2.1
  refine w_back (a := (Value.ref (ad b) :: As.map (w_cv ad)).toArray) hC hS hE ?_ hcc hok k
  refine va_runV (C := K'.1.cls) (y := K'.1) (bytes := K'.2.1) (maxL := K'.2.2.1) (ret := K'.2.2.2.1) (ws := w_ws K') (rm := K'.2.2.2.2) (n := n) (Ts := lw_g) (own := K.1.cls) (index := index) (b := ad b) (As := As.map (w_cv ad)) (cc := K.2.1) (nL := K.2.2.1)
    ⟨hC.1, hC.2.1, hC.2.2.1, hC.2.2.2.1, hts⟩ (hE' hS.2.2.2.2.2.1 l D3 D ad H.size)
    ⟨callB_of n hts (w_good hs.1) rfl rfl rfl (hts _ hs.2.1) (hts _ hl) hs.2.2.1 hs.2.2.2, hts _ hi, hts _ hse⟩
    ⟨w_fb, va_recv hC.2.2.2.2.2.1 hS.1 hc1 (by rw [w_get hsh, w_cellO hc2 hc3 hc4]), fun U hU hW2 => ⟨rfl, by rw [hU], by rw [hU]; exact hS.1, va_K.moved hW2.alike hC.2.2.2.2.2.1, hS.2.1.weaken (fun _ _ _ _ => trivial), hC.2.2.2.2.2.2.2.1.warm hW2⟩⟩
    rfl (by simp [hn]) hS.2.2.2.1.1 (by simp [List.map_append, List.map_reverse, w_cv]) (lv_room ?_) hd hcc
  rw [List.map_map]
  have : ((fun v : Value => v.category) ∘ w_cv ad) = fun v => v.category := funext (fun v => w_cv_cat ad v)
  rw [this]; exact hW
theorem Rn.callVN {host : String} {j : Nat} (hd : decode K.2.1 pc = .ok (.invokevirtual index, 3)) (hs : w_site K K' n) (hl : w_nest[j]? = some (K.1.cls, index, K'.1, host)) (hi : Cond.instanceMethod K'.1 ∈ lw_g) (hse : Cond.selects K'.1.cls K'.1 K'.1 ∈ lw_g) (hE' : Ev K' (.ref b :: As) sh M Q') (hst : st = As.reverse ++ .ref b :: rest) (hn : As.length = n) (hsh : sh[b]? = some (ci, z)) (hci : ∃ T N, vwCl[ci]? = some (K'.1.cls, T, N) ∧ ci ≠ 12 ∧ ci ≠ 13 ∧ ci ≠ 14) (hW : (rest.map fun v => v.category).sum ≤ 8)
    (hcc : cs.1 + K'.2.2.2.2.cells ≤ K.2.2.2.2.cells ∧ cs.2 + K'.2.2.2.2.slots ≤ K.2.2.2.2.slots) (hok : (w_in sh.length rest ∧ w_inL sh.length lv) ∨ ∀ v sh' M', Q' v sh' M' → sh'.length = sh.length)
    (k : ∀ v sh' M', Q' v sh' M' → sh.length ≤ sh'.length → Rn K sx (cs.1 + K'.2.2.2.2.cells, cs.2 + K'.2.2.2.2.slots) (pc + 3) lv (v.toList ++ rest) sh' M' Q) : Rn K sx cs pc lv st sh M Q := by
  subst hst
  intro p l e s m args below meth c A D3 D Qf ad H locs ls hC hS hE
  obtain ⟨T0, N0, hc1, hc2, hc3, hc4⟩ := hci
  have hts := hC.2.2.2.2.1
  refine w_back (a := (Value.ref (ad b) :: As.map (w_cv ad)).toArray) hC hS hE ?_ hcc hok k
  refine va_runVN (C := K'.1.cls) (y := K'.1) (bytes := K'.2.1) (maxL := K'.2.2.1) (ret := K'.2.2.2.1) (ws := w_ws K') (rm := K'.2.2.2.2) (n := n) (Ts := lw_g) (own := K.1.cls) (host := host) (index := index) (b := ad b) (As := As.map (w_cv ad)) (cc := K.2.1) (nL := K.2.2.1)
    ⟨hC.1, hC.2.1, hC.2.2.1, hC.2.2.2.1, hts⟩ (hE' hS.2.2.2.2.2.1 l D3 D ad H.size)
    ⟨va_cnB n hts (w_good hs.1) rfl rfl rfl (hC.2.2.2.2.2.2.2.1 _ (List.mem_of_getElem? hl)) (hts _ hs.2.1) hs.2.2.1 hs.2.2.2, hts _ hi, hts _ hse⟩
    ⟨w_fb, va_recv hC.2.2.2.2.2.1 hS.1 hc1 (by rw [w_get hsh, w_cellO hc2 hc3 hc4]), fun U hU hW2 => ⟨rfl, by rw [hU], by rw [hU]; exact hS.1, va_K.moved hW2.alike hC.2.2.2.2.2.1, hS.2.1.weaken (fun _ _ _ _ => trivial), hC.2.2.2.2.2.2.2.1.warm hW2⟩⟩
    rfl (by simp [hn]) hS.2.2.2.1.1 (by simp [List.map_append, List.map_reverse, w_cv]) (lv_room ?_) hd hcc
  rw [List.map_map]
  have : ((fun v : Value => v.category) ∘ w_cv ad) = fun v => v.category := funext (fun v => w_cv_cat ad v)
  rw [this]; exact hW
theorem Rn.callS (hd : decode K.2.1 pc = .ok (.invokestatic index, 3)) (hs : w_site K K' n) (hl : Cond.methodLink K.1.cls index K'.1 ∈ lw_g) (hi : Cond.static K'.1 ∈ lw_g) (hE' : Ev K' As sh M Q') (hst : st = As.reverse ++ rest) (hn : As.length = n) (hW : (rest.map fun v => v.category).sum ≤ 8)
    (hcc : cs.1 + K'.2.2.2.2.cells ≤ K.2.2.2.2.cells ∧ cs.2 + K'.2.2.2.2.slots ≤ K.2.2.2.2.slots) (hok : (w_in sh.length rest ∧ w_inL sh.length lv) ∨ ∀ v sh' M', Q' v sh' M' → sh'.length = sh.length)
    (k : ∀ v sh' M', Q' v sh' M' → sh.length ≤ sh'.length → Rn K sx (cs.1 + K'.2.2.2.2.cells, cs.2 + K'.2.2.2.2.slots) (pc + 3) lv (v.toList ++ rest) sh' M' Q) : Rn K sx cs pc lv st sh M Q := by
  subst hst
  intro p l e s m args below meth c A D3 D Qf ad H locs ls hC hS hE
  have hts := hC.2.2.2.2.1
  refine w_back (a := (As.map (w_cv ad)).toArray) hC hS hE ?_ hcc hok k
  refine va_runS (y := K'.1) (bytes := K'.2.1) (maxL := K'.2.2.1) (ret := K'.2.2.2.1) (ws := w_ws K') (rm := K'.2.2.2.2) (n := n) (Ts := lw_g) (own := K.1.cls) (index := index) (As := As.map (w_cv ad)) (cc := K.2.1) (nL := K.2.2.1)
    ⟨hC.1, hC.2.1, hC.2.2.1, hC.2.2.2.1, hts⟩ (hE' hS.2.2.2.2.2.1 l D3 D ad H.size)
    ⟨callB_of n hts (w_good hs.1) rfl rfl rfl (hts _ hs.2.1) (hts _ hl) hs.2.2.1 hs.2.2.2, hts _ hi⟩
    ⟨w_fb, fun U hU hW2 => ⟨rfl, by rw [hU], by rw [hU]; exact hS.1, va_K.moved hW2.alike hC.2.2.2.2.2.1, hS.2.1.weaken (fun _ _ _ _ => trivial), hC.2.2.2.2.2.2.2.1.warm hW2⟩⟩
    rfl (by simp [hn]) hS.2.2.2.1.1 (by simp [List.map_append, List.map_reverse]) (lv_room ?_) hd hcc
  rw [List.map_map]
  have : ((fun v : Value => v.category) ∘ w_cv ad) = fun v => v.category := funext (fun v => w_cv_cat ad v)
  rw [this]; exact hW
theorem Rn.callSN {host : String} {j : Nat} (hd : decode K.2.1 pc = .ok (.invokestatic index, 3)) (hs : w_site K K' n) (hl : w_nest[j]? = some (K.1.cls, index, K'.1, host)) (hi : Cond.static K'.1 ∈ lw_g) (hE' : Ev K' As sh M Q') (hst : st = As.reverse ++ rest) (hn : As.length = n) (hW : (rest.map fun v => v.category).sum ≤ 8)
    (hcc : cs.1 + K'.2.2.2.2.cells ≤ K.2.2.2.2.cells ∧ cs.2 + K'.2.2.2.2.slots ≤ K.2.2.2.2.slots) (hok : (w_in sh.length rest ∧ w_inL sh.length lv) ∨ ∀ v sh' M', Q' v sh' M' → sh'.length = sh.length)
    (k : ∀ v sh' M', Q' v sh' M' → sh.length ≤ sh'.length → Rn K sx (cs.1 + K'.2.2.2.2.cells, cs.2 + K'.2.2.2.2.slots) (pc + 3) lv (v.toList ++ rest) sh' M' Q) : Rn K sx cs pc lv st sh M Q := by
  subst hst
  intro p l e s m args below meth c A D3 D Qf ad H locs ls hC hS hE
  have hts := hC.2.2.2.2.1
  refine w_back (a := (As.map (w_cv ad)).toArray) hC hS hE ?_ hcc hok k
  refine va_runSN (y := K'.1) (bytes := K'.2.1) (maxL := K'.2.2.1) (ret := K'.2.2.2.1) (ws := w_ws K') (rm := K'.2.2.2.2) (n := n) (Ts := lw_g) (own := K.1.cls) (host := host) (index := index) (As := As.map (w_cv ad)) (cc := K.2.1) (nL := K.2.2.1)
    ⟨hC.1, hC.2.1, hC.2.2.1, hC.2.2.2.1, hts⟩ (hE' hS.2.2.2.2.2.1 l D3 D ad H.size)
    ⟨va_cnB n hts (w_good hs.1) rfl rfl rfl (hC.2.2.2.2.2.2.2.1 _ (List.mem_of_getElem? hl)) (hts _ hs.2.1) hs.2.2.1 hs.2.2.2, hts _ hi, trivial⟩
    ⟨w_fb, fun U hU hW2 => ⟨rfl, by rw [hU], by rw [hU]; exact hS.1, va_K.moved hW2.alike hC.2.2.2.2.2.1, hS.2.1.weaken (fun _ _ _ _ => trivial), hC.2.2.2.2.2.2.2.1.warm hW2⟩⟩
    rfl (by simp [hn]) hS.2.2.2.1.1 (by simp [List.map_append, List.map_reverse]) (lv_room ?_) hd hcc
  rw [List.map_map]
  have : ((fun v : Value => v.category) ∘ w_cv ad) = fun v => v.category := funext (fun v => w_cv_cat ad v)
  rw [this]; exact hW
/-- a constructor -/
theorem Rn.callI (hret : K'.2.2.2.1 = none) (hd : decode K.2.1 pc = .ok (.invokespecial index, 3)) (hs : w_site K K' n) (hl : Cond.methodLink K.1.cls index K'.1 ∈ lw_g) (hi : Cond.instanceMethod K'.1 ∈ lw_g) (hnm : K'.1.name = "<init>") (hE' : Ev K' (.ref b :: As) sh M Q') (hst : st = As.reverse ++ .ref b :: rest) (hn : As.length = n) (hW : (rest.map fun v => v.category).sum ≤ 8)
    (hcc : cs.1 + K'.2.2.2.2.cells ≤ K.2.2.2.2.cells ∧ cs.2 + K'.2.2.2.2.slots ≤ K.2.2.2.2.slots) (hok : (w_in sh.length rest ∧ w_inL sh.length lv) ∨ ∀ v sh' M', Q' v sh' M' → sh'.length = sh.length)
    (k : ∀ v sh' M', Q' v sh' M' → sh.length ≤ sh'.length → Rn K sx (cs.1 + K'.2.2.2.2.cells, cs.2 + K'.2.2.2.2.slots) (pc + 3) lv (v.toList ++ rest) sh' M' Q) : Rn K sx cs pc lv st sh M Q := by
  subst hst
  intro p l e s m args below meth c A D3 D Qf ad H locs ls hC hS hE
  have hts := hC.2.2.2.2.1
  refine w_back (a := (Value.ref (ad b) :: As.map (w_cv ad)).toArray) hC hS hE ?_ hcc hok k
  have hs1 := hs.1
  have hM := hE' hS.2.2.2.2.2.1 l D3 D ad H.size
  refine va_runI (y := K'.1) (bytes := K'.2.1) (maxL := K'.2.2.1) (ws := w_ws K') (rm := K'.2.2.2.2) (n := n) (Ts := lw_g) (own := K.1.cls) (index := index) (b := ad b) (As := As.map (w_cv ad)) (cc := K.2.1) (nL := K.2.2.1)
    ⟨hC.1, hC.2.1, hC.2.2.1, hC.2.2.2.1, hts⟩ hM
    ⟨by rw [← hret]; exact callB_of n hts (w_good hs1) rfl rfl rfl (hts _ hs.2.1) (hts _ hl) hs.2.2.1 hs.2.2.2, hnm, hts _ hi⟩
    ⟨w_fb, fun U hU hW2 => ⟨rfl, by rw [hU], by rw [hU]; exact hS.1, va_K.moved hW2.alike hC.2.2.2.2.2.1, hS.2.1.weaken (fun _ _ _ _ => trivial), hC.2.2.2.2.2.2.2.1.warm hW2⟩⟩
    rfl (by simp [hn]) hS.2.2.2.1.1 (by simp [List.map_append, List.map_reverse, w_cv]) (lv_room ?_) hd hcc
  rw [List.map_map]
  have : ((fun v : Value => v.category) ∘ w_cv ad) = fun v => v.category := funext (fun v => w_cv_cat ad v)
  rw [this]; exact hW
theorem Rn.callIN {host : String} {j : Nat} (hret : K'.2.2.2.1 = none) (hd : decode K.2.1 pc = .ok (.invokespecial index, 3)) (hs : w_site K K' n) (hl : w_nest[j]? = some (K.1.cls, index, K'.1, host)) (hi : Cond.instanceMethod K'.1 ∈ lw_g) (hnm : K'.1.name = "<init>") (hE' : Ev K' (.ref b :: As) sh M Q') (hst : st = As.reverse ++ .ref b :: rest) (hn : As.length = n) (hW : (rest.map fun v => v.category).sum ≤ 8)
    (hcc : cs.1 + K'.2.2.2.2.cells ≤ K.2.2.2.2.cells ∧ cs.2 + K'.2.2.2.2.slots ≤ K.2.2.2.2.slots) (hok : (w_in sh.length rest ∧ w_inL sh.length lv) ∨ ∀ v sh' M', Q' v sh' M' → sh'.length = sh.length)
    (k : ∀ v sh' M', Q' v sh' M' → sh.length ≤ sh'.length → Rn K sx (cs.1 + K'.2.2.2.2.cells, cs.2 + K'.2.2.2.2.slots) (pc + 3) lv (v.toList ++ rest) sh' M' Q) : Rn K sx cs pc lv st sh M Q := by
  subst hst
  intro p l e s m args below meth c A D3 D Qf ad H locs ls hC hS hE
  have hts := hC.2.2.2.2.1
  refine w_back (a := (Value.ref (ad b) :: As.map (w_cv ad)).toArray) hC hS hE ?_ hcc hok k
  have hs1 := hs.1
  refine va_runIN (y := K'.1) (bytes := K'.2.1) (maxL := K'.2.2.1) (ws := w_ws K') (rm := K'.2.2.2.2) (n := n) (Ts := lw_g) (own := K.1.cls) (host := host) (index := index) (b := ad b) (As := As.map (w_cv ad)) (cc := K.2.1) (nL := K.2.2.1)
    ⟨hC.1, hC.2.1, hC.2.2.1, hC.2.2.2.1, hts⟩ (hE' hS.2.2.2.2.2.1 l D3 D ad H.size)
    ⟨by rw [← hret]; exact va_cnB n hts (w_good hs1) rfl rfl rfl (hC.2.2.2.2.2.2.2.1 _ (List.mem_of_getElem? hl)) (hts _ hs.2.1) hs.2.2.1 hs.2.2.2, hnm, hts _ hi⟩
    ⟨w_fb, fun U hU hW2 => ⟨rfl, by rw [hU], by rw [hU]; exact hS.1, va_K.moved hW2.alike hC.2.2.2.2.2.1, hS.2.1.weaken (fun _ _ _ _ => trivial), hC.2.2.2.2.2.2.2.1.warm hW2⟩⟩
    rfl (by simp [hn]) hS.2.2.2.1.1 (by simp [List.map_append, List.map_reverse, w_cv]) (lv_room ?_) hd hcc
  rw [List.map_map]
  have : ((fun v : Value => v.category) ∘ w_cv ad) = fun v => v.category := funext (fun v => w_cv_cat ad v)
  rw [this]; exact hW
end CALLS
end
section
/-! Contracts of methods that make nothing, by the kind of answer. -/
def w_0 (K : wK) : Prop := K.2.2.2.2.cells = 0 ∧ K.2.2.2.2.slots = 0
def w_QI (sh : wSh) (Q : Int32 → wM → Prop) : Option Value → wSh → wM → Prop := fun v sh' M' => sh' = sh ∧ ∃ r : Int32, v = some (.int r) ∧ Q r M'
def w_FI (cs : Nat × Nat) (sh : wSh) (Q : Int32 → wM → Prop) : Option Value → wSh → wM → Nat × Nat → Prop := fun v sh' M' cs' => cs' = cs ∧ w_QI sh Q v sh' M'
def EvI (K : wK) (As : List Value) (sh : wSh) (M : wM) (Q : Int32 → wM → Prop) : Prop := Ev K As sh M (w_QI sh Q)
theorem EvI.mono {K : wK} {As : List Value} {sh : wSh} {M : wM} {Q Q' : Int32 → wM → Prop} (k : EvI K As sh M Q') (h : ∀ r M', Q' r M' → Q r M') : EvI K As sh M Q := Ev.mono (fun v sh' M' hq => ⟨hq.1, hq.2.choose, hq.2.choose_spec.1, h _ _ hq.2.choose_spec.2⟩) k
theorem EvI.of {K : wK} {As : List Value} {sh : wSh} {M : wM} {Q : Int32 → wM → Prop} {lv : List (Option Value)} (k0 : Nat) (hy : plainName K.1.cls = true) (hn : (lg_sl As).length ≤ K.2.2.1) (hlv : w_lv As ++ List.replicate k0 none = lv)
    (body : Rn K none (0, 0) 0 lv [] sh M (w_FI (0, 0) sh Q)) : EvI K As sh M Q :=
  Ev.of k0 hy hn hlv (body.mono (fun v sh' M' cs' hq => ⟨hq.2, by rw [hq.1]; exact Nat.zero_le _, by rw [hq.1]; exact Nat.zero_le _⟩))
def w_QL (sh : wSh) (Q : Int64 → wM → Prop) : Option Value → wSh → wM → Prop := fun v sh' M' => sh' = sh ∧ ∃ r : Int64, v = some (.long r) ∧ Q r M'
def w_FL (cs : Nat × Nat) (sh : wSh) (Q : Int64 → wM → Prop) : Option Value → wSh → wM → Nat × Nat → Prop := fun v sh' M' cs' => cs' = cs ∧ w_QL sh Q v sh' M'
def EvL (K : wK) (As : List Value) (sh : wSh) (M : wM) (Q : Int64 → wM → Prop) : Prop := Ev K As sh M (w_QL sh Q)
theorem EvL.mono {K : wK} {As : List Value} {sh : wSh} {M : wM} {Q Q' : Int64 → wM → Prop} (k : EvL K As sh M Q') (h : ∀ r M', Q' r M' → Q r M') : EvL K As sh M Q := Ev.mono (fun v sh' M' hq => ⟨hq.1, hq.2.choose, hq.2.choose_spec.1, h _ _ hq.2.choose_spec.2⟩) k
theorem EvL.of {K : wK} {As : List Value} {sh : wSh} {M : wM} {Q : Int64 → wM → Prop} {lv : List (Option Value)} (k0 : Nat) (hy : plainName K.1.cls = true) (hn : (lg_sl As).length ≤ K.2.2.1) (hlv : w_lv As ++ List.replicate k0 none = lv)
    (body : Rn K none (0, 0) 0 lv [] sh M (w_FL (0, 0) sh Q)) : EvL K As sh M Q :=
  Ev.of k0 hy hn hlv (body.mono (fun v sh' M' cs' hq => ⟨hq.2, by rw [hq.1]; exact Nat.zero_le _, by rw [hq.1]; exact Nat.zero_le _⟩))
def w_QR (sh : wSh) (Q : Nat → wM → Prop) : Option Value → wSh → wM → Prop := fun v sh' M' => sh' = sh ∧ ∃ r : Nat, v = some (.ref r) ∧ Q r M'
def w_FR (cs : Nat × Nat) (sh : wSh) (Q : Nat → wM → Prop) : Option Value → wSh → wM → Nat × Nat → Prop := fun v sh' M' cs' => cs' = cs ∧ w_QR sh Q v sh' M'
def EvR (K : wK) (As : List Value) (sh : wSh) (M : wM) (Q : Nat → wM → Prop) : Prop := Ev K As sh M (w_QR sh Q)
theorem EvR.mono {K : wK} {As : List Value} {sh : wSh} {M : wM} {Q Q' : Nat → wM → Prop} (k : EvR K As sh M Q') (h : ∀ r M', Q' r M' → Q r M') : EvR K As sh M Q := Ev.mono (fun v sh' M' hq => ⟨hq.1, hq.2.choose, hq.2.choose_spec.1, h _ _ hq.2.choose_spec.2⟩) k
theorem EvR.of {K : wK} {As : List Value} {sh : wSh} {M : wM} {Q : Nat → wM → Prop} {lv : List (Option Value)} (k0 : Nat) (hy : plainName K.1.cls = true) (hn : (lg_sl As).length ≤ K.2.2.1) (hlv : w_lv As ++ List.replicate k0 none = lv)
    (body : Rn K none (0, 0) 0 lv [] sh M (w_FR (0, 0) sh Q)) : EvR K As sh M Q :=
  Ev.of k0 hy hn hlv (body.mono (fun v sh' M' cs' hq => ⟨hq.2, by rw [hq.1]; exact Nat.zero_le _, by rw [hq.1]; exact Nat.zero_le _⟩))
def w_QV (sh : wSh) (Q : wM → Prop) : Option Value → wSh → wM → Prop := fun v sh' M' => sh' = sh ∧ v = none ∧ Q M'
def w_FV (cs : Nat × Nat) (sh : wSh) (Q : wM → Prop) : Option Value → wSh → wM → Nat × Nat → Prop := fun v sh' M' cs' => cs' = cs ∧ w_QV sh Q v sh' M'
def EvV (K : wK) (As : List Value) (sh : wSh) (M : wM) (Q : wM → Prop) : Prop := Ev K As sh M (w_QV sh Q)
theorem EvV.mono {K : wK} {As : List Value} {sh : wSh} {M : wM} {Q Q' : wM → Prop} (k : EvV K As sh M Q') (h : ∀ M', Q' M' → Q M') : EvV K As sh M Q := Ev.mono (fun v sh' M' hq => ⟨hq.1, hq.2.1, h _ hq.2.2⟩) k
theorem EvV.of {K : wK} {As : List Value} {sh : wSh} {M : wM} {Q : wM → Prop} {lv : List (Option Value)} (k0 : Nat) (hy : plainName K.1.cls = true) (hn : (lg_sl As).length ≤ K.2.2.1) (hlv : w_lv As ++ List.replicate k0 none = lv)
    (body : Rn K none (0, 0) 0 lv [] sh M (w_FV (0, 0) sh Q)) : EvV K As sh M Q :=
  Ev.of k0 hy hn hlv (body.mono (fun v sh' M' cs' hq => ⟨hq.2, by rw [hq.1]; exact Nat.zero_le _, by rw [hq.1]; exact Nat.zero_le _⟩))
section RN2
variable {K K' : wK} {sx : Option (Nat × (Nat → Int32) × Nat)} {cs : Nat × Nat} {pc : Nat} {lv : List (Option Value)} {st rest As : List Value} {sh : wSh} {M : wM} {Q : Option Value → wSh → wM → Nat × Nat → Prop} {Q' : Option Value → wSh → wM → Prop} {index n b ci z : Nat}
theorem Rn.iret {x : Int32} {ty : FieldType} {Q : Int32 → wM → Prop} (hd : decode K.2.1 pc = .ok (.ireturn, 1)) (hr : K.2.2.2.1 = some ty) (hn : narrow ty (.int x) = .int x) (hq : Q x M) : Rn K sx cs pc lv [.int x] sh M (w_FI cs sh Q) :=
  Rn.ret (v := some (.int x)) ⟨hd, ty, hr, hn⟩ rfl ⟨rfl, rfl, x, rfl, hq⟩
theorem Rn.lret {x : Int64} {Q : Int64 → wM → Prop} (hd : decode K.2.1 pc = .ok (.lreturn, 1)) (hr : K.2.2.2.1 = some .long) (hq : Q x M) : Rn K sx cs pc lv [.long x] sh M (w_FL cs sh Q) :=
  Rn.ret (v := some (.long x)) ⟨hd, hr⟩ rfl ⟨rfl, rfl, x, rfl, hq⟩
theorem Rn.aret {x : Nat} {nm : String} {Q : Nat → wM → Prop} (hd : decode K.2.1 pc = .ok (.areturn, 1)) (hr : K.2.2.2.1 = some (.object nm)) (hq : Q x M) : Rn K sx cs pc lv [.ref x] sh M (w_FR cs sh Q) :=
  Rn.ret (v := some (.ref x)) ⟨hd, nm, hr⟩ rfl ⟨rfl, rfl, x, rfl, hq⟩
theorem Rn.vret {Q : wM → Prop} (hd : decode K.2.1 pc = .ok (.return_, 1)) (hr : K.2.2.2.1 = none) (hq : Q M) : Rn K sx cs pc lv [] sh M (w_FV cs sh Q) :=
  Rn.ret (v := none) ⟨hd, hr⟩ rfl ⟨rfl, rfl, rfl, hq⟩
theorem w_cs0 (h : w_0 K') (hc : cs.1 ≤ K.2.2.2.2.cells ∧ cs.2 ≤ K.2.2.2.2.slots) : cs.1 + K'.2.2.2.2.cells ≤ K.2.2.2.2.cells ∧ cs.2 + K'.2.2.2.2.slots ≤ K.2.2.2.2.slots := by rw [h.1, h.2]; exact hc
theorem w_cs1 (h : w_0 K') : (cs.1 + K'.2.2.2.2.cells, cs.2 + K'.2.2.2.2.slots) = cs := by rw [h.1, h.2]; rfl
/-- a class of vwCl by its number -/
def w_cls (ci : Nat) (C : String) : Prop := ∃ T N, vwCl[ci]? = some (C, T, N) ∧ ci ≠ 12 ∧ ci ≠ 13 ∧ ci ≠ 14
theorem Rn.cVI {Q1 : Int32 → wM → Prop} (hd : decode K.2.1 pc = .ok (.invokevirtual index, 3)) (hs : w_site K K' n) (hl : Cond.methodLink K.1.cls index K'.1 ∈ lw_g) (hi : Cond.instanceMethod K'.1 ∈ lw_g) (hse : Cond.selects K'.1.cls K'.1 K'.1 ∈ lw_g) (h0 : w_0 K') (hcc : cs.1 ≤ K.2.2.2.2.cells ∧ cs.2 ≤ K.2.2.2.2.slots) (hE' : EvI K' (.ref b :: As) sh M Q1) (hst : st = As.reverse ++ .ref b :: rest) (hn : As.length = n) (hsh : sh[b]? = some (ci, z)) (hci : w_cls ci K'.1.cls) (hW : (rest.map fun v => v.category).sum ≤ 8)
    (k : ∀ (r : Int32) (M' : wM), Q1 r M' → Rn K sx cs (pc + 3) lv (.int r :: rest) sh M' Q) : Rn K sx cs pc lv st sh M Q := by
  refine Rn.callV hd hs hl hi hse hE' hst hn hsh hci hW (w_cs0 h0 hcc) (Or.inr (fun v sh' M' h => by rw [h.1])) (fun v sh' M' hq _ => ?_)
  obtain ⟨rfl, r, rfl, hq⟩ := hq
  have h := k r M' hq
  rw [w_cs1 h0]
  exact h
theorem Rn.cVL {Q1 : Int64 → wM → Prop} (hd : decode K.2.1 pc = .ok (.invokevirtual index, 3)) (hs : w_site K K' n) (hl : Cond.methodLink K.1.cls index K'.1 ∈ lw_g) (hi : Cond.instanceMethod K'.1 ∈ lw_g) (hse : Cond.selects K'.1.cls K'.1 K'.1 ∈ lw_g) (h0 : w_0 K') (hcc : cs.1 ≤ K.2.2.2.2.cells ∧ cs.2 ≤ K.2.2.2.2.slots) (hE' : EvL K' (.ref b :: As) sh M Q1) (hst : st = As.reverse ++ .ref b :: rest) (hn : As.length = n) (hsh : sh[b]? = some (ci, z)) (hci : w_cls ci K'.1.cls) (hW : (rest.map fun v => v.category).sum ≤ 8)
    (k : ∀ (r : Int64) (M' : wM), Q1 r M' → Rn K sx cs (pc + 3) lv (.long r :: rest) sh M' Q) : Rn K sx cs pc lv st sh M Q := by
  refine Rn.callV hd hs hl hi hse hE' hst hn hsh hci hW (w_cs0 h0 hcc) (Or.inr (fun v sh' M' h => by rw [h.1])) (fun v sh' M' hq _ => ?_)
  obtain ⟨rfl, r, rfl, hq⟩ := hq
  have h := k r M' hq
  rw [w_cs1 h0]
  exact h
theorem Rn.cVR {Q1 : Nat → wM → Prop} (hd : decode K.2.1 pc = .ok (.invokevirtual index, 3)) (hs : w_site K K' n) (hl : Cond.methodLink K.1.cls index K'.1 ∈ lw_g) (hi : Cond.instanceMethod K'.1 ∈ lw_g) (hse : Cond.selects K'.1.cls K'.1 K'.1 ∈ lw_g) (h0 : w_0 K') (hcc : cs.1 ≤ K.2.2.2.2.cells ∧ cs.2 ≤ K.2.2.2.2.slots) (hE' : EvR K' (.ref b :: As) sh M Q1) (hst : st = As.reverse ++ .ref b :: rest) (hn : As.length = n) (hsh : sh[b]? = some (ci, z)) (hci : w_cls ci K'.1.cls) (hW : (rest.map fun v => v.category).sum ≤ 8)
    (k : ∀ (r : Nat) (M' : wM), Q1 r M' → Rn K sx cs (pc + 3) lv (.ref r :: rest) sh M' Q) : Rn K sx cs pc lv st sh M Q := by
  refine Rn.callV hd hs hl hi hse hE' hst hn hsh hci hW (w_cs0 h0 hcc) (Or.inr (fun v sh' M' h => by rw [h.1])) (fun v sh' M' hq _ => ?_)
  obtain ⟨rfl, r, rfl, hq⟩ := hq
  have h := k r M' hq
  rw [w_cs1 h0]
  exact h
theorem Rn.cVV {Q1 : wM → Prop} (hd : decode K.2.1 pc = .ok (.invokevirtual index, 3)) (hs : w_site K K' n) (hl : Cond.methodLink K.1.cls index K'.1 ∈ lw_g) (hi : Cond.instanceMethod K'.1 ∈ lw_g) (hse : Cond.selects K'.1.cls K'.1 K'.1 ∈ lw_g) (h0 : w_0 K') (hcc : cs.1 ≤ K.2.2.2.2.cells ∧ cs.2 ≤ K.2.2.2.2.slots) (hE' : EvV K' (.ref b :: As) sh M Q1) (hst : st = As.reverse ++ .ref b :: rest) (hn : As.length = n) (hsh : sh[b]? = some (ci, z)) (hci : w_cls ci K'.1.cls) (hW : (rest.map fun v => v.category).sum ≤ 8)
    (k : ∀ M', Q1 M' → Rn K sx cs (pc + 3) lv rest sh M' Q) : Rn K sx cs pc lv st sh M Q := by
  refine Rn.callV hd hs hl hi hse hE' hst hn hsh hci hW (w_cs0 h0 hcc) (Or.inr (fun v sh' M' h => by rw [h.1])) (fun v sh' M' hq _ => ?_)
  obtain ⟨rfl, rfl, hq⟩ := hq
  have h := k M' hq
  rw [w_cs1 h0]
  exact h
theorem Rn.cVNI {Q1 : Int32 → wM → Prop} (hd : decode K.2.1 pc = .ok (.invokevirtual index, 3)) (hs : w_site K K' n) {host : String} {j : Nat} (hl : w_nest[j]? = some (K.1.cls, index, K'.1, host)) (hi : Cond.instanceMethod K'.1 ∈ lw_g) (hse : Cond.selects K'.1.cls K'.1 K'.1 ∈ lw_g) (h0 : w_0 K') (hcc : cs.1 ≤ K.2.2.2.2.cells ∧ cs.2 ≤ K.2.2.2.2.slots) (hE' : EvI K' (.ref b :: As) sh M Q1) (hst : st = As.reverse ++ .ref b :: rest) (hn : As.length = n) (hsh : sh[b]? = some (ci, z)) (hci : w_cls ci K'.1.cls) (hW : (rest.map fun v => v.category).sum ≤ 8)
    (k : ∀ (r : Int32) (M' : wM), Q1 r M' → Rn K sx cs (pc + 3) lv (.int r :: rest) sh M' Q) : Rn K sx cs pc lv st sh M Q := by
  refine Rn.callVN hd hs hl hi hse hE' hst hn hsh hci hW (w_cs0 h0 hcc) (Or.inr (fun v sh' M' h => by rw [h.1])) (fun v sh' M' hq _ => ?_)
  obtain ⟨rfl, r, rfl, hq⟩ := hq
  have h := k r M' hq
  rw [w_cs1 h0]
  exact h
theorem Rn.cVNL {Q1 : Int64 → wM → Prop} (hd : decode K.2.1 pc = .ok (.invokevirtual index, 3)) (hs : w_site K K' n) {host : String} {j : Nat} (hl : w_nest[j]? = some (K.1.cls, index, K'.1, host)) (hi : Cond.instanceMethod K'.1 ∈ lw_g) (hse : Cond.selects K'.1.cls K'.1 K'.1 ∈ lw_g) (h0 : w_0 K') (hcc : cs.1 ≤ K.2.2.2.2.cells ∧ cs.2 ≤ K.2.2.2.2.slots) (hE' : EvL K' (.ref b :: As) sh M Q1) (hst : st = As.reverse ++ .ref b :: rest) (hn : As.length = n) (hsh : sh[b]? = some (ci, z)) (hci : w_cls ci K'.1.cls) (hW : (rest.map fun v => v.category).sum ≤ 8)
    (k : ∀ (r : Int64) (M' : wM), Q1 r M' → Rn K sx cs (pc + 3) lv (.long r :: rest) sh M' Q) : Rn K sx cs pc lv st sh M Q := by
  refine Rn.callVN hd hs hl hi hse hE' hst hn hsh hci hW (w_cs0 h0 hcc) (Or.inr (fun v sh' M' h => by rw [h.1])) (fun v sh' M' hq _ => ?_)
  obtain ⟨rfl, r, rfl, hq⟩ := hq
  have h := k r M' hq
  rw [w_cs1 h0]
  exact h
theorem Rn.cVNR {Q1 : Nat → wM → Prop} (hd : decode K.2.1 pc = .ok (.invokevirtual index, 3)) (hs : w_site K K' n) {host : String} {j : Nat} (hl : w_nest[j]? = some (K.1.cls, index, K'.1, host)) (hi : Cond.instanceMethod K'.1 ∈ lw_g) (hse : Cond.selects K'.1.cls K'.1 K'.1 ∈ lw_g) (h0 : w_0 K') (hcc : cs.1 ≤ K.2.2.2.2.cells ∧ cs.2 ≤ K.2.2.2.2.slots) (hE' : EvR K' (.ref b :: As) sh M Q1) (hst : st = As.reverse ++ .ref b :: rest) (hn : As.length = n) (hsh : sh[b]? = some (ci, z)) (hci : w_cls ci K'.1.cls) (hW : (rest.map fun v => v.category).sum ≤ 8)
    (k : ∀ (r : Nat) (M' : wM), Q1 r M' → Rn K sx cs (pc + 3) lv (.ref r :: rest) sh M' Q) : Rn K sx cs pc lv st sh M Q := by
  refine Rn.callVN hd hs hl hi hse hE' hst hn hsh hci hW (w_cs0 h0 hcc) (Or.inr (fun v sh' M' h => by rw [h.1])) (fun v sh' M' hq _ => ?_)
  obtain ⟨rfl, r, rfl, hq⟩ := hq
  have h := k r M' hq
  rw [w_cs1 h0]
  exact h
theorem Rn.cVNV {Q1 : wM → Prop} (hd : decode K.2.1 pc = .ok (.invokevirtual index, 3)) (hs : w_site K K' n) {host : String} {j : Nat} (hl : w_nest[j]? = some (K.1.cls, index, K'.1, host)) (hi : Cond.instanceMethod K'.1 ∈ lw_g) (hse : Cond.selects K'.1.cls K'.1 K'.1 ∈ lw_g) (h0 : w_0 K') (hcc : cs.1 ≤ K.2.2.2.2.cells ∧ cs.2 ≤ K.2.2.2.2.slots) (hE' : EvV K' (.ref b :: As) sh M Q1) (hst : st = As.reverse ++ .ref b :: rest) (hn : As.length = n) (hsh : sh[b]? = some (ci, z)) (hci : w_cls ci K'.1.cls) (hW : (rest.map fun v => v.category).sum ≤ 8)
    (k : ∀ M', Q1 M' → Rn K sx cs (pc + 3) lv rest sh M' Q) : Rn K sx cs pc lv st sh M Q := by
  refine Rn.callVN hd hs hl hi hse hE' hst hn hsh hci hW (w_cs0 h0 hcc) (Or.inr (fun v sh' M' h => by rw [h.1])) (fun v sh' M' hq _ => ?_)
  obtain ⟨rfl, rfl, hq⟩ := hq
  have h := k M' hq
  rw [w_cs1 h0]
  exact h
theorem Rn.cSI {Q1 : Int32 → wM → Prop} (hd : decode K.2.1 pc = .ok (.invokestatic index, 3)) (hs : w_site K K' n) (hl : Cond.methodLink K.1.cls index K'.1 ∈ lw_g) (hi : Cond.static K'.1 ∈ lw_g) (h0 : w_0 K') (hcc : cs.1 ≤ K.2.2.2.2.cells ∧ cs.2 ≤ K.2.2.2.2.slots) (hE' : EvI K' As sh M Q1) (hst : st = As.reverse ++ rest) (hn : As.length = n) (hW : (rest.map fun v => v.category).sum ≤ 8)
    (k : ∀ (r : Int32) (M' : wM), Q1 r M' → Rn K sx cs (pc + 3) lv (.int r :: rest) sh M' Q) : Rn K sx cs pc lv st sh M Q := by
  refine Rn.callS hd hs hl hi hE' hst hn hW (w_cs0 h0 hcc) (Or.inr (fun v sh' M' h => by rw [h.1])) (fun v sh' M' hq _ => ?_)
  obtain ⟨rfl, r, rfl, hq⟩ := hq
  have h := k r M' hq
  rw [w_cs1 h0]
  exact h
theorem Rn.cSL {Q1 : Int64 → wM → Prop} (hd : decode K.2.1 pc = .ok (.invokestatic index, 3)) (hs : w_site K K' n) (hl : Cond.methodLink K.1.cls index K'.1 ∈ lw_g) (hi : Cond.static K'.1 ∈ lw_g) (h0 : w_0 K') (hcc : cs.1 ≤ K.2.2.2.2.cells ∧ cs.2 ≤ K.2.2.2.2.slots) (hE' : EvL K' As sh M Q1) (hst : st = As.reverse ++ rest) (hn : As.length = n) (hW : (rest.map fun v => v.category).sum ≤ 8)
    (k : ∀ (r : Int64) (M' : wM), Q1 r M' → Rn K sx cs (pc + 3) lv (.long r :: rest) sh M' Q) : Rn K sx cs pc lv st sh M Q := by
  refine Rn.callS hd hs hl hi hE' hst hn hW (w_cs0 h0 hcc) (Or.inr (fun v sh' M' h => by rw [h.1])) (fun v sh' M' hq _ => ?_)
  obtain ⟨rfl, r, rfl, hq⟩ := hq
  have h := k r M' hq
  rw [w_cs1 h0]
  exact h
theorem Rn.cSR {Q1 : Nat → wM → Prop} (hd : decode K.2.1 pc = .ok (.invokestatic index, 3)) (hs : w_site K K' n) (hl : Cond.methodLink K.1.cls index K'.1 ∈ lw_g) (hi : Cond.static K'.1 ∈ lw_g) (h0 : w_0 K') (hcc : cs.1 ≤ K.2.2.2.2.cells ∧ cs.2 ≤ K.2.2.2.2.slots) (hE' : EvR K' As sh M Q1) (hst : st = As.reverse ++ rest) (hn : As.length = n) (hW : (rest.map fun v => v.category).sum ≤ 8)
    (k : ∀ (r : Nat) (M' : wM), Q1 r M' → Rn K sx cs (pc + 3) lv (.ref r :: rest) sh M' Q) : Rn K sx cs pc lv st sh M Q := by
  refine Rn.callS hd hs hl hi hE' hst hn hW (w_cs0 h0 hcc) (Or.inr (fun v sh' M' h => by rw [h.1])) (fun v sh' M' hq _ => ?_)
  obtain ⟨rfl, r, rfl, hq⟩ := hq
  have h := k r M' hq
  rw [w_cs1 h0]
  exact h
theorem Rn.cSV {Q1 : wM → Prop} (hd : decode K.2.1 pc = .ok (.invokestatic index, 3)) (hs : w_site K K' n) (hl : Cond.methodLink K.1.cls index K'.1 ∈ lw_g) (hi : Cond.static K'.1 ∈ lw_g) (h0 : w_0 K') (hcc : cs.1 ≤ K.2.2.2.2.cells ∧ cs.2 ≤ K.2.2.2.2.slots) (hE' : EvV K' As sh M Q1) (hst : st = As.reverse ++ rest) (hn : As.length = n) (hW : (rest.map fun v => v.category).sum ≤ 8)
    (k : ∀ M', Q1 M' → Rn K sx cs (pc + 3) lv rest sh M' Q) : Rn K sx cs pc lv st sh M Q := by
  refine Rn.callS hd hs hl hi hE' hst hn hW (w_cs0 h0 hcc) (Or.inr (fun v sh' M' h => by rw [h.1])) (fun v sh' M' hq _ => ?_)
  obtain ⟨rfl, rfl, hq⟩ := hq
  have h := k M' hq
  rw [w_cs1 h0]
  exact h
theorem Rn.cSNI {Q1 : Int32 → wM → Prop} (hd : decode K.2.1 pc = .ok (.invokestatic index, 3)) (hs : w_site K K' n) {host : String} {j : Nat} (hl : w_nest[j]? = some (K.1.cls, index, K'.1, host)) (hi : Cond.static K'.1 ∈ lw_g) (h0 : w_0 K') (hcc : cs.1 ≤ K.2.2.2.2.cells ∧ cs.2 ≤ K.2.2.2.2.slots) (hE' : EvI K' As sh M Q1) (hst : st = As.reverse ++ rest) (hn : As.length = n) (hW : (rest.map fun v => v.category).sum ≤ 8)
    (k : ∀ (r : Int32) (M' : wM), Q1 r M' → Rn K sx cs (pc + 3) lv (.int r :: rest) sh M' Q) : Rn K sx cs pc lv st sh M Q := by
  refine Rn.callSN hd hs hl hi hE' hst hn hW (w_cs0 h0 hcc) (Or.inr (fun v sh' M' h => by rw [h.1])) (fun v sh' M' hq _ => ?_)
  obtain ⟨rfl, r, rfl, hq⟩ := hq
  have h := k r M' hq
  rw [w_cs1 h0]
  exact h
theorem Rn.cSNL {Q1 : Int64 → wM → Prop} (hd : decode K.2.1 pc = .ok (.invokestatic index, 3)) (hs : w_site K K' n) {host : String} {j : Nat} (hl : w_nest[j]? = some (K.1.cls, index, K'.1, host)) (hi : Cond.static K'.1 ∈ lw_g) (h0 : w_0 K') (hcc : cs.1 ≤ K.2.2.2.2.cells ∧ cs.2 ≤ K.2.2.2.2.slots) (hE' : EvL K' As sh M Q1) (hst : st = As.reverse ++ rest) (hn : As.length = n) (hW : (rest.map fun v => v.category).sum ≤ 8)
    (k : ∀ (r : Int64) (M' : wM), Q1 r M' → Rn K sx cs (pc + 3) lv (.long r :: rest) sh M' Q) : Rn K sx cs pc lv st sh M Q := by
  refine Rn.callSN hd hs hl hi hE' hst hn hW (w_cs0 h0 hcc) (Or.inr (fun v sh' M' h => by rw [h.1])) (fun v sh' M' hq _ => ?_)
  obtain ⟨rfl, r, rfl, hq⟩ := hq
  have h := k r M' hq
  rw [w_cs1 h0]
  exact h
theorem Rn.cSNR {Q1 : Nat → wM → Prop} (hd : decode K.2.1 pc = .ok (.invokestatic index, 3)) (hs : w_site K K' n) {host : String} {j : Nat} (hl : w_nest[j]? = some (K.1.cls, index, K'.1, host)) (hi : Cond.static K'.1 ∈ lw_g) (h0 : w_0 K') (hcc : cs.1 ≤ K.2.2.2.2.cells ∧ cs.2 ≤ K.2.2.2.2.slots) (hE' : EvR K' As sh M Q1) (hst : st = As.reverse ++ rest) (hn : As.length = n) (hW : (rest.map fun v => v.category).sum ≤ 8)
    (k : ∀ (r : Nat) (M' : wM), Q1 r M' → Rn K sx cs (pc + 3) lv (.ref r :: rest) sh M' Q) : Rn K sx cs pc lv st sh M Q := by
  refine Rn.callSN hd hs hl hi hE' hst hn hW (w_cs0 h0 hcc) (Or.inr (fun v sh' M' h => by rw [h.1])) (fun v sh' M' hq _ => ?_)
  obtain ⟨rfl, r, rfl, hq⟩ := hq
  have h := k r M' hq
  rw [w_cs1 h0]
  exact h
theorem Rn.cSNV {Q1 : wM → Prop} (hd : decode K.2.1 pc = .ok (.invokestatic index, 3)) (hs : w_site K K' n) {host : String} {j : Nat} (hl : w_nest[j]? = some (K.1.cls, index, K'.1, host)) (hi : Cond.static K'.1 ∈ lw_g) (h0 : w_0 K') (hcc : cs.1 ≤ K.2.2.2.2.cells ∧ cs.2 ≤ K.2.2.2.2.slots) (hE' : EvV K' As sh M Q1) (hst : st = As.reverse ++ rest) (hn : As.length = n) (hW : (rest.map fun v => v.category).sum ≤ 8)
    (k : ∀ M', Q1 M' → Rn K sx cs (pc + 3) lv rest sh M' Q) : Rn K sx cs pc lv st sh M Q := by
  refine Rn.callSN hd hs hl hi hE' hst hn hW (w_cs0 h0 hcc) (Or.inr (fun v sh' M' h => by rw [h.1])) (fun v sh' M' hq _ => ?_)
  obtain ⟨rfl, rfl, hq⟩ := hq
  have h := k M' hq
  rw [w_cs1 h0]
  exact h
/-! Object's constructor, and what is made -/
theorem Rn.objInit (hd : decode K.2.1 pc = .ok (.invokespecial index, 3)) (hl : Cond.methodLink K.1.cls index Lib.objectInit ∈ lw_g) (hi : Cond.instanceMethod Lib.objectInit ∈ lw_g) (hc : Cond.code Lib.objectInit ⟨#[0xb1]⟩ 1 none ∈ lw_g) (hf : 1 ≤ K.2.2.2.2.frames) (hlo : (st.map fun v => v.category).sum + 12 ≤ K.2.2.2.2.locals)
    (k : Rn K sx cs (pc + 3) lv st sh M Q) : Rn K sx cs pc lv (.ref b :: st) sh M Q := by
  intro p l e s m args below meth c A D3 D Qf ad H locs ls hC hS hE
  have hts := hC.2.2.2.2.1
  refine W.objInit (g := F0 m pc ls ((Value.ref b :: st).map (w_cv ad))) hC.1 hC.2.1 hC.2.2.2.1 (hts _ hl) (hts _ hi) (hts _ hc) rfl (by show ls.size = _; rw [hS.2.2.2.1.1]; exact hC.2.2.1.symm) rfl hd hf ?_ (k p l e s m args below meth c A D3 D Qf ad H locs ls hC hS hE)
  show 2 * 0 + _ + 12 ≤ _
  rw [List.map_map]
  have : ((fun v : Value => v.category) ∘ w_cv ad) = fun v => v.category := funext (fun v => w_cv_cat ad v)
  rw [this]; omega
theorem w_up_lt {ad : Nat → Nat} {n q : Nat} : ∀ k, k < n → va_up ad n q k = ad k := fun k hk => by simp [va_up, Nat.ne_of_lt hk]
/-- a memory with one cell more: as it was, but there -/
def w_new (M M' : wM) (n : Nat) : Prop := ∀ j, j ≠ n → M'.1 j = M.1 j ∧ M'.2.1 j = M.2.1 j ∧ M'.2.2 j = M.2.2 j
/-- a fresh cell, all zero -/
def w_z (M : wM) (n : Nat) : wM := (va_up M.1 n (fun _ => 0), va_up M.2.1 n (fun _ => 0), va_up M.2.2 n (fun _ => none))
theorem w_z_new (M : wM) (n : Nat) : w_new M (w_z M n) n := fun j hj => ⟨by simp [w_z, va_up, hj], by simp [w_z, va_up, hj], by simp [w_z, va_up, hj]⟩
theorem w_z_1 (M : wM) (n i : Nat) : (w_z M n).1 n i = 0 := by simp [w_z, va_up]
theorem w_z_1r (M : wM) (n : Nat) : (w_z M n).1 n = fun _ => 0 := by simp [w_z, va_up]
theorem w_z_21r (M : wM) (n : Nat) : (w_z M n).2.1 n = fun _ => 0 := by simp [w_z, va_up]
theorem w_z_22 (M : wM) (n i : Nat) : (w_z M n).2.2 n i = none := by simp [w_z, va_up]
theorem w_z_wf {sh : wSh} {M : wM} {s : Nat × Nat} (h : w_wf sh M) : w_wf (sh ++ [s]) (w_z M sh.length) := by
  intro k i j hj
  by_cases hk : k = sh.length
  · subst hk; rw [w_z_22] at hj; cases hj
  · rw [(w_z_new M sh.length k hk).2.2] at hj
    have := h k i j hj
    simp; omega
/-- the start of a made object's fields -/
def w_fz : List Bool → List Value
  | [] => []
  | true :: t => .null :: w_fz t
  | false :: t => .int 0 :: w_fz t
theorem w_fz_ok (ad : Nat → Nat) (M : wM) (n : Nat) : ∀ (t : List Bool) (i : Nat), w_fs ad (w_z M n) n i t = w_fz t
  | [], _ => rfl
  | true :: t, i => by simp [w_fs, w_fz, w_z_22, va_rf, w_fz_ok ad M n t (i + 1)]
  | false :: t, i => by simp [w_fs, w_fz, w_z_1, w_fz_ok ad M n t (i + 1)]
/-- what 'new' needs of a class -/
def w_mk (ci : Nat) (C : String) (N : Nat) : Prop := ∃ (T : u_T) (ty : Nat → FieldType), vwCl[ci]? = some (C, T, N) ∧ (∀ w ∈ u_ws C T N, w ∈ lw_g) ∧ (∀ k, k < N → parseFieldDescriptor (T k).2.2.1 = some (ty k)) ∧ (∀ j, j < N → defaultValue (ty j) = vp_V (w_fz (w_fk ci)) j) ∧ ci ≠ 12 ∧ ci ≠ 13 ∧ ci ≠ 14 ∧ Cond.instantiable C N ∈ lw_g ∧ Cond.initialized C ∈ lw_g
theorem Rn.new {C : String} {N : Nat} (hd : decode K.2.1 pc = .ok (.new index, 3)) (hm : w_mk ci C N) (hl : Cond.classLink K.1.cls index C ∈ lw_g) (hcc : cs.1 + 1 ≤ K.2.2.2.2.cells ∧ cs.2 + N ≤ K.2.2.2.2.slots) (hlen : sh.length < w_scr) (hok : w_in sh.length st ∧ w_inL sh.length lv)
    (k : Rn K sx (cs.1 + 1, cs.2 + N) (pc + 3) lv (.ref sh.length :: st) (sh ++ [(ci, 0)]) (w_z M sh.length) Q) : Rn K sx cs pc lv st sh M Q := by
  intro p l e s m args below meth c A D3 D Qf ad H locs ls hC hS hE
  obtain ⟨T, ty, h1, h2, h3, h4, h5, h6, h7, h8, h9⟩ := hm
  have hts := hC.2.2.2.2.1
  refine va_new (ci := ci) (fs := w_fz (w_fk ci)) (C := C) (T := T) (N := N) hC.1 hC.2.1 hts h2 ty h3 hC.2.2.2.1 (hts _ hl) (hts _ h8) (hts _ h9) hC.2.2.2.2.2.1 hS.1 hS.2.1 hS.2.2.1 hC.2.2.2.2.2.2.1 h1 h4 hcc.1 hcc.2 hd (fun q H1 hP hD hSS => ?_)
  have hx : w_X ad sh (va_up ad sh.length q) (sh ++ [(ci, 0)]) := ⟨w_up_lt, by simp [va_up]; intro h; omega, by simp, fun h => by simp at h⟩
  rw [w_push (s := (ci, 0)) (M' := w_z M sh.length) hS.2.2.2.2.2.1 (fun j hj => w_z_new M sh.length j (Nat.ne_of_lt hj)) (by rw [w_cellO h5 h6 h7, w_fz_ok])] at hP hD
  have h := k p l e s m args below meth c A D3 D Qf (va_up ad sh.length q) H1 locs ls hC ⟨hP, hD, hSS, hS.2.2.2.1.mv hok.2 hx.1 hx.2.1, hcc, w_z_wf hS.2.2.2.2.2.1, by
    have h3 := hS.2.2.2.2.2.2
    cases sx with
    | none => trivial
    | some q => exact hx.2.1.trans h3⟩ (hE.mv hx)
  have e1 : List.map (w_cv (va_up ad sh.length q)) (.ref sh.length :: st) = .ref q :: st.map (w_cv ad) := by
    rw [List.map_cons, hok.1.map hx.1 hx.2.1]; simp [w_cv, va_up]
  rw [e1] at h
  exact h
theorem w_ra {s : State} {D : va_G} {tys : List (ClassId × FieldType)} {i j : Nat} {a b : ClassId} {ty : FieldType} (hK : va_K D vwCl tys s) (h1 : tys[i]? = some (a, ty)) (h2 : tys[j]? = some (b, ty)) (ht : ty = .int ∨ ty = .long ∨ ty = .boolean) : a = b := by
  have e1 := (hK.2 i _ h1).2
  have e2 := (hK.2 j _ h2).2
  rcases ht with rfl | rfl | rfl <;> exact Option.some.inj (e1.symm.trans e2)
theorem Rn.newI {x : Int32} {z : Nat} (hd : decode K.2.1 pc = .ok (.newarray .int, 2)) (hn : ¬ x < 0) (hz : x.toNatClampNeg = z) (hzb : z ≤ 10000) (hcc : cs.1 + 1 ≤ K.2.2.2.2.cells ∧ cs.2 + z ≤ K.2.2.2.2.slots) (hlen : sh.length < w_scr) (hok : w_in sh.length st ∧ w_inL sh.length lv)
    (k : Rn K sx (cs.1 + 1, cs.2 + z) (pc + 2) lv (.ref sh.length :: st) (sh ++ [(12, z)]) (w_z M sh.length) Q) : Rn K sx cs pc lv (.int x :: st) sh M Q := by
  intro p l e s m args below meth c A D3 D Qf ad H locs ls hC hS hE
  have hts := hC.2.2.2.2.1
  refine va_newa (atype := .int) (ty := .int) (N' := z) (a0 := (z, .inl (fun _ => 0))) hC.1 hC.2.1 (hts _ g_40) rfl hC.2.2.2.2.2.1 hS.1 hS.2.1 hS.2.2.1 hC.2.2.2.2.2.2.1 (fun cA => rfl) hn hz (by show z * 4 ≤ _; omega) hcc.1 hcc.2 hd (fun q cA H1 hK hP hD hSS => ?_)
  have ec : cA = D3.1 := w_ra (i := 3) (j := 0) hK rfl rfl (Or.inl rfl)
  subst ec
  have hx : w_X ad sh (va_up ad sh.length q) (sh ++ [(12, z)]) := ⟨w_up_lt, by simp [va_up]; intro h; omega, by simp, fun h => by simp at h⟩
  rw [w_push (s := (12, z)) (M' := w_z M sh.length) hS.2.2.2.2.2.1 (fun j hj => w_z_new M sh.length j (Nat.ne_of_lt hj)) (by rw [w_cellI, w_z_1r])] at hP hD
  have h := k p l e s m args below meth c A D3 D Qf (va_up ad sh.length q) H1 locs ls hC ⟨hP, hD, hSS, hS.2.2.2.1.mv hok.2 hx.1 hx.2.1, hcc, w_z_wf hS.2.2.2.2.2.1, by
    have h3 := hS.2.2.2.2.2.2
    cases sx with
    | none => trivial
    | some q => exact hx.2.1.trans h3⟩ (hE.mv hx)
  have e1 : List.map (w_cv (va_up ad sh.length q)) (.ref sh.length :: st) = .ref q :: st.map (w_cv ad) := by
    rw [List.map_cons, hok.1.map hx.1 hx.2.1]; simp [w_cv, va_up]
  rw [e1] at h
  exact h
theorem Rn.newL {x : Int32} {z : Nat} (hd : decode K.2.1 pc = .ok (.newarray .long, 2)) (hn : ¬ x < 0) (hz : x.toNatClampNeg = z) (hzb : z ≤ 10000) (hcc : cs.1 + 1 ≤ K.2.2.2.2.cells ∧ cs.2 + z ≤ K.2.2.2.2.slots) (hlen : sh.length < w_scr) (hok : w_in sh.length st ∧ w_inL sh.length lv)
    (k : Rn K sx (cs.1 + 1, cs.2 + z) (pc + 2) lv (.ref sh.length :: st) (sh ++ [(13, z)]) (w_z M sh.length) Q) : Rn K sx cs pc lv (.int x :: st) sh M Q := by
  intro p l e s m args below meth c A D3 D Qf ad H locs ls hC hS hE
  have hts := hC.2.2.2.2.1
  refine va_newa (atype := .long) (ty := .long) (N' := z) (a0 := (z, .inr (.inl (fun _ => 0)))) hC.1 hC.2.1 (hts _ g_702) rfl hC.2.2.2.2.2.1 hS.1 hS.2.1 hS.2.2.1 hC.2.2.2.2.2.2.1 (fun cA => rfl) hn hz (by show z * 8 ≤ _; omega) hcc.1 hcc.2 hd (fun q cA H1 hK hP hD hSS => ?_)
  have ec : cA = D3.2.1 := w_ra (i := 3) (j := 1) hK rfl rfl (Or.inr (Or.inl rfl))
  subst ec
  have hx : w_X ad sh (va_up ad sh.length q) (sh ++ [(13, z)]) := ⟨w_up_lt, by simp [va_up]; intro h; omega, by simp, fun h => by simp at h⟩
  rw [w_push (s := (13, z)) (M' := w_z M sh.length) hS.2.2.2.2.2.1 (fun j hj => w_z_new M sh.length j (Nat.ne_of_lt hj)) (by rw [w_cellJ, w_z_21r])] at hP hD
  have h := k p l e s m args below meth c A D3 D Qf (va_up ad sh.length q) H1 locs ls hC ⟨hP, hD, hSS, hS.2.2.2.1.mv hok.2 hx.1 hx.2.1, hcc, w_z_wf hS.2.2.2.2.2.1, by
    have h3 := hS.2.2.2.2.2.2
    cases sx with
    | none => trivial
    | some q => exact hx.2.1.trans h3⟩ (hE.mv hx)
  have e1 : List.map (w_cv (va_up ad sh.length q)) (.ref sh.length :: st) = .ref q :: st.map (w_cv ad) := by
    rw [List.map_cons, hok.1.map hx.1 hx.2.1]; simp [w_cv, va_up]
  rw [e1] at h
  exact h
theorem Rn.newZ {x : Int32} {z : Nat} (hd : decode K.2.1 pc = .ok (.newarray .boolean, 2)) (hn : ¬ x < 0) (hz : x.toNatClampNeg = z) (hzb : z ≤ 10000) (hcc : cs.1 + 1 ≤ K.2.2.2.2.cells ∧ cs.2 + z ≤ K.2.2.2.2.slots) (hlen : sh.length < w_scr) (hok : w_in sh.length st ∧ w_inL sh.length lv)
    (k : Rn K sx (cs.1 + 1, cs.2 + z) (pc + 2) lv (.ref sh.length :: st) (sh ++ [(14, z)]) (w_z M sh.length) Q) : Rn K sx cs pc lv (.int x :: st) sh M Q := by
  intro p l e s m args below meth c A D3 D Qf ad H locs ls hC hS hE
  have hts := hC.2.2.2.2.1
  refine va_newa (atype := .boolean) (ty := .boolean) (N' := z) (a0 := (z, .inl (fun _ => 0))) hC.1 hC.2.1 (hts _ g_703) rfl hC.2.2.2.2.2.1 hS.1 hS.2.1 hS.2.2.1 hC.2.2.2.2.2.2.1 (fun cA => rfl) hn hz (by show z * 1 ≤ _; omega) hcc.1 hcc.2 hd (fun q cA H1 hK hP hD hSS => ?_)
  have ec : cA = D3.2.2 := w_ra (i := 3) (j := 2) hK rfl rfl (Or.inr (Or.inr rfl))
  subst ec
  have hx : w_X ad sh (va_up ad sh.length q) (sh ++ [(14, z)]) := ⟨w_up_lt, by simp [va_up]; intro h; omega, by simp, fun h => by simp at h⟩
  rw [w_push (s := (14, z)) (M' := w_z M sh.length) hS.2.2.2.2.2.1 (fun j hj => w_z_new M sh.length j (Nat.ne_of_lt hj)) (by rw [w_cellZ, w_z_1r])] at hP hD
  have h := k p l e s m args below meth c A D3 D Qf (va_up ad sh.length q) H1 locs ls hC ⟨hP, hD, hSS, hS.2.2.2.1.mv hok.2 hx.1 hx.2.1, hcc, w_z_wf hS.2.2.2.2.2.1, by
    have h3 := hS.2.2.2.2.2.2
    cases sx with
    | none => trivial
    | some q => exact hx.2.1.trans h3⟩ (hE.mv hx)
  have e1 : List.map (w_cv (va_up ad sh.length q)) (.ref sh.length :: st) = .ref q :: st.map (w_cv ad) := by
    rw [List.map_cons, hok.1.map hx.1 hx.2.1]; simp [w_cv, va_up]
  rw [e1] at h
  exact h
theorem Rn.max {x y : Int32} (hd : decode K.2.1 pc = .ok (.invokestatic index, 3)) (hl : Cond.methodLink K.1.cls index Lib.Math.max.name ∈ lw_g) (hst : Cond.static Lib.Math.max.name ∈ lw_g) (hini : Cond.initialized "java/lang/Math" ∈ lw_g) (hcd : Cond.code Lib.Math.max.name Lib.Math.max.code 2 (some .int) ∈ lw_g) (hf : 1 ≤ K.2.2.2.2.frames) (hlo : (st.map fun v => v.category).sum + 13 ≤ K.2.2.2.2.locals)
    (k : Rn K sx cs (pc + 3) lv (.int (if x < y then y else x) :: st) sh M Q) : Rn K sx cs pc lv (.int y :: .int x :: st) sh M Q := by
  intro p l e s m args below meth c A D3 D Qf ad H locs ls hC hS hE
  have hts := hC.2.2.2.2.1
  refine va_mmax hC.1 hC.2.1 (by rw [hC.2.2.1, hS.2.2.2.1.1]) hC.2.2.2.1 (hts _ hl) (hts _ hst) (hts _ hini) (hts _ hcd) hf ?_ hS.2.2.2.2.1.1 hS.2.2.2.2.1.2 hd (k p l e s m args below meth c A D3 D Qf ad H locs ls hC hS hE)
  rw [List.map_map]
  have : ((fun v : Value => v.category) ∘ w_cv ad) = fun v => v.category := funext (fun v => w_cv_cat ad v)
  rw [this]; exact hlo
theorem Rn.min {x y : Int32} (hd : decode K.2.1 pc = .ok (.invokestatic index, 3)) (hl : Cond.methodLink K.1.cls index Lib.Math.min.name ∈ lw_g) (hst : Cond.static Lib.Math.min.name ∈ lw_g) (hini : Cond.initialized "java/lang/Math" ∈ lw_g) (hcd : Cond.code Lib.Math.min.name Lib.Math.min.code 2 (some .int) ∈ lw_g) (hf : 1 ≤ K.2.2.2.2.frames) (hlo : (st.map fun v => v.category).sum + 13 ≤ K.2.2.2.2.locals)
    (k : Rn K sx cs (pc + 3) lv (.int (if y < x then y else x) :: st) sh M Q) : Rn K sx cs pc lv (.int y :: .int x :: st) sh M Q := by
  intro p l e s m args below meth c A D3 D Qf ad H locs ls hC hS hE
  have hts := hC.2.2.2.2.1
  refine va_mmin hC.1 hC.2.1 (by rw [hC.2.2.1, hS.2.2.2.1.1]) hC.2.2.2.1 (hts _ hl) (hts _ hst) (hts _ hini) (hts _ hcd) hf ?_ hS.2.2.2.2.1.1 hS.2.2.2.2.1.2 hd (k p l e s m args below meth c A D3 D Qf ad H locs ls hC hS hE)
  rw [List.map_map]
  have : ((fun v : Value => v.category) ∘ w_cv ad) = fun v => v.category := funext (fun v => w_cv_cat ad v)
  rw [this]; exact hlo
theorem Rn.maxL {x y : Int64} (hd : decode K.2.1 pc = .ok (.invokestatic index, 3)) (hl : Cond.methodLink K.1.cls index Lib.MathLoose.max_long.x ∈ lw_g) (hst : Cond.static Lib.MathLoose.max_long.x ∈ lw_g) (hini : Cond.initialized "java/lang/Math" ∈ lw_g) (hcd : Cond.code Lib.MathLoose.max_long.x Lib.MathLoose.max_long.code 4 (some .long) ∈ lw_g) (hf : 1 ≤ K.2.2.2.2.frames) (hlo : (st.map fun v => v.category).sum + 15 ≤ K.2.2.2.2.locals)
    (k : Rn K sx cs (pc + 3) lv (.long (if y < x then x else y) :: st) sh M Q) : Rn K sx cs pc lv (.long y :: .long x :: st) sh M Q := by
  intro p l e s m args below meth c A D3 D Qf ad H locs ls hC hS hE
  have hts := hC.2.2.2.2.1
  refine va_mmax_long hC.1 hC.2.1 (by rw [hC.2.2.1, hS.2.2.2.1.1]) hC.2.2.2.1 (hts _ hl) (hts _ hst) (hts _ hini) (hts _ hcd) hf ?_ hS.2.2.2.2.1.1 hS.2.2.2.2.1.2 hd (k p l e s m args below meth c A D3 D Qf ad H locs ls hC hS hE)
  rw [List.map_map]
  have : ((fun v : Value => v.category) ∘ w_cv ad) = fun v => v.category := funext (fun v => w_cv_cat ad v)
  rw [this]; exact hlo
end RN2
end
section
theorem lw_dummy : True := trivial
end
