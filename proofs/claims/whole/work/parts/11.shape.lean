/-! The shape of the made system. -/
def SH : wSh := [(10, 0), (3, 0), (8, 0), (12, 12), (12, 6), (12, 6), (6, 0), (12, 8), (12, 8), (5, 0), (12, 60), (7, 0), (3, 0), (8, 0), (12, 12), (12, 6), (12, 6), (0, 0), (1, 0), (12, 12), (2, 0), (12, 12), (9, 0), (3, 0), (8, 0), (12, 12), (12, 6), (12, 6), (0, 0), (4, 0), (3, 0), (8, 0), (12, 12), (12, 6), (12, 6), (6, 0), (12, 8), (12, 8), (4, 0), (3, 0), (8, 0), (12, 12), (12, 6), (12, 6), (6, 0), (12, 8), (12, 8), (11, 0), (12, 26), (12, 26), (12, 16), (12, 60), (12, 6), (12, 12), (12, 12), (13, 1681), (12, 100), (14, 2)]
def RGl : List (List (Option Nat)) := [[some 1, some 6, some 9, some 11, some 18, some 20, some 22, some 29, some 38], [some 2, some 4, some 5, none, none], [some 3], [], [], [], [some 7, some 8, none], [], [], [some 10, none], [], [some 12, some 17, none, none, none, none], [some 13, some 15, some 16, none, none], [some 14], [], [], [], [none, none, none], [some 19], [], [some 21], [], [some 23, some 28], [some 24, some 26, some 27, none, none], [some 25], [], [], [], [none, none, none], [some 30, some 35, none], [some 31, some 33, some 34, none, none], [some 32], [], [], [], [some 36, some 37, none], [], [], [some 39, some 44, none], [some 40, some 42, some 43, none, none], [some 41], [], [], [], [some 45, some 46, none], [], [], [some 48, some 49, none, some 50, none, some 51, none, none, none, some 52, none, none, some 53, some 54, some 55, some 56, some 57], [], [], [], [], [], [], [], [], [], []]
def RG : Nat → Nat → Option Nat := fun k i => (RGl.getD k []).getD i none
/-- the numbers of the objects of Hill -/
def isHill (h : Nat) : Prop := h = 1 ∨ h = 12 ∨ h = 23 ∨ h = 30 ∨ h = 39
/-- the numbers of the objects of Tree -/
def isTree (h : Nat) : Prop := h = 2 ∨ h = 13 ∨ h = 24 ∨ h = 31 ∨ h = 40
/-- the numbers of the objects of Sights -/
def isSights (h : Nat) : Prop := h = 6 ∨ h = 35 ∨ h = 44
/-- the numbers of the objects of Act -/
def isAct (h : Nat) : Prop := h = 17 ∨ h = 28
/-- the numbers of the objects of Image -/
def isImage (h : Nat) : Prop := h = 29 ∨ h = 38
theorem z_BH : SH[0]? = some (10, 0) := rfl
theorem z_Hill {h : Nat} (hh : isHill h) : SH[h]? = some (3, 0) := by rcases hh with rfl | rfl | rfl | rfl | rfl <;> rfl
theorem z_Tree {h : Nat} (hh : isTree h) : SH[h]? = some (8, 0) := by rcases hh with rfl | rfl | rfl | rfl | rfl <;> rfl
theorem z_Sights {h : Nat} (hh : isSights h) : SH[h]? = some (6, 0) := by rcases hh with rfl | rfl | rfl <;> rfl
theorem z_Pad : SH[9]? = some (5, 0) := rfl
theorem z_Telling : SH[11]? = some (7, 0) := rfl
theorem z_Act {h : Nat} (hh : isAct h) : SH[h]? = some (0, 0) := by rcases hh with rfl | rfl <;> rfl
theorem z_Choice : SH[18]? = some (1, 0) := rfl
theorem z_Cutting : SH[20]? = some (2, 0) := rfl
theorem z_Year : SH[22]? = some (9, 0) := rfl
theorem z_Image {h : Nat} (hh : isImage h) : SH[h]? = some (4, 0) := by rcases hh with rfl | rfl <;> rfl
theorem z_Md : SH[47]? = some (11, 0) := rfl
theorem r_Tree_parents {h : Nat} {M : wM} (hh : isTree h) (hG : M.2.2 = RG) : M.2.2 h 0 = some (h + 1) := by rw [hG]; rcases hh with rfl | rfl | rfl | rfl | rfl <;> rfl
theorem z_Tree_parents {h : Nat} (hh : isTree h) : SH[h + 1]? = some (12, 12) := by rcases hh with rfl | rfl | rfl | rfl | rfl <;> rfl
theorem r_Hill_tree {h : Nat} {M : wM} (hh : isHill h) (hG : M.2.2 = RG) : M.2.2 h 0 = some (h + 1) := by rw [hG]; rcases hh with rfl | rfl | rfl | rfl | rfl <;> rfl
theorem i_Hill_tree {h : Nat} (hh : isHill h) : isTree (h + 1) := by rcases hh with rfl | rfl | rfl | rfl | rfl <;> simp [isTree]
theorem r_Hill_loops {h : Nat} {M : wM} (hh : isHill h) (hG : M.2.2 = RG) : M.2.2 h 1 = some (h + 3) := by rw [hG]; rcases hh with rfl | rfl | rfl | rfl | rfl <;> rfl
theorem z_Hill_loops {h : Nat} (hh : isHill h) : SH[h + 3]? = some (12, 6) := by rcases hh with rfl | rfl | rfl | rfl | rfl <;> rfl
theorem r_Hill_chips {h : Nat} {M : wM} (hh : isHill h) (hG : M.2.2 = RG) : M.2.2 h 2 = some (h + 4) := by rw [hG]; rcases hh with rfl | rfl | rfl | rfl | rfl <;> rfl
theorem z_Hill_chips {h : Nat} (hh : isHill h) : SH[h + 4]? = some (12, 6) := by rcases hh with rfl | rfl | rfl | rfl | rfl <;> rfl
theorem r_BH_hill {M : wM} (hG : M.2.2 = RG) : M.2.2 0 0 = some 1 := by rw [hG]; rfl
theorem i_BH_hill : isHill 1 := by simp [isHill]
theorem r_Sights_loops {h : Nat} {M : wM} (hh : isSights h) (hG : M.2.2 = RG) : M.2.2 h 0 = some (h + 1) := by rw [hG]; rcases hh with rfl | rfl | rfl <;> rfl
theorem z_Sights_loops {h : Nat} (hh : isSights h) : SH[h + 1]? = some (12, 8) := by rcases hh with rfl | rfl | rfl <;> rfl
theorem r_Sights_fars {h : Nat} {M : wM} (hh : isSights h) (hG : M.2.2 = RG) : M.2.2 h 1 = some (h + 2) := by rw [hG]; rcases hh with rfl | rfl | rfl <;> rfl
theorem z_Sights_fars {h : Nat} (hh : isSights h) : SH[h + 2]? = some (12, 8) := by rcases hh with rfl | rfl | rfl <;> rfl
theorem r_BH_sights {M : wM} (hG : M.2.2 = RG) : M.2.2 0 1 = some 6 := by rw [hG]; rfl
theorem i_BH_sights : isSights 6 := by simp [isSights]
theorem r_Pad_signs {M : wM} (hG : M.2.2 = RG) : M.2.2 9 0 = some 10 := by rw [hG]; rfl
theorem z_Pad_signs : SH[10]? = some (12, 60) := rfl
theorem r_BH_pad {M : wM} (hG : M.2.2 = RG) : M.2.2 0 2 = some 9 := by rw [hG]; rfl
theorem r_Telling_hill {M : wM} (hG : M.2.2 = RG) : M.2.2 11 0 = some 12 := by rw [hG]; rfl
theorem i_Telling_hill : isHill 12 := by simp [isHill]
theorem r_Telling_act {M : wM} (hG : M.2.2 = RG) : M.2.2 11 1 = some 17 := by rw [hG]; rfl
theorem i_Telling_act : isAct 17 := by simp [isAct]
theorem r_BH_telling {M : wM} (hG : M.2.2 = RG) : M.2.2 0 3 = some 11 := by rw [hG]; rfl
theorem r_Choice_around {M : wM} (hG : M.2.2 = RG) : M.2.2 18 0 = some 19 := by rw [hG]; rfl
theorem z_Choice_around : SH[19]? = some (12, 12) := rfl
theorem r_BH_choice {M : wM} (hG : M.2.2 = RG) : M.2.2 0 4 = some 18 := by rw [hG]; rfl
theorem r_Cutting_worths {M : wM} (hG : M.2.2 = RG) : M.2.2 20 0 = some 21 := by rw [hG]; rfl
theorem z_Cutting_worths : SH[21]? = some (12, 12) := rfl
theorem r_BH_cutting {M : wM} (hG : M.2.2 = RG) : M.2.2 0 5 = some 20 := by rw [hG]; rfl
theorem r_Year_hill {M : wM} (hG : M.2.2 = RG) : M.2.2 22 0 = some 23 := by rw [hG]; rfl
theorem i_Year_hill : isHill 23 := by simp [isHill]
theorem r_Year_act {M : wM} (hG : M.2.2 = RG) : M.2.2 22 1 = some 28 := by rw [hG]; rfl
theorem i_Year_act : isAct 28 := by simp [isAct]
theorem r_BH_years {M : wM} (hG : M.2.2 = RG) : M.2.2 0 6 = some 22 := by rw [hG]; rfl
theorem r_Image_hill {h : Nat} {M : wM} (hh : isImage h) (hG : M.2.2 = RG) : M.2.2 h 0 = some (h + 1) := by rw [hG]; rcases hh with rfl | rfl <;> rfl
theorem i_Image_hill {h : Nat} (hh : isImage h) : isHill (h + 1) := by rcases hh with rfl | rfl <;> simp [isHill]
theorem r_Image_sights {h : Nat} {M : wM} (hh : isImage h) (hG : M.2.2 = RG) : M.2.2 h 1 = some (h + 6) := by rw [hG]; rcases hh with rfl | rfl <;> rfl
theorem i_Image_sights {h : Nat} (hh : isImage h) : isSights (h + 6) := by rcases hh with rfl | rfl <;> simp [isSights]
theorem r_BH_firstImage {M : wM} (hG : M.2.2 = RG) : M.2.2 0 7 = some 29 := by rw [hG]; rfl
theorem i_BH_firstImage : isImage 29 := by simp [isImage]
theorem r_BH_secondImage {M : wM} (hG : M.2.2 = RG) : M.2.2 0 8 = some 38 := by rw [hG]; rfl
theorem i_BH_secondImage : isImage 38 := by simp [isImage]
theorem r_Md_book {M : wM} (hG : M.2.2 = RG) : M.2.2 47 0 = some 48 := by rw [hG]; rfl
theorem z_Md_book : SH[48]? = some (12, 26) := rfl
theorem r_Md_now {M : wM} (hG : M.2.2 = RG) : M.2.2 47 1 = some 49 := by rw [hG]; rfl
theorem z_Md_now : SH[49]? = some (12, 26) := rfl
theorem r_Md_sight {M : wM} (hG : M.2.2 = RG) : M.2.2 47 3 = some 50 := by rw [hG]; rfl
theorem z_Md_sight : SH[50]? = some (12, 16) := rfl
theorem r_Md_pad {M : wM} (hG : M.2.2 = RG) : M.2.2 47 5 = some 51 := by rw [hG]; rfl
theorem z_Md_pad : SH[51]? = some (12, 60) := rfl
theorem r_Md_more {M : wM} (hG : M.2.2 = RG) : M.2.2 47 9 = some 52 := by rw [hG]; rfl
theorem z_Md_more : SH[52]? = some (12, 6) := rfl
theorem r_Md_counts {M : wM} (hG : M.2.2 = RG) : M.2.2 47 12 = some 53 := by rw [hG]; rfl
theorem z_Md_counts : SH[53]? = some (12, 12) := rfl
theorem r_Md_worth {M : wM} (hG : M.2.2 = RG) : M.2.2 47 13 = some 54 := by rw [hG]; rfl
theorem z_Md_worth : SH[54]? = some (12, 12) := rfl
theorem r_Md_choices {M : wM} (hG : M.2.2 = RG) : M.2.2 47 14 = some 55 := by rw [hG]; rfl
theorem z_Md_choices : SH[55]? = some (13, 1681) := rfl
theorem r_Md_image {M : wM} (hG : M.2.2 = RG) : M.2.2 47 15 = some 56 := by rw [hG]; rfl
theorem z_Md_image : SH[56]? = some (12, 100) := rfl
theorem r_Md_isKept {M : wM} (hG : M.2.2 = RG) : M.2.2 47 16 = some 57 := by rw [hG]; rfl
theorem z_Md_isKept : SH[57]? = some (14, 2) := rfl
