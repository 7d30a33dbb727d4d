/-! Act, bitCount, rows of ints, Hill's readers. -/
set_option maxRecDepth 20000
def bc2 (x : Int32) : Int32 := x - ((x.toUInt32 >>> ((iI 1).toUInt32 &&& Int32.toUInt32 31)).toInt32 &&& 1431655765)
def bc4 (x : Int32) : Int32 := (x &&& 858993459) + ((x.toUInt32 >>> ((iI 2).toUInt32 &&& Int32.toUInt32 31)).toInt32 &&& 858993459)
def bc8 (x : Int32) : Int32 := (x + (x.toUInt32 >>> ((iI 4).toUInt32 &&& Int32.toUInt32 31)).toInt32) &&& 252645135
def bc16 (x : Int32) : Int32 := x + (x.toUInt32 >>> ((iI 8).toUInt32 &&& Int32.toUInt32 31)).toInt32
def bc32 (x : Int32) : Int32 := x + (x.toUInt32 >>> ((iI 16).toUInt32 &&& Int32.toUInt32 31)).toInt32
def bcX (x : Int32) : Int32 := bc32 (bc16 (bc8 (bc4 (bc2 x)))) &&& iI 63
theorem bcX_ok2 : ∀ i, i < 64 → ∀ j, j < 64 → bcX (iI ((64 * i + j : Nat) : Int)) = iI (pc (64 * i + j) : Nat) := by decide +kernel
theorem bcX_ok {a : Nat} (h : a < 4096) : bcX (iI a) = iI (pc a) := by
  have h1 := bcX_ok2 (a / 64) (by omega) (a % 64) (by omega)
  rw [Nat.div_add_mod a 64] at h1
  exact h1
theorem m_Int_bitCount {M : wM} {a : Nat} (ha : a < 4096) : EvI k_Int_bitCount [.int (iI a)] SH M (fun r M' => r = iI (pc a) ∧ M' = M) := by
  refine EvI.of 0 (by decide) (Nat.le_of_ble_eq_true rfl) rfl ?_
  rw [show iI (pc a) = bcX (iI a) from (bcX_ok ha).symm]
  unfold bcX
  generalize iI (a : Int) = x
  refine Rn.iload_n d_Int_bitCount_0 rfl ?_
  refine Rn.iload_n d_Int_bitCount_1 rfl ?_
  refine Rn.iconst (v := iI 1) d_Int_bitCount_2 rfl ?_
  refine Rn.iushr d_Int_bitCount_3 rfl ?_
  refine Rn.ldcw d_Int_bitCount_4 g_360 ?_
  refine Rn.iand d_Int_bitCount_7 ?_
  refine Rn.isub d_Int_bitCount_8 ?_
  refine Rn.istore_n (lv1 := [some (.int (bc2 x))]) d_Int_bitCount_9 (by decide) (w_pv rfl) rfl ?_
  generalize bc2 x = x
  refine Rn.iload_n d_Int_bitCount_10 rfl ?_
  refine Rn.ldcw d_Int_bitCount_11 g_361 ?_
  refine Rn.iand d_Int_bitCount_14 ?_
  refine Rn.iload_n d_Int_bitCount_15 rfl ?_
  refine Rn.iconst (v := iI 2) d_Int_bitCount_16 rfl ?_
  refine Rn.iushr d_Int_bitCount_17 rfl ?_
  refine Rn.ldcw d_Int_bitCount_18 g_361 ?_
  refine Rn.iand d_Int_bitCount_21 ?_
  refine Rn.iadd d_Int_bitCount_22 ?_
  refine Rn.istore_n (lv1 := [some (.int (bc4 x))]) d_Int_bitCount_23 (by decide) (w_pv rfl) rfl ?_
  generalize bc4 x = x
  refine Rn.iload_n d_Int_bitCount_24 rfl ?_
  refine Rn.iload_n d_Int_bitCount_25 rfl ?_
  refine Rn.iconst (v := iI 4) d_Int_bitCount_26 rfl ?_
  refine Rn.iushr d_Int_bitCount_27 rfl ?_
  refine Rn.iadd d_Int_bitCount_28 ?_
  refine Rn.ldcw d_Int_bitCount_29 g_362 ?_
  refine Rn.iand d_Int_bitCount_32 ?_
  refine Rn.istore_n (lv1 := [some (.int (bc8 x))]) d_Int_bitCount_33 (by decide) (w_pv rfl) rfl ?_
  generalize bc8 x = x
  refine Rn.iload_n d_Int_bitCount_34 rfl ?_
  refine Rn.iload_n d_Int_bitCount_35 rfl ?_
  refine Rn.bipush (v := iI 8) d_Int_bitCount_36 (by decide +kernel) ?_
  refine Rn.iushr d_Int_bitCount_38 rfl ?_
  refine Rn.iadd d_Int_bitCount_39 ?_
  refine Rn.istore_n (lv1 := [some (.int (bc16 x))]) d_Int_bitCount_40 (by decide) (w_pv rfl) rfl ?_
  generalize bc16 x = x
  refine Rn.iload_n d_Int_bitCount_41 rfl ?_
  refine Rn.iload_n d_Int_bitCount_42 rfl ?_
  refine Rn.bipush (v := iI 16) d_Int_bitCount_43 (by decide +kernel) ?_
  refine Rn.iushr d_Int_bitCount_45 rfl ?_
  refine Rn.iadd d_Int_bitCount_46 ?_
  refine Rn.istore_n (lv1 := [some (.int (bc32 x))]) d_Int_bitCount_47 (by decide) (w_pv rfl) rfl ?_
  generalize bc32 x = x
  refine Rn.iload_n d_Int_bitCount_48 rfl ?_
  refine Rn.bipush (v := iI 63) d_Int_bitCount_49 (by decide +kernel) ?_
  refine Rn.iand d_Int_bitCount_51 ?_
  exact Rn.iret d_Int_bitCount_52 rfl rfl ⟨rfl, rfl⟩
theorem m_Act_set {M : wM} {c : Nat} {k o p : Int} (hh : isAct c) : EvV k_Act_set [.ref c, .int (iI k), .int (iI o), .int (iI p)] SH M (fun M' => actAt M' c k o p ∧ Off M M' c (c + 1)) := by
  refine EvV.of 0 (by decide) (Nat.le_of_ble_eq_true rfl) rfl ?_
  refine Rn.aload_n d_Act_set_0 rfl ?_
  refine Rn.iload_n d_Act_set_1 rfl ?_
  refine In.putI d_Act_set_2 f_Act_kind g_100 (z_Act (by first | assumption | exact i_Telling_act | exact i_Year_act)) ?_
  refine Rn.aload_n d_Act_set_5 rfl ?_
  refine Rn.iload_n d_Act_set_6 rfl ?_
  refine In.putI d_Act_set_7 f_Act_one g_101 (z_Act (by first | assumption | exact i_Telling_act | exact i_Year_act)) ?_
  refine Rn.aload_n d_Act_set_10 rfl ?_
  refine Rn.iload_n d_Act_set_11 rfl ?_
  refine In.putI d_Act_set_12 f_Act_other g_102 (z_Act (by first | assumption | exact i_Telling_act | exact i_Year_act)) ?_
  exact Rn.vret d_Act_set_15 rfl ⟨⟨by simp [w_ui_if], by simp [w_ui_if], by simp [w_ui_if]⟩, ((Off.ui _ _ _ _).tr (Off.ui _ _ _ _)).tr (Off.ui _ _ _ _)⟩
theorem m_Act_kind {M : wM} {c : Nat} {k o p : Int} (hh : isAct c) (hA : actAt M c k o p) : EvI k_Act_kind [.ref c] SH M (fun r M' => r = iI k ∧ M' = M) := by
  refine EvI.of 0 (by decide) (Nat.le_of_ble_eq_true rfl) rfl ?_
  refine Rn.aload_n d_Act_kind_0 rfl ?_
  refine In.getI d_Act_kind_1 f_Act_kind g_100 (z_Act (by first | assumption | exact i_Telling_act | exact i_Year_act)) hA.1 ?_
  exact Rn.iret d_Act_kind_4 rfl rfl ⟨rfl, rfl⟩
theorem m_Act_one {M : wM} {c : Nat} {k o p : Int} (hh : isAct c) (hA : actAt M c k o p) : EvI k_Act_one [.ref c] SH M (fun r M' => r = iI o ∧ M' = M) := by
  refine EvI.of 0 (by decide) (Nat.le_of_ble_eq_true rfl) rfl ?_
  refine Rn.aload_n d_Act_one_0 rfl ?_
  refine In.getI d_Act_one_1 f_Act_one g_101 (z_Act (by first | assumption | exact i_Telling_act | exact i_Year_act)) hA.2.1 ?_
  exact Rn.iret d_Act_one_4 rfl rfl ⟨rfl, rfl⟩
theorem m_Act_other {M : wM} {c : Nat} {k o p : Int} (hh : isAct c) (hA : actAt M c k o p) : EvI k_Act_other [.ref c] SH M (fun r M' => r = iI p ∧ M' = M) := by
  refine EvI.of 0 (by decide) (Nat.le_of_ble_eq_true rfl) rfl ?_
  refine Rn.aload_n d_Act_other_0 rfl ?_
  refine In.getI d_Act_other_1 f_Act_other g_102 (z_Act (by first | assumption | exact i_Telling_act | exact i_Year_act)) hA.2.2 ?_
  exact Rn.iret d_Act_other_4 rfl rfl ⟨rfl, rfl⟩
theorem m_BH_copyRow {M : wM} {a b z : Nat} (hza : SH[a]? = some (12, z)) (hzb : SH[b]? = some (12, z)) (hab : a ≠ b) (hz : z < 1000) : EvV k_BH_copyRow [.ref a, .ref b] SH M (fun M' => (∀ j, j < z → M'.1 b j = M.1 a j) ∧ Off M M' b (b + 1)) := by
  refine EvV.of 1 (by decide) (Nat.le_of_ble_eq_true rfl) rfl ?_
  refine Rn.iconst (v := iI 0) d_BH_copyRow_0 rfl ?_
  refine Rn.istore_n (lv1 := [_, _, _]) d_BH_copyRow_1 (by decide) (w_pv rfl) rfl ?_
  have loop : ∀ (n i : Nat) (Mc : wM), i + n = z → (∀ j, j < i → Mc.1 b j = M.1 a j) → Off M Mc b (b + 1) → Rn k_BH_copyRow none (0, 0) 2 [some (.ref a), some (.ref b), some (.int (iI i))] [] SH Mc (w_FV (0, 0) SH (fun M' => (∀ j, j < z → M'.1 b j = M.1 a j) ∧ Off M M' b (b + 1))) := by
    intro n
    induction n with
    | zero =>
      intro i Mc h1 h2 h3
      refine Rn.iload_n d_BH_copyRow_2 rfl ?_
      refine Rn.aload_n d_BH_copyRow_3 rfl ?_
      refine In.alen d_BH_copyRow_4 hza (by decide) ?_
      refine In.icmp_ge (tgt := 26) d_BH_copyRow_5 (by decide) ⟨by omega, by omega⟩ ⟨by omega, by omega⟩ (fun c5 => ?_) (fun c5 => ?_)
      · exact Rn.vret d_BH_copyRow_26 rfl ⟨fun j hj => h2 j (by omega), h3⟩
      · omega
    | succ n ih =>
      intro i Mc h1 h2 h3
      refine Rn.iload_n d_BH_copyRow_2 rfl ?_
      refine Rn.aload_n d_BH_copyRow_3 rfl ?_
      refine In.alen d_BH_copyRow_4 hza (by decide) ?_
      refine In.icmp_ge (tgt := 26) d_BH_copyRow_5 (by decide) ⟨by omega, by omega⟩ ⟨by omega, by omega⟩ (fun c5 => ?_) (fun c5 => ?_)
      · omega
      · refine Rn.iload_n d_BH_copyRow_8 rfl ?_
        refine Rn.aload_n d_BH_copyRow_9 rfl ?_
        refine In.alen d_BH_copyRow_10 hzb (by decide) ?_
        refine In.icmp_ge (tgt := 26) d_BH_copyRow_11 (by decide) ⟨by omega, by omega⟩ ⟨by omega, by omega⟩ (fun c11 => ?_) (fun c11 => ?_)
        · omega
        · refine Rn.aload_n d_BH_copyRow_14 rfl ?_
          refine Rn.iload_n d_BH_copyRow_15 rfl ?_
          refine Rn.aload_n d_BH_copyRow_16 rfl ?_
          refine Rn.iload_n d_BH_copyRow_17 rfl ?_
          refine In.ald d_BH_copyRow_18 hza rfl (by omega) (by omega) (iI_of _) ?_
          refine In.ast d_BH_copyRow_19 hzb rfl (by omega) (by omega) ?_
          refine In.inc (lv1 := [_, _, _]) d_BH_copyRow_20 rfl (by decide) (w_pv rfl) rfl ?_
          refine Rn.goto (tgt := 2) d_BH_copyRow_23 (by decide) ?_
          refine ih (i + 1) _ (by omega) (fun j hj => ?_) (h3.tr (Off.ui _ _ _ _))
          rw [← iI_of, w_ui_if]
          by_cases e : j = i
          · subst e; rw [if_pos ⟨rfl, rfl⟩, h3.1 a (by omega)]
          · rw [if_neg (by omega)]; exact h2 j (by omega)
  exact loop z 0 M (by omega) (fun j hj => by omega) Off.rf
theorem m_BH_memberAt {M : wM} {s : Nat} {i : Int} (hs : s < 2147483648) (hi : -2147483648 ≤ i ∧ i < 2147483648) : EvI k_BH_memberAt [.int (iI s), .int (iI i)] SH M (fun r M' => r = iI (nth (fun k => s.testBit k) 12 0 0 i) ∧ M' = M) := by
  refine EvI.of 2 (by decide) (Nat.le_of_ble_eq_true rfl) rfl ?_
  refine Rn.iconst (v := iI 0) d_BH_memberAt_0 rfl ?_
  refine Rn.istore_n (lv1 := [_, _, _, _]) d_BH_memberAt_1 (by decide) (w_pv rfl) rfl ?_
  refine Rn.iconst (v := iI 0) d_BH_memberAt_2 rfl ?_
  refine Rn.istore_n (lv1 := [_, _, _, _]) d_BH_memberAt_3 (by decide) (w_pv rfl) rfl ?_
  obtain ⟨V, hV⟩ : ∃ V, V = nth (fun k => s.testBit k) 12 0 0 i := ⟨_, rfl⟩
  rw [← hV]
  have loop : ∀ (n l c : Nat), l + n = 12 → c ≤ l → nth (fun k => s.testBit k) n l c i = V → Rn k_BH_memberAt none (0, 0) 4 [some (.int (iI s)), some (.int (iI i)), some (.int (iI c)), some (.int (iI l))] [] SH M (w_FI (0, 0) SH (fun r M' => r = iI V ∧ M' = M)) := by
    intro n
    induction n with
    | zero =>
      intro l c h1 h2 h3
      refine Rn.iload_n d_BH_memberAt_4 rfl ?_
      refine Rn.bipush (v := iI 12) d_BH_memberAt_5 (by decide +kernel) ?_
      refine In.icmp_ge (tgt := 37) d_BH_memberAt_7 (by decide) ⟨by omega, by omega⟩ ⟨by omega, by omega⟩ (fun c7 => ?_) (fun c7 => ?_)
      · refine Rn.bipush (v := iI (-6)) d_BH_memberAt_37 (by decide +kernel) ?_
        exact Rn.iret d_BH_memberAt_39 rfl rfl ⟨by rw [← h3]; rfl, rfl⟩
      · omega
    | succ n ih =>
      intro l c h1 h2 h3
      refine Rn.iload_n d_BH_memberAt_4 rfl ?_
      refine Rn.bipush (v := iI 12) d_BH_memberAt_5 (by decide +kernel) ?_
      refine In.icmp_ge (tgt := 37) d_BH_memberAt_7 (by decide) ⟨by omega, by omega⟩ ⟨by omega, by omega⟩ (fun c7 => ?_) (fun c7 => ?_)
      · omega
      · refine Rn.iload_n d_BH_memberAt_10 rfl ?_
        refine Rn.iload_n d_BH_memberAt_11 rfl ?_
        refine Rn.cSI d_BH_memberAt_12 s_BH_memberAt_BH_holds g_413 g_253 ⟨rfl, rfl⟩ ⟨Nat.zero_le _, Nat.zero_le _⟩ (m_BH_holds hs (show l < 31 by omega)) rfl rfl (Nat.le_of_ble_eq_true rfl) (fun rr MM qq => ?_)
        obtain ⟨rfl, rfl⟩ := And.imp id Eq.symm qq; clear qq
        refine In.if_ne (tgt := 21) d_BH_memberAt_15 (by decide) fl_rg (fun c15 => ?_) (fun c15 => ?_)
        · refine Rn.iload_n d_BH_memberAt_21 rfl ?_
          refine Rn.iload_n d_BH_memberAt_22 rfl ?_
          have hb : s.testBit l = true := fl_ne c15
          simp only [nth, hb, if_true] at h3
          refine In.icmp_ne (tgt := 28) d_BH_memberAt_23 (by decide) ⟨by omega, by omega⟩ ⟨by omega, by omega⟩ (fun c23 => ?_) (fun c23 => ?_)
          · refine In.inc (lv1 := [_, _, _, _]) d_BH_memberAt_28 rfl (by decide) (w_pv rfl) rfl ?_
            refine In.inc (lv1 := [_, _, _, _]) d_BH_memberAt_31 rfl (by decide) (w_pv rfl) rfl ?_
            refine Rn.goto (tgt := 4) d_BH_memberAt_34 (by decide) ?_
            rw [if_neg (by omega)] at h3
            exact ih (l + 1) (c + 1) (by omega) (by omega) h3
          · refine Rn.iload_n d_BH_memberAt_26 rfl ?_
            rw [if_pos (by omega)] at h3
            exact Rn.iret d_BH_memberAt_27 rfl rfl ⟨by rw [← h3], rfl⟩
        · refine Rn.goto (tgt := 31) d_BH_memberAt_18 (by decide) ?_
          refine In.inc (lv1 := [_, _, _, _]) d_BH_memberAt_31 rfl (by decide) (w_pv rfl) rfl ?_
          refine Rn.goto (tgt := 4) d_BH_memberAt_34 (by decide) ?_
          have hb : s.testBit l = false := Bool.eq_false_iff.mpr (fl_eq c15)
          simp only [nth, hb] at h3
          exact ih (l + 1) c (by omega) (by omega) h3
  exact loop 12 0 0 rfl (Nat.le_refl _) hV.symm
theorem m_Hill_tree {M : wM} {h : Nat} (hh : isHill h) (hG : M.2.2 = RG) : EvR k_Hill_tree [.ref h] SH M (fun r M' => r = h + 1 ∧ M' = M) := by
  refine EvR.of 0 (by decide) (Nat.le_of_ble_eq_true rfl) rfl ?_
  refine Rn.aload_n d_Hill_tree_0 rfl ?_
  refine Rn.getR d_Hill_tree_1 f_Hill_tree g_41 (z_Hill (by first | assumption | exact i_Image_hill (by assumption) | exact i_BH_hill | exact i_Telling_hill | exact i_Year_hill)) (r_Hill_tree (by first | assumption | exact i_Image_hill (by assumption) | exact i_BH_hill | exact i_Telling_hill | exact i_Year_hill) (by assumption)) ?_
  exact Rn.aret d_Hill_tree_4 rfl ⟨rfl, rfl⟩
theorem m_Hill_loopOf {M : wM} {h b : Nat} {β : Nat → Int} (hh : isHill h) (hG : M.2.2 = RG) (hA : hillAt M h β) (hb : b < 6) : EvI k_Hill_loopOf [.ref h, .int (iI b)] SH M (fun r M' => r = iI (β (12 + b)) ∧ M' = M) := by
  refine EvI.of 0 (by decide) (Nat.le_of_ble_eq_true rfl) rfl ?_
  refine Rn.iload_n d_Hill_loopOf_0 rfl ?_
  refine In.if_lt (tgt := 22) d_Hill_loopOf_1 (by decide) ⟨by omega, by omega⟩ (fun c1 => ?_) (fun c1 => ?_)
  · omega
  · refine Rn.iload_n d_Hill_loopOf_4 rfl ?_
    refine Rn.aload_n d_Hill_loopOf_5 rfl ?_
    refine Rn.getR d_Hill_loopOf_6 f_Hill_loops g_42 (z_Hill (by first | assumption | exact i_Image_hill (by assumption) | exact i_BH_hill | exact i_Telling_hill | exact i_Year_hill)) (r_Hill_loops (by first | assumption | exact i_Image_hill (by assumption) | exact i_BH_hill | exact i_Telling_hill | exact i_Year_hill) (by assumption)) ?_
    refine In.alen d_Hill_loopOf_9 (z_Hill_loops (by first | assumption | exact i_Image_hill (by assumption) | exact i_BH_hill | exact i_Telling_hill | exact i_Year_hill)) (by decide) ?_
    refine In.icmp_ge (tgt := 22) d_Hill_loopOf_10 (by decide) ⟨by omega, by omega⟩ ⟨by omega, by omega⟩ (fun c10 => ?_) (fun c10 => ?_)
    · omega
    · refine Rn.aload_n d_Hill_loopOf_13 rfl ?_
      refine Rn.getR d_Hill_loopOf_14 f_Hill_loops g_42 (z_Hill (by first | assumption | exact i_Image_hill (by assumption) | exact i_BH_hill | exact i_Telling_hill | exact i_Year_hill)) (r_Hill_loops (by first | assumption | exact i_Image_hill (by assumption) | exact i_BH_hill | exact i_Telling_hill | exact i_Year_hill) (by assumption)) ?_
      refine Rn.iload_n d_Hill_loopOf_17 rfl ?_
      refine In.ald d_Hill_loopOf_18 (z_Hill_loops (by first | assumption | exact i_Image_hill (by assumption) | exact i_BH_hill | exact i_Telling_hill | exact i_Year_hill)) rfl hb (by decide) (hA.2.1 b hb) ?_
      refine Rn.goto (tgt := 24) d_Hill_loopOf_19 (by decide) ?_
      exact Rn.iret d_Hill_loopOf_24 rfl rfl ⟨rfl, rfl⟩
theorem m_Hill_chipsOf {M : wM} {h b : Nat} {β : Nat → Int} (hh : isHill h) (hG : M.2.2 = RG) (hA : hillAt M h β) (hb : b < 6) : EvI k_Hill_chipsOf [.ref h, .int (iI b)] SH M (fun r M' => r = iI (β (18 + b)) ∧ M' = M) := by
  refine EvI.of 0 (by decide) (Nat.le_of_ble_eq_true rfl) rfl ?_
  refine Rn.iload_n d_Hill_chipsOf_0 rfl ?_
  refine In.if_lt (tgt := 22) d_Hill_chipsOf_1 (by decide) ⟨by omega, by omega⟩ (fun c1 => ?_) (fun c1 => ?_)
  · omega
  · refine Rn.iload_n d_Hill_chipsOf_4 rfl ?_
    refine Rn.aload_n d_Hill_chipsOf_5 rfl ?_
    refine Rn.getR d_Hill_chipsOf_6 f_Hill_chips g_43 (z_Hill (by first | assumption | exact i_Image_hill (by assumption) | exact i_BH_hill | exact i_Telling_hill | exact i_Year_hill)) (r_Hill_chips (by first | assumption | exact i_Image_hill (by assumption) | exact i_BH_hill | exact i_Telling_hill | exact i_Year_hill) (by assumption)) ?_
    refine In.alen d_Hill_chipsOf_9 (z_Hill_chips (by first | assumption | exact i_Image_hill (by assumption) | exact i_BH_hill | exact i_Telling_hill | exact i_Year_hill)) (by decide) ?_
    refine In.icmp_ge (tgt := 22) d_Hill_chipsOf_10 (by decide) ⟨by omega, by omega⟩ ⟨by omega, by omega⟩ (fun c10 => ?_) (fun c10 => ?_)
    · omega
    · refine Rn.aload_n d_Hill_chipsOf_13 rfl ?_
      refine Rn.getR d_Hill_chipsOf_14 f_Hill_chips g_43 (z_Hill (by first | assumption | exact i_Image_hill (by assumption) | exact i_BH_hill | exact i_Telling_hill | exact i_Year_hill)) (r_Hill_chips (by first | assumption | exact i_Image_hill (by assumption) | exact i_BH_hill | exact i_Telling_hill | exact i_Year_hill) (by assumption)) ?_
      refine Rn.iload_n d_Hill_chipsOf_17 rfl ?_
      refine In.ald d_Hill_chipsOf_18 (z_Hill_chips (by first | assumption | exact i_Image_hill (by assumption) | exact i_BH_hill | exact i_Telling_hill | exact i_Year_hill)) rfl hb (by decide) (hA.2.2.1 b hb) ?_
      refine Rn.goto (tgt := 23) d_Hill_chipsOf_19 (by decide) ?_
      exact Rn.iret d_Hill_chipsOf_23 rfl rfl ⟨rfl, rfl⟩
theorem m_Hill_isBroken {M : wM} {h b : Nat} {β : Nat → Int} (hh : isHill h) (hG : M.2.2 = RG) (hA : hillAt M h β) (hV : hok β) (hb : b < 6) : EvI k_Hill_isBroken [.ref h, .int (iI b)] SH M (fun r M' => r = iI (if (bk β).testBit b then 1 else 0) ∧ M' = M) := by
  refine EvI.of 0 (by decide) (Nat.le_of_ble_eq_true rfl) rfl ?_
  refine Rn.aload_n d_Hill_isBroken_0 rfl ?_
  refine In.getI d_Hill_isBroken_1 f_Hill_broken g_44 (z_Hill (by first | assumption | exact i_Image_hill (by assumption) | exact i_BH_hill | exact i_Telling_hill | exact i_Year_hill)) (hA.2.2.2.1.trans (congrArg iI (hok_bk hV).1)) ?_
  refine Rn.iload_n d_Hill_isBroken_4 rfl ?_
  refine Rn.cSNI d_Hill_isBroken_5 s_Hill_isBroken_BH_holds (j := 10) (host := "BaubleHill") rfl g_253 ⟨rfl, rfl⟩ ⟨Nat.zero_le _, Nat.zero_le _⟩ (m_BH_holds (show bk β < 2147483648 by have := (hok_bk hV).2; omega) (show b < 31 by omega)) rfl rfl (Nat.le_of_ble_eq_true rfl) (fun rr MM qq => ?_)
  obtain ⟨rfl, rfl⟩ := And.imp id Eq.symm qq; clear qq
  refine Rn.iret d_Hill_isBroken_8 rfl ?_ ⟨rfl, rfl⟩
  split <;> decide +kernel
theorem m_Hill_brokenBalls {M : wM} {h : Nat} {β : Nat → Int} (hh : isHill h) (hG : M.2.2 = RG) (hA : hillAt M h β) : EvI k_Hill_brokenBalls [.ref h] SH M (fun r M' => r = iI (β 24) ∧ M' = M) := by
  refine EvI.of 0 (by decide) (Nat.le_of_ble_eq_true rfl) rfl ?_
  refine Rn.aload_n d_Hill_brokenBalls_0 rfl ?_
  refine In.getI d_Hill_brokenBalls_1 f_Hill_broken g_44 (z_Hill (by first | assumption | exact i_Image_hill (by assumption) | exact i_BH_hill | exact i_Telling_hill | exact i_Year_hill)) hA.2.2.2.1 ?_
  exact Rn.iret d_Hill_brokenBalls_4 rfl rfl ⟨rfl, rfl⟩
theorem m_Hill_winter {M : wM} {h : Nat} {β : Nat → Int} (hh : isHill h) (hG : M.2.2 = RG) (hA : hillAt M h β) : EvI k_Hill_winter [.ref h] SH M (fun r M' => r = iI (β 25) ∧ M' = M) := by
  refine EvI.of 0 (by decide) (Nat.le_of_ble_eq_true rfl) rfl ?_
  refine Rn.aload_n d_Hill_winter_0 rfl ?_
  refine In.getI d_Hill_winter_1 f_Hill_winter g_45 (z_Hill (by first | assumption | exact i_Image_hill (by assumption) | exact i_BH_hill | exact i_Telling_hill | exact i_Year_hill)) hA.2.2.2.2 ?_
  exact Rn.iret d_Hill_winter_4 rfl rfl ⟨rfl, rfl⟩
theorem m_Hill_hungLoops {M : wM} {h : Nat} {β : Nat → Int} (hh : isHill h) (hG : M.2.2 = RG) (hA : hillAt M h β) (hl : ∀ b, b < 6 → β (12 + b) = -6 ∨ (0 ≤ β (12 + b) ∧ β (12 + b) < 12)) : EvI k_Hill_hungLoops [.ref h] SH M (fun r M' => r = iI (hungS β 6) ∧ M' = M) := by
  refine EvI.of 2 (by decide) (Nat.le_of_ble_eq_true rfl) rfl ?_
  refine Rn.iconst (v := iI 0) d_Hill_hungLoops_0 rfl ?_
  refine Rn.istore_n (lv1 := [_, _, _]) d_Hill_hungLoops_1 (by decide) (w_pv rfl) rfl ?_
  refine Rn.iconst (v := iI 0) d_Hill_hungLoops_2 rfl ?_
  refine Rn.istore_n (lv1 := [_, _, _]) d_Hill_hungLoops_3 (by decide) (w_pv rfl) rfl ?_
  have loop : ∀ (n i : Nat), i + n = 6 → Rn k_Hill_hungLoops none (0, 0) 4 [some (.ref h), some (.int (iI (hungS β i))), some (.int (iI i))] [] SH M (w_FI (0, 0) SH (fun r M' => r = iI (hungS β 6) ∧ M' = M)) := by
    intro n
    induction n with
    | zero =>
      intro i h1
      refine Rn.iload_n d_Hill_hungLoops_4 rfl ?_
      refine Rn.aload_n d_Hill_hungLoops_5 rfl ?_
      refine Rn.getR d_Hill_hungLoops_6 f_Hill_loops g_42 (z_Hill (by first | assumption | exact i_Image_hill (by assumption) | exact i_BH_hill | exact i_Telling_hill | exact i_Year_hill)) (r_Hill_loops (by first | assumption | exact i_Image_hill (by assumption) | exact i_BH_hill | exact i_Telling_hill | exact i_Year_hill) (by assumption)) ?_
      refine In.alen d_Hill_hungLoops_9 (z_Hill_loops (by first | assumption | exact i_Image_hill (by assumption) | exact i_BH_hill | exact i_Telling_hill | exact i_Year_hill)) (by decide) ?_
      refine In.icmp_ge (tgt := 41) d_Hill_hungLoops_10 (by decide) ⟨by omega, by omega⟩ ⟨by omega, by omega⟩ (fun c10 => ?_) (fun c10 => ?_)
      · refine Rn.iload_n d_Hill_hungLoops_41 rfl ?_
        have : i = 6 := by omega
        subst this
        exact Rn.iret d_Hill_hungLoops_42 rfl rfl ⟨rfl, rfl⟩
      · omega
    | succ n ih =>
      intro i h1
      have hr := hl i (by omega)
      have ih := ih (i + 1) (by omega)
      simp only [hungS] at ih
      refine Rn.iload_n d_Hill_hungLoops_4 rfl ?_
      refine Rn.aload_n d_Hill_hungLoops_5 rfl ?_
      refine Rn.getR d_Hill_hungLoops_6 f_Hill_loops g_42 (z_Hill (by first | assumption | exact i_Image_hill (by assumption) | exact i_BH_hill | exact i_Telling_hill | exact i_Year_hill)) (r_Hill_loops (by first | assumption | exact i_Image_hill (by assumption) | exact i_BH_hill | exact i_Telling_hill | exact i_Year_hill) (by assumption)) ?_
      refine In.alen d_Hill_hungLoops_9 (z_Hill_loops (by first | assumption | exact i_Image_hill (by assumption) | exact i_BH_hill | exact i_Telling_hill | exact i_Year_hill)) (by decide) ?_
      refine In.icmp_ge (tgt := 41) d_Hill_hungLoops_10 (by decide) ⟨by omega, by omega⟩ ⟨by omega, by omega⟩ (fun c10 => ?_) (fun c10 => ?_)
      · omega
      · refine Rn.aload_n d_Hill_hungLoops_13 rfl ?_
        refine Rn.getR d_Hill_hungLoops_14 f_Hill_loops g_42 (z_Hill (by first | assumption | exact i_Image_hill (by assumption) | exact i_BH_hill | exact i_Telling_hill | exact i_Year_hill)) (r_Hill_loops (by first | assumption | exact i_Image_hill (by assumption) | exact i_BH_hill | exact i_Telling_hill | exact i_Year_hill) (by assumption)) ?_
        refine Rn.iload_n d_Hill_hungLoops_17 rfl ?_
        refine In.ald d_Hill_hungLoops_18 (z_Hill_loops (by first | assumption | exact i_Image_hill (by assumption) | exact i_BH_hill | exact i_Telling_hill | exact i_Year_hill)) rfl (by omega) (by decide) (hA.2.1 i (by omega)) ?_
        refine Rn.bipush (v := iI (-6)) d_Hill_hungLoops_19 (by decide +kernel) ?_
        refine In.icmp_eq (tgt := 35) d_Hill_hungLoops_21 (by decide) ⟨by omega, by omega⟩ ⟨by omega, by omega⟩ (fun c21 => ?_) (fun c21 => ?_)
        · refine In.inc (lv1 := [_, _, _]) d_Hill_hungLoops_35 rfl (by decide) (w_pv rfl) rfl ?_
          refine Rn.goto (tgt := 4) d_Hill_hungLoops_38 (by decide) ?_
          rw [if_pos c21] at ih
          exact ih
        · rw [if_neg c21] at ih
          refine Rn.iload_n d_Hill_hungLoops_24 rfl ?_
          refine Rn.iconst (v := iI 1) d_Hill_hungLoops_25 rfl ?_
          refine Rn.aload_n d_Hill_hungLoops_26 rfl ?_
          refine Rn.getR d_Hill_hungLoops_27 f_Hill_loops g_42 (z_Hill (by first | assumption | exact i_Image_hill (by assumption) | exact i_BH_hill | exact i_Telling_hill | exact i_Year_hill)) (r_Hill_loops (by first | assumption | exact i_Image_hill (by assumption) | exact i_BH_hill | exact i_Telling_hill | exact i_Year_hill) (by assumption)) ?_
          refine Rn.iload_n d_Hill_hungLoops_30 rfl ?_
          refine In.ald d_Hill_hungLoops_31 (z_Hill_loops (by first | assumption | exact i_Image_hill (by assumption) | exact i_BH_hill | exact i_Telling_hill | exact i_Year_hill)) rfl (by omega) (by decide) (hA.2.1 i (by omega)) ?_
          refine In.shl ((Int.toNat_of_nonneg (show 0 ≤ β (12 + i) by omega)).symm) (by omega) d_Hill_hungLoops_32 ?_
          refine In.or rfl rfl d_Hill_hungLoops_33 ?_
          refine Rn.istore_n (lv1 := [_, _, _]) d_Hill_hungLoops_34 (by decide) (w_pv rfl) rfl ?_
          refine In.inc (lv1 := [_, _, _]) d_Hill_hungLoops_35 rfl (by decide) (w_pv rfl) rfl ?_
          refine Rn.goto (tgt := 4) d_Hill_hungLoops_38 (by decide) ?_
          exact ih
  exact loop 6 0 rfl
theorem m_Hill_allChips {M : wM} {h : Nat} {β : Nat → Int} (hh : isHill h) (hG : M.2.2 = RG) (hA : hillAt M h β) : EvI k_Hill_allChips [.ref h] SH M (fun r M' => r = iI (chipS β 6) ∧ M' = M) := by
  refine EvI.of 2 (by decide) (Nat.le_of_ble_eq_true rfl) rfl ?_
  refine Rn.iconst (v := iI 0) d_Hill_allChips_0 rfl ?_
  refine Rn.istore_n (lv1 := [_, _, _]) d_Hill_allChips_1 (by decide) (w_pv rfl) rfl ?_
  refine Rn.iconst (v := iI 0) d_Hill_allChips_2 rfl ?_
  refine Rn.istore_n (lv1 := [_, _, _]) d_Hill_allChips_3 (by decide) (w_pv rfl) rfl ?_
  have loop : ∀ (n i : Nat), i + n = 6 → Rn k_Hill_allChips none (0, 0) 4 [some (.ref h), some (.int (iI (chipS β i))), some (.int (iI i))] [] SH M (w_FI (0, 0) SH (fun r M' => r = iI (chipS β 6) ∧ M' = M)) := by
    intro n
    induction n with
    | zero =>
      intro i h1
      refine Rn.iload_n d_Hill_allChips_4 rfl ?_
      refine Rn.aload_n d_Hill_allChips_5 rfl ?_
      refine Rn.getR d_Hill_allChips_6 f_Hill_chips g_43 (z_Hill (by first | assumption | exact i_Image_hill (by assumption) | exact i_BH_hill | exact i_Telling_hill | exact i_Year_hill)) (r_Hill_chips (by first | assumption | exact i_Image_hill (by assumption) | exact i_BH_hill | exact i_Telling_hill | exact i_Year_hill) (by assumption)) ?_
      refine In.alen d_Hill_allChips_9 (z_Hill_chips (by first | assumption | exact i_Image_hill (by assumption) | exact i_BH_hill | exact i_Telling_hill | exact i_Year_hill)) (by decide) ?_
      refine In.icmp_ge (tgt := 28) d_Hill_allChips_10 (by decide) ⟨by omega, by omega⟩ ⟨by omega, by omega⟩ (fun c10 => ?_) (fun c10 => ?_)
      · refine Rn.iload_n d_Hill_allChips_28 rfl ?_
        have : i = 6 := by omega
        subst this
        exact Rn.iret d_Hill_allChips_29 rfl rfl ⟨rfl, rfl⟩
      · omega
    | succ n ih =>
      intro i h1
      have ih := ih (i + 1) (by omega)
      simp only [chipS] at ih
      refine Rn.iload_n d_Hill_allChips_4 rfl ?_
      refine Rn.aload_n d_Hill_allChips_5 rfl ?_
      refine Rn.getR d_Hill_allChips_6 f_Hill_chips g_43 (z_Hill (by first | assumption | exact i_Image_hill (by assumption) | exact i_BH_hill | exact i_Telling_hill | exact i_Year_hill)) (r_Hill_chips (by first | assumption | exact i_Image_hill (by assumption) | exact i_BH_hill | exact i_Telling_hill | exact i_Year_hill) (by assumption)) ?_
      refine In.alen d_Hill_allChips_9 (z_Hill_chips (by first | assumption | exact i_Image_hill (by assumption) | exact i_BH_hill | exact i_Telling_hill | exact i_Year_hill)) (by decide) ?_
      refine In.icmp_ge (tgt := 28) d_Hill_allChips_10 (by decide) ⟨by omega, by omega⟩ ⟨by omega, by omega⟩ (fun c10 => ?_) (fun c10 => ?_)
      · omega
      · refine Rn.iload_n d_Hill_allChips_13 rfl ?_
        refine Rn.aload_n d_Hill_allChips_14 rfl ?_
        refine Rn.getR d_Hill_allChips_15 f_Hill_chips g_43 (z_Hill (by first | assumption | exact i_Image_hill (by assumption) | exact i_BH_hill | exact i_Telling_hill | exact i_Year_hill)) (r_Hill_chips (by first | assumption | exact i_Image_hill (by assumption) | exact i_BH_hill | exact i_Telling_hill | exact i_Year_hill) (by assumption)) ?_
        refine Rn.iload_n d_Hill_allChips_18 rfl ?_
        refine In.ald d_Hill_allChips_19 (z_Hill_chips (by first | assumption | exact i_Image_hill (by assumption) | exact i_BH_hill | exact i_Telling_hill | exact i_Year_hill)) rfl (by omega) (by decide) (hA.2.2.1 i (by omega)) ?_
        refine In.add d_Hill_allChips_20 ?_
        refine Rn.istore_n (lv1 := [_, _, _]) d_Hill_allChips_21 (by decide) (w_pv rfl) rfl ?_
        refine In.inc (lv1 := [_, _, _]) d_Hill_allChips_22 rfl (by decide) (w_pv rfl) rfl ?_
        refine Rn.goto (tgt := 4) d_Hill_allChips_25 (by decide) ?_
        exact ih
  exact loop 6 0 rfl
theorem m_Hill_anotherHangs {M : wM} {h b l : Nat} {β : Nat → Int} (hh : isHill h) (hG : M.2.2 = RG) (hA : hillAt M h β) (hl : ∀ b, b < 6 → β (12 + b) = -6 ∨ (0 ≤ β (12 + b) ∧ β (12 + b) < 12)) (hb : b < 6) (hl2 : l < 12) : EvI k_Hill_anotherHangs [.ref h, .int (iI b), .int (iI l)] SH M (fun r M' => r = iI (if β (12 + b) ≠ l ∧ (hungS β 6).testBit l = true then 1 else 0) ∧ M' = M) := by
  refine EvI.of 0 (by decide) (Nat.le_of_ble_eq_true rfl) rfl ?_
  have hr := hl b hb
  refine Rn.aload_n d_Hill_anotherHangs_0 rfl ?_
  refine Rn.iload_n d_Hill_anotherHangs_1 rfl ?_
  refine Rn.cVI d_Hill_anotherHangs_2 s_Hill_anotherHangs_Hill_loopOf g_244 g_245 g_246 ⟨rfl, rfl⟩ ⟨Nat.zero_le _, Nat.zero_le _⟩ (m_Hill_loopOf hh hG hA hb) rfl rfl (z_Hill (by first | assumption | exact i_Image_hill (by assumption) | exact i_BH_hill | exact i_Telling_hill | exact i_Year_hill)) c_Hill (Nat.le_of_ble_eq_true rfl) (fun rr MM qq => ?_)
  obtain ⟨rfl, rfl⟩ := And.imp id Eq.symm qq; clear qq
  refine Rn.iload_n d_Hill_anotherHangs_5 rfl ?_
  refine In.icmp_eq (tgt := 24) d_Hill_anotherHangs_6 (by decide) ⟨by omega, by omega⟩ ⟨by omega, by omega⟩ (fun c6 => ?_) (fun c6 => ?_)
  · refine Rn.iconst (v := iI 0) d_Hill_anotherHangs_24 rfl ?_
    exact Rn.iret d_Hill_anotherHangs_25 rfl (by decide +kernel) ⟨by rw [if_neg (fun q => q.1 c6)], rfl⟩
  · refine Rn.aload_n d_Hill_anotherHangs_9 rfl ?_
    refine Rn.cVI d_Hill_anotherHangs_10 s_Hill_anotherHangs_Hill_hungLoops g_248 g_249 g_250 ⟨rfl, rfl⟩ ⟨Nat.zero_le _, Nat.zero_le _⟩ (m_Hill_hungLoops hh hG hA hl) rfl rfl (z_Hill (by first | assumption | exact i_Image_hill (by assumption) | exact i_BH_hill | exact i_Telling_hill | exact i_Year_hill)) c_Hill (Nat.le_of_ble_eq_true rfl) (fun rr MM qq => ?_)
    obtain ⟨rfl, rfl⟩ := And.imp id Eq.symm qq; clear qq
    refine Rn.iload_n d_Hill_anotherHangs_13 rfl ?_
    refine Rn.cSNI d_Hill_anotherHangs_14 s_Hill_anotherHangs_BH_holds (j := 10) (host := "BaubleHill") rfl g_253 ⟨rfl, rfl⟩ ⟨Nat.zero_le _, Nat.zero_le _⟩ (m_BH_holds (show hungS β 6 < 2147483648 by have := hungS_lt hl 6 (Nat.le_refl _); omega) (show l < 31 by omega)) rfl rfl (Nat.le_of_ble_eq_true rfl) (fun rr MM qq => ?_)
    obtain ⟨rfl, rfl⟩ := And.imp id Eq.symm qq; clear qq
    refine In.if_eq (tgt := 24) d_Hill_anotherHangs_17 (by decide) fl_rg (fun c17 => ?_) (fun c17 => ?_)
    · refine Rn.iconst (v := iI 0) d_Hill_anotherHangs_24 rfl ?_
      exact Rn.iret d_Hill_anotherHangs_25 rfl (by decide +kernel) ⟨by rw [if_neg (fun q => fl_eq c17 q.2)], rfl⟩
    · refine Rn.iconst (v := iI 1) d_Hill_anotherHangs_20 rfl ?_
      refine Rn.goto (tgt := 25) d_Hill_anotherHangs_21 (by decide) ?_
      exact Rn.iret d_Hill_anotherHangs_25 rfl (by decide +kernel) ⟨by rw [if_pos ⟨c6, fl_ne c17⟩], rfl⟩
