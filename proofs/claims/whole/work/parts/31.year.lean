/-! Year, Image. -/
set_option maxRecDepth 20000
set_option maxHeartbeats 400000
theorem m_Year_draw {M : wM} {x : Nat} (hG : M.2.2 = RG) (hx : x < 65537) : EvV k_Year_draw [.ref 22, .int (iI x)] SH M (fun M' => actAt M' 28 (yrK x) (yrO x) (yrP x) ∧ Off M M' 28 29) := by
  refine EvV.of 2 (by decide) (Nat.le_of_ble_eq_true rfl) rfl ?_
  have e6 : (x : Int) % 6 = ((x % 6 : Nat) : Int) := by omega
  have e48 : (x : Int) / 48 = ((x / 48 : Nat) : Int) := by omega
  have e68 : (x : Int) / 6 % 8 = ((x / 6 % 8 : Nat) : Int) := by omega
  have e12 : ((x / 48 : Nat) : Int) % 12 = ((x / 48 % 12 : Nat) : Int) := by omega
  have e9 : (1 : Int) + ((x / 48 : Nat) : Int) % 9 = ((1 + x / 48 % 9 : Nat) : Int) := by omega
  have e144 : ((x / 48 : Nat) : Int) / 12 % 12 = ((x / 48 / 12 % 12 : Nat) : Int) := by omega
  unfold yrK yrO yrP
  refine Rn.iload_n d_Year_draw_0 rfl ?_
  refine Rn.bipush (v := iI 6) d_Year_draw_1 (by decide +kernel) ?_
  refine In.rem d_Year_draw_3 ⟨by omega, by omega⟩ ⟨by decide, by decide⟩ ?_
  refine Rn.istore_n (lv1 := [_, _, _, _]) d_Year_draw_4 (by decide) (w_pv rfl) rfl ?_
  rw [e6]
  refine Rn.iload_n d_Year_draw_5 rfl ?_
  refine Rn.bipush (v := iI 48) d_Year_draw_6 (by decide +kernel) ?_
  refine In.div d_Year_draw_8 ⟨by omega, by omega⟩ ⟨by decide, by decide⟩ ?_
  refine Rn.istore_n (lv1 := [_, _, _, _]) d_Year_draw_9 (by decide) (w_pv rfl) rfl ?_
  rw [e48]
  refine Rn.iload_n d_Year_draw_10 rfl ?_
  refine Rn.bipush (v := iI 6) d_Year_draw_11 (by decide +kernel) ?_
  refine In.div d_Year_draw_13 ⟨by omega, by omega⟩ ⟨by decide, by decide⟩ ?_
  refine Rn.bipush (v := iI 8) d_Year_draw_14 (by decide +kernel) ?_
  refine In.rem d_Year_draw_16 ⟨by omega, by omega⟩ ⟨by decide, by decide⟩ ?_
  rw [e68]
  generalize hq : x / 6 % 8 = q
  have hq8 : q < 8 := by omega
  rcases (show q = 4 ∨ q = 5 ∨ q = 6 ∨ q = 7 ∨ q < 4 by omega) with rfl | rfl | rfl | rfl | h4
  · refine In.tabIn (off := 31) (tgt := 48) 4 d_Year_draw_17 rfl (by decide) (by decide) rfl (by decide) ?_
    refine Rn.aload_n d_Year_draw_48 rfl ?_
    refine Rn.getR d_Year_draw_49 f_Year_act g_160 z_Year (r_Year_act (by assumption)) ?_
    refine Rn.iconst (v := iI 1) d_Year_draw_52 rfl ?_
    refine Rn.iload_n d_Year_draw_53 rfl ?_
    refine Rn.iconst (v := iI 0) d_Year_draw_54 rfl ?_
    refine Rn.cVV d_Year_draw_55 s_Year_draw_Act_set g_607 g_333 g_334 ⟨rfl, rfl⟩ ⟨Nat.zero_le _, Nat.zero_le _⟩ (m_Act_set i_Year_act) rfl rfl (z_Act (by first | assumption | exact i_Telling_act | exact i_Year_act)) c_Act (Nat.le_of_ble_eq_true rfl) (fun MM hr => ?_)
    refine Rn.goto (tgt := 138) d_Year_draw_58 (by decide) ?_
    exact Rn.vret d_Year_draw_138 rfl hr
  · refine In.tabIn (off := 44) (tgt := 61) 5 d_Year_draw_17 rfl (by decide) (by decide) rfl (by decide) ?_
    refine Rn.aload_n d_Year_draw_61 rfl ?_
    refine Rn.getR d_Year_draw_62 f_Year_act g_160 z_Year (r_Year_act (by assumption)) ?_
    refine Rn.iconst (v := iI 2) d_Year_draw_65 rfl ?_
    refine Rn.iconst (v := iI 1) d_Year_draw_66 rfl ?_
    refine Rn.iload_n d_Year_draw_67 rfl ?_
    refine Rn.bipush (v := iI 9) d_Year_draw_68 (by decide +kernel) ?_
    refine In.rem d_Year_draw_70 ⟨by omega, by omega⟩ ⟨by decide, by decide⟩ ?_
    refine In.add d_Year_draw_71 ?_
    rw [e9]
    refine Rn.iconst (v := iI 0) d_Year_draw_72 rfl ?_
    refine Rn.cVV d_Year_draw_73 s_Year_draw_Act_set g_607 g_333 g_334 ⟨rfl, rfl⟩ ⟨Nat.zero_le _, Nat.zero_le _⟩ (m_Act_set i_Year_act) rfl rfl (z_Act (by first | assumption | exact i_Telling_act | exact i_Year_act)) c_Act (Nat.le_of_ble_eq_true rfl) (fun MM hr => ?_)
    refine Rn.goto (tgt := 138) d_Year_draw_76 (by decide) ?_
    exact Rn.vret d_Year_draw_138 rfl hr
  · refine In.tabIn (off := 62) (tgt := 79) 6 d_Year_draw_17 rfl (by decide) (by decide) rfl (by decide) ?_
    refine Rn.aload_n d_Year_draw_79 rfl ?_
    refine Rn.getR d_Year_draw_80 f_Year_act g_160 z_Year (r_Year_act (by assumption)) ?_
    refine Rn.iconst (v := iI 3) d_Year_draw_83 rfl ?_
    refine Rn.iload_n d_Year_draw_84 rfl ?_
    refine Rn.bipush (v := iI 12) d_Year_draw_85 (by decide +kernel) ?_
    refine In.rem d_Year_draw_87 ⟨by omega, by omega⟩ ⟨by decide, by decide⟩ ?_
    rw [e12]
    refine Rn.iload_n d_Year_draw_88 rfl ?_
    refine Rn.bipush (v := iI 12) d_Year_draw_89 (by decide +kernel) ?_
    refine In.div d_Year_draw_91 ⟨by omega, by omega⟩ ⟨by decide, by decide⟩ ?_
    refine Rn.bipush (v := iI 12) d_Year_draw_92 (by decide +kernel) ?_
    refine In.rem d_Year_draw_94 ⟨by omega, by omega⟩ ⟨by decide, by decide⟩ ?_
    rw [e144]
    refine Rn.cVV d_Year_draw_95 s_Year_draw_Act_set g_607 g_333 g_334 ⟨rfl, rfl⟩ ⟨Nat.zero_le _, Nat.zero_le _⟩ (m_Act_set i_Year_act) rfl rfl (z_Act (by first | assumption | exact i_Telling_act | exact i_Year_act)) c_Act (Nat.le_of_ble_eq_true rfl) (fun MM hr => ?_)
    refine Rn.goto (tgt := 138) d_Year_draw_98 (by decide) ?_
    exact Rn.vret d_Year_draw_138 rfl hr
  · refine In.tabIn (off := 84) (tgt := 101) 7 d_Year_draw_17 rfl (by decide) (by decide) rfl (by decide) ?_
    refine Rn.aload_n d_Year_draw_101 rfl ?_
    refine Rn.getR d_Year_draw_102 f_Year_act g_160 z_Year (r_Year_act (by assumption)) ?_
    refine Rn.iload_n d_Year_draw_105 rfl ?_
    refine Rn.bipush (v := iI 8) d_Year_draw_106 (by decide +kernel) ?_
    refine In.rem d_Year_draw_108 ⟨by omega, by omega⟩ ⟨by decide, by decide⟩ ?_
    refine In.if_ne (tgt := 116) d_Year_draw_109 (by decide) ⟨by omega, by omega⟩ (fun c109 => ?_) (fun c109 => ?_)
    · refine Rn.iconst (v := iI 5) d_Year_draw_116 rfl ?_
      refine Rn.iconst (v := iI 0) d_Year_draw_117 rfl ?_
      refine Rn.iconst (v := iI 0) d_Year_draw_118 rfl ?_
      refine Rn.cVV d_Year_draw_119 s_Year_draw_Act_set g_607 g_333 g_334 ⟨rfl, rfl⟩ ⟨Nat.zero_le _, Nat.zero_le _⟩ (m_Act_set i_Year_act) rfl rfl (z_Act (by first | assumption | exact i_Telling_act | exact i_Year_act)) c_Act (Nat.le_of_ble_eq_true rfl) (fun MM hr => ?_)
      refine Rn.goto (tgt := 138) d_Year_draw_122 (by decide) ?_
      have e : ¬ x / 48 % 8 = 0 := by omega
      rw [if_neg e]
      exact Rn.vret d_Year_draw_138 rfl hr
    · refine Rn.iconst (v := iI 4) d_Year_draw_112 rfl ?_
      refine Rn.goto (tgt := 117) d_Year_draw_113 (by decide) ?_
      refine Rn.iconst (v := iI 0) d_Year_draw_117 rfl ?_
      refine Rn.iconst (v := iI 0) d_Year_draw_118 rfl ?_
      refine Rn.cVV d_Year_draw_119 s_Year_draw_Act_set g_607 g_333 g_334 ⟨rfl, rfl⟩ ⟨Nat.zero_le _, Nat.zero_le _⟩ (m_Act_set i_Year_act) rfl rfl (z_Act (by first | assumption | exact i_Telling_act | exact i_Year_act)) c_Act (Nat.le_of_ble_eq_true rfl) (fun MM hr => ?_)
      refine Rn.goto (tgt := 138) d_Year_draw_122 (by decide) ?_
      have e : x / 48 % 8 = 0 := by omega
      rw [if_pos e]
      exact Rn.vret d_Year_draw_138 rfl hr
  · refine In.tabOut (tgt := 125) d_Year_draw_17 ⟨by omega, by omega⟩ (by omega) (by decide) ?_
    refine Rn.aload_n d_Year_draw_125 rfl ?_
    refine Rn.getR d_Year_draw_126 f_Year_act g_160 z_Year (r_Year_act (by assumption)) ?_
    refine Rn.iconst (v := iI 0) d_Year_draw_129 rfl ?_
    refine Rn.iload_n d_Year_draw_130 rfl ?_
    refine Rn.iload_n d_Year_draw_131 rfl ?_
    refine Rn.bipush (v := iI 12) d_Year_draw_132 (by decide +kernel) ?_
    refine In.rem d_Year_draw_134 ⟨by omega, by omega⟩ ⟨by decide, by decide⟩ ?_
    rw [e12]
    refine Rn.cVV d_Year_draw_135 s_Year_draw_Act_set g_607 g_333 g_334 ⟨rfl, rfl⟩ ⟨Nat.zero_le _, Nat.zero_le _⟩ (m_Act_set i_Year_act) rfl rfl (z_Act (by first | assumption | exact i_Telling_act | exact i_Year_act)) c_Act (Nat.le_of_ble_eq_true rfl) (fun MM hr => ?_)
    rw [if_neg (by omega), if_neg (by omega), if_neg (by omega), if_neg (by omega), if_neg (by omega), if_neg (by omega), if_neg (by omega), if_neg (by omega), if_neg (by omega), if_neg (by omega), if_neg (by omega), if_neg (by omega)]
    exact Rn.vret d_Year_draw_138 rfl hr
theorem m_Year_pass {M : wM} {h x m : Nat} {β : Nat → Int} (hh : isHill h) (hne : h + 5 ≤ 22 ∨ 29 ≤ h) (hG : M.2.2 = RG) (hA : hillAt M h β) (hV : hok β) (hx : x < 65537) (hm : m < 1000) : EvR k_Year_pass [.ref 22, .ref h, .int (iI x), .int (iI m)] SH M (fun r M' => r = 23 ∧ hillAt M' 23 (yrF m β x) ∧ Off M M' 22 29) := by
  refine EvR.of 2 (by decide) (Nat.le_of_ble_eq_true rfl) rfl ?_
  refine Rn.aload_n d_Year_pass_0 rfl ?_
  refine Rn.getR d_Year_pass_1 f_Year_hill g_159 z_Year (r_Year_hill (by assumption)) ?_
  refine Rn.aload_n d_Year_pass_4 rfl ?_
  refine Rn.cVV d_Year_pass_5 s_Year_pass_Hill_copyFrom g_601 g_311 g_312 ⟨rfl, rfl⟩ ⟨Nat.zero_le _, Nat.zero_le _⟩ (m_Hill_copyFrom i_Year_hill hh (by omega) hG hA) rfl rfl (z_Hill (by first | assumption | exact i_Image_hill (by assumption) | exact i_BH_hill | exact i_Telling_hill | exact i_Year_hill)) c_Hill (Nat.le_of_ble_eq_true rfl) (fun M1 qq => ?_)
  obtain ⟨hH, hO⟩ := qq
  have hO1 : Off M M1 22 29 := hO.wide (by omega) (by omega)
  refine Rn.iload_n d_Year_pass_8 rfl ?_
  refine Rn.istore (lv1 := [_, _, _, _, _, _]) d_Year_pass_9 (by decide) (w_pv rfl) rfl ?_
  refine Rn.iconst (v := iI 0) d_Year_pass_11 rfl ?_
  refine Rn.istore (lv1 := [_, _, _, _, _, _]) d_Year_pass_12 (by decide) (w_pv rfl) rfl ?_
  obtain ⟨V, hVe⟩ : ∃ V, V = yrF m β x := ⟨_, rfl⟩
  rw [← hVe]
  have loop : ∀ (d i x1 : Nat) (β1 : Nat → Int) (Mc : wM), i + d = m → x1 < 65537 → hok β1 → hillAt Mc 23 β1 → Off M Mc 22 29 → yrF d β1 x1 = V → Rn k_Year_pass none (0, 0) 14 [some (.ref 22), some (.ref h), some (.int (iI x)), some (.int (iI m)), some (.int (iI x1)), some (.int (iI i))] [] SH Mc (w_FR (0, 0) SH (fun r M' => r = 23 ∧ hillAt M' 23 V ∧ Off M M' 22 29)) := by
    intro d
    induction d with
    | zero =>
      intro i x1 β1 Mc h1 h2 h3 h4 h5 h6
      have hGc := h5.G hG
      simp only [yrF] at h6
      refine Rn.iload d_Year_pass_14 rfl ?_
      refine Rn.iload_n d_Year_pass_16 rfl ?_
      refine In.icmp_ge (tgt := 70) d_Year_pass_17 (by decide) ⟨by omega, by omega⟩ ⟨by omega, by omega⟩ (fun c17 => ?_) (fun c17 => ?_)
      · refine Rn.aload_n d_Year_pass_70 rfl ?_
        refine Rn.getR d_Year_pass_71 f_Year_hill g_159 z_Year (r_Year_hill (by assumption)) ?_
        exact Rn.aret d_Year_pass_74 rfl ⟨rfl, by rw [← h6]; exact h4, h5⟩
      · omega
    | succ d ih =>
      intro i x1 β1 Mc h1 h2 h3 h4 h5 h6
      have hGc := h5.G hG
      simp only [yrF] at h6
      have hxl : yrX x1 < 65537 := Nat.mod_lt _ (by decide)
      have ex : (75 * (x1 : Int) + 74) % 65537 = (yrX x1 : Nat) := by unfold yrX; omega
      refine Rn.iload d_Year_pass_14 rfl ?_
      refine Rn.iload_n d_Year_pass_16 rfl ?_
      refine In.icmp_ge (tgt := 70) d_Year_pass_17 (by decide) ⟨by omega, by omega⟩ ⟨by omega, by omega⟩ (fun c17 => ?_) (fun c17 => ?_)
      · omega
      · refine Rn.bipush (v := iI 75) d_Year_pass_20 (by decide +kernel) ?_
        refine Rn.iload d_Year_pass_22 rfl ?_
        refine In.mul d_Year_pass_24 ?_
        refine Rn.bipush (v := iI 74) d_Year_pass_25 (by decide +kernel) ?_
        refine In.add d_Year_pass_27 ?_
        refine In.ldc (z := (65537)) d_Year_pass_28 g_602 (by decide +kernel) ?_
        refine In.rem d_Year_pass_30 ⟨by omega, by omega⟩ ⟨by decide, by decide⟩ ?_
        rw [ex]
        refine Rn.istore (lv1 := [_, _, _, _, _, _]) d_Year_pass_31 (by decide) (w_pv rfl) rfl ?_
        refine Rn.aload_n d_Year_pass_33 rfl ?_
        refine Rn.iload d_Year_pass_34 rfl ?_
        refine Rn.cVV d_Year_pass_36 s_Year_pass_Year_draw g_603 g_605 gs_8 ⟨rfl, rfl⟩ ⟨Nat.zero_le _, Nat.zero_le _⟩ (m_Year_draw hGc hxl) rfl rfl z_Year c_Year (Nat.le_of_ble_eq_true rfl) (fun M2 qq => ?_)
        obtain ⟨hac, hO2⟩ := qq
        have hG2 := hO2.G hGc
        have hH2 := h4.off hO2 (by omega)
        have hk := yr_ok (yrX x1)
        refine Rn.aload_n d_Year_pass_39 rfl ?_
        refine Rn.getR d_Year_pass_40 f_Year_hill g_159 z_Year (r_Year_hill (by assumption)) ?_
        refine Rn.aload_n d_Year_pass_43 rfl ?_
        refine Rn.getR d_Year_pass_44 f_Year_act g_160 z_Year (r_Year_act (by assumption)) ?_
        refine Rn.cVI d_Year_pass_47 s_Year_pass_Hill_whyNot g_608 g_337 g_338 ⟨rfl, rfl⟩ ⟨Nat.zero_le _, Nat.zero_le _⟩ (m_Hill_whyNot i_Year_hill i_Year_act hG2 hH2 h3 hk hac) rfl rfl (z_Hill (by first | assumption | exact i_Image_hill (by assumption) | exact i_BH_hill | exact i_Telling_hill | exact i_Year_hill)) c_Hill (Nat.le_of_ble_eq_true rfl) (fun rr MM qq => ?_)
        obtain ⟨rfl, rfl⟩ := And.imp id Eq.symm qq; clear qq
        have hwr := whyF_rg β1 (yrK (yrX x1)) (yrO (yrX x1)) (yrP (yrX x1))
        have hO3 : Off M M2 22 29 := h5.tr (hO2.wide (by omega) (by omega))
        refine In.if_ne (tgt := 64) d_Year_pass_50 (by decide) ⟨by omega, by omega⟩ (fun c50 => ?_) (fun c50 => ?_)
        · have e : yrA β1 (yrX x1) = β1 := by unfold yrA; rw [if_neg c50]
          rw [e] at h6
          refine In.inc (lv1 := [_, _, _, _, _, _]) d_Year_pass_64 rfl (by decide) (w_pv rfl) rfl ?_
          refine Rn.goto (tgt := 14) d_Year_pass_67 (by decide) ?_
          exact ih (i + 1) _ _ _ (by omega) hxl h3 hH2 hO3 h6
        · have e : yrA β1 (yrX x1) = folF β1 (yrK (yrX x1)) (yrO (yrX x1)) (yrP (yrX x1)) := by unfold yrA; rw [if_pos c50]
          rw [e] at h6
          refine Rn.aload_n d_Year_pass_53 rfl ?_
          refine Rn.getR d_Year_pass_54 f_Year_hill g_159 z_Year (r_Year_hill (by assumption)) ?_
          refine Rn.aload_n d_Year_pass_57 rfl ?_
          refine Rn.getR d_Year_pass_58 f_Year_act g_160 z_Year (r_Year_act (by assumption)) ?_
          refine Rn.cVV d_Year_pass_61 s_Year_pass_Hill_follow g_609 g_369 g_370 ⟨rfl, rfl⟩ ⟨Nat.zero_le _, Nat.zero_le _⟩ (m_Hill_follow i_Year_hill i_Year_act hG2 hH2 h3 hk hac) rfl rfl (z_Hill (by first | assumption | exact i_Image_hill (by assumption) | exact i_BH_hill | exact i_Telling_hill | exact i_Year_hill)) c_Hill (Nat.le_of_ble_eq_true rfl) (fun M4 qq => ?_)
          obtain ⟨hH4, hO4⟩ := qq
          have hG4 := hO4.G hG2
          refine In.inc (lv1 := [_, _, _, _, _, _]) d_Year_pass_64 rfl (by decide) (w_pv rfl) rfl ?_
          refine Rn.goto (tgt := 14) d_Year_pass_67 (by decide) ?_
          exact ih (i + 1) _ _ _ (by omega) hxl (folF_ok h3 hk c50) hH4 (hO3.tr (hO4.wide (by omega) (by omega))) h6
  exact loop m 0 x β M1 (by omega) hx hV hH hO1 hVe.symm
theorem m_Image_isKept {M : wM} {i : Nat} {b : Bool} (hi : isImage i) (hA : M.1 i 2 = iI (if b = true then 1 else 0)) : EvI k_Image_isKept [.ref i] SH M (fun r M' => r = iI (if b = true then 1 else 0) ∧ M' = M) := by
  refine EvI.of 0 (by decide) (Nat.le_of_ble_eq_true rfl) rfl ?_
  refine Rn.aload_n d_Image_isKept_0 rfl ?_
  refine In.getI d_Image_isKept_1 f_Image_kept g_178 (z_Image (by first | assumption | exact i_BH_firstImage | exact i_BH_secondImage)) hA ?_
  refine Rn.iret d_Image_isKept_4 rfl ?_ ⟨rfl, rfl⟩
  cases b <;> decide +kernel
theorem m_Image_keep {M : wM} {i h s m : Nat} {β τ : Nat → Int} (hi : isImage i) (hh : isHill h) (hs : isSights s) (hne : h + 5 ≤ i ∨ i + 9 ≤ h) (hne2 : s + 3 ≤ i ∨ i + 9 ≤ s) (hG : M.2.2 = RG) (hA : hillAt M h β) (hB : sgAt M s m τ) : EvV k_Image_keep [.ref i, .ref h, .ref s] SH M (fun M' => hillAt M' (i + 1) β ∧ sgAt M' (i + 6) m τ ∧ M'.1 i 2 = iI 1 ∧ Off M M' i (i + 9)) := by
  refine EvV.of 0 (by decide) (Nat.le_of_ble_eq_true rfl) rfl ?_
  refine Rn.aload_n d_Image_keep_0 rfl ?_
  refine Rn.getR d_Image_keep_1 f_Image_hill g_176 (z_Image (by first | assumption | exact i_BH_firstImage | exact i_BH_secondImage)) (r_Image_hill (by first | assumption | exact i_BH_firstImage | exact i_BH_secondImage) (by assumption)) ?_
  refine Rn.aload_n d_Image_keep_4 rfl ?_
  refine Rn.cVV d_Image_keep_5 s_Image_keep_Hill_copyFrom g_622 g_311 g_312 ⟨rfl, rfl⟩ ⟨Nat.zero_le _, Nat.zero_le _⟩ (m_Hill_copyFrom (i_Image_hill hi) hh (by omega) hG hA) rfl rfl (z_Hill (by first | assumption | exact i_Image_hill (by assumption) | exact i_BH_hill | exact i_Telling_hill | exact i_Year_hill)) c_Hill (Nat.le_of_ble_eq_true rfl) (fun M1 qq => ?_)
  obtain ⟨hH, hO⟩ := qq
  have hG1 := hO.G hG
  refine Rn.aload_n d_Image_keep_8 rfl ?_
  refine Rn.getR d_Image_keep_9 f_Image_sights g_177 (z_Image (by first | assumption | exact i_BH_firstImage | exact i_BH_secondImage)) (r_Image_sights (by first | assumption | exact i_BH_firstImage | exact i_BH_secondImage) (by assumption)) ?_
  refine Rn.aload_n d_Image_keep_12 rfl ?_
  refine Rn.cVV d_Image_keep_13 s_Image_keep_Sights_copyFrom g_623 g_624 g_625 ⟨rfl, rfl⟩ ⟨Nat.zero_le _, Nat.zero_le _⟩ (m_Sights_copyFrom (i_Image_sights hi) hs (by omega) hG1 (hB.off hO (by omega))) rfl rfl (z_Sights (by first | assumption | exact i_Image_sights (by assumption) | exact i_BH_sights)) c_Sights (Nat.le_of_ble_eq_true rfl) (fun M2 qq => ?_)
  obtain ⟨hS, hO2⟩ := qq
  refine Rn.aload_n d_Image_keep_16 rfl ?_
  refine Rn.iconst (v := iI 1) d_Image_keep_17 rfl ?_
  refine In.putZ1 d_Image_keep_18 f_Image_kept g_178 (z_Image (by first | assumption | exact i_BH_firstImage | exact i_BH_secondImage)) ?_
  exact Rn.vret d_Image_keep_21 rfl ⟨(hH.off hO2 (by omega)).off (Off.ui _ _ _ _) (by omega), hS.off (Off.ui _ _ _ _) (by omega), w_ui_at _ _ _ _, (hO.wide (by omega) (by omega)).tr ((hO2.wide (by omega) (by omega)).tr ((Off.ui _ _ _ _).wide (by omega) (by omega)))⟩
theorem m_Image_bringBack {M : wM} {i m : Nat} {β τ : Nat → Int} (hi : isImage i) (hG : M.2.2 = RG) (hA : hillAt M (i + 1) β) (hB : sgAt M (i + 6) m τ) : EvV k_Image_bringBack [.ref i, .ref 1, .ref 6] SH M (fun M' => hillAt M' 1 β ∧ sgAt M' 6 m τ ∧ Off M M' 1 9) := by
  refine EvV.of 0 (by decide) (Nat.le_of_ble_eq_true rfl) rfl ?_
  have hi9 : 9 ≤ i := by rcases hi with rfl | rfl <;> decide
  refine Rn.aload_n d_Image_bringBack_0 rfl ?_
  refine Rn.aload_n d_Image_bringBack_1 rfl ?_
  refine Rn.getR d_Image_bringBack_2 f_Image_hill g_176 (z_Image (by first | assumption | exact i_BH_firstImage | exact i_BH_secondImage)) (r_Image_hill (by first | assumption | exact i_BH_firstImage | exact i_BH_secondImage) (by assumption)) ?_
  refine Rn.cVV d_Image_bringBack_5 s_Image_bringBack_Hill_copyFrom g_622 g_311 g_312 ⟨rfl, rfl⟩ ⟨Nat.zero_le _, Nat.zero_le _⟩ (m_Hill_copyFrom i_BH_hill (i_Image_hill hi) (by omega) hG hA) rfl rfl (z_Hill (by first | assumption | exact i_Image_hill (by assumption) | exact i_BH_hill | exact i_Telling_hill | exact i_Year_hill)) c_Hill (Nat.le_of_ble_eq_true rfl) (fun M1 qq => ?_)
  obtain ⟨hH, hO⟩ := qq
  have hG1 := hO.G hG
  refine Rn.aload_n d_Image_bringBack_8 rfl ?_
  refine Rn.aload_n d_Image_bringBack_9 rfl ?_
  refine Rn.getR d_Image_bringBack_10 f_Image_sights g_177 (z_Image (by first | assumption | exact i_BH_firstImage | exact i_BH_secondImage)) (r_Image_sights (by first | assumption | exact i_BH_firstImage | exact i_BH_secondImage) (by assumption)) ?_
  refine Rn.cVV d_Image_bringBack_13 s_Image_bringBack_Sights_copyFrom g_623 g_624 g_625 ⟨rfl, rfl⟩ ⟨Nat.zero_le _, Nat.zero_le _⟩ (m_Sights_copyFrom i_BH_sights (i_Image_sights hi) (by omega) hG1 (hB.off hO (by omega))) rfl rfl (z_Sights (by first | assumption | exact i_Image_sights (by assumption) | exact i_BH_sights)) c_Sights (Nat.le_of_ble_eq_true rfl) (fun M2 qq => ?_)
  obtain ⟨hS, hO2⟩ := qq
  exact Rn.vret d_Image_bringBack_16 rfl ⟨hH.off hO2 (by omega), hS, (hO.wide (by omega) (by omega)).tr (hO2.wide (by omega) (by omega))⟩
