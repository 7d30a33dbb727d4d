/-! Hill: who is seen; why an act can not be; an act. -/
set_option maxRecDepth 20000
set_option maxHeartbeats 400000
def seesP (β : Nat → Int) (b : Nat) : Nat → Bool := fun x => decide (x ≠ b) && (decide (β (12 + x) ≠ -6) && decide (wayS β (β (12 + b)).toNat (β (12 + x)).toNat &&& hungS β 6 = 2 ^ (β (12 + b)).toNat ||| 2 ^ (β (12 + x)).toNat))
theorem pow_12 {k : Nat} (h : k < 12) : 2 ^ k < 4096 := Nat.pow_lt_pow_right (a := 2) (n := 12) (by decide) h
theorem or_12 {a b : Nat} (ha : a < 4096) (hb : b < 4096) : a ||| b < 4096 := Nat.or_lt_two_pow (n := 12) ha hb
theorem m_Hill_seenFrom {M : wM} {h b : Nat} {β : Nat → Int} (hh : isHill h) (hG : M.2.2 = RG) (hA : hillAt M h β) (hV : hok β) (hb : b < 6) (hung : β (12 + b) ≠ -6) : EvI k_Hill_seenFrom [.ref h, .int (iI b)] SH M (fun r M' => r = iI (setOf (seesP β b) 6) ∧ M' = M) := by
  refine EvI.of 6 (by decide) (Nat.le_of_ble_eq_true rfl) rfl ?_
  have hlb := hV.l b hb
  obtain ⟨lb, hlbe⟩ : ∃ lb : Nat, β (12 + b) = lb := ⟨(β (12 + b)).toNat, by omega⟩
  refine Rn.aload_n d_Hill_seenFrom_0 rfl ?_
  refine Rn.iload_n d_Hill_seenFrom_1 rfl ?_
  refine Rn.cVI d_Hill_seenFrom_2 s_Hill_seenFrom_Hill_loopOf g_244 g_245 g_246 ⟨rfl, rfl⟩ ⟨Nat.zero_le _, Nat.zero_le _⟩ (m_Hill_loopOf hh hG hA hb) rfl rfl (z_Hill (by first | assumption | exact i_Image_hill (by assumption) | exact i_BH_hill | exact i_Telling_hill | exact i_Year_hill)) c_Hill (Nat.le_of_ble_eq_true rfl) (fun rr MM qq => ?_)
  obtain ⟨rfl, rfl⟩ := And.imp id Eq.symm qq; clear qq
  rw [hlbe]
  refine Rn.istore_n (lv1 := [_, _, _, _, _, _, _, _]) d_Hill_seenFrom_5 (by decide) (w_pv rfl) rfl ?_
  refine Rn.aload_n d_Hill_seenFrom_6 rfl ?_
  refine Rn.cVI d_Hill_seenFrom_7 s_Hill_seenFrom_Hill_hungLoops g_248 g_249 g_250 ⟨rfl, rfl⟩ ⟨Nat.zero_le _, Nat.zero_le _⟩ (m_Hill_hungLoops hh hG hA hV.l) rfl rfl (z_Hill (by first | assumption | exact i_Image_hill (by assumption) | exact i_BH_hill | exact i_Telling_hill | exact i_Year_hill)) c_Hill (Nat.le_of_ble_eq_true rfl) (fun rr MM qq => ?_)
  obtain ⟨rfl, rfl⟩ := And.imp id Eq.symm qq; clear qq
  refine Rn.istore_n (lv1 := [_, _, _, _, _, _, _, _]) d_Hill_seenFrom_10 (by decide) (w_pv rfl) rfl ?_
  refine Rn.iconst (v := iI 0) d_Hill_seenFrom_11 rfl ?_
  refine Rn.istore (lv1 := [_, _, _, _, _, _, _, _]) d_Hill_seenFrom_12 (by decide) (w_pv rfl) rfl ?_
  refine Rn.iconst (v := iI 0) d_Hill_seenFrom_14 rfl ?_
  refine Rn.istore (lv1 := [_, _, _, _, _, _, _, _]) d_Hill_seenFrom_15 (by decide) (w_pv rfl) rfl ?_
  obtain ⟨P, hP⟩ : ∃ P, P = seesP β b := ⟨_, rfl⟩
  rw [← hP]
  have hung4 := hungS_lt hV.l 6 (Nat.le_refl _)
  have loop : ∀ (n i : Nat) (x6 x7 : Option Value), w_n2 x6 = true → i + n = 6 → Rn k_Hill_seenFrom none (0, 0) 17 [some (.ref h), some (.int (iI b)), some (.int (iI lb)), some (.int (iI (hungS β 6))), some (.int (iI (setOf P i))), some (.int (iI i)), x6, x7] [] SH M (w_FI (0, 0) SH (fun r M' => r = iI (setOf P 6) ∧ M' = M)) := by
    intro n
    induction n with
    | zero =>
      intro i x6 x7 hx h1
      refine Rn.iload d_Hill_seenFrom_17 rfl ?_
      refine Rn.bipush (v := iI 6) d_Hill_seenFrom_19 (by decide +kernel) ?_
      refine In.icmp_ge (tgt := 90) d_Hill_seenFrom_21 (by decide) ⟨by omega, by omega⟩ ⟨by omega, by omega⟩ (fun c21 => ?_) (fun c21 => ?_)
      · refine Rn.iload d_Hill_seenFrom_90 rfl ?_
        have : i = 6 := by omega
        subst this
        exact Rn.iret d_Hill_seenFrom_92 rfl rfl ⟨rfl, rfl⟩
      · omega
    | succ n ih =>
      intro i x6 x7 hx h1
      have hi : i < 6 := by omega
      have hli := hV.l i hi
      have eP : P i = (decide (i ≠ b) && (decide (β (12 + i) ≠ -6) && decide (wayS β lb (β (12 + i)).toNat &&& hungS β 6 = 2 ^ lb ||| 2 ^ (β (12 + i)).toNat))) := by rw [hP]; unfold seesP; rw [hlbe]; rfl
      have e1 : P i = true → setOf P (i + 1) = setOf P i ||| 2 ^ i := fun e => by simp only [setOf]; rw [if_pos e]
      have e0 : P i = false → setOf P (i + 1) = setOf P i := fun e => by simp only [setOf]; rw [e]; rfl
      have ih := fun x y hx => ih (i + 1) x y hx (by omega)
      refine Rn.iload d_Hill_seenFrom_17 rfl ?_
      refine Rn.bipush (v := iI 6) d_Hill_seenFrom_19 (by decide +kernel) ?_
      refine In.icmp_ge (tgt := 90) d_Hill_seenFrom_21 (by decide) ⟨by omega, by omega⟩ ⟨by omega, by omega⟩ (fun c21 => ?_) (fun c21 => ?_)
      · omega
      · refine Rn.aload_n d_Hill_seenFrom_24 rfl ?_
        refine Rn.iload d_Hill_seenFrom_25 rfl ?_
        refine Rn.cVI d_Hill_seenFrom_27 s_Hill_seenFrom_Hill_loopOf g_244 g_245 g_246 ⟨rfl, rfl⟩ ⟨Nat.zero_le _, Nat.zero_le _⟩ (m_Hill_loopOf hh hG hA hi) rfl rfl (z_Hill (by first | assumption | exact i_Image_hill (by assumption) | exact i_BH_hill | exact i_Telling_hill | exact i_Year_hill)) c_Hill (Nat.le_of_ble_eq_true rfl) (fun rr MM qq => ?_)
        obtain ⟨rfl, rfl⟩ := And.imp id Eq.symm qq; clear qq
        refine Rn.istore (lv1 := [_, _, _, _, _, _, _, _]) d_Hill_seenFrom_30 (by decide) (w_pv rfl) rfl ?_
        refine Rn.iload d_Hill_seenFrom_32 rfl ?_
        refine Rn.iload_n d_Hill_seenFrom_34 rfl ?_
        refine In.icmp_eq (tgt := 84) d_Hill_seenFrom_35 (by decide) ⟨by omega, by omega⟩ ⟨by omega, by omega⟩ (fun c35 => ?_) (fun c35 => ?_)
        · refine In.inc (lv1 := [_, _, _, _, _, _, _, _]) d_Hill_seenFrom_84 rfl (by decide) (w_pv rfl) rfl ?_
          refine Rn.goto (tgt := 17) d_Hill_seenFrom_87 (by decide) ?_
          have : P i = false := by rw [eP, decide_eq_false (by omega)]; rfl
          rw [e0 this] at ih
          exact ih _ _ rfl
        · refine Rn.iload d_Hill_seenFrom_38 rfl ?_
          refine Rn.bipush (v := iI (-6)) d_Hill_seenFrom_40 (by decide +kernel) ?_
          refine In.icmp_ne (tgt := 48) d_Hill_seenFrom_42 (by decide) ⟨by omega, by omega⟩ ⟨by omega, by omega⟩ (fun c42 => ?_) (fun c42 => ?_)
          · obtain ⟨li, hlie⟩ : ∃ li : Nat, β (12 + i) = li := ⟨(β (12 + i)).toNat, by omega⟩
            have eP : P i = decide (wayS β lb li &&& hungS β 6 = 2 ^ lb ||| 2 ^ li) := by rw [eP, decide_eq_true (by omega), decide_eq_true c42, hlie]; rfl
            rw [hlie]
            refine Rn.iconst (v := iI 1) d_Hill_seenFrom_48 rfl ?_
            refine Rn.iload_n d_Hill_seenFrom_49 rfl ?_
            refine In.shl rfl (by omega) d_Hill_seenFrom_50 ?_
            refine Rn.iconst (v := iI 1) d_Hill_seenFrom_51 rfl ?_
            refine Rn.iload d_Hill_seenFrom_52 rfl ?_
            refine In.shl rfl (by omega) d_Hill_seenFrom_54 ?_
            refine In.or rfl rfl d_Hill_seenFrom_55 ?_
            refine Rn.istore (lv1 := [_, _, _, _, _, _, _, _]) d_Hill_seenFrom_56 (by decide) (w_pv rfl) rfl ?_
            refine Rn.aload_n d_Hill_seenFrom_58 rfl ?_
            refine Rn.getR d_Hill_seenFrom_59 f_Hill_tree g_41 (z_Hill (by first | assumption | exact i_Image_hill (by assumption) | exact i_BH_hill | exact i_Telling_hill | exact i_Year_hill)) (r_Hill_tree (by first | assumption | exact i_Image_hill (by assumption) | exact i_BH_hill | exact i_Telling_hill | exact i_Year_hill) (by assumption)) ?_
            refine Rn.iload_n d_Hill_seenFrom_62 rfl ?_
            refine Rn.iload d_Hill_seenFrom_63 rfl ?_
            refine Rn.cVI d_Hill_seenFrom_65 s_Hill_seenFrom_Tree_way g_481 g_469 g_470 ⟨rfl, rfl⟩ ⟨Nat.zero_le _, Nat.zero_le _⟩ (m_Tree_way (i_Hill_tree hh) hG hA.1 hV.t (show lb < 12 by omega) (show li < 12 by omega)) rfl rfl (z_Tree (by first | assumption | exact i_Hill_tree (by assumption) | exact i_Hill_tree i_BH_hill)) c_Tree (Nat.le_of_ble_eq_true rfl) (fun rr MM qq => ?_)
            obtain ⟨rfl, rfl⟩ := And.imp id Eq.symm qq; clear qq
            have o1 : wayS β lb li &&& hungS β 6 < 4096 := and_4096 (wayS_lt β lb li)
            have o2 : 2 ^ lb ||| 2 ^ li < 4096 := or_12 (pow_12 (by omega)) (pow_12 (by omega))
            refine Rn.iload_n d_Hill_seenFrom_68 rfl ?_
            refine In.and rfl rfl d_Hill_seenFrom_69 ?_
            refine Rn.iload d_Hill_seenFrom_70 rfl ?_
            refine In.icmp_ne (tgt := 84) d_Hill_seenFrom_72 (by decide) ⟨by omega, by omega⟩ ⟨by omega, by omega⟩ (fun c72 => ?_) (fun c72 => ?_)
            · refine In.inc (lv1 := [_, _, _, _, _, _, _, _]) d_Hill_seenFrom_84 rfl (by decide) (w_pv rfl) rfl ?_
              refine Rn.goto (tgt := 17) d_Hill_seenFrom_87 (by decide) ?_
              have : P i = false := by rw [eP, decide_eq_false (by omega)]
              rw [e0 this] at ih
              exact ih _ _ rfl
            · refine Rn.iload d_Hill_seenFrom_75 rfl ?_
              refine Rn.iconst (v := iI 1) d_Hill_seenFrom_77 rfl ?_
              refine Rn.iload d_Hill_seenFrom_78 rfl ?_
              refine In.shl rfl (by omega) d_Hill_seenFrom_80 ?_
              refine In.or rfl rfl d_Hill_seenFrom_81 ?_
              refine Rn.istore (lv1 := [_, _, _, _, _, _, _, _]) d_Hill_seenFrom_82 (by decide) (w_pv rfl) rfl ?_
              refine In.inc (lv1 := [_, _, _, _, _, _, _, _]) d_Hill_seenFrom_84 rfl (by decide) (w_pv rfl) rfl ?_
              refine Rn.goto (tgt := 17) d_Hill_seenFrom_87 (by decide) ?_
              have : P i = true := by rw [eP, decide_eq_true (by omega)]
              rw [e1 this] at ih
              exact ih _ _ rfl
          · refine Rn.goto (tgt := 84) d_Hill_seenFrom_45 (by decide) ?_
            refine In.inc (lv1 := [_, _, _, _, _, _, _, _]) d_Hill_seenFrom_84 rfl (by decide) (w_pv rfl) rfl ?_
            refine Rn.goto (tgt := 17) d_Hill_seenFrom_87 (by decide) ?_
            have : P i = false := by rw [eP, decide_eq_false (p := β (12 + i) ≠ -6) (by omega)]; simp
            rw [e0 this] at ih
            exact ih _ _ rfl
  exact loop 6 0 _ _ rfl rfl
theorem m_Hill_whyNot {M : wM} {h c k o p : Nat} {β : Nat → Int} (hh : isHill h) (hc : isAct c) (hG : M.2.2 = RG) (hA : hillAt M h β) (hV : hok β) (hk : aok k o p) (hC : actAt M c k o p) : EvI k_Hill_whyNot [.ref h, .ref c] SH M (fun r M' => r = iI (whyF β k o p) ∧ M' = M) := by
  refine EvI.of 0 (by decide) (Nat.le_of_ble_eq_true rfl) rfl ?_
  obtain ⟨h5, h0, h1, h2, h3⟩ := hk
  refine Rn.aload_n d_Hill_whyNot_0 rfl ?_
  refine Rn.cVI d_Hill_whyNot_1 s_Hill_whyNot_Act_kind g_340 g_341 g_342 ⟨rfl, rfl⟩ ⟨Nat.zero_le _, Nat.zero_le _⟩ (m_Act_kind hc hC) rfl rfl (z_Act (by first | assumption | exact i_Telling_act | exact i_Year_act)) c_Act (Nat.le_of_ble_eq_true rfl) (fun rr MM qq => ?_)
  obtain ⟨rfl, rfl⟩ := And.imp id Eq.symm qq; clear qq
  rcases (show k = 0 ∨ k = 1 ∨ k = 2 ∨ k = 3 ∨ k = 4 ∨ k = 5 by omega) with rfl | rfl | rfl | rfl | rfl | rfl
  · obtain ⟨ho, hp⟩ := h0 rfl
    refine In.tabIn (off := 36) (tgt := 40) 0 d_Hill_whyNot_4 rfl (by decide) (by decide) rfl (by decide) ?_
    refine Rn.aload_n d_Hill_whyNot_40 rfl ?_
    refine Rn.aload_n d_Hill_whyNot_41 rfl ?_
    refine Rn.cVI d_Hill_whyNot_42 s_Hill_whyNot_Act_one g_344 g_345 g_346 ⟨rfl, rfl⟩ ⟨Nat.zero_le _, Nat.zero_le _⟩ (m_Act_one hc hC) rfl rfl (z_Act (by first | assumption | exact i_Telling_act | exact i_Year_act)) c_Act (Nat.le_of_ble_eq_true rfl) (fun rr MM qq => ?_)
    obtain ⟨rfl, rfl⟩ := And.imp id Eq.symm qq; clear qq
    refine Rn.cVI d_Hill_whyNot_45 s_Hill_whyNot_Hill_isBroken g_348 g_349 g_350 ⟨rfl, rfl⟩ ⟨Nat.zero_le _, Nat.zero_le _⟩ (m_Hill_isBroken hh hG hA hV ho) rfl rfl (z_Hill (by first | assumption | exact i_Image_hill (by assumption) | exact i_BH_hill | exact i_Telling_hill | exact i_Year_hill)) c_Hill (Nat.le_of_ble_eq_true rfl) (fun rr MM qq => ?_)
    obtain ⟨rfl, rfl⟩ := And.imp id Eq.symm qq; clear qq
    refine In.if_eq (tgt := 53) d_Hill_whyNot_48 (by decide) fl_rg (fun c48 => ?_) (fun c48 => ?_)
    · have hlo := hV.l o ho
      refine Rn.aload_n d_Hill_whyNot_53 rfl ?_
      refine Rn.aload_n d_Hill_whyNot_54 rfl ?_
      refine Rn.cVI d_Hill_whyNot_55 s_Hill_whyNot_Act_one g_344 g_345 g_346 ⟨rfl, rfl⟩ ⟨Nat.zero_le _, Nat.zero_le _⟩ (m_Act_one hc hC) rfl rfl (z_Act (by first | assumption | exact i_Telling_act | exact i_Year_act)) c_Act (Nat.le_of_ble_eq_true rfl) (fun rr MM qq => ?_)
      obtain ⟨rfl, rfl⟩ := And.imp id Eq.symm qq; clear qq
      refine Rn.aload_n d_Hill_whyNot_58 rfl ?_
      refine Rn.cVI d_Hill_whyNot_59 s_Hill_whyNot_Act_other g_352 g_353 g_354 ⟨rfl, rfl⟩ ⟨Nat.zero_le _, Nat.zero_le _⟩ (m_Act_other hc hC) rfl rfl (z_Act (by first | assumption | exact i_Telling_act | exact i_Year_act)) c_Act (Nat.le_of_ble_eq_true rfl) (fun rr MM qq => ?_)
      obtain ⟨rfl, rfl⟩ := And.imp id Eq.symm qq; clear qq
      refine Rn.cVI d_Hill_whyNot_62 s_Hill_whyNot_Hill_anotherHangs g_356 g_241 g_242 ⟨rfl, rfl⟩ ⟨Nat.zero_le _, Nat.zero_le _⟩ (m_Hill_anotherHangs hh hG hA hV.l ho hp) rfl rfl (z_Hill (by first | assumption | exact i_Image_hill (by assumption) | exact i_BH_hill | exact i_Telling_hill | exact i_Year_hill)) c_Hill (Nat.le_of_ble_eq_true rfl) (fun rr MM qq => ?_)
      obtain ⟨rfl, rfl⟩ := And.imp id Eq.symm qq; clear qq
      refine In.if_eq (tgt := 70) d_Hill_whyNot_65 (by decide) fl_rg (fun c65 => ?_) (fun c65 => ?_)
      · refine Rn.aload_n d_Hill_whyNot_70 rfl ?_
        refine Rn.aload_n d_Hill_whyNot_71 rfl ?_
        refine Rn.cVI d_Hill_whyNot_72 s_Hill_whyNot_Act_one g_344 g_345 g_346 ⟨rfl, rfl⟩ ⟨Nat.zero_le _, Nat.zero_le _⟩ (m_Act_one hc hC) rfl rfl (z_Act (by first | assumption | exact i_Telling_act | exact i_Year_act)) c_Act (Nat.le_of_ble_eq_true rfl) (fun rr MM qq => ?_)
        obtain ⟨rfl, rfl⟩ := And.imp id Eq.symm qq; clear qq
        refine Rn.cVI d_Hill_whyNot_75 s_Hill_whyNot_Hill_loopOf g_244 g_245 g_246 ⟨rfl, rfl⟩ ⟨Nat.zero_le _, Nat.zero_le _⟩ (m_Hill_loopOf hh hG hA ho) rfl rfl (z_Hill (by first | assumption | exact i_Image_hill (by assumption) | exact i_BH_hill | exact i_Telling_hill | exact i_Year_hill)) c_Hill (Nat.le_of_ble_eq_true rfl) (fun rr MM qq => ?_)
        obtain ⟨rfl, rfl⟩ := And.imp id Eq.symm qq; clear qq
        refine Rn.aload_n d_Hill_whyNot_78 rfl ?_
        refine Rn.cVI d_Hill_whyNot_79 s_Hill_whyNot_Act_other g_352 g_353 g_354 ⟨rfl, rfl⟩ ⟨Nat.zero_le _, Nat.zero_le _⟩ (m_Act_other hc hC) rfl rfl (z_Act (by first | assumption | exact i_Telling_act | exact i_Year_act)) c_Act (Nat.le_of_ble_eq_true rfl) (fun rr MM qq => ?_)
        obtain ⟨rfl, rfl⟩ := And.imp id Eq.symm qq; clear qq
        refine In.icmp_ne (tgt := 89) d_Hill_whyNot_82 (by decide) ⟨by omega, by omega⟩ ⟨by omega, by omega⟩ (fun c82 => ?_) (fun c82 => ?_)
        · refine Rn.iconst (v := iI 0) d_Hill_whyNot_89 rfl ?_
          exact Rn.iret d_Hill_whyNot_90 rfl rfl ⟨by unfold whyF; rw [if_pos rfl, if_neg (fl_eq c48), if_neg (fl_eq c65), if_neg c82], rfl⟩
        · refine Rn.iconst (v := iI 3) d_Hill_whyNot_85 rfl ?_
          refine Rn.goto (tgt := 90) d_Hill_whyNot_86 (by decide) ?_
          exact Rn.iret d_Hill_whyNot_90 rfl rfl ⟨by unfold whyF; rw [if_pos rfl, if_neg (fl_eq c48), if_neg (fl_eq c65), if_pos c82], rfl⟩
      · refine Rn.iconst (v := iI 2) d_Hill_whyNot_68 rfl ?_
        exact Rn.iret d_Hill_whyNot_69 rfl rfl ⟨by unfold whyF; rw [if_pos rfl, if_neg (fl_eq c48), if_pos (fl_ne c65)], rfl⟩
    · refine Rn.iconst (v := iI 1) d_Hill_whyNot_51 rfl ?_
      exact Rn.iret d_Hill_whyNot_52 rfl rfl ⟨by unfold whyF; rw [if_pos rfl, if_pos (fl_ne c48)], rfl⟩
  · have ho := h1 rfl
    refine In.tabIn (off := 87) (tgt := 91) 1 d_Hill_whyNot_4 rfl (by decide) (by decide) rfl (by decide) ?_
    refine Rn.aload_n d_Hill_whyNot_91 rfl ?_
    refine Rn.aload_n d_Hill_whyNot_92 rfl ?_
    refine Rn.cVI d_Hill_whyNot_93 s_Hill_whyNot_Act_one g_344 g_345 g_346 ⟨rfl, rfl⟩ ⟨Nat.zero_le _, Nat.zero_le _⟩ (m_Act_one hc hC) rfl rfl (z_Act (by first | assumption | exact i_Telling_act | exact i_Year_act)) c_Act (Nat.le_of_ble_eq_true rfl) (fun rr MM qq => ?_)
    obtain ⟨rfl, rfl⟩ := And.imp id Eq.symm qq; clear qq
    refine Rn.cVI d_Hill_whyNot_96 s_Hill_whyNot_Hill_isBroken g_348 g_349 g_350 ⟨rfl, rfl⟩ ⟨Nat.zero_le _, Nat.zero_le _⟩ (m_Hill_isBroken hh hG hA hV ho) rfl rfl (z_Hill (by first | assumption | exact i_Image_hill (by assumption) | exact i_BH_hill | exact i_Telling_hill | exact i_Year_hill)) c_Hill (Nat.le_of_ble_eq_true rfl) (fun rr MM qq => ?_)
    obtain ⟨rfl, rfl⟩ := And.imp id Eq.symm qq; clear qq
    refine In.if_eq (tgt := 104) d_Hill_whyNot_99 (by decide) fl_rg (fun c99 => ?_) (fun c99 => ?_)
    · have hlo := hV.l o ho
      refine Rn.aload_n d_Hill_whyNot_104 rfl ?_
      refine Rn.aload_n d_Hill_whyNot_105 rfl ?_
      refine Rn.cVI d_Hill_whyNot_106 s_Hill_whyNot_Act_one g_344 g_345 g_346 ⟨rfl, rfl⟩ ⟨Nat.zero_le _, Nat.zero_le _⟩ (m_Act_one hc hC) rfl rfl (z_Act (by first | assumption | exact i_Telling_act | exact i_Year_act)) c_Act (Nat.le_of_ble_eq_true rfl) (fun rr MM qq => ?_)
      obtain ⟨rfl, rfl⟩ := And.imp id Eq.symm qq; clear qq
      refine Rn.cVI d_Hill_whyNot_109 s_Hill_whyNot_Hill_loopOf g_244 g_245 g_246 ⟨rfl, rfl⟩ ⟨Nat.zero_le _, Nat.zero_le _⟩ (m_Hill_loopOf hh hG hA ho) rfl rfl (z_Hill (by first | assumption | exact i_Image_hill (by assumption) | exact i_BH_hill | exact i_Telling_hill | exact i_Year_hill)) c_Hill (Nat.le_of_ble_eq_true rfl) (fun rr MM qq => ?_)
      obtain ⟨rfl, rfl⟩ := And.imp id Eq.symm qq; clear qq
      refine Rn.bipush (v := iI (-6)) d_Hill_whyNot_112 (by decide +kernel) ?_
      refine In.icmp_ne (tgt := 121) d_Hill_whyNot_114 (by decide) ⟨by omega, by omega⟩ ⟨by omega, by omega⟩ (fun c114 => ?_) (fun c114 => ?_)
      · refine Rn.iconst (v := iI 0) d_Hill_whyNot_121 rfl ?_
        exact Rn.iret d_Hill_whyNot_122 rfl rfl ⟨by unfold whyF; rw [if_neg (by decide), if_pos rfl, if_neg (fl_eq c99), if_neg c114], rfl⟩
      · refine Rn.iconst (v := iI 3) d_Hill_whyNot_117 rfl ?_
        refine Rn.goto (tgt := 122) d_Hill_whyNot_118 (by decide) ?_
        exact Rn.iret d_Hill_whyNot_122 rfl rfl ⟨by unfold whyF; rw [if_neg (by decide), if_pos rfl, if_neg (fl_eq c99), if_pos c114], rfl⟩
    · refine Rn.iconst (v := iI 1) d_Hill_whyNot_102 rfl ?_
      exact Rn.iret d_Hill_whyNot_103 rfl rfl ⟨by unfold whyF; rw [if_neg (by decide), if_pos rfl, if_pos (fl_ne c99)], rfl⟩
  · have hpl := pc_le (hungS β 6)
    refine In.tabIn (off := 119) (tgt := 123) 2 d_Hill_whyNot_4 rfl (by decide) (by decide) rfl (by decide) ?_
    refine Rn.aload_n d_Hill_whyNot_123 rfl ?_
    refine Rn.cVI d_Hill_whyNot_124 s_Hill_whyNot_Hill_hungLoops g_248 g_249 g_250 ⟨rfl, rfl⟩ ⟨Nat.zero_le _, Nat.zero_le _⟩ (m_Hill_hungLoops hh hG hA hV.l) rfl rfl (z_Hill (by first | assumption | exact i_Image_hill (by assumption) | exact i_BH_hill | exact i_Telling_hill | exact i_Year_hill)) c_Hill (Nat.le_of_ble_eq_true rfl) (fun rr MM qq => ?_)
    obtain ⟨rfl, rfl⟩ := And.imp id Eq.symm qq; clear qq
    refine Rn.cSI d_Hill_whyNot_127 s_Hill_whyNot_Int_bitCount g_357 g_358 ⟨rfl, rfl⟩ ⟨Nat.zero_le _, Nat.zero_le _⟩ (m_Int_bitCount (hungS_lt hV.l 6 (Nat.le_refl _))) rfl rfl (Nat.le_of_ble_eq_true rfl) (fun rr MM qq => ?_)
    obtain ⟨rfl, rfl⟩ := And.imp id Eq.symm qq; clear qq
    refine Rn.iconst (v := iI 2) d_Hill_whyNot_130 rfl ?_
    refine In.icmp_ge (tgt := 138) d_Hill_whyNot_131 (by decide) ⟨by omega, by omega⟩ ⟨by omega, by omega⟩ (fun c131 => ?_) (fun c131 => ?_)
    · refine Rn.iconst (v := iI 0) d_Hill_whyNot_138 rfl ?_
      exact Rn.iret d_Hill_whyNot_139 rfl rfl ⟨by unfold whyF; rw [if_neg (by decide), if_neg (by decide), if_pos rfl, if_pos (by omega)], rfl⟩
    · refine Rn.iconst (v := iI 4) d_Hill_whyNot_134 rfl ?_
      refine Rn.goto (tgt := 139) d_Hill_whyNot_135 (by decide) ?_
      exact Rn.iret d_Hill_whyNot_139 rfl rfl ⟨by unfold whyF; rw [if_neg (by decide), if_neg (by decide), if_pos rfl, if_neg (by omega)], rfl⟩
  · obtain ⟨ho, hp⟩ := h3 rfl
    refine In.tabIn (off := 136) (tgt := 140) 3 d_Hill_whyNot_4 rfl (by decide) (by decide) rfl (by decide) ?_
    refine Rn.aload_n d_Hill_whyNot_140 rfl ?_
    refine Rn.cVI d_Hill_whyNot_141 s_Hill_whyNot_Act_other g_352 g_353 g_354 ⟨rfl, rfl⟩ ⟨Nat.zero_le _, Nat.zero_le _⟩ (m_Act_other hc hC) rfl rfl (z_Act (by first | assumption | exact i_Telling_act | exact i_Year_act)) c_Act (Nat.le_of_ble_eq_true rfl) (fun rr MM qq => ?_)
    obtain ⟨rfl, rfl⟩ := And.imp id Eq.symm qq; clear qq
    refine Rn.aload_n d_Hill_whyNot_144 rfl ?_
    refine Rn.cVI d_Hill_whyNot_145 s_Hill_whyNot_Act_one g_344 g_345 g_346 ⟨rfl, rfl⟩ ⟨Nat.zero_le _, Nat.zero_le _⟩ (m_Act_one hc hC) rfl rfl (z_Act (by first | assumption | exact i_Telling_act | exact i_Year_act)) c_Act (Nat.le_of_ble_eq_true rfl) (fun rr MM qq => ?_)
    obtain ⟨rfl, rfl⟩ := And.imp id Eq.symm qq; clear qq
    refine In.icmp_lt (tgt := 153) d_Hill_whyNot_148 (by decide) ⟨by omega, by omega⟩ ⟨by omega, by omega⟩ (fun c148 => ?_) (fun c148 => ?_)
    · have hto := hV.t o (by omega) ho
      refine Rn.aload_n d_Hill_whyNot_153 rfl ?_
      refine Rn.getR d_Hill_whyNot_154 f_Hill_tree g_41 (z_Hill (by first | assumption | exact i_Image_hill (by assumption) | exact i_BH_hill | exact i_Telling_hill | exact i_Year_hill)) (r_Hill_tree (by first | assumption | exact i_Image_hill (by assumption) | exact i_BH_hill | exact i_Telling_hill | exact i_Year_hill) (by assumption)) ?_
      refine Rn.aload_n d_Hill_whyNot_157 rfl ?_
      refine Rn.cVI d_Hill_whyNot_158 s_Hill_whyNot_Act_one g_344 g_345 g_346 ⟨rfl, rfl⟩ ⟨Nat.zero_le _, Nat.zero_le _⟩ (m_Act_one hc hC) rfl rfl (z_Act (by first | assumption | exact i_Telling_act | exact i_Year_act)) c_Act (Nat.le_of_ble_eq_true rfl) (fun rr MM qq => ?_)
      obtain ⟨rfl, rfl⟩ := And.imp id Eq.symm qq; clear qq
      refine Rn.cVI d_Hill_whyNot_161 s_Hill_whyNot_Tree_parentOf g_363 g_226 g_227 ⟨rfl, rfl⟩ ⟨Nat.zero_le _, Nat.zero_le _⟩ (m_Tree_parentOf (i_Hill_tree hh) hG hA.1 (show 1 ≤ o by omega) ho) rfl rfl (z_Tree (by first | assumption | exact i_Hill_tree (by assumption) | exact i_Hill_tree i_BH_hill)) c_Tree (Nat.le_of_ble_eq_true rfl) (fun rr MM qq => ?_)
      obtain ⟨rfl, rfl⟩ := And.imp id Eq.symm qq; clear qq
      refine Rn.aload_n d_Hill_whyNot_164 rfl ?_
      refine Rn.cVI d_Hill_whyNot_165 s_Hill_whyNot_Act_other g_352 g_353 g_354 ⟨rfl, rfl⟩ ⟨Nat.zero_le _, Nat.zero_le _⟩ (m_Act_other hc hC) rfl rfl (z_Act (by first | assumption | exact i_Telling_act | exact i_Year_act)) c_Act (Nat.le_of_ble_eq_true rfl) (fun rr MM qq => ?_)
      obtain ⟨rfl, rfl⟩ := And.imp id Eq.symm qq; clear qq
      refine In.icmp_ne (tgt := 175) d_Hill_whyNot_168 (by decide) ⟨by omega, by omega⟩ ⟨by omega, by omega⟩ (fun c168 => ?_) (fun c168 => ?_)
      · refine Rn.iconst (v := iI 0) d_Hill_whyNot_175 rfl ?_
        exact Rn.iret d_Hill_whyNot_176 rfl rfl ⟨by unfold whyF; rw [if_neg (by decide), if_neg (by decide), if_neg (by decide), if_pos rfl, if_neg (by omega), if_neg c168], rfl⟩
      · refine Rn.iconst (v := iI 5) d_Hill_whyNot_171 rfl ?_
        refine Rn.goto (tgt := 176) d_Hill_whyNot_172 (by decide) ?_
        exact Rn.iret d_Hill_whyNot_176 rfl rfl ⟨by unfold whyF; rw [if_neg (by decide), if_neg (by decide), if_neg (by decide), if_pos rfl, if_neg (by omega), if_pos c168], rfl⟩
    · refine Rn.iconst (v := iI 5) d_Hill_whyNot_151 rfl ?_
      exact Rn.iret d_Hill_whyNot_152 rfl rfl ⟨by unfold whyF; rw [if_neg (by decide), if_neg (by decide), if_neg (by decide), if_pos rfl, if_pos (by omega)], rfl⟩
  · have hw := hV.w
    refine In.tabIn (off := 173) (tgt := 177) 4 d_Hill_whyNot_4 rfl (by decide) (by decide) rfl (by decide) ?_
    refine Rn.aload_n d_Hill_whyNot_177 rfl ?_
    refine In.getI d_Hill_whyNot_178 f_Hill_winter g_45 (z_Hill (by first | assumption | exact i_Image_hill (by assumption) | exact i_BH_hill | exact i_Telling_hill | exact i_Year_hill)) hA.2.2.2.2 ?_
    refine Rn.bipush (v := iI 99) d_Hill_whyNot_181 (by decide +kernel) ?_
    refine In.icmp_lt (tgt := 191) d_Hill_whyNot_183 (by decide) ⟨by omega, by omega⟩ ⟨by omega, by omega⟩ (fun c183 => ?_) (fun c183 => ?_)
    · refine Rn.iconst (v := iI 0) d_Hill_whyNot_191 rfl ?_
      exact Rn.iret d_Hill_whyNot_192 rfl rfl ⟨by unfold whyF; rw [if_neg (by decide), if_neg (by decide), if_neg (by decide), if_neg (by decide), if_pos rfl, if_pos (by omega)], rfl⟩
    · refine Rn.bipush (v := iI 6) d_Hill_whyNot_186 (by decide +kernel) ?_
      refine Rn.goto (tgt := 192) d_Hill_whyNot_188 (by decide) ?_
      exact Rn.iret d_Hill_whyNot_192 rfl rfl ⟨by unfold whyF; rw [if_neg (by decide), if_neg (by decide), if_neg (by decide), if_neg (by decide), if_pos rfl, if_neg (by omega)], rfl⟩
  · refine In.tabOut (tgt := 193) d_Hill_whyNot_4 ⟨by omega, by omega⟩ (by omega) (by decide) ?_
    refine Rn.iconst (v := iI 0) d_Hill_whyNot_193 rfl ?_
    exact Rn.iret d_Hill_whyNot_194 rfl rfl ⟨rfl, rfl⟩
theorem m_Hill_follow {M : wM} {h c k o p : Nat} {β : Nat → Int} (hh : isHill h) (hc : isAct c) (hG : M.2.2 = RG) (hA : hillAt M h β) (hV : hok β) (hk : aok k o p) (hC : actAt M c k o p) : EvV k_Hill_follow [.ref h, .ref c] SH M (fun M' => hillAt M' h (folF β k o p) ∧ Off M M' h (h + 5)) := by
  refine EvV.of 0 (by decide) (Nat.le_of_ble_eq_true rfl) rfl ?_
  obtain ⟨h5, h0, h1, h2, h3⟩ := hk
  refine Rn.aload_n d_Hill_follow_0 rfl ?_
  refine Rn.cVI d_Hill_follow_1 s_Hill_follow_Act_kind g_340 g_341 g_342 ⟨rfl, rfl⟩ ⟨Nat.zero_le _, Nat.zero_le _⟩ (m_Act_kind hc hC) rfl rfl (z_Act (by first | assumption | exact i_Telling_act | exact i_Year_act)) c_Act (Nat.le_of_ble_eq_true rfl) (fun rr MM qq => ?_)
  obtain ⟨rfl, rfl⟩ := And.imp id Eq.symm qq; clear qq
  rcases (show k = 0 ∨ k = 1 ∨ k = 2 ∨ k = 3 ∨ k = 4 ∨ k = 5 by omega) with rfl | rfl | rfl | rfl | rfl | rfl
  · obtain ⟨ho, hp⟩ := h0 rfl
    refine In.tabIn (off := 36) (tgt := 40) 0 d_Hill_follow_4 rfl (by decide) (by decide) rfl (by decide) ?_
    refine Rn.aload_n d_Hill_follow_40 rfl ?_
    refine Rn.aload_n d_Hill_follow_41 rfl ?_
    refine Rn.cVI d_Hill_follow_42 s_Hill_follow_Act_one g_344 g_345 g_346 ⟨rfl, rfl⟩ ⟨Nat.zero_le _, Nat.zero_le _⟩ (m_Act_one hc hC) rfl rfl (z_Act (by first | assumption | exact i_Telling_act | exact i_Year_act)) c_Act (Nat.le_of_ble_eq_true rfl) (fun rr MM qq => ?_)
    obtain ⟨rfl, rfl⟩ := And.imp id Eq.symm qq; clear qq
    refine Rn.aload_n d_Hill_follow_45 rfl ?_
    refine Rn.cVI d_Hill_follow_46 s_Hill_follow_Act_other g_352 g_353 g_354 ⟨rfl, rfl⟩ ⟨Nat.zero_le _, Nat.zero_le _⟩ (m_Act_other hc hC) rfl rfl (z_Act (by first | assumption | exact i_Telling_act | exact i_Year_act)) c_Act (Nat.le_of_ble_eq_true rfl) (fun rr MM qq => ?_)
    obtain ⟨rfl, rfl⟩ := And.imp id Eq.symm qq; clear qq
    refine Rn.aload_n d_Hill_follow_49 rfl ?_
    refine Rn.aload_n d_Hill_follow_50 rfl ?_
    refine Rn.cVI d_Hill_follow_51 s_Hill_follow_Act_one g_344 g_345 g_346 ⟨rfl, rfl⟩ ⟨Nat.zero_le _, Nat.zero_le _⟩ (m_Act_one hc hC) rfl rfl (z_Act (by first | assumption | exact i_Telling_act | exact i_Year_act)) c_Act (Nat.le_of_ble_eq_true rfl) (fun rr MM qq => ?_)
    obtain ⟨rfl, rfl⟩ := And.imp id Eq.symm qq; clear qq
    refine Rn.cVI d_Hill_follow_54 s_Hill_follow_Hill_chipsOf g_372 g_373 g_374 ⟨rfl, rfl⟩ ⟨Nat.zero_le _, Nat.zero_le _⟩ (m_Hill_chipsOf hh hG hA ho) rfl rfl (z_Hill (by first | assumption | exact i_Image_hill (by assumption) | exact i_BH_hill | exact i_Telling_hill | exact i_Year_hill)) c_Hill (Nat.le_of_ble_eq_true rfl) (fun rr MM qq => ?_)
    obtain ⟨rfl, rfl⟩ := And.imp id Eq.symm qq; clear qq
    refine Rn.cVV d_Hill_follow_57 s_Hill_follow_Hill_put g_376 g_257 g_258 ⟨rfl, rfl⟩ ⟨Nat.zero_le _, Nat.zero_le _⟩ (m_Hill_put hh hG hA hV ho) rfl rfl (z_Hill (by first | assumption | exact i_Image_hill (by assumption) | exact i_BH_hill | exact i_Telling_hill | exact i_Year_hill)) c_Hill (Nat.le_of_ble_eq_true rfl) (fun MM hq => ?_)
    refine Rn.goto (tgt := 130) d_Hill_follow_60 (by decide) ?_
    exact Rn.vret d_Hill_follow_130 rfl hq
  · have ho := h1 rfl
    refine In.tabIn (off := 59) (tgt := 63) 1 d_Hill_follow_4 rfl (by decide) (by decide) rfl (by decide) ?_
    refine Rn.aload_n d_Hill_follow_63 rfl ?_
    refine Rn.aload_n d_Hill_follow_64 rfl ?_
    refine Rn.cVI d_Hill_follow_65 s_Hill_follow_Act_one g_344 g_345 g_346 ⟨rfl, rfl⟩ ⟨Nat.zero_le _, Nat.zero_le _⟩ (m_Act_one hc hC) rfl rfl (z_Act (by first | assumption | exact i_Telling_act | exact i_Year_act)) c_Act (Nat.le_of_ble_eq_true rfl) (fun rr MM qq => ?_)
    obtain ⟨rfl, rfl⟩ := And.imp id Eq.symm qq; clear qq
    refine Rn.bipush (v := iI (-6)) d_Hill_follow_68 (by decide +kernel) ?_
    refine Rn.aload_n d_Hill_follow_70 rfl ?_
    refine Rn.aload_n d_Hill_follow_71 rfl ?_
    refine Rn.cVI d_Hill_follow_72 s_Hill_follow_Act_one g_344 g_345 g_346 ⟨rfl, rfl⟩ ⟨Nat.zero_le _, Nat.zero_le _⟩ (m_Act_one hc hC) rfl rfl (z_Act (by first | assumption | exact i_Telling_act | exact i_Year_act)) c_Act (Nat.le_of_ble_eq_true rfl) (fun rr MM qq => ?_)
    obtain ⟨rfl, rfl⟩ := And.imp id Eq.symm qq; clear qq
    refine Rn.cVI d_Hill_follow_75 s_Hill_follow_Hill_chipsOf g_372 g_373 g_374 ⟨rfl, rfl⟩ ⟨Nat.zero_le _, Nat.zero_le _⟩ (m_Hill_chipsOf hh hG hA ho) rfl rfl (z_Hill (by first | assumption | exact i_Image_hill (by assumption) | exact i_BH_hill | exact i_Telling_hill | exact i_Year_hill)) c_Hill (Nat.le_of_ble_eq_true rfl) (fun rr MM qq => ?_)
    obtain ⟨rfl, rfl⟩ := And.imp id Eq.symm qq; clear qq
    refine Rn.cVV d_Hill_follow_78 s_Hill_follow_Hill_put g_376 g_257 g_258 ⟨rfl, rfl⟩ ⟨Nat.zero_le _, Nat.zero_le _⟩ (m_Hill_put hh hG hA hV ho) rfl rfl (z_Hill (by first | assumption | exact i_Image_hill (by assumption) | exact i_BH_hill | exact i_Telling_hill | exact i_Year_hill)) c_Hill (Nat.le_of_ble_eq_true rfl) (fun MM hq => ?_)
    refine Rn.goto (tgt := 130) d_Hill_follow_81 (by decide) ?_
    exact Rn.vret d_Hill_follow_130 rfl hq
  · have ho := h2 rfl
    refine In.tabIn (off := 80) (tgt := 84) 2 d_Hill_follow_4 rfl (by decide) (by decide) rfl (by decide) ?_
    refine Rn.aload_n d_Hill_follow_84 rfl ?_
    refine Rn.aload_n d_Hill_follow_85 rfl ?_
    refine Rn.cVI d_Hill_follow_86 s_Hill_follow_Act_one g_344 g_345 g_346 ⟨rfl, rfl⟩ ⟨Nat.zero_le _, Nat.zero_le _⟩ (m_Act_one hc hC) rfl rfl (z_Act (by first | assumption | exact i_Telling_act | exact i_Year_act)) c_Act (Nat.le_of_ble_eq_true rfl) (fun rr MM qq => ?_)
    obtain ⟨rfl, rfl⟩ := And.imp id Eq.symm qq; clear qq
    refine Rn.cVV d_Hill_follow_89 s_Hill_follow_Hill_blow g_377 g_379 gs_1 ⟨rfl, rfl⟩ ⟨Nat.zero_le _, Nat.zero_le _⟩ (m_Hill_blow hh hG hA hV (show (-100 : Int) ≤ o ∧ (o : Int) ≤ 100 by omega)) rfl rfl (z_Hill (by first | assumption | exact i_Image_hill (by assumption) | exact i_BH_hill | exact i_Telling_hill | exact i_Year_hill)) c_Hill (Nat.le_of_ble_eq_true rfl) (fun MM hq => ?_)
    refine Rn.goto (tgt := 130) d_Hill_follow_92 (by decide) ?_
    exact Rn.vret d_Hill_follow_130 rfl hq
  · obtain ⟨ho, hp⟩ := h3 rfl
    refine In.tabIn (off := 91) (tgt := 95) 3 d_Hill_follow_4 rfl (by decide) (by decide) rfl (by decide) ?_
    refine Rn.aload_n d_Hill_follow_95 rfl ?_
    refine Rn.getR d_Hill_follow_96 f_Hill_tree g_41 (z_Hill (by first | assumption | exact i_Image_hill (by assumption) | exact i_BH_hill | exact i_Telling_hill | exact i_Year_hill)) (r_Hill_tree (by first | assumption | exact i_Image_hill (by assumption) | exact i_BH_hill | exact i_Telling_hill | exact i_Year_hill) (by assumption)) ?_
    refine Rn.aload_n d_Hill_follow_99 rfl ?_
    refine Rn.cVI d_Hill_follow_100 s_Hill_follow_Act_one g_344 g_345 g_346 ⟨rfl, rfl⟩ ⟨Nat.zero_le _, Nat.zero_le _⟩ (m_Act_one hc hC) rfl rfl (z_Act (by first | assumption | exact i_Telling_act | exact i_Year_act)) c_Act (Nat.le_of_ble_eq_true rfl) (fun rr MM qq => ?_)
    obtain ⟨rfl, rfl⟩ := And.imp id Eq.symm qq; clear qq
    refine Rn.aload_n d_Hill_follow_103 rfl ?_
    refine Rn.cVI d_Hill_follow_104 s_Hill_follow_Act_other g_352 g_353 g_354 ⟨rfl, rfl⟩ ⟨Nat.zero_le _, Nat.zero_le _⟩ (m_Act_other hc hC) rfl rfl (z_Act (by first | assumption | exact i_Telling_act | exact i_Year_act)) c_Act (Nat.le_of_ble_eq_true rfl) (fun rr MM qq => ?_)
    obtain ⟨rfl, rfl⟩ := And.imp id Eq.symm qq; clear qq
    refine Rn.cVV d_Hill_follow_107 s_Hill_follow_Tree_bend g_401 g_230 g_231 ⟨rfl, rfl⟩ ⟨Nat.zero_le _, Nat.zero_le _⟩ (m_Tree_bend (i_Hill_tree hh) hG hA.1 ho) rfl rfl (z_Tree (by first | assumption | exact i_Hill_tree (by assumption) | exact i_Hill_tree i_BH_hill)) c_Tree (Nat.le_of_ble_eq_true rfl) (fun MM qq => ?_)
    obtain ⟨hT, hO⟩ := qq
    refine Rn.goto (tgt := 130) d_Hill_follow_110 (by decide) ?_
    have ef : folF β 3 o p = up β o p := by simp [folF]
    rw [ef]
    refine Rn.vret d_Hill_follow_130 rfl ⟨⟨hT, fun x hx => ?_, fun x hx => ?_, ?_, ?_⟩, hO.wide (by omega) (by omega)⟩
    · rw [hO.1 _ (by omega)]; rw [up_ne _ _ _ _ (by omega)]; exact hA.2.1 x hx
    · rw [hO.1 _ (by omega)]; rw [up_ne _ _ _ _ (by omega)]; exact hA.2.2.1 x hx
    · rw [hO.1 _ (by omega)]; rw [up_ne _ _ _ _ (by omega)]; exact hA.2.2.2.1
    · rw [hO.1 _ (by omega)]; rw [up_ne _ _ _ _ (by omega)]; exact hA.2.2.2.2
  · refine In.tabIn (off := 109) (tgt := 113) 4 d_Hill_follow_4 rfl (by decide) (by decide) rfl (by decide) ?_
    refine Rn.aload_n d_Hill_follow_113 rfl ?_
    refine Rn.cVV d_Hill_follow_114 s_Hill_follow_Hill_packAll g_402 g_404 gs_3 ⟨rfl, rfl⟩ ⟨Nat.zero_le _, Nat.zero_le _⟩ (m_Hill_packAll hh hG hA) rfl rfl (z_Hill (by first | assumption | exact i_Image_hill (by assumption) | exact i_BH_hill | exact i_Telling_hill | exact i_Year_hill)) c_Hill (Nat.le_of_ble_eq_true rfl) (fun MM qq => ?_)
    obtain ⟨hA2, hO⟩ := qq
    have hG := hO.G hG
    have e25 : packN β 6 25 = β 25 := by rw [packN_if, if_neg (by omega)]
    refine Rn.aload_n d_Hill_follow_117 rfl ?_
    refine Rn.dup d_Hill_follow_118 rfl ?_
    refine In.getI d_Hill_follow_119 f_Hill_winter g_45 (z_Hill (by first | assumption | exact i_Image_hill (by assumption) | exact i_BH_hill | exact i_Telling_hill | exact i_Year_hill)) (by rw [hA2.2.2.2.2, e25]) ?_
    refine Rn.iconst (v := iI 1) d_Hill_follow_122 rfl ?_
    refine In.add d_Hill_follow_123 ?_
    refine In.putI d_Hill_follow_124 f_Hill_winter g_45 (z_Hill (by first | assumption | exact i_Image_hill (by assumption) | exact i_BH_hill | exact i_Telling_hill | exact i_Year_hill)) ?_
    refine Rn.goto (tgt := 130) d_Hill_follow_127 (by decide) ?_
    have ef : folF β 4 o p = up (packN β 6) 25 (β 25 + 1) := by simp [folF]
    rw [ef]
    refine Rn.vret d_Hill_follow_130 rfl ⟨⟨fun x hx hx2 => ?_, fun x hx => ?_, fun x hx => ?_, ?_, ?_⟩, hO.tr ((Off.ui _ _ _ _).wide (by omega) (by omega))⟩
    · rw [w_ui_if, if_neg (by omega)]; rw [up_ne _ _ _ _ (by omega)]; exact hA2.1 x hx hx2
    · rw [w_ui_if, if_neg (by omega)]; rw [up_ne _ _ _ _ (by omega)]; exact hA2.2.1 x hx
    · rw [w_ui_if, if_neg (by omega)]; rw [up_ne _ _ _ _ (by omega)]; exact hA2.2.2.1 x hx
    · rw [w_ui_if, if_neg (by omega)]; rw [up_ne _ _ _ _ (by omega)]; exact hA2.2.2.2.1
    · rw [w_ui_at]; rw [up_at]
  · refine In.tabOut (tgt := 130) d_Hill_follow_4 ⟨by omega, by omega⟩ (by omega) (by decide) ?_
    exact Rn.vret d_Hill_follow_130 rfl ⟨hA, Off.rf⟩
