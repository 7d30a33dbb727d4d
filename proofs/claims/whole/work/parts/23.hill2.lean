/-! Tree's sets; Hill's acts. -/
set_option maxRecDepth 20000
set_option maxHeartbeats 400000
theorem m_Tree_bend {M : wM} {t l : Nat} {p : Int} {f : Nat → Int} (hh : isTree t) (hG : M.2.2 = RG) (hT : treeAt M t f) (hl : l < 12) : EvV k_Tree_bend [.ref t, .int (iI l), .int (iI p)] SH M (fun M' => treeAt M' t (up f l p) ∧ Off M M' (t + 1) (t + 2)) := by
  refine EvV.of 0 (by decide) (Nat.le_of_ble_eq_true rfl) rfl ?_
  refine Rn.iload_n d_Tree_bend_0 rfl ?_
  refine In.if_lt (tgt := 20) d_Tree_bend_1 (by decide) ⟨by omega, by omega⟩ (fun c1 => ?_) (fun c1 => ?_)
  · omega
  · refine Rn.iload_n d_Tree_bend_4 rfl ?_
    refine Rn.aload_n d_Tree_bend_5 rfl ?_
    refine Rn.getR d_Tree_bend_6 f_Tree_parents g_36 (z_Tree (by first | assumption | exact i_Hill_tree (by assumption) | exact i_Hill_tree i_BH_hill)) (r_Tree_parents (by first | assumption | exact i_Hill_tree (by assumption) | exact i_Hill_tree i_BH_hill) (by assumption)) ?_
    refine In.alen d_Tree_bend_9 (z_Tree_parents (by first | assumption | exact i_Hill_tree (by assumption) | exact i_Hill_tree i_BH_hill)) (by decide) ?_
    refine In.icmp_ge (tgt := 20) d_Tree_bend_10 (by decide) ⟨by omega, by omega⟩ ⟨by omega, by omega⟩ (fun c10 => ?_) (fun c10 => ?_)
    · omega
    · refine Rn.aload_n d_Tree_bend_13 rfl ?_
      refine Rn.getR d_Tree_bend_14 f_Tree_parents g_36 (z_Tree (by first | assumption | exact i_Hill_tree (by assumption) | exact i_Hill_tree i_BH_hill)) (r_Tree_parents (by first | assumption | exact i_Hill_tree (by assumption) | exact i_Hill_tree i_BH_hill) (by assumption)) ?_
      refine Rn.iload_n d_Tree_bend_17 rfl ?_
      refine Rn.iload_n d_Tree_bend_18 rfl ?_
      refine In.ast d_Tree_bend_19 (z_Tree_parents (by first | assumption | exact i_Hill_tree (by assumption) | exact i_Hill_tree i_BH_hill)) rfl hl (by decide) ?_
      refine Rn.vret d_Tree_bend_20 rfl ⟨fun k h1 h2 => ?_, Off.ui _ _ _ _⟩
      rw [w_ui_if]
      by_cases e : k = l
      · subst e; rw [if_pos ⟨rfl, rfl⟩, up_at]
      · rw [if_neg (fun q => e q.2), up_ne _ _ _ _ e]; exact hT k h1 h2
theorem m_Tree_copyFrom {M : wM} {t t2 : Nat} {f : Nat → Int} (hh : isTree t) (hh2 : isTree t2) (hne : t ≠ t2) (hG : M.2.2 = RG) (hT : treeAt M t2 f) : EvV k_Tree_copyFrom [.ref t, .ref t2] SH M (fun M' => treeAt M' t f ∧ Off M M' (t + 1) (t + 2)) := by
  refine EvV.of 0 (by decide) (Nat.le_of_ble_eq_true rfl) rfl ?_
  refine Rn.aload_n d_Tree_copyFrom_0 rfl ?_
  refine Rn.getR d_Tree_copyFrom_1 f_Tree_parents g_36 (z_Tree (by first | assumption | exact i_Hill_tree (by assumption) | exact i_Hill_tree i_BH_hill)) (r_Tree_parents (by first | assumption | exact i_Hill_tree (by assumption) | exact i_Hill_tree i_BH_hill) (by assumption)) ?_
  refine Rn.aload_n d_Tree_copyFrom_4 rfl ?_
  refine Rn.getR d_Tree_copyFrom_5 f_Tree_parents g_36 (z_Tree (by first | assumption | exact i_Hill_tree (by assumption) | exact i_Hill_tree i_BH_hill)) (r_Tree_parents (by first | assumption | exact i_Hill_tree (by assumption) | exact i_Hill_tree i_BH_hill) (by assumption)) ?_
  refine Rn.cSNV d_Tree_copyFrom_8 s_Tree_copyFrom_BH_copyRow (j := 13) (host := "BaubleHill") rfl g_319 ⟨rfl, rfl⟩ ⟨Nat.zero_le _, Nat.zero_le _⟩ (m_BH_copyRow (z_Tree_parents hh2) (z_Tree_parents hh) (by omega) (by decide)) rfl rfl (Nat.le_of_ble_eq_true rfl) (fun MM qq => ?_)
  obtain ⟨h2, h3⟩ := qq
  exact Rn.vret d_Tree_copyFrom_11 rfl ⟨fun k h4 h5 => by rw [h2 k h5]; exact hT k h4 h5, h3⟩
theorem m_Tree_way {M : wM} {t a b : Nat} {f : Nat → Int} (hh : isTree t) (hG : M.2.2 = RG) (hT : treeAt M t f) (hf : tok f) (ha : a < 12) (hb : b < 12) : EvI k_Tree_way [.ref t, .int (iI a), .int (iI b)] SH M (fun r M' => r = iI (wayS f a b) ∧ M' = M) := by
  refine EvI.of 3 (by decide) (Nat.le_of_ble_eq_true rfl) rfl ?_
  refine Rn.aload_n d_Tree_way_0 rfl ?_
  refine Rn.iload_n d_Tree_way_1 rfl ?_
  refine Rn.iload_n d_Tree_way_2 rfl ?_
  refine Rn.cVI d_Tree_way_3 s_Tree_way_Tree_distance g_385 g_386 g_387 ⟨rfl, rfl⟩ ⟨Nat.zero_le _, Nat.zero_le _⟩ (m_Tree_distance hh hG hT hf ha hb) rfl rfl (z_Tree (by first | assumption | exact i_Hill_tree (by assumption) | exact i_Hill_tree i_BH_hill)) c_Tree (Nat.le_of_ble_eq_true rfl) (fun rr MM qq => ?_)
  obtain ⟨rfl, rfl⟩ := And.imp id Eq.symm qq; clear qq
  refine Rn.istore_n (lv1 := [_, _, _, _, _, _]) d_Tree_way_6 (by decide) (w_pv rfl) rfl ?_
  refine Rn.iconst (v := iI 0) d_Tree_way_7 rfl ?_
  refine Rn.istore (lv1 := [_, _, _, _, _, _]) d_Tree_way_8 (by decide) (w_pv rfl) rfl ?_
  refine Rn.iconst (v := iI 0) d_Tree_way_10 rfl ?_
  refine Rn.istore (lv1 := [_, _, _, _, _, _]) d_Tree_way_11 (by decide) (w_pv rfl) rfl ?_
  unfold wayS
  obtain ⟨P, hP⟩ : ∃ P : Nat → Bool, P = fun l => decide (dist f a l + dist f l b = dist f a b) := ⟨_, rfl⟩
  rw [← hP]
  have loop : ∀ (n i : Nat), i + n = 12 → Rn k_Tree_way none (0, 0) 13 [some (.ref t), some (.int (iI a)), some (.int (iI b)), some (.int (iI (dist f a b))), some (.int (iI (setOf P i))), some (.int (iI i))] [] SH M (w_FI (0, 0) SH (fun r M' => r = iI (setOf P 12) ∧ M' = M)) := by
    intro n
    induction n with
    | zero =>
      intro i h1
      refine Rn.iload d_Tree_way_13 rfl ?_
      refine Rn.bipush (v := iI 12) d_Tree_way_15 (by decide +kernel) ?_
      refine In.icmp_ge (tgt := 54) d_Tree_way_17 (by decide) ⟨by omega, by omega⟩ ⟨by omega, by omega⟩ (fun c17 => ?_) (fun c17 => ?_)
      · refine Rn.iload d_Tree_way_54 rfl ?_
        have : i = 12 := by omega
        subst this
        exact Rn.iret d_Tree_way_56 rfl rfl ⟨rfl, rfl⟩
      · omega
    | succ n ih =>
      intro i h1
      have hi : i < 12 := by omega
      have d1 := dist_22 hf ha hi
      have d2 := dist_22 hf hi hb
      have d3 := dist_22 hf ha hb
      have ih := ih (i + 1) (by omega)
      simp only [setOf] at ih
      refine Rn.iload d_Tree_way_13 rfl ?_
      refine Rn.bipush (v := iI 12) d_Tree_way_15 (by decide +kernel) ?_
      refine In.icmp_ge (tgt := 54) d_Tree_way_17 (by decide) ⟨by omega, by omega⟩ ⟨by omega, by omega⟩ (fun c17 => ?_) (fun c17 => ?_)
      · omega
      · refine Rn.aload_n d_Tree_way_20 rfl ?_
        refine Rn.iload_n d_Tree_way_21 rfl ?_
        refine Rn.iload d_Tree_way_22 rfl ?_
        refine Rn.cVI d_Tree_way_24 s_Tree_way_Tree_distance g_385 g_386 g_387 ⟨rfl, rfl⟩ ⟨Nat.zero_le _, Nat.zero_le _⟩ (m_Tree_distance hh hG hT hf ha hi) rfl rfl (z_Tree (by first | assumption | exact i_Hill_tree (by assumption) | exact i_Hill_tree i_BH_hill)) c_Tree (Nat.le_of_ble_eq_true rfl) (fun rr MM qq => ?_)
        obtain ⟨rfl, rfl⟩ := And.imp id Eq.symm qq; clear qq
        refine Rn.aload_n d_Tree_way_27 rfl ?_
        refine Rn.iload d_Tree_way_28 rfl ?_
        refine Rn.iload_n d_Tree_way_30 rfl ?_
        refine Rn.cVI d_Tree_way_31 s_Tree_way_Tree_distance g_385 g_386 g_387 ⟨rfl, rfl⟩ ⟨Nat.zero_le _, Nat.zero_le _⟩ (m_Tree_distance hh hG hT hf hi hb) rfl rfl (z_Tree (by first | assumption | exact i_Hill_tree (by assumption) | exact i_Hill_tree i_BH_hill)) c_Tree (Nat.le_of_ble_eq_true rfl) (fun rr MM qq => ?_)
        obtain ⟨rfl, rfl⟩ := And.imp id Eq.symm qq; clear qq
        refine In.add d_Tree_way_34 ?_
        refine Rn.iload_n d_Tree_way_35 rfl ?_
        refine In.icmp_ne (tgt := 48) d_Tree_way_36 (by decide) ⟨by omega, by omega⟩ ⟨by omega, by omega⟩ (fun c36 => ?_) (fun c36 => ?_)
        · refine In.inc (lv1 := [_, _, _, _, _, _]) d_Tree_way_48 rfl (by decide) (w_pv rfl) rfl ?_
          refine Rn.goto (tgt := 13) d_Tree_way_51 (by decide) ?_
          rw [if_neg (by rw [hP]; simp; omega)] at ih
          exact ih
        · refine Rn.iload d_Tree_way_39 rfl ?_
          refine Rn.iconst (v := iI 1) d_Tree_way_41 rfl ?_
          refine Rn.iload d_Tree_way_42 rfl ?_
          refine In.shl rfl (by omega) d_Tree_way_44 ?_
          refine In.or rfl rfl d_Tree_way_45 ?_
          refine Rn.istore (lv1 := [_, _, _, _, _, _]) d_Tree_way_46 (by decide) (w_pv rfl) rfl ?_
          refine In.inc (lv1 := [_, _, _, _, _, _]) d_Tree_way_48 rfl (by decide) (w_pv rfl) rfl ?_
          refine Rn.goto (tgt := 13) d_Tree_way_51 (by decide) ?_
          rw [if_pos (by rw [hP]; simp; omega)] at ih
          exact ih
  exact loop 12 0 rfl
theorem m_Tree_ring {M : wM} {t l : Nat} {lo hi : Int} {f : Nat → Int} (hh : isTree t) (hG : M.2.2 = RG) (hT : treeAt M t f) (hf : tok f) (hl : l < 12) (hlo : -100 ≤ lo ∧ lo ≤ 100) (hhi : -100 ≤ hi ∧ hi ≤ 100) : EvI k_Tree_ring [.ref t, .int (iI l), .int (iI lo), .int (iI hi)] SH M (fun r M' => r = iI (ringS f l lo hi) ∧ M' = M) := by
  refine EvI.of 3 (by decide) (Nat.le_of_ble_eq_true rfl) rfl ?_
  refine Rn.iconst (v := iI 0) d_Tree_ring_0 rfl ?_
  refine Rn.istore (lv1 := [_, _, _, _, _, _, _]) d_Tree_ring_1 (by decide) (w_pv rfl) rfl ?_
  refine Rn.iconst (v := iI 0) d_Tree_ring_3 rfl ?_
  refine Rn.istore (lv1 := [_, _, _, _, _, _, _]) d_Tree_ring_4 (by decide) (w_pv rfl) rfl ?_
  unfold ringS
  obtain ⟨P, hP⟩ : ∃ P : Nat → Bool, P = fun o => decide (lo ≤ dist f l o) && decide ((dist f l o : Int) ≤ hi) := ⟨_, rfl⟩
  rw [← hP]
  have loop : ∀ (n i : Nat) (x6 : Option Value), i + n = 12 → Rn k_Tree_ring none (0, 0) 6 [some (.ref t), some (.int (iI l)), some (.int (iI lo)), some (.int (iI hi)), some (.int (iI (setOf P i))), some (.int (iI i)), x6] [] SH M (w_FI (0, 0) SH (fun r M' => r = iI (setOf P 12) ∧ M' = M)) := by
    intro n
    induction n with
    | zero =>
      intro i x6 h1
      refine Rn.iload d_Tree_ring_6 rfl ?_
      refine Rn.bipush (v := iI 12) d_Tree_ring_8 (by decide +kernel) ?_
      refine In.icmp_ge (tgt := 49) d_Tree_ring_10 (by decide) ⟨by omega, by omega⟩ ⟨by omega, by omega⟩ (fun c10 => ?_) (fun c10 => ?_)
      · refine Rn.iload d_Tree_ring_49 rfl ?_
        have : i = 12 := by omega
        subst this
        exact Rn.iret d_Tree_ring_51 rfl rfl ⟨rfl, rfl⟩
      · omega
    | succ n ih =>
      intro i x6 h1
      have hi : i < 12 := by omega
      have d1 := dist_22 hf hl hi
      have ih := fun x => ih (i + 1) x (by omega)
      simp only [setOf] at ih
      refine Rn.iload d_Tree_ring_6 rfl ?_
      refine Rn.bipush (v := iI 12) d_Tree_ring_8 (by decide +kernel) ?_
      refine In.icmp_ge (tgt := 49) d_Tree_ring_10 (by decide) ⟨by omega, by omega⟩ ⟨by omega, by omega⟩ (fun c10 => ?_) (fun c10 => ?_)
      · omega
      · refine Rn.aload_n d_Tree_ring_13 rfl ?_
        refine Rn.iload_n d_Tree_ring_14 rfl ?_
        refine Rn.iload d_Tree_ring_15 rfl ?_
        refine Rn.cVI d_Tree_ring_17 s_Tree_ring_Tree_distance g_385 g_386 g_387 ⟨rfl, rfl⟩ ⟨Nat.zero_le _, Nat.zero_le _⟩ (m_Tree_distance hh hG hT hf hl hi) rfl rfl (z_Tree (by first | assumption | exact i_Hill_tree (by assumption) | exact i_Hill_tree i_BH_hill)) c_Tree (Nat.le_of_ble_eq_true rfl) (fun rr MM qq => ?_)
        obtain ⟨rfl, rfl⟩ := And.imp id Eq.symm qq; clear qq
        refine Rn.istore (lv1 := [_, _, _, _, _, _, _]) d_Tree_ring_20 (by decide) (w_pv rfl) rfl ?_
        refine Rn.iload d_Tree_ring_22 rfl ?_
        refine Rn.iload_n d_Tree_ring_24 rfl ?_
        refine In.icmp_lt (tgt := 43) d_Tree_ring_25 (by decide) ⟨by omega, by omega⟩ ⟨by omega, by omega⟩ (fun c25 => ?_) (fun c25 => ?_)
        · refine In.inc (lv1 := [_, _, _, _, _, _, _]) d_Tree_ring_43 rfl (by decide) (w_pv rfl) rfl ?_
          refine Rn.goto (tgt := 6) d_Tree_ring_46 (by decide) ?_
          rw [if_neg (by rw [hP]; simp; omega)] at ih
          exact ih _
        · refine Rn.iload d_Tree_ring_28 rfl ?_
          refine Rn.iload_n d_Tree_ring_30 rfl ?_
          refine In.icmp_gt (tgt := 43) d_Tree_ring_31 (by decide) ⟨by omega, by omega⟩ ⟨by omega, by omega⟩ (fun c31 => ?_) (fun c31 => ?_)
          · refine In.inc (lv1 := [_, _, _, _, _, _, _]) d_Tree_ring_43 rfl (by decide) (w_pv rfl) rfl ?_
            refine Rn.goto (tgt := 6) d_Tree_ring_46 (by decide) ?_
            rw [if_neg (by rw [hP]; simp; omega)] at ih
            exact ih _
          · refine Rn.iload d_Tree_ring_34 rfl ?_
            refine Rn.iconst (v := iI 1) d_Tree_ring_36 rfl ?_
            refine Rn.iload d_Tree_ring_37 rfl ?_
            refine In.shl rfl (by omega) d_Tree_ring_39 ?_
            refine In.or rfl rfl d_Tree_ring_40 ?_
            refine Rn.istore (lv1 := [_, _, _, _, _, _, _]) d_Tree_ring_41 (by decide) (w_pv rfl) rfl ?_
            refine In.inc (lv1 := [_, _, _, _, _, _, _]) d_Tree_ring_43 rfl (by decide) (w_pv rfl) rfl ?_
            refine Rn.goto (tgt := 6) d_Tree_ring_46 (by decide) ?_
            rw [if_pos (by rw [hP]; simp; omega)] at ih
            exact ih _
  exact loop 12 0 _ rfl
theorem m_Tree_howFar {M : wM} {t l s : Nat} {far : Bool} {f : Nat → Int} (hh : isTree t) (hG : M.2.2 = RG) (hT : treeAt M t f) (hf : tok f) (hl : l < 12) (hs : s < 4096) : EvI k_Tree_howFar [.ref t, .int (iI l), .int (iI s), .int (iI (if far then 1 else 0))] SH M (fun r M' => r = iI (howF f l s far 12) ∧ M' = M) := by
  refine EvI.of 3 (by decide) (Nat.le_of_ble_eq_true rfl) rfl ?_
  refine Rn.iconst (v := iI 0) d_Tree_howFar_0 rfl ?_
  refine Rn.istore (lv1 := [_, _, _, _, _, _, _]) d_Tree_howFar_1 (by decide) (w_pv rfl) rfl ?_
  refine Rn.iconst (v := iI 0) d_Tree_howFar_3 rfl ?_
  refine Rn.istore (lv1 := [_, _, _, _, _, _, _]) d_Tree_howFar_4 (by decide) (w_pv rfl) rfl ?_
  have loop : ∀ (n i : Nat) (x6 : Option Value), i + n = 12 → Rn k_Tree_howFar none (0, 0) 6 [some (.ref t), some (.int (iI l)), some (.int (iI s)), some (.int (iI (if far then 1 else 0))), some (.int (iI (howF f l s far i))), some (.int (iI i)), x6] [] SH M (w_FI (0, 0) SH (fun r M' => r = iI (howF f l s far 12) ∧ M' = M)) := by
    intro n
    induction n with
    | zero =>
      intro i x6 h1
      refine Rn.iload d_Tree_howFar_6 rfl ?_
      refine Rn.bipush (v := iI 12) d_Tree_howFar_8 (by decide +kernel) ?_
      refine In.icmp_ge (tgt := 61) d_Tree_howFar_10 (by decide) ⟨by omega, by omega⟩ ⟨by omega, by omega⟩ (fun c10 => ?_) (fun c10 => ?_)
      · refine Rn.iload d_Tree_howFar_61 rfl ?_
        have : i = 12 := by omega
        subst this
        exact Rn.iret d_Tree_howFar_63 rfl rfl ⟨rfl, rfl⟩
      · omega
    | succ n ih =>
      intro i x6 h1
      have hi : i < 12 := by omega
      have d1 := dist_22 hf hl hi
      have d2 := howF_le hf (s := s) hl far i (by omega)
      have ih := fun x => ih (i + 1) x (by omega)
      refine Rn.iload d_Tree_howFar_6 rfl ?_
      refine Rn.bipush (v := iI 12) d_Tree_howFar_8 (by decide +kernel) ?_
      refine In.icmp_ge (tgt := 61) d_Tree_howFar_10 (by decide) ⟨by omega, by omega⟩ ⟨by omega, by omega⟩ (fun c10 => ?_) (fun c10 => ?_)
      · omega
      · refine Rn.iload_n d_Tree_howFar_13 rfl ?_
        refine Rn.iload d_Tree_howFar_14 rfl ?_
        refine Rn.cSNI d_Tree_howFar_16 s_Tree_howFar_BH_holds (j := 16) (host := "BaubleHill") rfl g_253 ⟨rfl, rfl⟩ ⟨Nat.zero_le _, Nat.zero_le _⟩ (m_BH_holds (show s < 2147483648 by omega) (show i < 31 by omega)) rfl rfl (Nat.le_of_ble_eq_true rfl) (fun rr MM qq => ?_)
        obtain ⟨rfl, rfl⟩ := And.imp id Eq.symm qq; clear qq
        refine In.if_ne (tgt := 25) d_Tree_howFar_19 (by decide) fl_rg (fun c19 => ?_) (fun c19 => ?_)
        · have hb : s.testBit i = true := fl_ne c19
          refine Rn.aload_n d_Tree_howFar_25 rfl ?_
          refine Rn.iload_n d_Tree_howFar_26 rfl ?_
          refine Rn.iload d_Tree_howFar_27 rfl ?_
          refine Rn.cVI d_Tree_howFar_29 s_Tree_howFar_Tree_distance g_385 g_386 g_387 ⟨rfl, rfl⟩ ⟨Nat.zero_le _, Nat.zero_le _⟩ (m_Tree_distance hh hG hT hf hl hi) rfl rfl (z_Tree (by first | assumption | exact i_Hill_tree (by assumption) | exact i_Hill_tree i_BH_hill)) c_Tree (Nat.le_of_ble_eq_true rfl) (fun rr MM qq => ?_)
          obtain ⟨rfl, rfl⟩ := And.imp id Eq.symm qq; clear qq
          refine Rn.istore (lv1 := [_, _, _, _, _, _, _]) d_Tree_howFar_32 (by decide) (w_pv rfl) rfl ?_
          refine Rn.iload_n d_Tree_howFar_34 rfl ?_
          refine In.if_eq (tgt := 48) d_Tree_howFar_35 (by decide) fl_rg (fun c35 => ?_) (fun c35 => ?_)
          · have hb2 : far = false := Bool.eq_false_iff.mpr (fl_eq c35)
            subst hb2
            refine Rn.iload d_Tree_howFar_48 rfl ?_
            refine Rn.iload d_Tree_howFar_50 rfl ?_
            refine In.add d_Tree_howFar_52 ?_
            refine Rn.istore (lv1 := [_, _, _, _, _, _, _]) d_Tree_howFar_53 (by decide) (w_pv rfl) rfl ?_
            refine In.inc (lv1 := [_, _, _, _, _, _, _]) d_Tree_howFar_55 rfl (by decide) (w_pv rfl) rfl ?_
            refine Rn.goto (tgt := 6) d_Tree_howFar_58 (by decide) ?_
            have e : howF f l s false (i + 1) = howF f l s false i + dist f l i := by simp [howF, hb]
            have ih := ih (some (.int (iI (dist f l i))))
            rw [e] at ih
            exact ih
          · have hb2 : far = true := fl_ne c35
            subst hb2
            refine Rn.iload d_Tree_howFar_38 rfl ?_
            refine Rn.iload d_Tree_howFar_40 rfl ?_
            refine In.max ⟨by omega, by omega⟩ ⟨by omega, by omega⟩ d_Tree_howFar_42 g_392 g_393 g_14 g_394 (Nat.le_of_ble_eq_true rfl) (Nat.le_of_ble_eq_true rfl) ?_
            refine Rn.goto (tgt := 53) d_Tree_howFar_45 (by decide) ?_
            refine Rn.istore (lv1 := [_, _, _, _, _, _, _]) d_Tree_howFar_53 (by decide) (w_pv rfl) rfl ?_
            refine In.inc (lv1 := [_, _, _, _, _, _, _]) d_Tree_howFar_55 rfl (by decide) (w_pv rfl) rfl ?_
            refine Rn.goto (tgt := 6) d_Tree_howFar_58 (by decide) ?_
            rw [cmax]
            have e : howF f l s true (i + 1) = (if howF f l s true i < dist f l i then dist f l i else howF f l s true i) := by simp [howF, hb]
            have ih := ih (some (.int (iI (dist f l i))))
            rw [e] at ih
            exact ih
        · have hb : s.testBit i = false := Bool.eq_false_iff.mpr (fl_eq c19)
          refine Rn.goto (tgt := 55) d_Tree_howFar_22 (by decide) ?_
          refine In.inc (lv1 := [_, _, _, _, _, _, _]) d_Tree_howFar_55 rfl (by decide) (w_pv rfl) rfl ?_
          refine Rn.goto (tgt := 6) d_Tree_howFar_58 (by decide) ?_
          have e : howF f l s far (i + 1) = howF f l s far i := by simp [howF, hb]
          have ih := ih x6
          rw [e] at ih
          exact ih
  exact loop 12 0 _ rfl
theorem m_Tree_mostLeft {M : wM} {t l s : Nat} {f : Nat → Int} (hh : isTree t) (hG : M.2.2 = RG) (hT : treeAt M t f) (hf : tok f) (hl : l < 12) : EvI k_Tree_mostLeft [.ref t, .int (iI l), .int (iI s)] SH M (fun r M' => r = iI (mlF f l s 12) ∧ M' = M) := by
  refine EvI.of 2 (by decide) (Nat.le_of_ble_eq_true rfl) rfl ?_
  refine Rn.iconst (v := iI 0) d_Tree_mostLeft_0 rfl ?_
  refine Rn.istore_n (lv1 := [_, _, _, _, _]) d_Tree_mostLeft_1 (by decide) (w_pv rfl) rfl ?_
  refine Rn.iconst (v := iI 0) d_Tree_mostLeft_2 rfl ?_
  refine Rn.istore (lv1 := [_, _, _, _, _]) d_Tree_mostLeft_3 (by decide) (w_pv rfl) rfl ?_
  have loop : ∀ (n i : Nat), i + n = 12 → Rn k_Tree_mostLeft none (0, 0) 5 [some (.ref t), some (.int (iI l)), some (.int (iI s)), some (.int (iI (mlF f l s i))), some (.int (iI i))] [] SH M (w_FI (0, 0) SH (fun r M' => r = iI (mlF f l s 12) ∧ M' = M)) := by
    intro n
    induction n with
    | zero =>
      intro i h1
      refine Rn.iload d_Tree_mostLeft_5 rfl ?_
      refine Rn.bipush (v := iI 11) d_Tree_mostLeft_7 (by decide +kernel) ?_
      refine In.icmp_gt (tgt := 37) d_Tree_mostLeft_9 (by decide) ⟨by omega, by omega⟩ ⟨by omega, by omega⟩ (fun c9 => ?_) (fun c9 => ?_)
      · refine Rn.iload_n d_Tree_mostLeft_37 rfl ?_
        have : i = 12 := by omega
        subst this
        exact Rn.iret d_Tree_mostLeft_38 rfl rfl ⟨rfl, rfl⟩
      · omega
    | succ n ih =>
      intro i h1
      have d1 := mlF_le f l s i
      have d2 := pc_le (ringS f l i i &&& s)
      have ih := ih (i + 1) (by omega)
      simp only [mlF] at ih
      refine Rn.iload d_Tree_mostLeft_5 rfl ?_
      refine Rn.bipush (v := iI 11) d_Tree_mostLeft_7 (by decide +kernel) ?_
      refine In.icmp_gt (tgt := 37) d_Tree_mostLeft_9 (by decide) ⟨by omega, by omega⟩ ⟨by omega, by omega⟩ (fun c9 => ?_) (fun c9 => ?_)
      · omega
      · refine Rn.iload_n d_Tree_mostLeft_12 rfl ?_
        refine Rn.aload_n d_Tree_mostLeft_13 rfl ?_
        refine Rn.iload_n d_Tree_mostLeft_14 rfl ?_
        refine Rn.iload d_Tree_mostLeft_15 rfl ?_
        refine Rn.iload d_Tree_mostLeft_17 rfl ?_
        refine Rn.cVI d_Tree_mostLeft_19 s_Tree_mostLeft_Tree_ring g_560 g_382 g_383 ⟨rfl, rfl⟩ ⟨Nat.zero_le _, Nat.zero_le _⟩ (m_Tree_ring hh hG hT hf hl (show (-100 : Int) ≤ i ∧ (i : Int) ≤ 100 by omega) (show (-100 : Int) ≤ i ∧ (i : Int) ≤ 100 by omega)) rfl rfl (z_Tree (by first | assumption | exact i_Hill_tree (by assumption) | exact i_Hill_tree i_BH_hill)) c_Tree (Nat.le_of_ble_eq_true rfl) (fun rr MM qq => ?_)
        obtain ⟨rfl, rfl⟩ := And.imp id Eq.symm qq; clear qq
        refine Rn.iload_n d_Tree_mostLeft_22 rfl ?_
        refine In.and rfl rfl d_Tree_mostLeft_23 ?_
        refine Rn.cSI d_Tree_mostLeft_24 s_Tree_mostLeft_Int_bitCount g_561 g_358 ⟨rfl, rfl⟩ ⟨Nat.zero_le _, Nat.zero_le _⟩ (m_Int_bitCount (and_4096 (ringS_lt f l i i))) rfl rfl (Nat.le_of_ble_eq_true rfl) (fun rr MM qq => ?_)
        obtain ⟨rfl, rfl⟩ := And.imp id Eq.symm qq; clear qq
        refine In.max ⟨by omega, by omega⟩ ⟨by omega, by omega⟩ d_Tree_mostLeft_27 g_392 g_393 g_14 g_394 (Nat.le_of_ble_eq_true rfl) (Nat.le_of_ble_eq_true rfl) ?_
        refine Rn.istore_n (lv1 := [_, _, _, _, _]) d_Tree_mostLeft_30 (by decide) (w_pv rfl) rfl ?_
        refine In.inc (lv1 := [_, _, _, _, _]) d_Tree_mostLeft_31 rfl (by decide) (w_pv rfl) rfl ?_
        refine Rn.goto (tgt := 5) d_Tree_mostLeft_34 (by decide) ?_
        rw [cmax]
        exact ih
  exact loop 12 0 rfl
theorem m_Hill_put {M : wM} {h b : Nat} {l c : Int} {β : Nat → Int} (hh : isHill h) (hG : M.2.2 = RG) (hA : hillAt M h β) (hV : hok β) (hb : b < 6) : EvV k_Hill_put [.ref h, .int (iI b), .int (iI l), .int (iI c)] SH M (fun M' => hillAt M' h (putF β b l c) ∧ Off M M' h (h + 5)) := by
  refine EvV.of 0 (by decide) (Nat.le_of_ble_eq_true rfl) rfl ?_
  have hb24 := hok_bk hV
  refine Rn.iload_n d_Hill_put_0 rfl ?_
  refine In.if_lt (tgt := 22) d_Hill_put_1 (by decide) ⟨by omega, by omega⟩ (fun c1 => ?_) (fun c1 => ?_)
  · omega
  · refine Rn.iload_n d_Hill_put_4 rfl ?_
    refine Rn.aload_n d_Hill_put_5 rfl ?_
    refine Rn.getR d_Hill_put_6 f_Hill_loops g_42 (z_Hill (by first | assumption | exact i_Image_hill (by assumption) | exact i_BH_hill | exact i_Telling_hill | exact i_Year_hill)) (r_Hill_loops (by first | assumption | exact i_Image_hill (by assumption) | exact i_BH_hill | exact i_Telling_hill | exact i_Year_hill) (by assumption)) ?_
    refine In.alen d_Hill_put_9 (z_Hill_loops (by first | assumption | exact i_Image_hill (by assumption) | exact i_BH_hill | exact i_Telling_hill | exact i_Year_hill)) (by decide) ?_
    refine In.icmp_ge (tgt := 22) d_Hill_put_10 (by decide) ⟨by omega, by omega⟩ ⟨by omega, by omega⟩ (fun c10 => ?_) (fun c10 => ?_)
    · omega
    · refine Rn.iload_n d_Hill_put_13 rfl ?_
      refine Rn.aload_n d_Hill_put_14 rfl ?_
      refine Rn.getR d_Hill_put_15 f_Hill_chips g_43 (z_Hill (by first | assumption | exact i_Image_hill (by assumption) | exact i_BH_hill | exact i_Telling_hill | exact i_Year_hill)) (r_Hill_chips (by first | assumption | exact i_Image_hill (by assumption) | exact i_BH_hill | exact i_Telling_hill | exact i_Year_hill) (by assumption)) ?_
      refine In.alen d_Hill_put_18 (z_Hill_chips (by first | assumption | exact i_Image_hill (by assumption) | exact i_BH_hill | exact i_Telling_hill | exact i_Year_hill)) (by decide) ?_
      refine In.icmp_lt (tgt := 23) d_Hill_put_19 (by decide) ⟨by omega, by omega⟩ ⟨by omega, by omega⟩ (fun c19 => ?_) (fun c19 => ?_)
      · refine Rn.aload_n d_Hill_put_23 rfl ?_
        refine Rn.getR d_Hill_put_24 f_Hill_loops g_42 (z_Hill (by first | assumption | exact i_Image_hill (by assumption) | exact i_BH_hill | exact i_Telling_hill | exact i_Year_hill)) (r_Hill_loops (by first | assumption | exact i_Image_hill (by assumption) | exact i_BH_hill | exact i_Telling_hill | exact i_Year_hill) (by assumption)) ?_
        refine Rn.iload_n d_Hill_put_27 rfl ?_
        refine Rn.iload_n d_Hill_put_28 rfl ?_
        refine In.ast d_Hill_put_29 (z_Hill_loops (by first | assumption | exact i_Image_hill (by assumption) | exact i_BH_hill | exact i_Telling_hill | exact i_Year_hill)) rfl hb (by decide) ?_
        refine Rn.aload_n d_Hill_put_30 rfl ?_
        refine Rn.getR d_Hill_put_31 f_Hill_chips g_43 (z_Hill (by first | assumption | exact i_Image_hill (by assumption) | exact i_BH_hill | exact i_Telling_hill | exact i_Year_hill)) (r_Hill_chips (by first | assumption | exact i_Image_hill (by assumption) | exact i_BH_hill | exact i_Telling_hill | exact i_Year_hill) (by assumption)) ?_
        refine Rn.iload_n d_Hill_put_34 rfl ?_
        refine Rn.iload_n d_Hill_put_35 rfl ?_
        refine In.ast d_Hill_put_36 (z_Hill_chips (by first | assumption | exact i_Image_hill (by assumption) | exact i_BH_hill | exact i_Telling_hill | exact i_Year_hill)) rfl hb (by decide) ?_
        refine Rn.aload_n d_Hill_put_37 rfl ?_
        refine Rn.dup d_Hill_put_38 rfl ?_
        refine In.getI d_Hill_put_39 f_Hill_broken g_44 (z_Hill (by first | assumption | exact i_Image_hill (by assumption) | exact i_BH_hill | exact i_Telling_hill | exact i_Year_hill)) (by rw [w_ui_off _ _ _ _ _ (by omega), w_ui_off _ _ _ _ _ (by omega)]; exact hA.2.2.2.1.trans (congrArg iI hb24.1)) ?_
        refine Rn.iconst (v := iI 1) d_Hill_put_42 rfl ?_
        refine Rn.iload_n d_Hill_put_43 rfl ?_
        refine In.shl rfl (by omega) d_Hill_put_44 ?_
        refine Rn.iconst (v := iI (-1)) d_Hill_put_45 rfl ?_
        refine Rn.ixor d_Hill_put_46 ?_
        refine Rn.iand d_Hill_put_47 ?_
        rw [clr_ok _ hb24.2 b hb]
        refine In.putI d_Hill_put_48 f_Hill_broken g_44 (z_Hill (by first | assumption | exact i_Image_hill (by assumption) | exact i_BH_hill | exact i_Telling_hill | exact i_Year_hill)) ?_
        refine Rn.vret d_Hill_put_51 rfl ⟨⟨fun k h1 h2 => ?_, fun x hx => ?_, fun x hx => ?_, ?_, ?_⟩, ((Off.ui _ _ _ _).wide (by omega) (by omega)).tr (((Off.ui _ _ _ _).wide (by omega) (by omega)).tr ((Off.ui _ _ _ _).wide (by omega) (by omega)))⟩
        · rw [w_ui_if, if_neg (by omega), w_ui_if, if_neg (by omega), w_ui_if, if_neg (by omega), putF_lo h2]; exact hA.1 k h1 h2
        · rw [w_ui_if, if_neg (by omega), w_ui_if, if_neg (by omega), w_ui_if, putF_l hb hx]
          by_cases e : x = b
          · rw [if_pos ⟨rfl, e⟩, if_pos e]
          · rw [if_neg (fun q => e q.2), if_neg e]; exact hA.2.1 x hx
        · rw [w_ui_if, if_neg (by omega), w_ui_if, putF_c hb hx]
          by_cases e : x = b
          · rw [if_pos ⟨rfl, e⟩, if_pos e]
          · rw [if_neg (fun q => e q.2), if_neg e, w_ui_if, if_neg (by omega)]; exact hA.2.2.1 x hx
        · rw [w_ui_at, putF_24]
        · rw [w_ui_if, if_neg (by omega), w_ui_if, if_neg (by omega), w_ui_if, if_neg (by omega), putF_25 hb]; exact hA.2.2.2.2
      · omega
theorem m_Hill_copyFrom {M : wM} {h h2 : Nat} {β : Nat → Int} (hh : isHill h) (hh2 : isHill h2) (hne : h + 5 ≤ h2 ∨ h2 + 5 ≤ h) (hG : M.2.2 = RG) (hA : hillAt M h2 β) : EvV k_Hill_copyFrom [.ref h, .ref h2] SH M (fun M' => hillAt M' h β ∧ Off M M' h (h + 5)) := by
  refine EvV.of 0 (by decide) (Nat.le_of_ble_eq_true rfl) rfl ?_
  refine Rn.aload_n d_Hill_copyFrom_0 rfl ?_
  refine Rn.getR d_Hill_copyFrom_1 f_Hill_tree g_41 (z_Hill (by first | assumption | exact i_Image_hill (by assumption) | exact i_BH_hill | exact i_Telling_hill | exact i_Year_hill)) (r_Hill_tree (by first | assumption | exact i_Image_hill (by assumption) | exact i_BH_hill | exact i_Telling_hill | exact i_Year_hill) (by assumption)) ?_
  refine Rn.aload_n d_Hill_copyFrom_4 rfl ?_
  refine Rn.getR d_Hill_copyFrom_5 f_Hill_tree g_41 (z_Hill (by first | assumption | exact i_Image_hill (by assumption) | exact i_BH_hill | exact i_Telling_hill | exact i_Year_hill)) (r_Hill_tree (by first | assumption | exact i_Image_hill (by assumption) | exact i_BH_hill | exact i_Telling_hill | exact i_Year_hill) (by assumption)) ?_
  refine Rn.cVV d_Hill_copyFrom_8 s_Hill_copyFrom_Tree_copyFrom g_314 g_315 g_316 ⟨rfl, rfl⟩ ⟨Nat.zero_le _, Nat.zero_le _⟩ (m_Tree_copyFrom (i_Hill_tree hh) (i_Hill_tree hh2) (by omega) hG hA.1) rfl rfl (z_Tree (by first | assumption | exact i_Hill_tree (by assumption) | exact i_Hill_tree i_BH_hill)) c_Tree (Nat.le_of_ble_eq_true rfl) (fun MM qq => ?_)
  obtain ⟨hT, hO⟩ := qq
  have hG := hO.G hG
  have hA1 := hA.off hO (by omega)
  refine Rn.aload_n d_Hill_copyFrom_11 rfl ?_
  refine Rn.getR d_Hill_copyFrom_12 f_Hill_loops g_42 (z_Hill (by first | assumption | exact i_Image_hill (by assumption) | exact i_BH_hill | exact i_Telling_hill | exact i_Year_hill)) (r_Hill_loops (by first | assumption | exact i_Image_hill (by assumption) | exact i_BH_hill | exact i_Telling_hill | exact i_Year_hill) (by assumption)) ?_
  refine Rn.aload_n d_Hill_copyFrom_15 rfl ?_
  refine Rn.getR d_Hill_copyFrom_16 f_Hill_loops g_42 (z_Hill (by first | assumption | exact i_Image_hill (by assumption) | exact i_BH_hill | exact i_Telling_hill | exact i_Year_hill)) (r_Hill_loops (by first | assumption | exact i_Image_hill (by assumption) | exact i_BH_hill | exact i_Telling_hill | exact i_Year_hill) (by assumption)) ?_
  refine Rn.cSNV d_Hill_copyFrom_19 s_Hill_copyFrom_BH_copyRow (j := 14) (host := "BaubleHill") rfl g_319 ⟨rfl, rfl⟩ ⟨Nat.zero_le _, Nat.zero_le _⟩ (m_BH_copyRow (z_Hill_loops hh2) (z_Hill_loops hh) (by omega) (by decide)) rfl rfl (Nat.le_of_ble_eq_true rfl) (fun M2 h2 => ?_)
  obtain ⟨hL, hO2⟩ := h2
  have hG := hO2.G hG
  have hA2 := hA1.off hO2 (by omega)
  have hT := hT.off hO2 (by omega)
  refine Rn.aload_n d_Hill_copyFrom_22 rfl ?_
  refine Rn.getR d_Hill_copyFrom_23 f_Hill_chips g_43 (z_Hill (by first | assumption | exact i_Image_hill (by assumption) | exact i_BH_hill | exact i_Telling_hill | exact i_Year_hill)) (r_Hill_chips (by first | assumption | exact i_Image_hill (by assumption) | exact i_BH_hill | exact i_Telling_hill | exact i_Year_hill) (by assumption)) ?_
  refine Rn.aload_n d_Hill_copyFrom_26 rfl ?_
  refine Rn.getR d_Hill_copyFrom_27 f_Hill_chips g_43 (z_Hill (by first | assumption | exact i_Image_hill (by assumption) | exact i_BH_hill | exact i_Telling_hill | exact i_Year_hill)) (r_Hill_chips (by first | assumption | exact i_Image_hill (by assumption) | exact i_BH_hill | exact i_Telling_hill | exact i_Year_hill) (by assumption)) ?_
  refine Rn.cSNV d_Hill_copyFrom_30 s_Hill_copyFrom_BH_copyRow (j := 14) (host := "BaubleHill") rfl g_319 ⟨rfl, rfl⟩ ⟨Nat.zero_le _, Nat.zero_le _⟩ (m_BH_copyRow (z_Hill_chips hh2) (z_Hill_chips hh) (by omega) (by decide)) rfl rfl (Nat.le_of_ble_eq_true rfl) (fun M3 h3 => ?_)
  obtain ⟨hC, hO3⟩ := h3
  have hG := hO3.G hG
  have hA3 := hA2.off hO3 (by omega)
  have hT := hT.off hO3 (by omega)
  have hOO : Off M M3 h (h + 5) := ((hO.wide (by omega) (by omega)).tr (hO2.wide (by omega) (by omega))).tr (hO3.wide (by omega) (by omega))
  refine Rn.aload_n d_Hill_copyFrom_33 rfl ?_
  refine Rn.aload_n d_Hill_copyFrom_34 rfl ?_
  refine In.getI d_Hill_copyFrom_35 f_Hill_broken g_44 (z_Hill (by first | assumption | exact i_Image_hill (by assumption) | exact i_BH_hill | exact i_Telling_hill | exact i_Year_hill)) hA3.2.2.2.1 ?_
  refine In.putI d_Hill_copyFrom_38 f_Hill_broken g_44 (z_Hill (by first | assumption | exact i_Image_hill (by assumption) | exact i_BH_hill | exact i_Telling_hill | exact i_Year_hill)) ?_
  refine Rn.aload_n d_Hill_copyFrom_41 rfl ?_
  refine Rn.aload_n d_Hill_copyFrom_42 rfl ?_
  refine In.getI d_Hill_copyFrom_43 f_Hill_winter g_45 (z_Hill (by first | assumption | exact i_Image_hill (by assumption) | exact i_BH_hill | exact i_Telling_hill | exact i_Year_hill)) (by rw [w_ui_off _ _ _ _ _ (by omega)]; exact hA3.2.2.2.2) ?_
  refine In.putI d_Hill_copyFrom_46 f_Hill_winter g_45 (z_Hill (by first | assumption | exact i_Image_hill (by assumption) | exact i_BH_hill | exact i_Telling_hill | exact i_Year_hill)) ?_
  refine Rn.vret d_Hill_copyFrom_49 rfl ⟨⟨fun k h1 h2 => ?_, fun x hx => ?_, fun x hx => ?_, ?_, ?_⟩, hOO.tr (((Off.ui _ _ _ _).wide (by omega) (by omega)).tr ((Off.ui _ _ _ _).wide (by omega) (by omega)))⟩
  · rw [w_ui_if, if_neg (by omega), w_ui_if, if_neg (by omega)]; exact hT k h1 h2
  · rw [w_ui_if, if_neg (by omega), w_ui_if, if_neg (by omega), hO3.1 _ (by omega), hL x hx]; exact hA1.2.1 x hx
  · rw [w_ui_if, if_neg (by omega), w_ui_if, if_neg (by omega), hC x hx]; exact hA2.2.2.1 x hx
  · rw [w_ui_if, if_neg (by omega), w_ui_at]
  · rw [w_ui_at]
theorem m_Hill_packAll {M : wM} {h : Nat} {β : Nat → Int} (hh : isHill h) (hG : M.2.2 = RG) (hA : hillAt M h β) : EvV k_Hill_packAll [.ref h] SH M (fun M' => hillAt M' h (packN β 6) ∧ Off M M' h (h + 5)) := by
  refine EvV.of 1 (by decide) (Nat.le_of_ble_eq_true rfl) rfl ?_
  refine Rn.iconst (v := iI 0) d_Hill_packAll_0 rfl ?_
  refine Rn.istore_n (lv1 := [_, _]) d_Hill_packAll_1 (by decide) (w_pv rfl) rfl ?_
  have loop : ∀ (n i : Nat) (Mc : wM), i + n = 6 → hillAt Mc h (packN β i) → Off M Mc h (h + 5) → Rn k_Hill_packAll none (0, 0) 2 [some (.ref h), some (.int (iI i))] [] SH Mc (w_FV (0, 0) SH (fun M' => hillAt M' h (packN β 6) ∧ Off M M' h (h + 5))) := by
    intro n
    induction n with
    | zero =>
      intro i Mc h1 h2 h3
      have hG := h3.G hG
      refine Rn.iload_n d_Hill_packAll_2 rfl ?_
      refine Rn.aload_n d_Hill_packAll_3 rfl ?_
      refine Rn.getR d_Hill_packAll_4 f_Hill_loops g_42 (z_Hill (by first | assumption | exact i_Image_hill (by assumption) | exact i_BH_hill | exact i_Telling_hill | exact i_Year_hill)) (r_Hill_loops (by first | assumption | exact i_Image_hill (by assumption) | exact i_BH_hill | exact i_Telling_hill | exact i_Year_hill) (by assumption)) ?_
      refine In.alen d_Hill_packAll_7 (z_Hill_loops (by first | assumption | exact i_Image_hill (by assumption) | exact i_BH_hill | exact i_Telling_hill | exact i_Year_hill)) (by decide) ?_
      refine In.icmp_ge (tgt := 25) d_Hill_packAll_8 (by decide) ⟨by omega, by omega⟩ ⟨by omega, by omega⟩ (fun c8 => ?_) (fun c8 => ?_)
      · have : i = 6 := by omega
        subst this
        exact Rn.vret d_Hill_packAll_25 rfl ⟨h2, h3⟩
      · omega
    | succ n ih =>
      intro i Mc h1 h2 h3
      have hG := h3.G hG
      refine Rn.iload_n d_Hill_packAll_2 rfl ?_
      refine Rn.aload_n d_Hill_packAll_3 rfl ?_
      refine Rn.getR d_Hill_packAll_4 f_Hill_loops g_42 (z_Hill (by first | assumption | exact i_Image_hill (by assumption) | exact i_BH_hill | exact i_Telling_hill | exact i_Year_hill)) (r_Hill_loops (by first | assumption | exact i_Image_hill (by assumption) | exact i_BH_hill | exact i_Telling_hill | exact i_Year_hill) (by assumption)) ?_
      refine In.alen d_Hill_packAll_7 (z_Hill_loops (by first | assumption | exact i_Image_hill (by assumption) | exact i_BH_hill | exact i_Telling_hill | exact i_Year_hill)) (by decide) ?_
      refine In.icmp_ge (tgt := 25) d_Hill_packAll_8 (by decide) ⟨by omega, by omega⟩ ⟨by omega, by omega⟩ (fun c8 => ?_) (fun c8 => ?_)
      · omega
      · refine Rn.aload_n d_Hill_packAll_11 rfl ?_
        refine Rn.getR d_Hill_packAll_12 f_Hill_loops g_42 (z_Hill (by first | assumption | exact i_Image_hill (by assumption) | exact i_BH_hill | exact i_Telling_hill | exact i_Year_hill)) (r_Hill_loops (by first | assumption | exact i_Image_hill (by assumption) | exact i_BH_hill | exact i_Telling_hill | exact i_Year_hill) (by assumption)) ?_
        refine Rn.iload_n d_Hill_packAll_15 rfl ?_
        refine Rn.bipush (v := iI (-6)) d_Hill_packAll_16 (by decide +kernel) ?_
        refine In.ast d_Hill_packAll_18 (z_Hill_loops (by first | assumption | exact i_Image_hill (by assumption) | exact i_BH_hill | exact i_Telling_hill | exact i_Year_hill)) rfl (by omega) (by decide) ?_
        refine In.inc (lv1 := [_, _]) d_Hill_packAll_19 rfl (by decide) (w_pv rfl) rfl ?_
        refine Rn.goto (tgt := 2) d_Hill_packAll_22 (by decide) ?_
        refine ih (i + 1) _ (by omega) ⟨fun k h4 h5 => ?_, fun x hx => ?_, fun x hx => ?_, ?_, ?_⟩ (h3.tr ((Off.ui _ _ _ _).wide (by omega) (by omega)))
        · rw [w_ui_if, if_neg (by omega)]; simp only [packN]; rw [up_ne _ _ _ _ (by omega)]; exact h2.1 k h4 h5
        · simp only [packN]; rw [w_ui_if]
          by_cases e : x = i
          · rw [if_pos ⟨rfl, e⟩, e, up_at]
          · rw [if_neg (fun q => e q.2), up_ne _ _ _ _ (by omega)]; exact h2.2.1 x hx
        · rw [w_ui_if, if_neg (by omega)]; simp only [packN]; rw [up_ne _ _ _ _ (by omega)]; exact h2.2.2.1 x hx
        · rw [w_ui_if, if_neg (by omega)]; simp only [packN]; rw [up_ne _ _ _ _ (by omega)]; exact h2.2.2.2.1
        · rw [w_ui_if, if_neg (by omega)]; simp only [packN]; rw [up_ne _ _ _ _ (by omega)]; exact h2.2.2.2.2
  exact loop 6 0 M rfl hA Off.rf
theorem m_Hill_chip {M : wM} {h b m : Nat} {β : Nat → Int} (hh : isHill h) (hG : M.2.2 = RG) (hA : hillAt M h β) (hV : hok β) (hb : b < 6) (hm : m < 100) : EvV k_Hill_chip [.ref h, .int (iI b), .int (iI m)] SH M (fun M' => hillAt M' h (chipF β b m) ∧ Off M M' h (h + 5)) := by
  refine EvV.of 1 (by decide) (Nat.le_of_ble_eq_true rfl) rfl ?_
  have hc := hV.c b hb
  unfold chipF
  refine Rn.aload_n d_Hill_chip_0 rfl ?_
  refine Rn.iload_n d_Hill_chip_1 rfl ?_
  refine Rn.cVI d_Hill_chip_2 s_Hill_chip_Hill_chipsOf g_372 g_373 g_374 ⟨rfl, rfl⟩ ⟨Nat.zero_le _, Nat.zero_le _⟩ (m_Hill_chipsOf hh hG hA hb) rfl rfl (z_Hill (by first | assumption | exact i_Image_hill (by assumption) | exact i_BH_hill | exact i_Telling_hill | exact i_Year_hill)) c_Hill (Nat.le_of_ble_eq_true rfl) (fun rr MM qq => ?_)
  obtain ⟨rfl, rfl⟩ := And.imp id Eq.symm qq; clear qq
  refine Rn.iload_n d_Hill_chip_5 rfl ?_
  refine In.add d_Hill_chip_6 ?_
  refine Rn.bipush (v := iI 9) d_Hill_chip_7 (by decide +kernel) ?_
  refine In.min ⟨by omega, by omega⟩ ⟨by omega, by omega⟩ d_Hill_chip_9 g_400 g_390 g_14 g_391 (Nat.le_of_ble_eq_true rfl) (Nat.le_of_ble_eq_true rfl) ?_
  refine Rn.istore_n (lv1 := [_, _, _, _]) d_Hill_chip_12 (by decide) (w_pv rfl) rfl ?_
  refine Rn.iload_n d_Hill_chip_13 rfl ?_
  refine Rn.bipush (v := iI 9) d_Hill_chip_14 (by decide +kernel) ?_
  refine In.icmp_ge (tgt := 33) d_Hill_chip_16 (by decide) (mn_rg hc hm) ⟨by omega, by omega⟩ (fun c16 => ?_) (fun c16 => ?_)
  · have e : ¬ β (18 + b) + m < 9 := mn_ge c16
    have e9 : (if (9 : Int) < β (18 + b) + m then (9 : Int) else β (18 + b) + m) = 9 := mn_9 e
    rw [e9, if_neg e]
    refine Rn.aload_n d_Hill_chip_33 rfl ?_
    refine Rn.iload_n d_Hill_chip_34 rfl ?_
    refine Rn.bipush (v := iI (-6)) d_Hill_chip_35 (by decide +kernel) ?_
    refine Rn.iload_n d_Hill_chip_37 rfl ?_
    refine Rn.cVV d_Hill_chip_38 s_Hill_chip_Hill_put g_376 g_257 g_258 ⟨rfl, rfl⟩ ⟨Nat.zero_le _, Nat.zero_le _⟩ (m_Hill_put hh hG hA hV hb) rfl rfl (z_Hill (by first | assumption | exact i_Image_hill (by assumption) | exact i_BH_hill | exact i_Telling_hill | exact i_Year_hill)) c_Hill (Nat.le_of_ble_eq_true rfl) (fun MM qq => ?_)
    obtain ⟨hA2, hO⟩ := qq
    have hG := hO.G hG
    refine Rn.aload_n d_Hill_chip_41 rfl ?_
    refine Rn.dup d_Hill_chip_42 rfl ?_
    refine In.getI d_Hill_chip_43 f_Hill_broken g_44 (z_Hill (by first | assumption | exact i_Image_hill (by assumption) | exact i_BH_hill | exact i_Telling_hill | exact i_Year_hill)) (hA2.2.2.2.1.trans (congrArg iI (putF_24 _ _ _ _))) ?_
    refine Rn.iconst (v := iI 1) d_Hill_chip_46 rfl ?_
    refine Rn.iload_n d_Hill_chip_47 rfl ?_
    refine In.shl rfl (by omega) d_Hill_chip_48 ?_
    refine In.or rfl rfl d_Hill_chip_49 ?_
    refine In.putI d_Hill_chip_50 f_Hill_broken g_44 (z_Hill (by first | assumption | exact i_Image_hill (by assumption) | exact i_BH_hill | exact i_Telling_hill | exact i_Year_hill)) ?_
    refine Rn.vret d_Hill_chip_53 rfl ⟨⟨fun k h1 h2 => ?_, fun x hx => ?_, fun x hx => ?_, ?_, ?_⟩, hO.tr ((Off.ui _ _ _ _).wide (by omega) (by omega))⟩
    · rw [w_ui_if, if_neg (by omega), up_ne _ _ _ _ (by omega)]; exact hA2.1 k h1 h2
    · rw [w_ui_if, if_neg (by omega), up_ne _ _ _ _ (by omega)]; exact hA2.2.1 x hx
    · rw [w_ui_if, if_neg (by omega), up_ne _ _ _ _ (by omega)]; exact hA2.2.2.1 x hx
    · rw [w_ui_at, up_at]
    · rw [w_ui_if, if_neg (by omega), up_ne _ _ _ _ (by omega)]; exact hA2.2.2.2.2
  · have e : β (18 + b) + m < 9 := mn_lt c16
    have e9 : (if (9 : Int) < β (18 + b) + m then (9 : Int) else β (18 + b) + m) = β (18 + b) + m := if_neg (by omega)
    rw [e9, if_pos e]
    refine Rn.aload_n d_Hill_chip_19 rfl ?_
    refine Rn.iload_n d_Hill_chip_20 rfl ?_
    refine Rn.aload_n d_Hill_chip_21 rfl ?_
    refine Rn.iload_n d_Hill_chip_22 rfl ?_
    refine Rn.cVI d_Hill_chip_23 s_Hill_chip_Hill_loopOf g_244 g_245 g_246 ⟨rfl, rfl⟩ ⟨Nat.zero_le _, Nat.zero_le _⟩ (m_Hill_loopOf hh hG hA hb) rfl rfl (z_Hill (by first | assumption | exact i_Image_hill (by assumption) | exact i_BH_hill | exact i_Telling_hill | exact i_Year_hill)) c_Hill (Nat.le_of_ble_eq_true rfl) (fun rr MM qq => ?_)
    obtain ⟨rfl, rfl⟩ := And.imp id Eq.symm qq; clear qq
    refine Rn.iload_n d_Hill_chip_26 rfl ?_
    refine Rn.cVV d_Hill_chip_27 s_Hill_chip_Hill_put g_376 g_257 g_258 ⟨rfl, rfl⟩ ⟨Nat.zero_le _, Nat.zero_le _⟩ (m_Hill_put hh hG hA hV hb) rfl rfl (z_Hill (by first | assumption | exact i_Image_hill (by assumption) | exact i_BH_hill | exact i_Telling_hill | exact i_Year_hill)) c_Hill (Nat.le_of_ble_eq_true rfl) (fun MM qq => ?_)
    obtain ⟨hA2, hO⟩ := qq
    refine Rn.goto (tgt := 53) d_Hill_chip_30 (by decide) ?_
    exact Rn.vret d_Hill_chip_53 rfl ⟨hA2, hO⟩
theorem m_Hill_blow {M : wM} {h : Nat} {far : Int} {β : Nat → Int} (hh : isHill h) (hG : M.2.2 = RG) (hA : hillAt M h β) (hV : hok β) (hfar : -100 ≤ far ∧ far ≤ 100) : EvV k_Hill_blow [.ref h, .int (iI far)] SH M (fun M' => hillAt M' h (blowN β far 6) ∧ Off M M' h (h + 5)) := by
  refine EvV.of 3 (by decide) (Nat.le_of_ble_eq_true rfl) rfl ?_
  refine Rn.aload_n d_Hill_blow_0 rfl ?_
  refine Rn.cVI d_Hill_blow_1 s_Hill_blow_Hill_hungLoops g_248 g_249 g_250 ⟨rfl, rfl⟩ ⟨Nat.zero_le _, Nat.zero_le _⟩ (m_Hill_hungLoops hh hG hA hV.l) rfl rfl (z_Hill (by first | assumption | exact i_Image_hill (by assumption) | exact i_BH_hill | exact i_Telling_hill | exact i_Year_hill)) c_Hill (Nat.le_of_ble_eq_true rfl) (fun rr MM qq => ?_)
  obtain ⟨rfl, rfl⟩ := And.imp id Eq.symm qq; clear qq
  refine Rn.istore_n (lv1 := [_, _, _, _, _]) d_Hill_blow_4 (by decide) (w_pv rfl) rfl ?_
  refine Rn.iconst (v := iI 0) d_Hill_blow_5 rfl ?_
  refine Rn.istore_n (lv1 := [_, _, _, _, _]) d_Hill_blow_6 (by decide) (w_pv rfl) rfl ?_
  have loop : ∀ (n i : Nat) (Mc : wM) (x4 : Option Value), i + n = 6 → hillAt Mc h (blowN β far i) → Off M Mc h (h + 5) → Rn k_Hill_blow none (0, 0) 7 [some (.ref h), some (.int (iI far)), some (.int (iI (hungS β 6))), some (.int (iI i)), x4] [] SH Mc (w_FV (0, 0) SH (fun M' => hillAt M' h (blowN β far 6) ∧ Off M M' h (h + 5))) := by
    intro n
    induction n with
    | zero =>
      intro i Mc x4 h1 h2 h3
      have hG := h3.G hG
      refine Rn.iload_n d_Hill_blow_7 rfl ?_
      refine Rn.aload_n d_Hill_blow_8 rfl ?_
      refine Rn.getR d_Hill_blow_9 f_Hill_loops g_42 (z_Hill (by first | assumption | exact i_Image_hill (by assumption) | exact i_BH_hill | exact i_Telling_hill | exact i_Year_hill)) (r_Hill_loops (by first | assumption | exact i_Image_hill (by assumption) | exact i_BH_hill | exact i_Telling_hill | exact i_Year_hill) (by assumption)) ?_
      refine In.alen d_Hill_blow_12 (z_Hill_loops (by first | assumption | exact i_Image_hill (by assumption) | exact i_BH_hill | exact i_Telling_hill | exact i_Year_hill)) (by decide) ?_
      refine In.icmp_ge (tgt := 61) d_Hill_blow_13 (by decide) ⟨by omega, by omega⟩ ⟨by omega, by omega⟩ (fun c13 => ?_) (fun c13 => ?_)
      · have : i = 6 := by omega
        subst this
        exact Rn.vret d_Hill_blow_61 rfl ⟨h2, h3⟩
      · omega
    | succ n ih =>
      intro i Mc x4 h1 h2 h3
      have hG := h3.G hG
      have hVi := blowN_ok hV far i (by omega)
      have hli := hV.l i (by omega)
      have ei : blowN β far i (12 + i) = β (12 + i) := blowN_off i (by omega) (fun b hb => by omega) (by omega)
      have hx : Mc.1 (h + 3) i = iI (β (12 + i)) := by rw [h2.2.1 i (by omega), ei]
      have ih := fun Mc x => ih (i + 1) Mc x (by omega)
      simp only [blowN] at ih
      refine Rn.iload_n d_Hill_blow_7 rfl ?_
      refine Rn.aload_n d_Hill_blow_8 rfl ?_
      refine Rn.getR d_Hill_blow_9 f_Hill_loops g_42 (z_Hill (by first | assumption | exact i_Image_hill (by assumption) | exact i_BH_hill | exact i_Telling_hill | exact i_Year_hill)) (r_Hill_loops (by first | assumption | exact i_Image_hill (by assumption) | exact i_BH_hill | exact i_Telling_hill | exact i_Year_hill) (by assumption)) ?_
      refine In.alen d_Hill_blow_12 (z_Hill_loops (by first | assumption | exact i_Image_hill (by assumption) | exact i_BH_hill | exact i_Telling_hill | exact i_Year_hill)) (by decide) ?_
      refine In.icmp_ge (tgt := 61) d_Hill_blow_13 (by decide) ⟨by omega, by omega⟩ ⟨by omega, by omega⟩ (fun c13 => ?_) (fun c13 => ?_)
      · omega
      · refine Rn.aload_n d_Hill_blow_16 rfl ?_
        refine Rn.getR d_Hill_blow_17 f_Hill_loops g_42 (z_Hill (by first | assumption | exact i_Image_hill (by assumption) | exact i_BH_hill | exact i_Telling_hill | exact i_Year_hill)) (r_Hill_loops (by first | assumption | exact i_Image_hill (by assumption) | exact i_BH_hill | exact i_Telling_hill | exact i_Year_hill) (by assumption)) ?_
        refine Rn.iload_n d_Hill_blow_20 rfl ?_
        refine In.ald d_Hill_blow_21 (z_Hill_loops (by first | assumption | exact i_Image_hill (by assumption) | exact i_BH_hill | exact i_Telling_hill | exact i_Year_hill)) rfl (by omega) (by decide) hx ?_
        refine Rn.istore (lv1 := [_, _, _, _, _]) d_Hill_blow_22 (by decide) (w_pv rfl) rfl ?_
        refine Rn.iload d_Hill_blow_24 rfl ?_
        refine Rn.bipush (v := iI (-6)) d_Hill_blow_26 (by decide +kernel) ?_
        refine In.icmp_ne (tgt := 34) d_Hill_blow_28 (by decide) ⟨by omega, by omega⟩ ⟨by omega, by omega⟩ (fun c28 => ?_) (fun c28 => ?_)
        · rw [if_neg c28] at ih
          obtain ⟨l, hl⟩ : ∃ l : Nat, β (12 + i) = l := ⟨(β (12 + i)).toNat, by omega⟩
          have et : touchS β far i = pc (ringS β l 1 far &&& hungS β 6) := by unfold touchS; rw [hl]; rfl
          rw [hl]
          refine Rn.aload_n d_Hill_blow_34 rfl ?_
          refine Rn.iload_n d_Hill_blow_35 rfl ?_
          refine Rn.aload_n d_Hill_blow_36 rfl ?_
          refine Rn.getR d_Hill_blow_37 f_Hill_tree g_41 (z_Hill (by first | assumption | exact i_Image_hill (by assumption) | exact i_BH_hill | exact i_Telling_hill | exact i_Year_hill)) (r_Hill_tree (by first | assumption | exact i_Image_hill (by assumption) | exact i_BH_hill | exact i_Telling_hill | exact i_Year_hill) (by assumption)) ?_
          refine Rn.iload d_Hill_blow_40 rfl ?_
          refine Rn.iconst (v := iI 1) d_Hill_blow_42 rfl ?_
          refine Rn.iload_n d_Hill_blow_43 rfl ?_
          have hring := m_Tree_ring (i_Hill_tree hh) hG h2.1 hVi.t (show l < 12 by omega) (show (-100 : Int) ≤ 1 ∧ (1 : Int) ≤ 100 by omega) hfar
          have er : ringS (blowN β far i) l 1 far = ringS β l 1 far := ringS_congr hV.t hVi.t (fun k hk1 hk2 => blowN_off i (by omega) (fun b hb => by omega) (by omega)) (by omega)
          rw [er] at hring
          refine Rn.cVI d_Hill_blow_44 s_Hill_blow_Tree_ring g_381 g_382 g_383 ⟨rfl, rfl⟩ ⟨Nat.zero_le _, Nat.zero_le _⟩ hring rfl rfl (z_Tree (by first | assumption | exact i_Hill_tree (by assumption) | exact i_Hill_tree i_BH_hill)) c_Tree (Nat.le_of_ble_eq_true rfl) (fun rr MM qq => ?_)
          obtain ⟨rfl, rfl⟩ := And.imp id Eq.symm qq; clear qq
          refine Rn.iload_n d_Hill_blow_47 rfl ?_
          refine In.and rfl rfl d_Hill_blow_48 ?_
          refine Rn.cSI d_Hill_blow_49 s_Hill_blow_Int_bitCount g_357 g_358 ⟨rfl, rfl⟩ ⟨Nat.zero_le _, Nat.zero_le _⟩ (m_Int_bitCount (and_4096 (ringS_lt β l 1 far))) rfl rfl (Nat.le_of_ble_eq_true rfl) (fun rr MM qq => ?_)
          obtain ⟨rfl, rfl⟩ := And.imp id Eq.symm qq; clear qq
          refine Rn.cVV d_Hill_blow_52 s_Hill_blow_Hill_chip g_396 g_398 gs_2 ⟨rfl, rfl⟩ ⟨Nat.zero_le _, Nat.zero_le _⟩ (m_Hill_chip hh hG h2 hVi (show i < 6 by omega) (show pc (ringS β l 1 far &&& hungS β 6) < 100 by have := pc_le (ringS β l 1 far &&& hungS β 6); omega)) rfl rfl (z_Hill (by first | assumption | exact i_Image_hill (by assumption) | exact i_BH_hill | exact i_Telling_hill | exact i_Year_hill)) c_Hill (Nat.le_of_ble_eq_true rfl) (fun M2 h4 => ?_)
          obtain ⟨hA2, hO2⟩ := h4
          refine In.inc (lv1 := [_, _, _, _, _]) d_Hill_blow_55 rfl (by decide) (w_pv rfl) rfl ?_
          refine Rn.goto (tgt := 7) d_Hill_blow_58 (by decide) ?_
          rw [et] at ih
          exact ih _ _ hA2 (h3.tr hO2)
        · refine Rn.goto (tgt := 55) d_Hill_blow_31 (by decide) ?_
          refine In.inc (lv1 := [_, _, _, _, _]) d_Hill_blow_55 rfl (by decide) (w_pv rfl) rfl ?_
          refine Rn.goto (tgt := 7) d_Hill_blow_58 (by decide) ?_
          rw [if_pos c28] at ih
          exact ih _ _ h2 h3
  exact loop 6 0 M _ rfl hA Off.rf
