/-! Sights, Choice, Cutting. -/
set_option maxRecDepth 20000
set_option maxHeartbeats 400000
theorem m_Sights_size {M : wM} {s m : Nat} {τ : Nat → Int} (hs : isSights s) (hA : sgAt M s m τ) : EvI k_Sights_size [.ref s] SH M (fun r M' => r = iI m ∧ M' = M) := by
  refine EvI.of 0 (by decide) (Nat.le_of_ble_eq_true rfl) rfl ?_
  refine Rn.aload_n d_Sights_size_0 rfl ?_
  refine In.getI d_Sights_size_1 f_Sights_count g_65 (z_Sights (by first | assumption | exact i_Image_sights (by assumption) | exact i_BH_sights)) hA.2.2 ?_
  exact Rn.iret d_Sights_size_4 rfl rfl ⟨rfl, rfl⟩
theorem m_Sights_clear {M : wM} {s m : Nat} {τ : Nat → Int} (hs : isSights s) (hA : sgAt M s m τ) : EvV k_Sights_clear [.ref s] SH M (fun M' => sgAt M' s 0 τ ∧ Off M M' s (s + 3)) := by
  refine EvV.of 0 (by decide) (Nat.le_of_ble_eq_true rfl) rfl ?_
  refine Rn.aload_n d_Sights_clear_0 rfl ?_
  refine Rn.iconst (v := iI 0) d_Sights_clear_1 rfl ?_
  refine In.putI d_Sights_clear_2 f_Sights_count g_65 (z_Sights (by first | assumption | exact i_Image_sights (by assumption) | exact i_BH_sights)) ?_
  refine Rn.vret d_Sights_clear_5 rfl ⟨⟨fun i hi => ?_, fun i hi => ?_, ?_⟩, (Off.ui _ _ _ _).wide (by omega) (by omega)⟩
  · rw [w_ui_if, if_neg (by omega)]; exact hA.1 i hi
  · rw [w_ui_if, if_neg (by omega)]; exact hA.2.1 i hi
  · rw [w_ui_at]; rfl
theorem m_Sights_add {M : wM} {s m : Nat} {l v : Int} {τ : Nat → Int} (hs : isSights s) (hG : M.2.2 = RG) (hA : sgAt M s m τ) (hm : m < 8) : EvV k_Sights_add [.ref s, .int (iI l), .int (iI v)] SH M (fun M' => sgAt M' s (m + 1) (up (up τ (2 * m) l) (2 * m + 1) v) ∧ Off M M' s (s + 3)) := by
  refine EvV.of 0 (by decide) (Nat.le_of_ble_eq_true rfl) rfl ?_
  refine Rn.aload_n d_Sights_add_0 rfl ?_
  refine In.getI d_Sights_add_1 f_Sights_count g_65 (z_Sights (by first | assumption | exact i_Image_sights (by assumption) | exact i_BH_sights)) hA.2.2 ?_
  refine In.if_lt (tgt := 31) d_Sights_add_4 (by decide) ⟨by omega, by omega⟩ (fun c4 => ?_) (fun c4 => ?_)
  · omega
  · refine Rn.aload_n d_Sights_add_7 rfl ?_
    refine In.getI d_Sights_add_8 f_Sights_count g_65 (z_Sights (by first | assumption | exact i_Image_sights (by assumption) | exact i_BH_sights)) hA.2.2 ?_
    refine Rn.aload_n d_Sights_add_11 rfl ?_
    refine Rn.getR d_Sights_add_12 f_Sights_loops g_63 (z_Sights (by first | assumption | exact i_Image_sights (by assumption) | exact i_BH_sights)) (r_Sights_loops (by first | assumption | exact i_Image_sights (by assumption) | exact i_BH_sights) (by assumption)) ?_
    refine In.alen d_Sights_add_15 (z_Sights_loops (by first | assumption | exact i_Image_sights (by assumption) | exact i_BH_sights)) (by decide) ?_
    refine In.icmp_ge (tgt := 31) d_Sights_add_16 (by decide) ⟨by omega, by omega⟩ ⟨by omega, by omega⟩ (fun c16 => ?_) (fun c16 => ?_)
    · omega
    · refine Rn.aload_n d_Sights_add_19 rfl ?_
      refine In.getI d_Sights_add_20 f_Sights_count g_65 (z_Sights (by first | assumption | exact i_Image_sights (by assumption) | exact i_BH_sights)) hA.2.2 ?_
      refine Rn.aload_n d_Sights_add_23 rfl ?_
      refine Rn.getR d_Sights_add_24 f_Sights_fars g_64 (z_Sights (by first | assumption | exact i_Image_sights (by assumption) | exact i_BH_sights)) (r_Sights_fars (by first | assumption | exact i_Image_sights (by assumption) | exact i_BH_sights) (by assumption)) ?_
      refine In.alen d_Sights_add_27 (z_Sights_fars (by first | assumption | exact i_Image_sights (by assumption) | exact i_BH_sights)) (by decide) ?_
      refine In.icmp_lt (tgt := 32) d_Sights_add_28 (by decide) ⟨by omega, by omega⟩ ⟨by omega, by omega⟩ (fun c28 => ?_) (fun c28 => ?_)
      · refine Rn.aload_n d_Sights_add_32 rfl ?_
        refine Rn.getR d_Sights_add_33 f_Sights_loops g_63 (z_Sights (by first | assumption | exact i_Image_sights (by assumption) | exact i_BH_sights)) (r_Sights_loops (by first | assumption | exact i_Image_sights (by assumption) | exact i_BH_sights) (by assumption)) ?_
        refine Rn.aload_n d_Sights_add_36 rfl ?_
        refine In.getI d_Sights_add_37 f_Sights_count g_65 (z_Sights (by first | assumption | exact i_Image_sights (by assumption) | exact i_BH_sights)) hA.2.2 ?_
        refine Rn.iload_n d_Sights_add_40 rfl ?_
        refine In.ast d_Sights_add_41 (z_Sights_loops (by first | assumption | exact i_Image_sights (by assumption) | exact i_BH_sights)) rfl hm (by decide) ?_
        refine Rn.aload_n d_Sights_add_42 rfl ?_
        refine Rn.getR d_Sights_add_43 f_Sights_fars g_64 (z_Sights (by first | assumption | exact i_Image_sights (by assumption) | exact i_BH_sights)) (r_Sights_fars (by first | assumption | exact i_Image_sights (by assumption) | exact i_BH_sights) (by assumption)) ?_
        refine Rn.aload_n d_Sights_add_46 rfl ?_
        refine In.getI d_Sights_add_47 f_Sights_count g_65 (z_Sights (by first | assumption | exact i_Image_sights (by assumption) | exact i_BH_sights)) (by rw [w_ui_off _ _ _ _ _ (by omega)]; exact hA.2.2) ?_
        refine Rn.iload_n d_Sights_add_50 rfl ?_
        refine In.ast d_Sights_add_51 (z_Sights_fars (by first | assumption | exact i_Image_sights (by assumption) | exact i_BH_sights)) rfl hm (by decide) ?_
        refine Rn.aload_n d_Sights_add_52 rfl ?_
        refine Rn.dup d_Sights_add_53 rfl ?_
        refine In.getI d_Sights_add_54 f_Sights_count g_65 (z_Sights (by first | assumption | exact i_Image_sights (by assumption) | exact i_BH_sights)) (by rw [w_ui_off _ _ _ _ _ (by omega), w_ui_off _ _ _ _ _ (by omega)]; exact hA.2.2) ?_
        refine Rn.iconst (v := iI 1) d_Sights_add_57 rfl ?_
        refine In.add d_Sights_add_58 ?_
        refine In.putI d_Sights_add_59 f_Sights_count g_65 (z_Sights (by first | assumption | exact i_Image_sights (by assumption) | exact i_BH_sights)) ?_
        refine Rn.vret d_Sights_add_62 rfl ⟨⟨fun i hi => ?_, fun i hi => ?_, ?_⟩, ((Off.ui _ _ _ _).wide (by omega) (by omega)).tr (((Off.ui _ _ _ _).wide (by omega) (by omega)).tr ((Off.ui _ _ _ _).wide (by omega) (by omega)))⟩
        · rw [w_ui_if, if_neg (by omega), w_ui_if, if_neg (by omega), w_ui_if, up_ne _ _ _ _ (by omega)]
          by_cases e : i = m
          · subst e; rw [if_pos ⟨rfl, rfl⟩, up_at]
          · rw [if_neg (fun q => e q.2), up_ne _ _ _ _ (by omega)]; exact hA.1 i hi
        · rw [w_ui_if, if_neg (by omega), w_ui_if]
          by_cases e : i = m
          · subst e; rw [if_pos ⟨rfl, rfl⟩, up_at]
          · rw [if_neg (fun q => e q.2), w_ui_if, if_neg (by omega), up_ne _ _ _ _ (by omega), up_ne _ _ _ _ (by omega)]; exact hA.2.1 i hi
        · rw [w_ui_at]; rfl
      · omega
theorem m_Sights_copyFrom {M : wM} {s s2 m : Nat} {τ : Nat → Int} (hs : isSights s) (hs2 : isSights s2) (hne : s + 3 ≤ s2 ∨ s2 + 3 ≤ s) (hG : M.2.2 = RG) (hA : sgAt M s2 m τ) : EvV k_Sights_copyFrom [.ref s, .ref s2] SH M (fun M' => sgAt M' s m τ ∧ Off M M' s (s + 3)) := by
  refine EvV.of 0 (by decide) (Nat.le_of_ble_eq_true rfl) rfl ?_
  refine Rn.aload_n d_Sights_copyFrom_0 rfl ?_
  refine Rn.getR d_Sights_copyFrom_1 f_Sights_loops g_63 (z_Sights (by first | assumption | exact i_Image_sights (by assumption) | exact i_BH_sights)) (r_Sights_loops (by first | assumption | exact i_Image_sights (by assumption) | exact i_BH_sights) (by assumption)) ?_
  refine Rn.aload_n d_Sights_copyFrom_4 rfl ?_
  refine Rn.getR d_Sights_copyFrom_5 f_Sights_loops g_63 (z_Sights (by first | assumption | exact i_Image_sights (by assumption) | exact i_BH_sights)) (r_Sights_loops (by first | assumption | exact i_Image_sights (by assumption) | exact i_BH_sights) (by assumption)) ?_
  refine Rn.cSNV d_Sights_copyFrom_8 s_Sights_copyFrom_BH_copyRow (j := 18) (host := "BaubleHill") rfl g_319 ⟨rfl, rfl⟩ ⟨Nat.zero_le _, Nat.zero_le _⟩ (m_BH_copyRow (z_Sights_loops hs2) (z_Sights_loops hs) (by omega) (by decide)) rfl rfl (Nat.le_of_ble_eq_true rfl) (fun M1 qq => ?_)
  obtain ⟨hL, hO1⟩ := qq
  have hG1 := hO1.G hG
  have hA1 := hA.off hO1 (by omega)
  refine Rn.aload_n d_Sights_copyFrom_11 rfl ?_
  refine Rn.getR d_Sights_copyFrom_12 f_Sights_fars g_64 (z_Sights (by first | assumption | exact i_Image_sights (by assumption) | exact i_BH_sights)) (r_Sights_fars (by first | assumption | exact i_Image_sights (by assumption) | exact i_BH_sights) (by assumption)) ?_
  refine Rn.aload_n d_Sights_copyFrom_15 rfl ?_
  refine Rn.getR d_Sights_copyFrom_16 f_Sights_fars g_64 (z_Sights (by first | assumption | exact i_Image_sights (by assumption) | exact i_BH_sights)) (r_Sights_fars (by first | assumption | exact i_Image_sights (by assumption) | exact i_BH_sights) (by assumption)) ?_
  refine Rn.cSNV d_Sights_copyFrom_19 s_Sights_copyFrom_BH_copyRow (j := 18) (host := "BaubleHill") rfl g_319 ⟨rfl, rfl⟩ ⟨Nat.zero_le _, Nat.zero_le _⟩ (m_BH_copyRow (z_Sights_fars hs2) (z_Sights_fars hs) (by omega) (by decide)) rfl rfl (Nat.le_of_ble_eq_true rfl) (fun M2 qq => ?_)
  obtain ⟨hF, hO2⟩ := qq
  have hG2 := hO2.G hG1
  have hA2 := hA1.off hO2 (by omega)
  refine Rn.aload_n d_Sights_copyFrom_22 rfl ?_
  refine Rn.aload_n d_Sights_copyFrom_23 rfl ?_
  refine In.getI d_Sights_copyFrom_24 f_Sights_count g_65 (z_Sights (by first | assumption | exact i_Image_sights (by assumption) | exact i_BH_sights)) hA2.2.2 ?_
  refine In.putI d_Sights_copyFrom_27 f_Sights_count g_65 (z_Sights (by first | assumption | exact i_Image_sights (by assumption) | exact i_BH_sights)) ?_
  refine Rn.vret d_Sights_copyFrom_30 rfl ⟨⟨fun i hi => ?_, fun i hi => ?_, ?_⟩, (hO1.wide (by omega) (by omega)).tr ((hO2.wide (by omega) (by omega)).tr ((Off.ui _ _ _ _).wide (by omega) (by omega)))⟩
  · rw [w_ui_if, if_neg (by omega), hO2.1 _ (by omega), hL i hi]; exact hA.1 i hi
  · rw [w_ui_if, if_neg (by omega), hF i hi]; exact hA1.2.1 i hi
  · rw [w_ui_at]
theorem m_Sights_fitting {M : wM} {s t m : Nat} {τ f : Nat → Int} (hs : isSights s) (hh : isTree t) (hG : M.2.2 = RG) (hA : sgAt M s m τ) (hV : sok m τ) (hT : treeAt M t f) (hf : tok f) : EvI k_Sights_fitting [.ref s, .ref t] SH M (fun r M' => r = iI (fitN f τ m) ∧ M' = M) := by
  refine EvI.of 2 (by decide) (Nat.le_of_ble_eq_true rfl) rfl ?_
  have hm := hV.1
  refine Rn.sipush (v := iI 4095) d_Sights_fitting_0 (by decide +kernel) ?_
  refine Rn.istore_n (lv1 := [_, _, _, _]) d_Sights_fitting_3 (by decide) (w_pv rfl) rfl ?_
  refine Rn.iconst (v := iI 0) d_Sights_fitting_4 rfl ?_
  refine Rn.istore_n (lv1 := [_, _, _, _]) d_Sights_fitting_5 (by decide) (w_pv rfl) rfl ?_
  have loop : ∀ (n i : Nat), i + n = m → Rn k_Sights_fitting none (0, 0) 6 [some (.ref s), some (.ref t), some (.int (iI (fitN f τ i))), some (.int (iI i))] [] SH M (w_FI (0, 0) SH (fun r M' => r = iI (fitN f τ m) ∧ M' = M)) := by
    intro n
    induction n with
    | zero =>
      intro i h1
      refine Rn.iload_n d_Sights_fitting_6 rfl ?_
      refine Rn.aload_n d_Sights_fitting_7 rfl ?_
      refine In.getI d_Sights_fitting_8 f_Sights_count g_65 (z_Sights (by first | assumption | exact i_Image_sights (by assumption) | exact i_BH_sights)) hA.2.2 ?_
      refine In.icmp_ge (tgt := 63) d_Sights_fitting_11 (by decide) ⟨by omega, by omega⟩ ⟨by omega, by omega⟩ (fun c11 => ?_) (fun c11 => ?_)
      · have : i = m := by omega
        subst this
        refine Rn.iload_n d_Sights_fitting_63 rfl ?_
        exact Rn.iret d_Sights_fitting_64 rfl rfl ⟨rfl, rfl⟩
      · omega
    | succ n ih =>
      intro i h1
      have hv := hV.2 i (by omega)
      have ih := ih (i + 1) (by omega)
      simp only [fitN] at ih
      obtain ⟨l, hl⟩ : ∃ l : Nat, τ (2 * i) = l := ⟨(τ (2 * i)).toNat, by omega⟩
      have a1 := hA.1 i (by omega)
      have a2 := hA.2.1 i (by omega)
      rw [hl] at a1 ih hv
      rw [Int.toNat_natCast] at ih
      refine Rn.iload_n d_Sights_fitting_6 rfl ?_
      refine Rn.aload_n d_Sights_fitting_7 rfl ?_
      refine In.getI d_Sights_fitting_8 f_Sights_count g_65 (z_Sights (by first | assumption | exact i_Image_sights (by assumption) | exact i_BH_sights)) hA.2.2 ?_
      refine In.icmp_ge (tgt := 63) d_Sights_fitting_11 (by decide) ⟨by omega, by omega⟩ ⟨by omega, by omega⟩ (fun c11 => ?_) (fun c11 => ?_)
      · omega
      · refine Rn.iload_n d_Sights_fitting_14 rfl ?_
        refine Rn.aload_n d_Sights_fitting_15 rfl ?_
        refine Rn.getR d_Sights_fitting_16 f_Sights_loops g_63 (z_Sights (by first | assumption | exact i_Image_sights (by assumption) | exact i_BH_sights)) (r_Sights_loops (by first | assumption | exact i_Image_sights (by assumption) | exact i_BH_sights) (by assumption)) ?_
        refine In.alen d_Sights_fitting_19 (z_Sights_loops (by first | assumption | exact i_Image_sights (by assumption) | exact i_BH_sights)) (by decide) ?_
        refine In.icmp_ge (tgt := 63) d_Sights_fitting_20 (by decide) ⟨by omega, by omega⟩ ⟨by omega, by omega⟩ (fun c20 => ?_) (fun c20 => ?_)
        · omega
        · refine Rn.iload_n d_Sights_fitting_23 rfl ?_
          refine Rn.aload_n d_Sights_fitting_24 rfl ?_
          refine Rn.getR d_Sights_fitting_25 f_Sights_fars g_64 (z_Sights (by first | assumption | exact i_Image_sights (by assumption) | exact i_BH_sights)) (r_Sights_fars (by first | assumption | exact i_Image_sights (by assumption) | exact i_BH_sights) (by assumption)) ?_
          refine In.alen d_Sights_fitting_28 (z_Sights_fars (by first | assumption | exact i_Image_sights (by assumption) | exact i_BH_sights)) (by decide) ?_
          refine In.icmp_ge (tgt := 63) d_Sights_fitting_29 (by decide) ⟨by omega, by omega⟩ ⟨by omega, by omega⟩ (fun c29 => ?_) (fun c29 => ?_)
          · omega
          · refine Rn.iload_n d_Sights_fitting_32 rfl ?_
            refine Rn.aload_n d_Sights_fitting_33 rfl ?_
            refine Rn.aload_n d_Sights_fitting_34 rfl ?_
            refine Rn.getR d_Sights_fitting_35 f_Sights_loops g_63 (z_Sights (by first | assumption | exact i_Image_sights (by assumption) | exact i_BH_sights)) (r_Sights_loops (by first | assumption | exact i_Image_sights (by assumption) | exact i_BH_sights) (by assumption)) ?_
            refine Rn.iload_n d_Sights_fitting_38 rfl ?_
            refine In.ald d_Sights_fitting_39 (z_Sights_loops (by first | assumption | exact i_Image_sights (by assumption) | exact i_BH_sights)) rfl (by omega) (by decide) a1 ?_
            refine Rn.aload_n d_Sights_fitting_40 rfl ?_
            refine Rn.getR d_Sights_fitting_41 f_Sights_fars g_64 (z_Sights (by first | assumption | exact i_Image_sights (by assumption) | exact i_BH_sights)) (r_Sights_fars (by first | assumption | exact i_Image_sights (by assumption) | exact i_BH_sights) (by assumption)) ?_
            refine Rn.iload_n d_Sights_fitting_44 rfl ?_
            refine In.ald d_Sights_fitting_45 (z_Sights_fars (by first | assumption | exact i_Image_sights (by assumption) | exact i_BH_sights)) rfl (by omega) (by decide) a2 ?_
            refine Rn.aload_n d_Sights_fitting_46 rfl ?_
            refine Rn.getR d_Sights_fitting_47 f_Sights_fars g_64 (z_Sights (by first | assumption | exact i_Image_sights (by assumption) | exact i_BH_sights)) (r_Sights_fars (by first | assumption | exact i_Image_sights (by assumption) | exact i_BH_sights) (by assumption)) ?_
            refine Rn.iload_n d_Sights_fitting_50 rfl ?_
            refine In.ald d_Sights_fitting_51 (z_Sights_fars (by first | assumption | exact i_Image_sights (by assumption) | exact i_BH_sights)) rfl (by omega) (by decide) a2 ?_
            refine Rn.cVI d_Sights_fitting_52 s_Sights_fitting_Tree_ring g_551 g_382 g_383 ⟨rfl, rfl⟩ ⟨Nat.zero_le _, Nat.zero_le _⟩ (m_Tree_ring hh hG hT hf (show l < 12 by omega) (show -100 ≤ τ (2 * i + 1) ∧ τ (2 * i + 1) ≤ 100 by omega) (show -100 ≤ τ (2 * i + 1) ∧ τ (2 * i + 1) ≤ 100 by omega)) rfl rfl (z_Tree (by first | assumption | exact i_Hill_tree (by assumption) | exact i_Hill_tree i_BH_hill)) c_Tree (Nat.le_of_ble_eq_true rfl) (fun rr MM qq => ?_)
            obtain ⟨rfl, rfl⟩ := And.imp id Eq.symm qq; clear qq
            refine In.and rfl rfl d_Sights_fitting_55 ?_
            refine Rn.istore_n (lv1 := [_, _, _, _]) d_Sights_fitting_56 (by decide) (w_pv rfl) rfl ?_
            refine In.inc (lv1 := [_, _, _, _]) d_Sights_fitting_57 rfl (by decide) (w_pv rfl) rfl ?_
            refine Rn.goto (tgt := 6) d_Sights_fitting_60 (by decide) ?_
            exact ih
  exact loop m 0 (by omega)
/-- what the row of Choice holds -/
def arAt (M : wM) (f : Nat → Int) (r : Int) : Prop := ∀ l, l < 12 → M.1 19 l = iI (ringS f l 0 r)
theorem m_Choice_lookAround {M : wM} {t : Nat} {r : Int} {f : Nat → Int} (hh : isTree t) (ht : t + 2 ≤ 18 ∨ 20 ≤ t) (hG : M.2.2 = RG) (hT : treeAt M t f) (hf : tok f) (hr : 0 ≤ r ∧ r ≤ 11) : EvV k_Choice_lookAround [.ref 18, .ref t, .int (iI r)] SH M (fun M' => arAt M' f r ∧ Off M M' 18 20) := by
  refine EvV.of 1 (by decide) (Nat.le_of_ble_eq_true rfl) rfl ?_
  refine Rn.iconst (v := iI 0) d_Choice_lookAround_0 rfl ?_
  refine Rn.istore_n (lv1 := [_, _, _, _]) d_Choice_lookAround_1 (by decide) (w_pv rfl) rfl ?_
  have loop : ∀ (n i : Nat) (Mc : wM), i + n = 12 → (∀ l, l < i → Mc.1 19 l = iI (ringS f l 0 r)) → Off M Mc 18 20 → Rn k_Choice_lookAround none (0, 0) 2 [some (.ref 18), some (.ref t), some (.int (iI r)), some (.int (iI i))] [] SH Mc (w_FV (0, 0) SH (fun M' => arAt M' f r ∧ Off M M' 18 20)) := by
    intro n
    induction n with
    | zero =>
      intro i Mc h1 h2 h3
      have hGc := h3.G hG
      refine Rn.iload_n d_Choice_lookAround_2 rfl ?_
      refine Rn.aload_n d_Choice_lookAround_3 rfl ?_
      refine Rn.getR d_Choice_lookAround_4 f_Choice_around g_135 z_Choice (r_Choice_around (by assumption)) ?_
      refine In.alen d_Choice_lookAround_7 z_Choice_around (by decide) ?_
      refine In.icmp_ge (tgt := 30) d_Choice_lookAround_8 (by decide) ⟨by omega, by omega⟩ ⟨by omega, by omega⟩ (fun c8 => ?_) (fun c8 => ?_)
      · exact Rn.vret d_Choice_lookAround_30 rfl ⟨fun l hl => h2 l (by omega), h3⟩
      · omega
    | succ n ih =>
      intro i Mc h1 h2 h3
      have hGc := h3.G hG
      refine Rn.iload_n d_Choice_lookAround_2 rfl ?_
      refine Rn.aload_n d_Choice_lookAround_3 rfl ?_
      refine Rn.getR d_Choice_lookAround_4 f_Choice_around g_135 z_Choice (r_Choice_around (by assumption)) ?_
      refine In.alen d_Choice_lookAround_7 z_Choice_around (by decide) ?_
      refine In.icmp_ge (tgt := 30) d_Choice_lookAround_8 (by decide) ⟨by omega, by omega⟩ ⟨by omega, by omega⟩ (fun c8 => ?_) (fun c8 => ?_)
      · omega
      · refine Rn.aload_n d_Choice_lookAround_11 rfl ?_
        refine Rn.getR d_Choice_lookAround_12 f_Choice_around g_135 z_Choice (r_Choice_around (by assumption)) ?_
        refine Rn.iload_n d_Choice_lookAround_15 rfl ?_
        refine Rn.aload_n d_Choice_lookAround_16 rfl ?_
        refine Rn.iload_n d_Choice_lookAround_17 rfl ?_
        refine Rn.iconst (v := iI 0) d_Choice_lookAround_18 rfl ?_
        refine Rn.iload_n d_Choice_lookAround_19 rfl ?_
        refine Rn.cVI d_Choice_lookAround_20 s_Choice_lookAround_Tree_ring g_503 g_382 g_383 ⟨rfl, rfl⟩ ⟨Nat.zero_le _, Nat.zero_le _⟩ (m_Tree_ring hh hGc (hT.off h3 (by omega)) hf (show i < 12 by omega) (show (-100 : Int) ≤ 0 ∧ (0 : Int) ≤ 100 by omega) (show -100 ≤ r ∧ r ≤ 100 by omega)) rfl rfl (z_Tree (by first | assumption | exact i_Hill_tree (by assumption) | exact i_Hill_tree i_BH_hill)) c_Tree (Nat.le_of_ble_eq_true rfl) (fun rr MM qq => ?_)
        obtain ⟨rfl, rfl⟩ := And.imp id Eq.symm qq; clear qq
        refine In.ast d_Choice_lookAround_23 z_Choice_around rfl (by omega) (by decide) ?_
        refine In.inc (lv1 := [_, _, _, _]) d_Choice_lookAround_24 rfl (by decide) (w_pv rfl) rfl ?_
        refine Rn.goto (tgt := 2) d_Choice_lookAround_27 (by decide) ?_
        refine ih (i + 1) _ (by omega) (fun l hl => ?_) (h3.tr ((Off.ui _ _ _ _).wide (by omega) (by omega)))
        rw [w_ui_if]
        by_cases e : l = i
        · subst e; rw [if_pos ⟨rfl, rfl⟩]
        · rw [if_neg (fun q => e q.2)]; exact h2 l (by omega)
  exact loop 12 0 M rfl (fun l hl => by omega) Off.rf
theorem m_Choice_standsApart {M : wM} {s : Nat} {r : Int} {f : Nat → Int} {P : Bool} (hG : M.2.2 = RG) (hA : arAt M f r) (hs : s < 4096) (hP : P = true ↔ standS f r s) : EvI k_Choice_standsApart [.ref 18, .int (iI s)] SH M (fun r M' => r = iI (if P = true then 1 else 0) ∧ M' = M) := by
  refine EvI.of 1 (by decide) (Nat.le_of_ble_eq_true rfl) rfl ?_
  refine Rn.iconst (v := iI 0) d_Choice_standsApart_0 rfl ?_
  refine Rn.istore_n (lv1 := [_, _, _]) d_Choice_standsApart_1 (by decide) (w_pv rfl) rfl ?_
  have loop : ∀ (n i : Nat), i + n = 12 → (∀ l, l < i → s.testBit l = true → ringS f l 0 r &&& s = 2 ^ l) → Rn k_Choice_standsApart none (0, 0) 2 [some (.ref 18), some (.int (iI s)), some (.int (iI i))] [] SH M (w_FI (0, 0) SH (fun r M' => r = iI (if P = true then 1 else 0) ∧ M' = M)) := by
    intro n
    induction n with
    | zero =>
      intro i h1 h2
      refine Rn.iload_n d_Choice_standsApart_2 rfl ?_
      refine Rn.aload_n d_Choice_standsApart_3 rfl ?_
      refine Rn.getR d_Choice_standsApart_4 f_Choice_around g_135 z_Choice (r_Choice_around (by assumption)) ?_
      refine In.alen d_Choice_standsApart_7 z_Choice_around (by decide) ?_
      refine In.icmp_ge (tgt := 41) d_Choice_standsApart_8 (by decide) ⟨by omega, by omega⟩ ⟨by omega, by omega⟩ (fun c8 => ?_) (fun c8 => ?_)
      · refine Rn.iconst (v := iI 1) d_Choice_standsApart_41 rfl ?_
        exact Rn.iret d_Choice_standsApart_42 rfl (by decide +kernel) ⟨by rw [if_pos (hP.mpr (fun l hl hb => h2 l (by omega) hb))], rfl⟩
      · omega
    | succ n ih =>
      intro i h1 h2
      refine Rn.iload_n d_Choice_standsApart_2 rfl ?_
      refine Rn.aload_n d_Choice_standsApart_3 rfl ?_
      refine Rn.getR d_Choice_standsApart_4 f_Choice_around g_135 z_Choice (r_Choice_around (by assumption)) ?_
      refine In.alen d_Choice_standsApart_7 z_Choice_around (by decide) ?_
      refine In.icmp_ge (tgt := 41) d_Choice_standsApart_8 (by decide) ⟨by omega, by omega⟩ ⟨by omega, by omega⟩ (fun c8 => ?_) (fun c8 => ?_)
      · omega
      · have o1 : ringS f i 0 r &&& s < 4096 := and_4096 (ringS_lt f i 0 r)
        have o2 : 2 ^ i < 4096 := pow_12 (by omega)
        have o3 := Nat.two_pow_pos i
        refine Rn.iload_n d_Choice_standsApart_11 rfl ?_
        refine Rn.iload_n d_Choice_standsApart_12 rfl ?_
        refine Rn.cSNI d_Choice_standsApart_13 s_Choice_standsApart_BH_holds (j := 17) (host := "BaubleHill") rfl g_253 ⟨rfl, rfl⟩ ⟨Nat.zero_le _, Nat.zero_le _⟩ (m_BH_holds (show s < 2147483648 by omega) (show i < 31 by omega)) rfl rfl (Nat.le_of_ble_eq_true rfl) (fun rr MM qq => ?_)
        obtain ⟨rfl, rfl⟩ := And.imp id Eq.symm qq; clear qq
        refine In.if_eq (tgt := 35) d_Choice_standsApart_16 (by decide) fl_rg (fun c16 => ?_) (fun c16 => ?_)
        · have n16 := fl_eq c16
          refine In.inc (lv1 := [_, _, _]) d_Choice_standsApart_35 rfl (by decide) (w_pv rfl) rfl ?_
          refine Rn.goto (tgt := 2) d_Choice_standsApart_38 (by decide) ?_
          refine ih (i + 1) (by omega) (fun l hl hb => ?_)
          by_cases e : l = i
          · subst e; exact absurd hb n16
          · exact h2 l (by omega) hb
        · have n16 := fl_ne c16
          refine Rn.aload_n d_Choice_standsApart_19 rfl ?_
          refine Rn.getR d_Choice_standsApart_20 f_Choice_around g_135 z_Choice (r_Choice_around (by assumption)) ?_
          refine Rn.iload_n d_Choice_standsApart_23 rfl ?_
          refine In.ald d_Choice_standsApart_24 z_Choice_around rfl (by omega) (by decide) (hA i (by omega)) ?_
          refine Rn.iload_n d_Choice_standsApart_25 rfl ?_
          refine In.and rfl rfl d_Choice_standsApart_26 ?_
          refine Rn.iconst (v := iI 1) d_Choice_standsApart_27 rfl ?_
          refine Rn.iload_n d_Choice_standsApart_28 rfl ?_
          refine In.shl rfl (by omega) d_Choice_standsApart_29 ?_
          refine In.icmp_eq (tgt := 35) d_Choice_standsApart_30 (by decide) ⟨by omega, by omega⟩ ⟨by omega, by omega⟩ (fun c30 => ?_) (fun c30 => ?_)
          · refine In.inc (lv1 := [_, _, _]) d_Choice_standsApart_35 rfl (by decide) (w_pv rfl) rfl ?_
            refine Rn.goto (tgt := 2) d_Choice_standsApart_38 (by decide) ?_
            refine ih (i + 1) (by omega) (fun l hl hb => ?_)
            by_cases e : l = i
            · subst e; omega
            · exact h2 l (by omega) hb
          · refine Rn.iconst (v := iI 0) d_Choice_standsApart_33 rfl ?_
            exact Rn.iret d_Choice_standsApart_34 rfl (by decide +kernel) ⟨by rw [if_neg (fun q => c30 (by have := hP.mp q i (by omega) n16; omega))], rfl⟩
  exact loop 12 0 rfl (fun l hl => by omega)
theorem m_Choice_lightsAll {M : wM} {s : Nat} {r : Int} {f : Nat → Int} {P : Bool} (hG : M.2.2 = RG) (hA : arAt M f r) (hs : s < 4096) (hP : P = true ↔ litN f r s 12 = 4095) : EvI k_Choice_lightsAll [.ref 18, .int (iI s)] SH M (fun r M' => r = iI (if P = true then 1 else 0) ∧ M' = M) := by
  refine EvI.of 2 (by decide) (Nat.le_of_ble_eq_true rfl) rfl ?_
  refine Rn.iconst (v := iI 0) d_Choice_lightsAll_0 rfl ?_
  refine Rn.istore_n (lv1 := [_, _, _, _]) d_Choice_lightsAll_1 (by decide) (w_pv rfl) rfl ?_
  refine Rn.iconst (v := iI 0) d_Choice_lightsAll_2 rfl ?_
  refine Rn.istore_n (lv1 := [_, _, _, _]) d_Choice_lightsAll_3 (by decide) (w_pv rfl) rfl ?_
  have loop : ∀ (n i : Nat), i + n = 12 → Rn k_Choice_lightsAll none (0, 0) 4 [some (.ref 18), some (.int (iI s)), some (.int (iI (litN f r s i))), some (.int (iI i))] [] SH M (w_FI (0, 0) SH (fun r M' => r = iI (if P = true then 1 else 0) ∧ M' = M)) := by
    intro n
    induction n with
    | zero =>
      intro i h1
      have hl := litN_lt f r s i
      refine Rn.iload_n d_Choice_lightsAll_4 rfl ?_
      refine Rn.aload_n d_Choice_lightsAll_5 rfl ?_
      refine Rn.getR d_Choice_lightsAll_6 f_Choice_around g_135 z_Choice (r_Choice_around (by assumption)) ?_
      refine In.alen d_Choice_lightsAll_9 z_Choice_around (by decide) ?_
      refine In.icmp_ge (tgt := 36) d_Choice_lightsAll_10 (by decide) ⟨by omega, by omega⟩ ⟨by omega, by omega⟩ (fun c10 => ?_) (fun c10 => ?_)
      · have : i = 12 := by omega
        subst this
        refine Rn.iload_n d_Choice_lightsAll_36 rfl ?_
        refine Rn.sipush (v := iI 4095) d_Choice_lightsAll_37 (by decide +kernel) ?_
        refine In.icmp_ne (tgt := 47) d_Choice_lightsAll_40 (by decide) ⟨by omega, by omega⟩ ⟨by omega, by omega⟩ (fun c40 => ?_) (fun c40 => ?_)
        · refine Rn.iconst (v := iI 0) d_Choice_lightsAll_47 rfl ?_
          exact Rn.iret d_Choice_lightsAll_48 rfl (by decide +kernel) ⟨by rw [if_neg (fun q => c40 (by have := hP.mp q; omega))], rfl⟩
        · refine Rn.iconst (v := iI 1) d_Choice_lightsAll_43 rfl ?_
          refine Rn.goto (tgt := 48) d_Choice_lightsAll_44 (by decide) ?_
          exact Rn.iret d_Choice_lightsAll_48 rfl (by decide +kernel) ⟨by rw [if_pos (hP.mpr (by omega))], rfl⟩
      · omega
    | succ n ih =>
      intro i h1
      have e1 : s.testBit i = true → litN f r s (i + 1) = litN f r s i ||| ringS f i 0 r := fun h => by simp [litN, h]
      have e2 : ¬ s.testBit i = true → litN f r s (i + 1) = litN f r s i := fun h => by simp only [litN]; rw [if_neg h]
      have ih := ih (i + 1) (by omega)
      refine Rn.iload_n d_Choice_lightsAll_4 rfl ?_
      refine Rn.aload_n d_Choice_lightsAll_5 rfl ?_
      refine Rn.getR d_Choice_lightsAll_6 f_Choice_around g_135 z_Choice (r_Choice_around (by assumption)) ?_
      refine In.alen d_Choice_lightsAll_9 z_Choice_around (by decide) ?_
      refine In.icmp_ge (tgt := 36) d_Choice_lightsAll_10 (by decide) ⟨by omega, by omega⟩ ⟨by omega, by omega⟩ (fun c10 => ?_) (fun c10 => ?_)
      · omega
      · refine Rn.iload_n d_Choice_lightsAll_13 rfl ?_
        refine Rn.iload_n d_Choice_lightsAll_14 rfl ?_
        refine Rn.cSNI d_Choice_lightsAll_15 s_Choice_lightsAll_BH_holds (j := 17) (host := "BaubleHill") rfl g_253 ⟨rfl, rfl⟩ ⟨Nat.zero_le _, Nat.zero_le _⟩ (m_BH_holds (show s < 2147483648 by omega) (show i < 31 by omega)) rfl rfl (Nat.le_of_ble_eq_true rfl) (fun rr MM qq => ?_)
        obtain ⟨rfl, rfl⟩ := And.imp id Eq.symm qq; clear qq
        refine In.if_eq (tgt := 30) d_Choice_lightsAll_18 (by decide) fl_rg (fun c18 => ?_) (fun c18 => ?_)
        · refine In.inc (lv1 := [_, _, _, _]) d_Choice_lightsAll_30 rfl (by decide) (w_pv rfl) rfl ?_
          refine Rn.goto (tgt := 4) d_Choice_lightsAll_33 (by decide) ?_
          rw [e2 (fl_eq c18)] at ih
          exact ih
        · refine Rn.iload_n d_Choice_lightsAll_21 rfl ?_
          refine Rn.aload_n d_Choice_lightsAll_22 rfl ?_
          refine Rn.getR d_Choice_lightsAll_23 f_Choice_around g_135 z_Choice (r_Choice_around (by assumption)) ?_
          refine Rn.iload_n d_Choice_lightsAll_26 rfl ?_
          refine In.ald d_Choice_lightsAll_27 z_Choice_around rfl (by omega) (by decide) (hA i (by omega)) ?_
          refine In.or rfl rfl d_Choice_lightsAll_28 ?_
          refine Rn.istore_n (lv1 := [_, _, _, _]) d_Choice_lightsAll_29 (by decide) (w_pv rfl) rfl ?_
          refine In.inc (lv1 := [_, _, _, _]) d_Choice_lightsAll_30 rfl (by decide) (w_pv rfl) rfl ?_
          refine Rn.goto (tgt := 4) d_Choice_lightsAll_33 (by decide) ?_
          rw [e1 (fl_ne c18)] at ih
          exact ih
  exact loop 12 0 rfl
theorem m_Choice_mostApart {M : wM} {t : Nat} {r : Int} {f : Nat → Int} {P : Nat → Bool} (hh : isTree t) (ht : t + 2 ≤ 18 ∨ 20 ≤ t) (hG : M.2.2 = RG) (hT : treeAt M t f) (hf : tok f) (hr : 0 ≤ r ∧ r ≤ 11) (hP : ∀ s, P s = true ↔ standS f r s) : EvI k_Choice_mostApart [.ref 18, .ref t, .int (iI r)] SH M (fun r M' => r = iI (moN P 4095) ∧ Off M M' 18 20) := by
  refine EvI.of 4 (by decide) (Nat.le_of_ble_eq_true rfl) rfl ?_
  refine Rn.aload_n d_Choice_mostApart_0 rfl ?_
  refine Rn.aload_n d_Choice_mostApart_1 rfl ?_
  refine Rn.iload_n d_Choice_mostApart_2 rfl ?_
  refine Rn.cVV d_Choice_mostApart_3 s_Choice_mostApart_Choice_lookAround g_499 g_501 gs_5 ⟨rfl, rfl⟩ ⟨Nat.zero_le _, Nat.zero_le _⟩ (m_Choice_lookAround hh ht hG hT hf hr) rfl rfl z_Choice c_Choice (Nat.le_of_ble_eq_true rfl) (fun M1 qq => ?_)
  obtain ⟨hA, hO⟩ := qq
  have hG1 := hO.G hG
  refine Rn.iconst (v := iI 0) d_Choice_mostApart_6 rfl ?_
  refine Rn.istore_n (lv1 := [_, _, _, _, _, _, _]) d_Choice_mostApart_7 (by decide) (w_pv rfl) rfl ?_
  refine Rn.iconst (v := iI 0) d_Choice_mostApart_8 rfl ?_
  refine Rn.istore (lv1 := [_, _, _, _, _, _, _]) d_Choice_mostApart_9 (by decide) (w_pv rfl) rfl ?_
  refine Rn.iconst (v := iI 1) d_Choice_mostApart_11 rfl ?_
  refine Rn.istore (lv1 := [_, _, _, _, _, _, _]) d_Choice_mostApart_12 (by decide) (w_pv rfl) rfl ?_
  obtain ⟨N, hN⟩ : ∃ N, N = 4095 := ⟨_, rfl⟩
  rw [← hN]
  have loop : ∀ (n i : Nat) (x6 : Option Value), i + n = N → Rn k_Choice_mostApart none (0, 0) 14 [some (.ref 18), some (.ref t), some (.int (iI r)), some (.int (iI (moN P i))), some (.int (iI (pc (moN P i)))), some (.int (iI (i + 1 : Nat))), x6] [] SH M1 (w_FI (0, 0) SH (fun r M' => r = iI (moN P N) ∧ Off M M' 18 20)) := by
    intro n
    induction n with
    | zero =>
      intro i x6 h1
      refine Rn.iload d_Choice_mostApart_14 rfl ?_
      refine Rn.sipush (v := iI 4095) d_Choice_mostApart_16 (by decide +kernel) ?_
      refine In.icmp_gt (tgt := 58) d_Choice_mostApart_19 (by decide) ⟨by omega, by omega⟩ ⟨by omega, by omega⟩ (fun c19 => ?_) (fun c19 => ?_)
      · have : i = N := by omega
        subst this
        refine Rn.iload_n d_Choice_mostApart_58 rfl ?_
        exact Rn.iret d_Choice_mostApart_59 rfl rfl ⟨rfl, hO⟩
      · omega
    | succ n ih =>
      intro i x6 h1
      have hb := pc_le (moN P i)
      have hs := pc_le (i + 1)
      have e1 : pc (moN P i) < pc (i + 1) ∧ P (i + 1) = true → moN P (i + 1) = i + 1 := fun h => by simp only [moN]; rw [if_pos h]
      have e2 : ¬ (pc (moN P i) < pc (i + 1) ∧ P (i + 1) = true) → moN P (i + 1) = moN P i := fun h => by simp only [moN]; rw [if_neg h]
      have ih := ih (i + 1) (some (.int (iI (pc (i + 1))))) (by omega)
      refine Rn.iload d_Choice_mostApart_14 rfl ?_
      refine Rn.sipush (v := iI 4095) d_Choice_mostApart_16 (by decide +kernel) ?_
      refine In.icmp_gt (tgt := 58) d_Choice_mostApart_19 (by decide) ⟨by omega, by omega⟩ ⟨by omega, by omega⟩ (fun c19 => ?_) (fun c19 => ?_)
      · omega
      · refine Rn.iload d_Choice_mostApart_22 rfl ?_
        refine Rn.cSI d_Choice_mostApart_24 s_Choice_mostApart_Int_bitCount g_504 g_358 ⟨rfl, rfl⟩ ⟨Nat.zero_le _, Nat.zero_le _⟩ (m_Int_bitCount (show i + 1 < 4096 by omega)) rfl rfl (Nat.le_of_ble_eq_true rfl) (fun rr MM qq => ?_)
        obtain ⟨rfl, rfl⟩ := And.imp id Eq.symm qq; clear qq
        refine Rn.istore (lv1 := [_, _, _, _, _, _, _]) d_Choice_mostApart_27 (by decide) (w_pv rfl) rfl ?_
        refine Rn.iload d_Choice_mostApart_29 rfl ?_
        refine Rn.iload d_Choice_mostApart_31 rfl ?_
        refine In.icmp_le (tgt := 52) d_Choice_mostApart_33 (by decide) ⟨by omega, by omega⟩ ⟨by omega, by omega⟩ (fun c33 => ?_) (fun c33 => ?_)
        · refine In.inc (lv1 := [_, _, _, _, _, _, _]) d_Choice_mostApart_52 rfl (by decide) (w_pv rfl) rfl ?_
          refine Rn.goto (tgt := 14) d_Choice_mostApart_55 (by decide) ?_
          rw [e2 (by omega)] at ih
          exact ih
        · refine Rn.aload_n d_Choice_mostApart_36 rfl ?_
          refine Rn.iload d_Choice_mostApart_37 rfl ?_
          refine Rn.cVI d_Choice_mostApart_39 s_Choice_mostApart_Choice_standsApart g_505 g_507 gs_6 ⟨rfl, rfl⟩ ⟨Nat.zero_le _, Nat.zero_le _⟩ (m_Choice_standsApart hG1 hA (show i + 1 < 4096 by omega) (hP (i + 1))) rfl rfl z_Choice c_Choice (Nat.le_of_ble_eq_true rfl) (fun rr MM qq => ?_)
          obtain ⟨rfl, rfl⟩ := And.imp id Eq.symm qq; clear qq
          refine In.if_eq (tgt := 52) d_Choice_mostApart_42 (by decide) fl_rg (fun c42 => ?_) (fun c42 => ?_)
          · have n42 := fl_eq c42
            refine In.inc (lv1 := [_, _, _, _, _, _, _]) d_Choice_mostApart_52 rfl (by decide) (w_pv rfl) rfl ?_
            refine Rn.goto (tgt := 14) d_Choice_mostApart_55 (by decide) ?_
            rw [e2 (fun q => n42 q.2)] at ih
            exact ih
          · have n42 := fl_ne c42
            refine Rn.iload d_Choice_mostApart_45 rfl ?_
            refine Rn.istore_n (lv1 := [_, _, _, _, _, _, _]) d_Choice_mostApart_47 (by decide) (w_pv rfl) rfl ?_
            refine Rn.iload d_Choice_mostApart_48 rfl ?_
            refine Rn.istore (lv1 := [_, _, _, _, _, _, _]) d_Choice_mostApart_50 (by decide) (w_pv rfl) rfl ?_
            refine In.inc (lv1 := [_, _, _, _, _, _, _]) d_Choice_mostApart_52 rfl (by decide) (w_pv rfl) rfl ?_
            refine Rn.goto (tgt := 14) d_Choice_mostApart_55 (by decide) ?_
            rw [e1 ⟨by omega, n42⟩] at ih
            exact ih
  have e0 : (moN P 0 : Int) = 0 := rfl
  have e1 : (pc (moN P 0) : Int) = 0 := by simp only [moN]; decide +kernel
  have L := loop N 0 none (by omega)
  rw [e1, e0] at L
  exact L
theorem m_Choice_fewestLighting {M : wM} {t : Nat} {r : Int} {f : Nat → Int} {P : Nat → Bool} (hh : isTree t) (ht : t + 2 ≤ 18 ∨ 20 ≤ t) (hG : M.2.2 = RG) (hT : treeAt M t f) (hf : tok f) (hr : 0 ≤ r ∧ r ≤ 11) (hP : ∀ s, P s = true ↔ litN f r s 12 = 4095) : EvI k_Choice_fewestLighting [.ref 18, .ref t, .int (iI r)] SH M (fun r M' => r = iI (feN P 4094) ∧ Off M M' 18 20) := by
  refine EvI.of 4 (by decide) (Nat.le_of_ble_eq_true rfl) rfl ?_
  refine Rn.aload_n d_Choice_fewestLighting_0 rfl ?_
  refine Rn.aload_n d_Choice_fewestLighting_1 rfl ?_
  refine Rn.iload_n d_Choice_fewestLighting_2 rfl ?_
  refine Rn.cVV d_Choice_fewestLighting_3 s_Choice_fewestLighting_Choice_lookAround g_499 g_501 gs_5 ⟨rfl, rfl⟩ ⟨Nat.zero_le _, Nat.zero_le _⟩ (m_Choice_lookAround hh ht hG hT hf hr) rfl rfl z_Choice c_Choice (Nat.le_of_ble_eq_true rfl) (fun M1 qq => ?_)
  obtain ⟨hA, hO⟩ := qq
  have hG1 := hO.G hG
  refine Rn.sipush (v := iI 4095) d_Choice_fewestLighting_6 (by decide +kernel) ?_
  refine Rn.istore_n (lv1 := [_, _, _, _, _, _, _]) d_Choice_fewestLighting_9 (by decide) (w_pv rfl) rfl ?_
  refine Rn.bipush (v := iI 12) d_Choice_fewestLighting_10 (by decide +kernel) ?_
  refine Rn.istore (lv1 := [_, _, _, _, _, _, _]) d_Choice_fewestLighting_12 (by decide) (w_pv rfl) rfl ?_
  refine Rn.iconst (v := iI 1) d_Choice_fewestLighting_14 rfl ?_
  refine Rn.istore (lv1 := [_, _, _, _, _, _, _]) d_Choice_fewestLighting_15 (by decide) (w_pv rfl) rfl ?_
  obtain ⟨N, hN⟩ : ∃ N, N = 4094 := ⟨_, rfl⟩
  rw [← hN]
  have loop : ∀ (n i : Nat) (x6 : Option Value), i + n = N → Rn k_Choice_fewestLighting none (0, 0) 17 [some (.ref 18), some (.ref t), some (.int (iI r)), some (.int (iI (feN P i))), some (.int (iI (pc (feN P i)))), some (.int (iI (i + 1 : Nat))), x6] [] SH M1 (w_FI (0, 0) SH (fun r M' => r = iI (feN P N) ∧ Off M M' 18 20)) := by
    intro n
    induction n with
    | zero =>
      intro i x6 h1
      refine Rn.iload d_Choice_fewestLighting_17 rfl ?_
      refine Rn.sipush (v := iI 4095) d_Choice_fewestLighting_19 (by decide +kernel) ?_
      refine In.icmp_ge (tgt := 61) d_Choice_fewestLighting_22 (by decide) ⟨by omega, by omega⟩ ⟨by omega, by omega⟩ (fun c22 => ?_) (fun c22 => ?_)
      · have : i = N := by omega
        subst this
        refine Rn.iload_n d_Choice_fewestLighting_61 rfl ?_
        exact Rn.iret d_Choice_fewestLighting_62 rfl rfl ⟨rfl, hO⟩
      · omega
    | succ n ih =>
      intro i x6 h1
      have hb := pc_le (feN P i)
      have hs := pc_le (i + 1)
      have e1 : pc (i + 1) < pc (feN P i) ∧ P (i + 1) = true → feN P (i + 1) = i + 1 := fun h => by simp only [feN]; rw [if_pos h]
      have e2 : ¬ (pc (i + 1) < pc (feN P i) ∧ P (i + 1) = true) → feN P (i + 1) = feN P i := fun h => by simp only [feN]; rw [if_neg h]
      have ih := ih (i + 1) (some (.int (iI (pc (i + 1))))) (by omega)
      refine Rn.iload d_Choice_fewestLighting_17 rfl ?_
      refine Rn.sipush (v := iI 4095) d_Choice_fewestLighting_19 (by decide +kernel) ?_
      refine In.icmp_ge (tgt := 61) d_Choice_fewestLighting_22 (by decide) ⟨by omega, by omega⟩ ⟨by omega, by omega⟩ (fun c22 => ?_) (fun c22 => ?_)
      · omega
      · refine Rn.iload d_Choice_fewestLighting_25 rfl ?_
        refine Rn.cSI d_Choice_fewestLighting_27 s_Choice_fewestLighting_Int_bitCount g_504 g_358 ⟨rfl, rfl⟩ ⟨Nat.zero_le _, Nat.zero_le _⟩ (m_Int_bitCount (show i + 1 < 4096 by omega)) rfl rfl (Nat.le_of_ble_eq_true rfl) (fun rr MM qq => ?_)
        obtain ⟨rfl, rfl⟩ := And.imp id Eq.symm qq; clear qq
        refine Rn.istore (lv1 := [_, _, _, _, _, _, _]) d_Choice_fewestLighting_30 (by decide) (w_pv rfl) rfl ?_
        refine Rn.iload d_Choice_fewestLighting_32 rfl ?_
        refine Rn.iload d_Choice_fewestLighting_34 rfl ?_
        refine In.icmp_ge (tgt := 55) d_Choice_fewestLighting_36 (by decide) ⟨by omega, by omega⟩ ⟨by omega, by omega⟩ (fun c36 => ?_) (fun c36 => ?_)
        · refine In.inc (lv1 := [_, _, _, _, _, _, _]) d_Choice_fewestLighting_55 rfl (by decide) (w_pv rfl) rfl ?_
          refine Rn.goto (tgt := 17) d_Choice_fewestLighting_58 (by decide) ?_
          rw [e2 (by omega)] at ih
          exact ih
        · refine Rn.aload_n d_Choice_fewestLighting_39 rfl ?_
          refine Rn.iload d_Choice_fewestLighting_40 rfl ?_
          refine Rn.cVI d_Choice_fewestLighting_42 s_Choice_fewestLighting_Choice_lightsAll g_519 g_521 gs_7 ⟨rfl, rfl⟩ ⟨Nat.zero_le _, Nat.zero_le _⟩ (m_Choice_lightsAll hG1 hA (show i + 1 < 4096 by omega) (hP (i + 1))) rfl rfl z_Choice c_Choice (Nat.le_of_ble_eq_true rfl) (fun rr MM qq => ?_)
          obtain ⟨rfl, rfl⟩ := And.imp id Eq.symm qq; clear qq
          refine In.if_eq (tgt := 55) d_Choice_fewestLighting_45 (by decide) fl_rg (fun c45 => ?_) (fun c45 => ?_)
          · have n45 := fl_eq c45
            refine In.inc (lv1 := [_, _, _, _, _, _, _]) d_Choice_fewestLighting_55 rfl (by decide) (w_pv rfl) rfl ?_
            refine Rn.goto (tgt := 17) d_Choice_fewestLighting_58 (by decide) ?_
            rw [e2 (fun q => n45 q.2)] at ih
            exact ih
          · have n45 := fl_ne c45
            refine Rn.iload d_Choice_fewestLighting_48 rfl ?_
            refine Rn.istore_n (lv1 := [_, _, _, _, _, _, _]) d_Choice_fewestLighting_50 (by decide) (w_pv rfl) rfl ?_
            refine Rn.iload d_Choice_fewestLighting_51 rfl ?_
            refine Rn.istore (lv1 := [_, _, _, _, _, _, _]) d_Choice_fewestLighting_53 (by decide) (w_pv rfl) rfl ?_
            refine In.inc (lv1 := [_, _, _, _, _, _, _]) d_Choice_fewestLighting_55 rfl (by decide) (w_pv rfl) rfl ?_
            refine Rn.goto (tgt := 17) d_Choice_fewestLighting_58 (by decide) ?_
            rw [e1 ⟨by omega, n45⟩] at ih
            exact ih
  have e12 : (pc (feN P 0) : Int) = 12 := by simp only [feN]; decide +kernel
  have L := loop N 0 none (by omega)
  rw [e12] at L
  exact L
theorem m_Cutting_worth {M : wM} {t c : Nat} {f : Nat → Int} (hh : isTree t) (ht : t + 2 ≤ 20 ∨ 22 ≤ t) (hG : M.2.2 = RG) (hT : treeAt M t f) (hf : tok f) (hc : c < 12) : EvI k_Cutting_worth [.ref 20, .ref t, .int (iI c)] SH M (fun r M' => r = iI (woF f c 11 0) ∧ Off M M' 20 22) := by
  refine EvI.of 2 (by decide) (Nat.le_of_ble_eq_true rfl) rfl ?_
  refine Rn.iconst (v := iI 0) d_Cutting_worth_0 rfl ?_
  refine Rn.istore_n (lv1 := [_, _, _, _, _]) d_Cutting_worth_1 (by decide) (w_pv rfl) rfl ?_
  have loop2 : ∀ (n k : Nat) (Mc : wM) (x4 : Option Value), k + n = 11 → (∀ j, j < 12 → Mc.1 21 j = iI (woF f c k j)) → Off M Mc 20 22 → Rn k_Cutting_worth none (0, 0) 32 [some (.ref 20), some (.ref t), some (.int (iI c)), some (.int (iI (11 - k : Nat))), x4] [] SH Mc (w_FI (0, 0) SH (fun r M' => r = iI (woF f c 11 0) ∧ Off M M' 20 22)) := by
    intro n
    induction n with
    | zero =>
      intro k Mc x4 h1 h2 h3
      have hGc := h3.G hG
      have : k = 11 := by omega
      subst this
      refine Rn.iload_n d_Cutting_worth_32 rfl ?_
      refine In.if_le (tgt := 90) d_Cutting_worth_33 (by decide) ⟨by omega, by omega⟩ (fun c33 => ?_) (fun c33 => ?_)
      · refine Rn.aload_n d_Cutting_worth_90 rfl ?_
        refine Rn.getR d_Cutting_worth_91 f_Cutting_worths g_145 z_Cutting (r_Cutting_worths (by assumption)) ?_
        refine In.alen d_Cutting_worth_94 z_Cutting_worths (by decide) ?_
        refine In.if_le (tgt := 107) d_Cutting_worth_95 (by decide) ⟨by omega, by omega⟩ (fun c95 => ?_) (fun c95 => ?_)
        · omega
        · refine Rn.aload_n d_Cutting_worth_98 rfl ?_
          refine Rn.getR d_Cutting_worth_99 f_Cutting_worths g_145 z_Cutting (r_Cutting_worths (by assumption)) ?_
          refine Rn.iconst (v := iI 0) d_Cutting_worth_102 rfl ?_
          refine In.ald d_Cutting_worth_103 z_Cutting_worths (rfl : (0 : Int) = ((0 : Nat) : Int)) (by decide) (by decide) (h2 0 (by omega)) ?_
          refine Rn.goto (tgt := 108) d_Cutting_worth_104 (by decide) ?_
          exact Rn.iret d_Cutting_worth_108 rfl rfl ⟨rfl, h3⟩
      · omega
    | succ n ih =>
      intro k Mc x4 h1 h2 h3
      have hGc := h3.G hG
      have hp := hf (11 - k) (by omega) (by omega)
      obtain ⟨u, hu⟩ : ∃ u : Nat, f (11 - k) = u := ⟨(f (11 - k)).toNat, by omega⟩
      rw [hu] at hp
      have e1 : 11 - k = c → woF f c (k + 1) = woF f c k := fun h => by simp only [woF]; rw [if_pos h]
      have e2 : ¬ 11 - k = c → woF f c (k + 1) = wov (woF f c k) u (11 - k) := fun h => by simp only [woF]; rw [if_neg h, hu]; rfl
      have hs : ((11 - k : Nat) : Int) + (-1) = ((11 - (k + 1) : Nat) : Int) := by omega
      refine Rn.iload_n d_Cutting_worth_32 rfl ?_
      refine In.if_le (tgt := 90) d_Cutting_worth_33 (by decide) ⟨by omega, by omega⟩ (fun c33 => ?_) (fun c33 => ?_)
      · omega
      · refine Rn.aload_n d_Cutting_worth_36 rfl ?_
        refine Rn.iload_n d_Cutting_worth_37 rfl ?_
        refine Rn.cVI d_Cutting_worth_38 s_Cutting_worth_Tree_parentOf g_570 g_226 g_227 ⟨rfl, rfl⟩ ⟨Nat.zero_le _, Nat.zero_le _⟩ (m_Tree_parentOf hh hGc (hT.off h3 (by omega)) (show 1 ≤ 11 - k by omega) (show 11 - k < 12 by omega)) rfl rfl (z_Tree (by first | assumption | exact i_Hill_tree (by assumption) | exact i_Hill_tree i_BH_hill)) c_Tree (Nat.le_of_ble_eq_true rfl) (fun rr MM qq => ?_)
        obtain ⟨rfl, rfl⟩ := And.imp id Eq.symm qq; clear qq
        rw [hu]
        refine Rn.istore (lv1 := [_, _, _, _, _]) d_Cutting_worth_41 (by decide) (w_pv rfl) rfl ?_
        refine Rn.iload_n d_Cutting_worth_43 rfl ?_
        refine Rn.iload_n d_Cutting_worth_44 rfl ?_
        refine In.icmp_eq (tgt := 84) d_Cutting_worth_45 (by decide) ⟨by omega, by omega⟩ ⟨by omega, by omega⟩ (fun c45 => ?_) (fun c45 => ?_)
        · refine In.inc (lv1 := [_, _, _, _, _]) d_Cutting_worth_84 rfl (by decide) (w_pv rfl) rfl ?_
          refine Rn.goto (tgt := 32) d_Cutting_worth_87 (by decide) ?_
          rw [hs]
          exact ih (k + 1) _ _ (by omega) (fun j hj => by rw [e1 (by omega)]; exact h2 j hj) h3
        · refine Rn.iload d_Cutting_worth_48 rfl ?_
          refine In.if_lt (tgt := 84) d_Cutting_worth_50 (by decide) ⟨by omega, by omega⟩ (fun c50 => ?_) (fun c50 => ?_)
          · omega
          · refine Rn.iload d_Cutting_worth_53 rfl ?_
            refine Rn.aload_n d_Cutting_worth_55 rfl ?_
            refine Rn.getR d_Cutting_worth_56 f_Cutting_worths g_145 z_Cutting (r_Cutting_worths (by assumption)) ?_
            refine In.alen d_Cutting_worth_59 z_Cutting_worths (by decide) ?_
            refine In.icmp_lt (tgt := 66) d_Cutting_worth_60 (by decide) ⟨by omega, by omega⟩ ⟨by omega, by omega⟩ (fun c60 => ?_) (fun c60 => ?_)
            · have q1 := woF_lt f c k u
              have q2 := woF_lt f c k (11 - k)
              have q3 : 2 ^ k ≤ 2 ^ 11 := Nat.pow_le_pow_right (by decide) (by omega)
              have q4 : woF f c k (11 - k) + 1 < 4096 := by have : (2 : Nat) ^ 11 = 2048 := by decide
                                                            omega
              refine Rn.aload_n d_Cutting_worth_66 rfl ?_
              refine Rn.getR d_Cutting_worth_67 f_Cutting_worths g_145 z_Cutting (r_Cutting_worths (by assumption)) ?_
              refine Rn.iload d_Cutting_worth_70 rfl ?_
              refine Rn.dup2 d_Cutting_worth_72 rfl rfl ?_
              refine In.ald d_Cutting_worth_73 z_Cutting_worths rfl (by omega) (by decide) (h2 u (by omega)) ?_
              refine Rn.aload_n d_Cutting_worth_74 rfl ?_
              refine Rn.getR d_Cutting_worth_75 f_Cutting_worths g_145 z_Cutting (r_Cutting_worths (by assumption)) ?_
              refine Rn.iload_n d_Cutting_worth_78 rfl ?_
              refine In.ald d_Cutting_worth_79 z_Cutting_worths rfl (by omega) (by decide) (h2 (11 - k) (by omega)) ?_
              refine Rn.iconst (v := iI 1) d_Cutting_worth_80 rfl ?_
              refine In.add d_Cutting_worth_81 ?_
              refine In.xor rfl rfl d_Cutting_worth_82 ?_
              refine In.ast d_Cutting_worth_83 z_Cutting_worths rfl (by omega) (by decide) ?_
              refine In.inc (lv1 := [_, _, _, _, _]) d_Cutting_worth_84 rfl (by decide) (w_pv rfl) rfl ?_
              refine Rn.goto (tgt := 32) d_Cutting_worth_87 (by decide) ?_
              rw [hs]
              refine ih (k + 1) _ _ (by omega) (fun j hj => ?_) (h3.tr ((Off.ui _ _ _ _).wide (by omega) (by omega)))
              rw [e2 (by omega)]
              simp only [wov]
              rw [w_ui_if]
              by_cases e : j = u
              · rw [if_pos ⟨rfl, e⟩, if_pos e]
              · rw [if_neg (fun q => e q.2), if_neg e]; exact h2 j hj
            · omega
  have loop1 : ∀ (n i : Nat) (Mc : wM) (x4 : Option Value), i + n = 12 → (∀ j, j < i → Mc.1 21 j = iI 0) → Off M Mc 20 22 → Rn k_Cutting_worth none (0, 0) 2 [some (.ref 20), some (.ref t), some (.int (iI c)), some (.int (iI i)), x4] [] SH Mc (w_FI (0, 0) SH (fun r M' => r = iI (woF f c 11 0) ∧ Off M M' 20 22)) := by
    intro n
    induction n with
    | zero =>
      intro i Mc x4 h1 h2 h3
      have hGc := h3.G hG
      refine Rn.iload_n d_Cutting_worth_2 rfl ?_
      refine Rn.aload_n d_Cutting_worth_3 rfl ?_
      refine Rn.getR d_Cutting_worth_4 f_Cutting_worths g_145 z_Cutting (r_Cutting_worths (by assumption)) ?_
      refine In.alen d_Cutting_worth_7 z_Cutting_worths (by decide) ?_
      refine In.icmp_ge (tgt := 24) d_Cutting_worth_8 (by decide) ⟨by omega, by omega⟩ ⟨by omega, by omega⟩ (fun c8 => ?_) (fun c8 => ?_)
      · refine Rn.aload_n d_Cutting_worth_24 rfl ?_
        refine Rn.getR d_Cutting_worth_25 f_Cutting_worths g_145 z_Cutting (r_Cutting_worths (by assumption)) ?_
        refine In.alen d_Cutting_worth_28 z_Cutting_worths (by decide) ?_
        refine Rn.iconst (v := iI 1) d_Cutting_worth_29 rfl ?_
        refine In.sub d_Cutting_worth_30 ?_
        refine Rn.istore_n (lv1 := [_, _, _, _, _]) d_Cutting_worth_31 (by decide) (w_pv rfl) rfl ?_
        exact loop2 11 0 Mc x4 rfl (fun j hj => h2 j (by omega)) h3
      · omega
    | succ n ih =>
      intro i Mc x4 h1 h2 h3
      have hGc := h3.G hG
      refine Rn.iload_n d_Cutting_worth_2 rfl ?_
      refine Rn.aload_n d_Cutting_worth_3 rfl ?_
      refine Rn.getR d_Cutting_worth_4 f_Cutting_worths g_145 z_Cutting (r_Cutting_worths (by assumption)) ?_
      refine In.alen d_Cutting_worth_7 z_Cutting_worths (by decide) ?_
      refine In.icmp_ge (tgt := 24) d_Cutting_worth_8 (by decide) ⟨by omega, by omega⟩ ⟨by omega, by omega⟩ (fun c8 => ?_) (fun c8 => ?_)
      · omega
      · refine Rn.aload_n d_Cutting_worth_11 rfl ?_
        refine Rn.getR d_Cutting_worth_12 f_Cutting_worths g_145 z_Cutting (r_Cutting_worths (by assumption)) ?_
        refine Rn.iload_n d_Cutting_worth_15 rfl ?_
        refine Rn.iconst (v := iI 0) d_Cutting_worth_16 rfl ?_
        refine In.ast d_Cutting_worth_17 z_Cutting_worths rfl (by omega) (by decide) ?_
        refine In.inc (lv1 := [_, _, _, _, _]) d_Cutting_worth_18 rfl (by decide) (w_pv rfl) rfl ?_
        refine Rn.goto (tgt := 2) d_Cutting_worth_21 (by decide) ?_
        refine ih (i + 1) _ _ (by omega) (fun j hj => ?_) (h3.tr ((Off.ui _ _ _ _).wide (by omega) (by omega)))
        rw [w_ui_if]
        by_cases e : j = i
        · rw [if_pos ⟨rfl, e⟩]
        · rw [if_neg (fun q => e q.2)]; exact h2 j (by omega)
  exact loop1 12 0 M _ rfl (fun j hj => by omega) Off.rf
