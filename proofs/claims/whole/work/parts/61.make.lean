/-! The class, made. -/
set_option maxRecDepth 20000
set_option maxHeartbeats 400000
theorem Mkd.st {M M' : wM} {n e : Nat} (h : Mkd (w_z M n) M' n e) (hne : n < e) : Off M (M'.1, M.2) n e ∧ (∀ k, (k < n ∨ e ≤ k) → M'.2.2 k = M.2.2 k) ∧ (∀ k, n ≤ k → k < e → M'.2.2 k = RG k) :=
  ⟨⟨fun k hk => by show M'.1 k = M.1 k; rw [(h.1 k hk).1, zi, if_neg (by omega)], rfl⟩, fun k hk => by rw [(h.1 k hk).2, zr, if_neg (by omega)], h.2⟩
theorem zr_at (M : wM) (n : Nat) : (w_z M n).2.2 n = fun _ => none := by rw [zr, if_pos rfl]
theorem m_Hill_init {M : wM} {h : Nat} (hh : isHill h) (hr : M.2.2 h = fun _ => none) : EvN k_Hill_init h (h + 5) M (fun M' => Mkd M M' h (h + 5) ∧ hillAt M' h be0) := by
  have hb : h < 50 := by rcases hh with rfl | rfl | rfl | rfl | rfl <;> decide
  have hR : RG h = fun i => if i = 0 then some (h + 1) else if i = 1 then some (h + 3) else if i = 2 then some (h + 4) else none := by rcases hh with rfl | rfl | rfl | rfl | rfl <;> (funext i; rcases i with _ | _ | _ | _ | _ | i <;> rfl)
  have hR3 : RG (h + 3) = fun _ => none := by rcases hh with rfl | rfl | rfl | rfl | rfl <;> (funext i; rfl)
  have hR4 : RG (h + 4) = fun _ => none := by rcases hh with rfl | rfl | rfl | rfl | rfl <;> (funext i; rfl)
  refine Ev.of 1 (by decide) (Nat.le_of_ble_eq_true rfl) rfl ?_
  refine Rn.aload_n d_Hill_init_0 rfl ?_
  refine Rn.objInit d_Hill_init_1 g_29 g_22 g_23 (Nat.le_of_ble_eq_true rfl) (Nat.le_of_ble_eq_true rfl) ?_
  refine Rn.aload_n d_Hill_init_4 rfl ?_
  refine Rn.mk d_Hill_init_5 mk_Tree g_30 ⟨by decide, by decide⟩ (z_Tree (by first | assumption | exact i_Hill_tree (by assumption) | exact i_Hill_tree i_BH_hill)) (by omega) ⟨by repeat first | exact wi0 | refine wir (by omega) ?_ | refine wii ?_, by repeat first | exact wL0 | refine wLr (by omega) ?_ | refine wLi ?_ | refine wLn ?_⟩ ?_
  refine Rn.dup d_Hill_init_8 rfl ?_
  refine Rn.callI rfl d_Hill_init_9 s_Hill_init_Tree_init g_32 g_33 rfl (m_Tree_init (i_Hill_tree hh) (zr_at M (h + 1))) rfl rfl (Nat.le_of_ble_eq_true rfl) ⟨by decide, by decide⟩ (Or.inl (by rw [tk_len (by omega)]; exact ⟨by repeat first | exact wi0 | refine wir (by omega) ?_ | refine wii ?_, by repeat first | exact wL0 | refine wLr (by omega) ?_ | refine wLi ?_ | refine wLn ?_⟩)) (fun vv ss MT qq _ => ?_)
  obtain ⟨rfl, rfl, ⟨hm, ht⟩⟩ := qq
  refine Rn.putR d_Hill_init_12 f_Hill_tree g_41 (tk_get (z_Hill (by first | assumption | exact i_Image_hill (by assumption) | exact i_BH_hill | exact i_Telling_hill | exact i_Year_hill)) (by omega)) rfl (fun _ => rfl) (fun _ => rfl) rfl rfl (by rw [tk_len (by omega)]; omega) ?_
  refine Rn.aload_n d_Hill_init_15 rfl ?_
  refine Rn.bipush (v := iI 6) d_Hill_init_16 (by decide +kernel) ?_
  refine Rn.mkI d_Hill_init_18 (by decide +kernel) (by decide +kernel) (by decide) ⟨by decide, by decide⟩ (z_Hill_loops (by first | assumption | exact i_Image_hill (by assumption) | exact i_BH_hill | exact i_Telling_hill | exact i_Year_hill)) (by omega) ⟨by repeat first | exact wi0 | refine wir (by omega) ?_ | refine wii ?_, by repeat first | exact wL0 | refine wLr (by omega) ?_ | refine wLi ?_ | refine wLn ?_⟩ ?_
  refine Rn.putR d_Hill_init_20 f_Hill_loops g_42 (tk_get (z_Hill (by first | assumption | exact i_Image_hill (by assumption) | exact i_BH_hill | exact i_Telling_hill | exact i_Year_hill)) (by omega)) rfl (fun _ => rfl) (fun _ => rfl) rfl rfl (by rw [tk_len (by omega)]; omega) ?_
  refine Rn.aload_n d_Hill_init_23 rfl ?_
  refine Rn.bipush (v := iI 6) d_Hill_init_24 (by decide +kernel) ?_
  refine Rn.mkI d_Hill_init_26 (by decide +kernel) (by decide +kernel) (by decide) ⟨by decide, by decide⟩ (z_Hill_chips (by first | assumption | exact i_Image_hill (by assumption) | exact i_BH_hill | exact i_Telling_hill | exact i_Year_hill)) (by omega) ⟨by repeat first | exact wi0 | refine wir (by omega) ?_ | refine wii ?_, by repeat first | exact wL0 | refine wLr (by omega) ?_ | refine wLi ?_ | refine wLn ?_⟩ ?_
  refine Rn.putR d_Hill_init_28 f_Hill_chips g_43 (tk_get (z_Hill (by first | assumption | exact i_Image_hill (by assumption) | exact i_BH_hill | exact i_Telling_hill | exact i_Year_hill)) (by omega)) rfl (fun _ => rfl) (fun _ => rfl) rfl rfl (by rw [tk_len (by omega)]; omega) ?_
  refine Rn.aload_n d_Hill_init_31 rfl ?_
  refine Rn.iconst (v := iI 0) d_Hill_init_32 rfl ?_
  refine In.putI d_Hill_init_33 f_Hill_broken g_44 (tk_get (z_Hill (by first | assumption | exact i_Image_hill (by assumption) | exact i_BH_hill | exact i_Telling_hill | exact i_Year_hill)) (by omega)) ?_
  refine Rn.aload_n d_Hill_init_36 rfl ?_
  refine Rn.iconst (v := iI 0) d_Hill_init_37 rfl ?_
  refine In.putI d_Hill_init_38 f_Hill_winter g_45 (tk_get (z_Hill (by first | assumption | exact i_Image_hill (by assumption) | exact i_BH_hill | exact i_Telling_hill | exact i_Year_hill)) (by omega)) ?_
  refine Rn.iconst (v := iI 0) d_Hill_init_41 rfl ?_
  refine Rn.istore_n (lv1 := [_, _]) d_Hill_init_42 (by decide) (w_pv rfl) rfl ?_
  have loop : ∀ (d k : Nat) (Mc : wM), k + d = 6 → Mkd M Mc h (h + 5) → treeAt Mc (h + 1) be0 → (∀ b, b < 6 → Mc.1 (h + 4) b = iI 0) → Mc.1 h 3 = iI 0 → Mc.1 h 4 = iI 0 → (∀ j, j < k → Mc.1 (h + 3) j = iI (-6)) → Rn k_Hill_init none (4, 25) 43 [some (.ref h), some (.int (iI k))] [] (SH.take (h + 5)) Mc (fun v sh' M' cs' => (v = none ∧ sh' = SH.take (h + 5) ∧ Mkd M M' h (h + 5) ∧ hillAt M' h be0) ∧ cs'.1 ≤ (k_Hill_init).2.2.2.2.cells ∧ cs'.2 ≤ (k_Hill_init).2.2.2.2.slots) := by
    intro d
    induction d with
    | zero =>
      intro k Mc h1 h2 h3 h4 h5 h6 h7
      have hg : Mc.2.2 h 1 = some (h + 3) := by rw [h2.2 h (Nat.le_refl _) (by omega), hR]; rfl
      refine Rn.iload_n d_Hill_init_43 rfl ?_
      refine Rn.aload_n d_Hill_init_44 rfl ?_
      refine Rn.getR d_Hill_init_45 f_Hill_loops g_42 (tk_get (z_Hill (by first | assumption | exact i_Image_hill (by assumption) | exact i_BH_hill | exact i_Telling_hill | exact i_Year_hill)) (by omega)) hg ?_
      refine In.alen d_Hill_init_48 (tk_get (z_Hill_loops (by first | assumption | exact i_Image_hill (by assumption) | exact i_BH_hill | exact i_Telling_hill | exact i_Year_hill)) (by omega)) (by decide) ?_
      refine In.icmp_ge (tgt := 66) d_Hill_init_49 (by decide) ⟨by omega, by omega⟩ ⟨by omega, by omega⟩ (fun c49 => ?_) (fun c49 => ?_)
      · exact Rn.nret d_Hill_init_66 rfl ⟨h2, h3, fun b hb => by rw [h7 b (by omega)]; unfold be0; rw [if_neg (by omega), if_neg (by omega), if_pos (by omega)], fun b hb => by rw [h4 b hb]; unfold be0; rw [if_neg (by omega), if_neg (by omega), if_neg (by omega)], h5, h6⟩ (by decide) (by decide)
      · omega
    | succ d ih =>
      intro k Mc h1 h2 h3 h4 h5 h6 h7
      have hg : Mc.2.2 h 1 = some (h + 3) := by rw [h2.2 h (Nat.le_refl _) (by omega), hR]; rfl
      refine Rn.iload_n d_Hill_init_43 rfl ?_
      refine Rn.aload_n d_Hill_init_44 rfl ?_
      refine Rn.getR d_Hill_init_45 f_Hill_loops g_42 (tk_get (z_Hill (by first | assumption | exact i_Image_hill (by assumption) | exact i_BH_hill | exact i_Telling_hill | exact i_Year_hill)) (by omega)) hg ?_
      refine In.alen d_Hill_init_48 (tk_get (z_Hill_loops (by first | assumption | exact i_Image_hill (by assumption) | exact i_BH_hill | exact i_Telling_hill | exact i_Year_hill)) (by omega)) (by decide) ?_
      refine In.icmp_ge (tgt := 66) d_Hill_init_49 (by decide) ⟨by omega, by omega⟩ ⟨by omega, by omega⟩ (fun c49 => ?_) (fun c49 => ?_)
      · omega
      · refine Rn.aload_n d_Hill_init_52 rfl ?_
        refine Rn.getR d_Hill_init_53 f_Hill_loops g_42 (tk_get (z_Hill (by first | assumption | exact i_Image_hill (by assumption) | exact i_BH_hill | exact i_Telling_hill | exact i_Year_hill)) (by omega)) hg ?_
        refine Rn.iload_n d_Hill_init_56 rfl ?_
        refine Rn.bipush (v := iI (-6)) d_Hill_init_57 (by decide +kernel) ?_
        refine In.ast d_Hill_init_59 (tk_get (z_Hill_loops (by first | assumption | exact i_Image_hill (by assumption) | exact i_BH_hill | exact i_Telling_hill | exact i_Year_hill)) (by omega)) rfl (by omega) (by decide) ?_
        refine In.inc (lv1 := [_, _]) d_Hill_init_60 rfl (by decide) (w_pv rfl) rfl ?_
        refine Rn.goto (tgt := 43) d_Hill_init_63 (by decide) ?_
        refine ih (k + 1) _ (by omega) ⟨fun j hj => ⟨by rw [w_ui_off _ _ _ _ _ (by omega)]; exact (h2.1 j hj).1, (h2.1 j hj).2⟩, h2.2⟩ (fun j j1 j2 => by rw [w_ui_off _ _ _ _ _ (by omega)]; exact h3 j j1 j2) (fun b hb => by rw [w_ui_off _ _ _ _ _ (by omega)]; exact h4 b hb) (by rw [w_ui_off _ _ _ _ _ (by omega)]; exact h5) (by rw [w_ui_off _ _ _ _ _ (by omega)]; exact h6) (fun j hj => ?_)
        rw [w_ui_if]
        by_cases e : j = k
        · rw [if_pos ⟨rfl, e⟩]
        · rw [if_neg (by omega)]; exact h7 j (by omega)
  refine loop 6 0 _ rfl ⟨fun k hk => ⟨?_, ?_⟩, fun k h1 h2 => ?_⟩ (fun j j1 j2 => ?_) (fun b hb => ?_) ?_ ?_ (fun j hj => by omega)
  · rw [w_ui_off _ _ _ _ _ (by omega), w_ui_off _ _ _ _ _ (by omega), w_ur_1, zi, if_neg (by omega), w_ur_1, zi, if_neg (by omega), w_ur_1, (hm.1 k (by omega)).1, zi, if_neg (by omega)]
  · rw [w_ui_2, w_ui_2, ur, if_neg (by omega), zr, if_neg (by omega), ur, if_neg (by omega), zr, if_neg (by omega), ur, if_neg (by omega), (hm.1 k (by omega)).2, zr, if_neg (by omega)]
  · rw [w_ui_2, w_ui_2, ur]
    by_cases e : k = h
    · subst e
      rw [if_pos rfl, hR]
      funext i
      have e0 : MT.2.2 k = fun _ => none := by rw [(hm.1 k (by omega)).2, zr, if_neg (by omega), hr]
      by_cases i2 : i = 2
      · subst i2; rfl
      · rw [if_neg i2, zr, if_neg (show ¬ k = k + 4 by omega), ur, if_pos rfl]
        by_cases i1 : i = 1
        · subst i1; rfl
        · rw [if_neg i1, zr, if_neg (show ¬ k = k + 3 by omega), ur, if_pos rfl, e0]
          simp only [if_neg i2, if_neg i1]
    · rw [if_neg e, zr]
      by_cases e4 : k = h + 4
      · rw [if_pos e4, e4, hR4]
      · rw [if_neg (by omega), ur, if_neg e, zr]
        by_cases e3 : k = h + 3
        · rw [if_pos e3, e3, hR3]
        · rw [if_neg (by omega), ur, if_neg e]
          exact hm.2 k (by omega) (by omega)
  · rw [w_ui_off _ _ _ _ _ (by omega), w_ui_off _ _ _ _ _ (by omega), w_ur_1, zi, if_neg (by omega), w_ur_1, zi, if_neg (by omega), w_ur_1]
    exact ht j j1 j2
  · rw [w_ui_off _ _ _ _ _ (by omega), w_ui_off _ _ _ _ _ (by omega), w_ur_1, zi, if_pos (by omega)]; rfl
  · rw [w_ui_if, if_neg (by omega), w_ui_at]
  · rw [w_ui_at]
theorem m_Sights_init {M : wM} {h : Nat} (hh : isSights h) (hr : M.2.2 h = fun _ => none) : EvN k_Sights_init h (h + 3) M (fun M' => Mkd M M' h (h + 3) ∧ sgAt M' h 0 (fun _ => 0)) := by
  have hb : h < 50 := by rcases hh with rfl | rfl | rfl <;> decide
  have hR : RG h = fun i => if i = 0 then some (h + 1) else if i = 1 then some (h + 2) else none := by rcases hh with rfl | rfl | rfl <;> (funext i; rcases i with _ | _ | _ | i <;> rfl)
  have hR1 : RG (h + 1) = fun _ => none := by rcases hh with rfl | rfl | rfl <;> (funext i; rfl)
  have hR2 : RG (h + 2) = fun _ => none := by rcases hh with rfl | rfl | rfl <;> (funext i; rfl)
  refine Ev.of 0 (by decide) (Nat.le_of_ble_eq_true rfl) rfl ?_
  refine Rn.aload_n d_Sights_init_0 rfl ?_
  refine Rn.objInit d_Sights_init_1 g_62 g_22 g_23 (Nat.le_of_ble_eq_true rfl) (Nat.le_of_ble_eq_true rfl) ?_
  refine Rn.aload_n d_Sights_init_4 rfl ?_
  refine Rn.bipush (v := iI 8) d_Sights_init_5 (by decide +kernel) ?_
  refine Rn.mkI d_Sights_init_7 (by decide +kernel) (by decide +kernel) (by decide) ⟨by decide, by decide⟩ (z_Sights_loops (by first | assumption | exact i_Image_sights (by assumption) | exact i_BH_sights)) (by omega) ⟨by repeat first | exact wi0 | refine wir (by omega) ?_ | refine wii ?_, by repeat first | exact wL0 | refine wLr (by omega) ?_ | refine wLi ?_ | refine wLn ?_⟩ ?_
  refine Rn.putR d_Sights_init_9 f_Sights_loops g_63 (tk_get (z_Sights (by first | assumption | exact i_Image_sights (by assumption) | exact i_BH_sights)) (by omega)) rfl (fun _ => rfl) (fun _ => rfl) rfl rfl (by rw [tk_len (by omega)]; omega) ?_
  refine Rn.aload_n d_Sights_init_12 rfl ?_
  refine Rn.bipush (v := iI 8) d_Sights_init_13 (by decide +kernel) ?_
  refine Rn.mkI d_Sights_init_15 (by decide +kernel) (by decide +kernel) (by decide) ⟨by decide, by decide⟩ (z_Sights_fars (by first | assumption | exact i_Image_sights (by assumption) | exact i_BH_sights)) (by omega) ⟨by repeat first | exact wi0 | refine wir (by omega) ?_ | refine wii ?_, by repeat first | exact wL0 | refine wLr (by omega) ?_ | refine wLi ?_ | refine wLn ?_⟩ ?_
  refine Rn.putR d_Sights_init_17 f_Sights_fars g_64 (tk_get (z_Sights (by first | assumption | exact i_Image_sights (by assumption) | exact i_BH_sights)) (by omega)) rfl (fun _ => rfl) (fun _ => rfl) rfl rfl (by rw [tk_len (by omega)]; omega) ?_
  refine Rn.aload_n d_Sights_init_20 rfl ?_
  refine Rn.iconst (v := iI 0) d_Sights_init_21 rfl ?_
  refine In.putI d_Sights_init_22 f_Sights_count g_65 (tk_get (z_Sights (by first | assumption | exact i_Image_sights (by assumption) | exact i_BH_sights)) (by omega)) ?_
  refine Rn.nret (n' := h + 3) d_Sights_init_25 rfl ⟨⟨fun k hk => ⟨?_, ?_⟩, fun k h1 h2 => ?_⟩, fun i hi => ?_, fun i hi => ?_, ?_⟩ (by decide) (by decide)
  · rw [w_ui_off _ _ _ _ _ (by omega), w_ur_1, zi, if_neg (by omega), w_ur_1, zi, if_neg (by omega)]
  · rw [w_ui_2, ur, if_neg (by omega), zr, if_neg (by omega), ur, if_neg (by omega), zr, if_neg (by omega)]
  · rw [w_ui_2, ur]
    by_cases e : k = h
    · subst e
      rw [if_pos rfl, hR]
      funext i
      by_cases i1 : i = 1
      · subst i1; rfl
      · rw [if_neg i1, zr, if_neg (show ¬ k = k + 2 by omega), ur, if_pos rfl, zr, if_neg (show ¬ k = k + 1 by omega), hr]
        simp only [if_neg i1]
    · rw [if_neg e, zr]
      by_cases e4 : k = h + 2
      · rw [if_pos e4, e4, hR2]
      · rw [if_neg (by omega), ur, if_neg e, zr]
        have e3 : k = h + 1 := by omega
        rw [if_pos e3, e3, hR1]
  · rw [w_ui_off _ _ _ _ _ (by omega), w_ur_1, zi, if_neg (by omega), w_ur_1, zi, if_pos rfl]; rfl
  · rw [w_ui_off _ _ _ _ _ (by omega), w_ur_1, zi, if_pos (by omega)]; rfl
  · rw [w_ui_at]; rfl
theorem m_Pad_init {M : wM} (hr : M.2.2 9 = fun _ => none) : EvN k_Pad_init 9 11 M (fun M' => Mkd M M' 9 11 ∧ padAt M' 0 (fun _ => 0)) := by
  have hR : RG 9 = fun i => if i = 0 then some 10 else none := by funext i; rcases i with _ | _ | i <;> rfl
  have hR1 : RG 10 = fun _ => none := by funext i; rfl
  refine Ev.of 0 (by decide) (Nat.le_of_ble_eq_true rfl) rfl ?_
  refine Rn.aload_n d_Pad_init_0 rfl ?_
  refine Rn.objInit d_Pad_init_1 g_78 g_22 g_23 (Nat.le_of_ble_eq_true rfl) (Nat.le_of_ble_eq_true rfl) ?_
  refine Rn.aload_n d_Pad_init_4 rfl ?_
  refine Rn.bipush (v := iI 60) d_Pad_init_5 (by decide +kernel) ?_
  refine Rn.mkI d_Pad_init_7 (by decide +kernel) (by decide +kernel) (by decide) ⟨by decide, by decide⟩ z_Pad_signs (by omega) ⟨by repeat first | exact wi0 | refine wir (by omega) ?_ | refine wii ?_, by repeat first | exact wL0 | refine wLr (by omega) ?_ | refine wLi ?_ | refine wLn ?_⟩ ?_
  refine Rn.putR d_Pad_init_9 f_Pad_signs g_79 (tk_get z_Pad (by omega)) rfl (fun _ => rfl) (fun _ => rfl) rfl rfl (by rw [tk_len (by omega)]; omega) ?_
  refine Rn.aload_n d_Pad_init_12 rfl ?_
  refine Rn.iconst (v := iI 0) d_Pad_init_13 rfl ?_
  refine In.putI d_Pad_init_14 f_Pad_count g_80 (tk_get z_Pad (by omega)) ?_
  refine Rn.nret (n' := 11) d_Pad_init_17 rfl ⟨⟨fun k hk => ⟨?_, ?_⟩, fun k h1 h2 => ?_⟩, fun i hi => ?_, ?_⟩ (by decide) (by decide)
  · rw [w_ui_off _ _ _ _ _ (by omega), w_ur_1, zi, if_neg (by omega)]
  · rw [w_ui_2, ur, if_neg (by omega), zr, if_neg (by omega)]
  · rw [w_ui_2, ur]
    by_cases e : k = 9
    · subst e
      rw [if_pos rfl, hR, zr, if_neg (by omega), hr]
    · have : k = 10 := by omega
      subst this
      rw [if_neg e, zr, if_pos rfl, hR1]
  · rw [w_ui_off _ _ _ _ _ (by omega), w_ur_1, zi, if_pos rfl]; rfl
  · rw [w_ui_at]; rfl
theorem m_Choice_init {M : wM} (hr : M.2.2 18 = fun _ => none) : EvN k_Choice_init 18 20 M (fun M' => Mkd M M' 18 20) := by
  have hR : RG 18 = fun i => if i = 0 then some 19 else none := by funext i; rcases i with _ | i <;> rfl
  have hR1 : RG 19 = fun _ => none := by funext i; rfl
  refine Ev.of 0 (by decide) (Nat.le_of_ble_eq_true rfl) rfl ?_
  refine Rn.aload_n d_Choice_init_0 rfl ?_
  refine Rn.objInit d_Choice_init_1 g_134 g_22 g_23 (Nat.le_of_ble_eq_true rfl) (Nat.le_of_ble_eq_true rfl) ?_
  refine Rn.aload_n d_Choice_init_4 rfl ?_
  refine Rn.bipush (v := iI 12) d_Choice_init_5 (by decide +kernel) ?_
  refine Rn.mkI d_Choice_init_7 (by decide +kernel) (by decide +kernel) (by decide) ⟨by decide, by decide⟩ z_Choice_around (by omega) ⟨by repeat first | exact wi0 | refine wir (by omega) ?_ | refine wii ?_, by repeat first | exact wL0 | refine wLr (by omega) ?_ | refine wLi ?_ | refine wLn ?_⟩ ?_
  refine Rn.putR d_Choice_init_9 f_Choice_around g_135 (tk_get z_Choice (by omega)) rfl (fun _ => rfl) (fun _ => rfl) rfl rfl (by rw [tk_len (by omega)]; omega) ?_
  refine Rn.nret (n' := 20) d_Choice_init_12 rfl ⟨fun k hk => ⟨?_, ?_⟩, fun k h1 h2 => ?_⟩ (by decide) (by decide)
  · rw [w_ur_1, zi, if_neg (by omega)]
  · rw [ur, if_neg (by omega), zr, if_neg (by omega)]
  · rw [ur]
    by_cases e : k = 18
    · subst e
      rw [if_pos rfl, hR, zr, if_neg (by omega), hr]
    · have : k = 19 := by omega
      subst this
      rw [if_neg e, zr, if_pos rfl, hR1]
theorem m_Cutting_init {M : wM} (hr : M.2.2 20 = fun _ => none) : EvN k_Cutting_init 20 22 M (fun M' => Mkd M M' 20 22) := by
  have hR : RG 20 = fun i => if i = 0 then some 21 else none := by funext i; rcases i with _ | i <;> rfl
  have hR1 : RG 21 = fun _ => none := by funext i; rfl
  refine Ev.of 0 (by decide) (Nat.le_of_ble_eq_true rfl) rfl ?_
  refine Rn.aload_n d_Cutting_init_0 rfl ?_
  refine Rn.objInit d_Cutting_init_1 g_144 g_22 g_23 (Nat.le_of_ble_eq_true rfl) (Nat.le_of_ble_eq_true rfl) ?_
  refine Rn.aload_n d_Cutting_init_4 rfl ?_
  refine Rn.bipush (v := iI 12) d_Cutting_init_5 (by decide +kernel) ?_
  refine Rn.mkI d_Cutting_init_7 (by decide +kernel) (by decide +kernel) (by decide) ⟨by decide, by decide⟩ z_Cutting_worths (by omega) ⟨by repeat first | exact wi0 | refine wir (by omega) ?_ | refine wii ?_, by repeat first | exact wL0 | refine wLr (by omega) ?_ | refine wLi ?_ | refine wLn ?_⟩ ?_
  refine Rn.putR d_Cutting_init_9 f_Cutting_worths g_145 (tk_get z_Cutting (by omega)) rfl (fun _ => rfl) (fun _ => rfl) rfl rfl (by rw [tk_len (by omega)]; omega) ?_
  refine Rn.nret (n' := 22) d_Cutting_init_12 rfl ⟨fun k hk => ⟨?_, ?_⟩, fun k h1 h2 => ?_⟩ (by decide) (by decide)
  · rw [w_ur_1, zi, if_neg (by omega)]
  · rw [ur, if_neg (by omega), zr, if_neg (by omega)]
  · rw [ur]
    by_cases e : k = 20
    · subst e
      rw [if_pos rfl, hR, zr, if_neg (by omega), hr]
    · have : k = 21 := by omega
      subst this
      rw [if_neg e, zr, if_pos rfl, hR1]
theorem m_Year_init {M : wM} (hr : M.2.2 22 = fun _ => none) : EvN k_Year_init 22 29 M (fun M' => Mkd M M' 22 29) := by
  have hR : RG 22 = fun i => if i = 0 then some 23 else if i = 1 then some 28 else none := by funext i; rcases i with _ | _ | i <;> rfl
  refine Ev.of 0 (by decide) (Nat.le_of_ble_eq_true rfl) rfl ?_
  refine Rn.aload_n d_Year_init_0 rfl ?_
  refine Rn.objInit d_Year_init_1 g_154 g_22 g_23 (Nat.le_of_ble_eq_true rfl) (Nat.le_of_ble_eq_true rfl) ?_
  refine Rn.aload_n d_Year_init_4 rfl ?_
  refine Rn.mk d_Year_init_5 mk_Hill g_155 ⟨by decide, by decide⟩ (z_Hill (by first | assumption | exact i_Image_hill (by assumption) | exact i_BH_hill | exact i_Telling_hill | exact i_Year_hill)) (by omega) ⟨by repeat first | exact wi0 | refine wir (by omega) ?_ | refine wii ?_, by repeat first | exact wL0 | refine wLr (by omega) ?_ | refine wLi ?_ | refine wLn ?_⟩ ?_
  refine Rn.dup d_Year_init_8 rfl ?_
  refine Rn.callI rfl d_Year_init_9 s_Year_init_Hill_init g_156 g_27 rfl (m_Hill_init i_Year_hill (zr_at M 23)) rfl rfl (Nat.le_of_ble_eq_true rfl) ⟨by decide, by decide⟩ (Or.inl (by rw [tk_len (by omega)]; exact ⟨by repeat first | exact wi0 | refine wir (by omega) ?_ | refine wii ?_, by repeat first | exact wL0 | refine wLr (by omega) ?_ | refine wLi ?_ | refine wLn ?_⟩)) (fun vv ss M1 qq _ => ?_)
  obtain ⟨rfl, rfl, ⟨hm, _⟩⟩ := qq
  obtain ⟨o1, o2, o3⟩ := hm.st (by decide)
  refine Rn.putR d_Year_init_12 f_Year_hill g_159 (tk_get z_Year (by omega)) rfl (fun _ => rfl) (fun _ => rfl) rfl rfl (by rw [tk_len (by omega)]; omega) ?_
  refine Rn.aload_n d_Year_init_15 rfl ?_
  refine Rn.mk d_Year_init_16 mk_Act g_157 ⟨by decide, by decide⟩ (z_Act (by first | assumption | exact i_Telling_act | exact i_Year_act)) (by omega) ⟨by repeat first | exact wi0 | refine wir (by omega) ?_ | refine wii ?_, by repeat first | exact wL0 | refine wLr (by omega) ?_ | refine wLi ?_ | refine wLn ?_⟩ ?_
  refine Rn.dup d_Year_init_19 rfl ?_
  refine Rn.callIN rfl d_Year_init_20 s_Year_init_Act_init (j := 7) (host := "BaubleHill") rfl g_97 rfl (m_Act_init i_Year_act (zr_at _ 28)) rfl rfl (Nat.le_of_ble_eq_true rfl) ⟨by decide, by decide⟩ (Or.inl (by rw [tk_len (by omega)]; exact ⟨by repeat first | exact wi0 | refine wir (by omega) ?_ | refine wii ?_, by repeat first | exact wL0 | refine wLr (by omega) ?_ | refine wLi ?_ | refine wLn ?_⟩)) (fun vv ss M2 qq _ => ?_)
  obtain ⟨rfl, rfl, hm2⟩ := qq
  obtain ⟨p1, p2, p3⟩ := hm2.st (by decide)
  refine Rn.putR d_Year_init_23 f_Year_act g_160 (tk_get z_Year (by omega)) rfl (fun _ => rfl) (fun _ => rfl) rfl rfl (by rw [tk_len (by omega)]; omega) ?_
  refine Rn.nret (n' := 29) d_Year_init_26 rfl ⟨fun k hk => ⟨?_, ?_⟩, fun k h1 h2 => ?_⟩ (by decide) (by decide)
  · rw [w_ur_1]
    exact (p1.1 k (by omega)).trans (o1.1 k (by omega))
  · rw [ur, if_neg (by omega), p2 k (by omega), ur, if_neg (by omega), o2 k (by omega)]
  · rw [ur]
    by_cases e : k = 22
    · subst e
      rw [if_pos rfl, p2 22 (by omega), ur, if_pos rfl, o2 22 (by omega), hr, hR]
      funext i
      by_cases i1 : i = 1
      · subst i1; rfl
      · simp only [if_neg i1]
    · rw [if_neg e]
      by_cases e2 : k < 28
      · rw [p2 k (by omega), ur, if_neg e]; exact o3 k (by omega) (by omega)
      · exact p3 k (by omega) (by omega)
theorem m_Telling_init {M : wM} (hr : M.2.2 11 = fun _ => none) : EvN k_Telling_init 11 18 M (fun M' => Mkd M M' 11 18) := by
  have hR : RG 11 = fun i => if i = 0 then some 12 else if i = 1 then some 17 else none := by funext i; rcases i with _ | _ | _ | _ | _ | _ | i <;> rfl
  refine Ev.of 0 (by decide) (Nat.le_of_ble_eq_true rfl) rfl ?_
  refine Rn.aload_n d_Telling_init_0 rfl ?_
  refine Rn.objInit d_Telling_init_1 g_91 g_22 g_23 (Nat.le_of_ble_eq_true rfl) (Nat.le_of_ble_eq_true rfl) ?_
  refine Rn.aload_n d_Telling_init_4 rfl ?_
  refine Rn.mk d_Telling_init_5 mk_Hill g_92 ⟨by decide, by decide⟩ (z_Hill (by first | assumption | exact i_Image_hill (by assumption) | exact i_BH_hill | exact i_Telling_hill | exact i_Year_hill)) (by omega) ⟨by repeat first | exact wi0 | refine wir (by omega) ?_ | refine wii ?_, by repeat first | exact wL0 | refine wLr (by omega) ?_ | refine wLi ?_ | refine wLn ?_⟩ ?_
  refine Rn.dup d_Telling_init_8 rfl ?_
  refine Rn.callI rfl d_Telling_init_9 s_Telling_init_Hill_init g_93 g_27 rfl (m_Hill_init i_Telling_hill (zr_at M 12)) rfl rfl (Nat.le_of_ble_eq_true rfl) ⟨by decide, by decide⟩ (Or.inl (by rw [tk_len (by omega)]; exact ⟨by repeat first | exact wi0 | refine wir (by omega) ?_ | refine wii ?_, by repeat first | exact wL0 | refine wLr (by omega) ?_ | refine wLi ?_ | refine wLn ?_⟩)) (fun vv ss M1 qq _ => ?_)
  obtain ⟨rfl, rfl, ⟨hm, _⟩⟩ := qq
  obtain ⟨o1, o2, o3⟩ := hm.st (by decide)
  refine Rn.putR d_Telling_init_12 f_Telling_hill g_110 (tk_get z_Telling (by omega)) rfl (fun _ => rfl) (fun _ => rfl) rfl rfl (by rw [tk_len (by omega)]; omega) ?_
  refine Rn.aload_n d_Telling_init_15 rfl ?_
  refine Rn.mk d_Telling_init_16 mk_Act g_94 ⟨by decide, by decide⟩ (z_Act (by first | assumption | exact i_Telling_act | exact i_Year_act)) (by omega) ⟨by repeat first | exact wi0 | refine wir (by omega) ?_ | refine wii ?_, by repeat first | exact wL0 | refine wLr (by omega) ?_ | refine wLi ?_ | refine wLn ?_⟩ ?_
  refine Rn.dup d_Telling_init_19 rfl ?_
  refine Rn.callIN rfl d_Telling_init_20 s_Telling_init_Act_init (j := 3) (host := "BaubleHill") rfl g_97 rfl (m_Act_init i_Telling_act (zr_at _ 17)) rfl rfl (Nat.le_of_ble_eq_true rfl) ⟨by decide, by decide⟩ (Or.inl (by rw [tk_len (by omega)]; exact ⟨by repeat first | exact wi0 | refine wir (by omega) ?_ | refine wii ?_, by repeat first | exact wL0 | refine wLr (by omega) ?_ | refine wLi ?_ | refine wLn ?_⟩)) (fun vv ss M2 qq _ => ?_)
  obtain ⟨rfl, rfl, hm2⟩ := qq
  obtain ⟨p1, p2, p3⟩ := hm2.st (by decide)
  refine Rn.putR d_Telling_init_23 f_Telling_act g_111 (tk_get z_Telling (by omega)) rfl (fun _ => rfl) (fun _ => rfl) rfl rfl (by rw [tk_len (by omega)]; omega) ?_
  refine Rn.aload_n d_Telling_init_26 rfl ?_
  refine Rn.iconst (v := iI 0) d_Telling_init_27 rfl ?_
  refine In.putI d_Telling_init_28 f_Telling_acts g_112 (tk_get z_Telling (by omega)) ?_
  refine Rn.aload_n d_Telling_init_31 rfl ?_
  refine Rn.iconst (v := iI 0) d_Telling_init_32 rfl ?_
  refine In.putI d_Telling_init_33 f_Telling_why g_113 (tk_get z_Telling (by omega)) ?_
  refine Rn.aload_n d_Telling_init_36 rfl ?_
  refine Rn.bipush (v := iI (-6)) d_Telling_init_37 (by decide +kernel) ?_
  refine In.putI d_Telling_init_39 f_Telling_actThatBroke g_114 (tk_get z_Telling (by omega)) ?_
  refine Rn.aload_n d_Telling_init_42 rfl ?_
  refine Rn.bipush (v := iI (-6)) d_Telling_init_43 (by decide +kernel) ?_
  refine In.putI d_Telling_init_45 f_Telling_ballThatBroke g_115 (tk_get z_Telling (by omega)) ?_
  refine Rn.nret (n' := 18) d_Telling_init_48 rfl ⟨fun k hk => ⟨?_, ?_⟩, fun k h1 h2 => ?_⟩ (by decide) (by decide)
  · rw [w_ui_off _ _ _ _ _ (by omega), w_ui_off _ _ _ _ _ (by omega), w_ui_off _ _ _ _ _ (by omega), w_ui_off _ _ _ _ _ (by omega), w_ur_1]
    exact (p1.1 k (by omega)).trans (o1.1 k (by omega))
  · rw [w_ui_2, w_ui_2, w_ui_2, w_ui_2, ur, if_neg (by omega), p2 k (by omega), ur, if_neg (by omega), o2 k (by omega)]
  · rw [w_ui_2, w_ui_2, w_ui_2, w_ui_2, ur]
    by_cases e : k = 11
    · subst e
      rw [if_pos rfl, p2 11 (by omega), ur, if_pos rfl, o2 11 (by omega), hr, hR]
      funext i
      by_cases i1 : i = 1
      · subst i1; rfl
      · simp only [if_neg i1]
    · rw [if_neg e]
      by_cases e2 : k < 17
      · rw [p2 k (by omega), ur, if_neg e]; exact o3 k (by omega) (by omega)
      · exact p3 k (by omega) (by omega)
def im0 : wIm := (false, be0, 0, fun _ => 0)
theorem m_Image_init {M : wM} {h : Nat} (hh : isImage h) (hr : M.2.2 h = fun _ => none) : EvN k_Image_init h (h + 9) M (fun M' => Mkd M M' h (h + 9) ∧ imgAt M' h im0) := by
  have hb : h < 40 := by rcases hh with rfl | rfl <;> decide
  have hR : RG h = fun i => if i = 0 then some (h + 1) else if i = 1 then some (h + 6) else none := by rcases hh with rfl | rfl <;> (funext i; rcases i with _ | _ | _ | i <;> rfl)
  refine Ev.of 0 (by decide) (Nat.le_of_ble_eq_true rfl) rfl ?_
  refine Rn.aload_n d_Image_init_0 rfl ?_
  refine Rn.objInit d_Image_init_1 g_171 g_22 g_23 (Nat.le_of_ble_eq_true rfl) (Nat.le_of_ble_eq_true rfl) ?_
  refine Rn.aload_n d_Image_init_4 rfl ?_
  refine Rn.mk d_Image_init_5 mk_Hill g_172 ⟨by decide, by decide⟩ (z_Hill (by first | assumption | exact i_Image_hill (by assumption) | exact i_BH_hill | exact i_Telling_hill | exact i_Year_hill)) (by omega) ⟨by repeat first | exact wi0 | refine wir (by omega) ?_ | refine wii ?_, by repeat first | exact wL0 | refine wLr (by omega) ?_ | refine wLi ?_ | refine wLn ?_⟩ ?_
  refine Rn.dup d_Image_init_8 rfl ?_
  refine Rn.callI rfl d_Image_init_9 s_Image_init_Hill_init g_173 g_27 rfl (m_Hill_init (i_Image_hill hh) (zr_at M (h + 1))) rfl rfl (Nat.le_of_ble_eq_true rfl) ⟨by decide, by decide⟩ (Or.inl (by rw [tk_len (by omega)]; exact ⟨by repeat first | exact wi0 | refine wir (by omega) ?_ | refine wii ?_, by repeat first | exact wL0 | refine wLr (by omega) ?_ | refine wLi ?_ | refine wLn ?_⟩)) (fun vv ss M1 qq _ => ?_)
  obtain ⟨rfl, rfl, ⟨hm, hi⟩⟩ := qq
  obtain ⟨o1, o2, o3⟩ := hm.st (by omega)
  refine Rn.putR d_Image_init_12 f_Image_hill g_176 (tk_get (z_Image (by first | assumption | exact i_BH_firstImage | exact i_BH_secondImage)) (by omega)) rfl (fun _ => rfl) (fun _ => rfl) rfl rfl (by rw [tk_len (by omega)]; omega) ?_
  refine Rn.aload_n d_Image_init_15 rfl ?_
  refine Rn.mk d_Image_init_16 mk_Sights g_174 ⟨by decide, by decide⟩ (z_Sights (by first | assumption | exact i_Image_sights (by assumption) | exact i_BH_sights)) (by omega) ⟨by repeat first | exact wi0 | refine wir (by omega) ?_ | refine wii ?_, by repeat first | exact wL0 | refine wLr (by omega) ?_ | refine wLi ?_ | refine wLn ?_⟩ ?_
  refine Rn.dup d_Image_init_19 rfl ?_
  refine Rn.callIN rfl d_Image_init_20 s_Image_init_Sights_init (j := 9) (host := "BaubleHill") rfl g_60 rfl (m_Sights_init (i_Image_sights hh) (zr_at _ (h + 6))) rfl rfl (Nat.le_of_ble_eq_true rfl) ⟨by decide, by decide⟩ (Or.inl (by rw [tk_len (by omega)]; exact ⟨by repeat first | exact wi0 | refine wir (by omega) ?_ | refine wii ?_, by repeat first | exact wL0 | refine wLr (by omega) ?_ | refine wLi ?_ | refine wLn ?_⟩)) (fun vv ss M2 qq _ => ?_)
  obtain ⟨rfl, rfl, ⟨hm2, hs⟩⟩ := qq
  obtain ⟨p1, p2, p3⟩ := hm2.st (by omega)
  refine Rn.putR d_Image_init_23 f_Image_sights g_177 (tk_get (z_Image (by first | assumption | exact i_BH_firstImage | exact i_BH_secondImage)) (by omega)) rfl (fun _ => rfl) (fun _ => rfl) rfl rfl (by rw [tk_len (by omega)]; omega) ?_
  refine Rn.aload_n d_Image_init_26 rfl ?_
  refine Rn.iconst (v := iI 0) d_Image_init_27 rfl ?_
  refine In.putZ0 d_Image_init_28 f_Image_kept g_178 (tk_get (z_Image (by first | assumption | exact i_BH_firstImage | exact i_BH_secondImage)) (by omega)) ?_
  refine Rn.nret (n' := h + 9) d_Image_init_31 rfl ⟨⟨fun k hk => ⟨?_, ?_⟩, fun k h1 h2 => ?_⟩, ?_, ?_, ?_⟩ (by decide) (by decide)
  · rw [w_ui_off _ _ _ _ _ (by omega), w_ur_1]
    exact (p1.1 k (by omega)).trans (o1.1 k (by omega))
  · rw [w_ui_2, ur, if_neg (by omega), p2 k (by omega), ur, if_neg (by omega), o2 k (by omega)]
  · rw [w_ui_2, ur]
    by_cases e : k = h
    · subst e
      rw [if_pos rfl, p2 k (by omega), ur, if_pos rfl, o2 k (by omega), hr, hR]
      funext i
      by_cases i1 : i = 1
      · subst i1; rfl
      · simp only [if_neg i1]
    · rw [if_neg e]
      by_cases e2 : k < h + 6
      · rw [p2 k (by omega), ur, if_neg e]; exact o3 k (by omega) (by omega)
      · exact p3 k (by omega) (by omega)
  · have q : hillAt M2 (h + 1) be0 := hillAt.off (M' := (M2.1, M1.2)) hi ⟨fun k hk => p1.1 k hk, rfl⟩ (by omega)
    exact hillAt.off (M' := (_, M2.2)) q ⟨fun k hk => w_ui_off _ _ _ _ _ (by omega), rfl⟩ (lo := h) (hi := h + 1) (by omega)
  · exact sgAt.off (M' := (_, M2.2)) hs ⟨fun k hk => w_ui_off _ _ _ _ _ (by omega), rfl⟩ (lo := h) (hi := h + 1) (by omega)
  · rw [w_ui_at]; rfl
