/-! Small methods; Tree. -/
set_option maxRecDepth 20000
theorem m_BH_holds {M : wM} {a k : Nat} (ha : a < 2147483648) (hk : k < 31) : EvI k_BH_holds [.int (iI a), .int (iI k)] SH M (fun r M' => r = iI (if a.testBit k then 1 else 0) ∧ M' = M) := by
  refine EvI.of 0 (by decide) (Nat.le_of_ble_eq_true rfl) rfl ?_
  refine Rn.iload_n d_BH_holds_0 rfl ?_
  refine Rn.iload_n d_BH_holds_1 rfl ?_
  refine Rn.ishr d_BH_holds_2 ?_
  refine Rn.iconst (v := iI 1) d_BH_holds_3 rfl ?_
  refine Rn.iand d_BH_holds_4 ?_
  rw [iI_bit ha hk]
  refine In.if_eq (tgt := 12) d_BH_holds_5 (by decide) fl_rg (fun c5 => ?_) (fun c5 => ?_)
  · refine Rn.iconst (v := iI 0) d_BH_holds_12 rfl ?_
    exact Rn.iret d_BH_holds_13 rfl (by decide +kernel) ⟨by rw [if_neg (fl_eq c5)], rfl⟩
  · refine Rn.iconst (v := iI 1) d_BH_holds_8 rfl ?_
    refine Rn.goto (tgt := 13) d_BH_holds_9 (by decide) ?_
    exact Rn.iret d_BH_holds_13 rfl (by decide +kernel) ⟨by rw [if_pos (fl_ne c5)], rfl⟩
theorem m_BH_isLoop {M : wM} {a : Int} (ha : -2147483648 ≤ a ∧ a < 2147483648) : EvI k_BH_isLoop [.int (iI a)] SH M (fun r M' => r = iI (if 0 ≤ a ∧ a < 12 then 1 else 0) ∧ M' = M) := by
  refine EvI.of 0 (by decide) (Nat.le_of_ble_eq_true rfl) rfl ?_
  refine Rn.iload_n d_BH_isLoop_0 rfl ?_
  refine In.if_lt (tgt := 14) d_BH_isLoop_1 (by decide) ⟨by omega, by omega⟩ (fun c1 => ?_) (fun c1 => ?_)
  · refine Rn.iconst (v := iI 0) d_BH_isLoop_14 rfl ?_
    exact Rn.iret d_BH_isLoop_15 rfl (by decide +kernel) ⟨by rw [if_neg (by omega)], rfl⟩
  · refine Rn.iload_n d_BH_isLoop_4 rfl ?_
    refine Rn.bipush (v := iI 12) d_BH_isLoop_5 (by decide +kernel) ?_
    refine In.icmp_ge (tgt := 14) d_BH_isLoop_7 (by decide) ⟨by omega, by omega⟩ ⟨by omega, by omega⟩ (fun c7 => ?_) (fun c7 => ?_)
    · refine Rn.iconst (v := iI 0) d_BH_isLoop_14 rfl ?_
      exact Rn.iret d_BH_isLoop_15 rfl (by decide +kernel) ⟨by rw [if_neg (by omega)], rfl⟩
    · refine Rn.iconst (v := iI 1) d_BH_isLoop_10 rfl ?_
      refine Rn.goto (tgt := 15) d_BH_isLoop_11 (by decide) ?_
      exact Rn.iret d_BH_isLoop_15 rfl (by decide +kernel) ⟨by rw [if_pos (by omega)], rfl⟩
theorem m_BH_isBall {M : wM} {a : Int} (ha : -2147483648 ≤ a ∧ a < 2147483648) : EvI k_BH_isBall [.int (iI a)] SH M (fun r M' => r = iI (if 0 ≤ a ∧ a < 6 then 1 else 0) ∧ M' = M) := by
  refine EvI.of 0 (by decide) (Nat.le_of_ble_eq_true rfl) rfl ?_
  refine Rn.iload_n d_BH_isBall_0 rfl ?_
  refine In.if_lt (tgt := 14) d_BH_isBall_1 (by decide) ⟨by omega, by omega⟩ (fun c1 => ?_) (fun c1 => ?_)
  · refine Rn.iconst (v := iI 0) d_BH_isBall_14 rfl ?_
    exact Rn.iret d_BH_isBall_15 rfl (by decide +kernel) ⟨by rw [if_neg (by omega)], rfl⟩
  · refine Rn.iload_n d_BH_isBall_4 rfl ?_
    refine Rn.bipush (v := iI 6) d_BH_isBall_5 (by decide +kernel) ?_
    refine In.icmp_ge (tgt := 14) d_BH_isBall_7 (by decide) ⟨by omega, by omega⟩ ⟨by omega, by omega⟩ (fun c7 => ?_) (fun c7 => ?_)
    · refine Rn.iconst (v := iI 0) d_BH_isBall_14 rfl ?_
      exact Rn.iret d_BH_isBall_15 rfl (by decide +kernel) ⟨by rw [if_neg (by omega)], rfl⟩
    · refine Rn.iconst (v := iI 1) d_BH_isBall_10 rfl ?_
      refine Rn.goto (tgt := 15) d_BH_isBall_11 (by decide) ?_
      exact Rn.iret d_BH_isBall_15 rfl (by decide +kernel) ⟨by rw [if_pos (by omega)], rfl⟩
theorem m_Tree_parentOf {M : wM} {t k : Nat} {f : Nat → Int} (hh : isTree t) (hG : M.2.2 = RG) (hT : treeAt M t f) (h1 : 1 ≤ k) (h2 : k < 12) : EvI k_Tree_parentOf [.ref t, .int (iI k)] SH M (fun r M' => r = iI (f k) ∧ M' = M) := by
  refine EvI.of 0 (by decide) (Nat.le_of_ble_eq_true rfl) rfl ?_
  refine Rn.iload_n d_Tree_parentOf_0 rfl ?_
  refine In.if_lt (tgt := 22) d_Tree_parentOf_1 (by decide) ⟨by omega, by omega⟩ (fun c1 => ?_) (fun c1 => ?_)
  · omega
  · refine Rn.iload_n d_Tree_parentOf_4 rfl ?_
    refine Rn.aload_n d_Tree_parentOf_5 rfl ?_
    refine Rn.getR d_Tree_parentOf_6 f_Tree_parents g_36 (z_Tree (by first | assumption | exact i_Hill_tree (by assumption) | exact i_Hill_tree i_BH_hill)) (r_Tree_parents (by first | assumption | exact i_Hill_tree (by assumption) | exact i_Hill_tree i_BH_hill) (by assumption)) ?_
    refine In.alen d_Tree_parentOf_9 (z_Tree_parents (by first | assumption | exact i_Hill_tree (by assumption) | exact i_Hill_tree i_BH_hill)) (by decide) ?_
    refine In.icmp_ge (tgt := 22) d_Tree_parentOf_10 (by decide) ⟨by omega, by omega⟩ ⟨by omega, by omega⟩ (fun c10 => ?_) (fun c10 => ?_)
    · omega
    · refine Rn.aload_n d_Tree_parentOf_13 rfl ?_
      refine Rn.getR d_Tree_parentOf_14 f_Tree_parents g_36 (z_Tree (by first | assumption | exact i_Hill_tree (by assumption) | exact i_Hill_tree i_BH_hill)) (r_Tree_parents (by first | assumption | exact i_Hill_tree (by assumption) | exact i_Hill_tree i_BH_hill) (by assumption)) ?_
      refine Rn.iload_n d_Tree_parentOf_17 rfl ?_
      refine In.ald d_Tree_parentOf_18 (z_Tree_parents (by first | assumption | exact i_Hill_tree (by assumption) | exact i_Hill_tree i_BH_hill)) rfl h2 (by decide) (hT k h1 h2) ?_
      refine Rn.goto (tgt := 23) d_Tree_parentOf_19 (by decide) ?_
      exact Rn.iret d_Tree_parentOf_23 rfl rfl ⟨rfl, rfl⟩
theorem m_Tree_distance {M : wM} {t a b : Nat} {f : Nat → Int} (hh : isTree t) (hG : M.2.2 = RG) (hT : treeAt M t f) (hf : tok f) (ha : a < 12) (hb : b < 12) : EvI k_Tree_distance [.ref t, .int (iI a), .int (iI b)] SH M (fun r M' => r = iI (dist f a b) ∧ M' = M) := by
  refine EvI.of 5 (by decide) (Nat.le_of_ble_eq_true rfl) rfl ?_
  refine Rn.iconst (v := iI 0) d_Tree_distance_0 rfl ?_
  refine Rn.istore_n (lv1 := [_, _, _, _, _, _, _, _]) d_Tree_distance_1 (by decide) (w_pv rfl) rfl ?_
  refine Rn.iload_n d_Tree_distance_2 rfl ?_
  refine Rn.iload_n d_Tree_distance_3 rfl ?_
  refine In.min ⟨by omega, by omega⟩ ⟨by omega, by omega⟩ d_Tree_distance_4 g_389 g_390 g_14 g_391 (Nat.le_of_ble_eq_true rfl) (Nat.le_of_ble_eq_true rfl) ?_
  refine Rn.istore (lv1 := [_, _, _, _, _, _, _, _]) d_Tree_distance_7 (by decide) (w_pv rfl) rfl ?_
  refine Rn.iload_n d_Tree_distance_9 rfl ?_
  refine Rn.iload_n d_Tree_distance_10 rfl ?_
  refine In.max ⟨by omega, by omega⟩ ⟨by omega, by omega⟩ d_Tree_distance_11 g_392 g_393 g_14 g_394 (Nat.le_of_ble_eq_true rfl) (Nat.le_of_ble_eq_true rfl) ?_
  refine Rn.istore (lv1 := [_, _, _, _, _, _, _, _]) d_Tree_distance_14 (by decide) (w_pv rfl) rfl ?_
  refine Rn.iconst (v := iI 0) d_Tree_distance_16 rfl ?_
  refine Rn.istore (lv1 := [_, _, _, _, _, _, _, _]) d_Tree_distance_17 (by decide) (w_pv rfl) rfl ?_
  have e1 : (if (b : Int) < a then (b : Int) else a) = ((if b < a then b else a : Nat) : Int) := by split <;> split <;> omega
  have e2 : (if (a : Int) < b then (b : Int) else a) = ((if a < b then b else a : Nat) : Int) := by split <;> split <;> omega
  rw [e1, e2]
  have loop : ∀ (n : Nat) (lo hi s fr : Nat) (x7 : Option Value), lo ≤ hi → hi < 12 → lo + hi + s ≤ 22 → lo + hi ≤ n → fr + dist f lo hi = dist f a b → Rn k_Tree_distance none (0, 0) 19 [some (.ref t), some (.int (iI a)), some (.int (iI b)), some (.int (iI fr)), some (.int (iI lo)), some (.int (iI hi)), some (.int (iI s)), x7] [] SH M (w_FI (0, 0) SH (fun r M' => r = iI (dist f a b) ∧ M' = M)) := by
    intro n
    induction n with
    | zero =>
      intro lo hi s fr x7 h1 h2 h3 h4 h5
      refine Rn.iload d_Tree_distance_19 rfl ?_
      refine Rn.bipush (v := iI 24) d_Tree_distance_21 (by decide +kernel) ?_
      refine In.icmp_ge (tgt := 68) d_Tree_distance_23 (by decide) ⟨by omega, by omega⟩ ⟨by omega, by omega⟩ (fun c23 => ?_) (fun c23 => ?_)
      · omega
      · refine Rn.iload d_Tree_distance_26 rfl ?_
        refine Rn.iload d_Tree_distance_28 rfl ?_
        refine In.icmp_eq (tgt := 68) d_Tree_distance_30 (by decide) ⟨by omega, by omega⟩ ⟨by omega, by omega⟩ (fun c30 => ?_) (fun c30 => ?_)
        · refine Rn.iload_n d_Tree_distance_68 rfl ?_
          have : lo = hi := by omega
          subst this
          rw [dist_self] at h5
          exact Rn.iret d_Tree_distance_69 rfl rfl ⟨by rw [← h5]; simp, rfl⟩
        · omega
    | succ n ih =>
      intro lo hi s fr x7 h1 h2 h3 h4 h5
      refine Rn.iload d_Tree_distance_19 rfl ?_
      refine Rn.bipush (v := iI 24) d_Tree_distance_21 (by decide +kernel) ?_
      refine In.icmp_ge (tgt := 68) d_Tree_distance_23 (by decide) ⟨by omega, by omega⟩ ⟨by omega, by omega⟩ (fun c23 => ?_) (fun c23 => ?_)
      · omega
      · refine Rn.iload d_Tree_distance_26 rfl ?_
        refine Rn.iload d_Tree_distance_28 rfl ?_
        refine In.icmp_eq (tgt := 68) d_Tree_distance_30 (by decide) ⟨by omega, by omega⟩ ⟨by omega, by omega⟩ (fun c30 => ?_) (fun c30 => ?_)
        · refine Rn.iload_n d_Tree_distance_68 rfl ?_
          have : lo = hi := by omega
          subst this
          rw [dist_self] at h5
          exact Rn.iret d_Tree_distance_69 rfl rfl ⟨by rw [← h5]; simp, rfl⟩
        · have hp := hf hi (by omega) h2
          refine Rn.aload_n d_Tree_distance_33 rfl ?_
          refine Rn.iload d_Tree_distance_34 rfl ?_
          refine Rn.cVI d_Tree_distance_36 s_Tree_distance_Tree_parentOf g_395 g_226 g_227 ⟨rfl, rfl⟩ ⟨Nat.zero_le _, Nat.zero_le _⟩ (m_Tree_parentOf hh hG hT (k := hi) (by omega) h2) rfl rfl (z_Tree (by first | assumption | exact i_Hill_tree (by assumption) | exact i_Hill_tree i_BH_hill)) c_Tree (Nat.le_of_ble_eq_true rfl) (fun rr MM qq => ?_)
          obtain ⟨rfl, rfl⟩ := And.imp id Eq.symm qq; clear qq
          obtain ⟨u, hu⟩ : ∃ u : Nat, f hi = u := ⟨(f hi).toNat, by omega⟩
          have hd := dist_lt hf h2 (show lo < hi by omega)
          rw [hu] at hd hp ⊢
          refine Rn.istore (lv1 := [_, _, _, _, _, _, _, _]) d_Tree_distance_39 (by decide) (w_pv rfl) rfl ?_
          refine Rn.iload d_Tree_distance_41 rfl ?_
          refine Rn.iload d_Tree_distance_43 rfl ?_
          refine In.max ⟨by omega, by omega⟩ ⟨by omega, by omega⟩ d_Tree_distance_45 g_392 g_393 g_14 g_394 (Nat.le_of_ble_eq_true rfl) (Nat.le_of_ble_eq_true rfl) ?_
          refine Rn.istore (lv1 := [_, _, _, _, _, _, _, _]) d_Tree_distance_48 (by decide) (w_pv rfl) rfl ?_
          refine Rn.iload d_Tree_distance_50 rfl ?_
          refine Rn.iload d_Tree_distance_52 rfl ?_
          refine In.min ⟨by omega, by omega⟩ ⟨by omega, by omega⟩ d_Tree_distance_54 g_389 g_390 g_14 g_391 (Nat.le_of_ble_eq_true rfl) (Nat.le_of_ble_eq_true rfl) ?_
          refine Rn.istore (lv1 := [_, _, _, _, _, _, _, _]) d_Tree_distance_57 (by decide) (w_pv rfl) rfl ?_
          refine In.inc (lv1 := [_, _, _, _, _, _, _, _]) d_Tree_distance_59 rfl (by decide) (w_pv rfl) rfl ?_
          refine In.inc (lv1 := [_, _, _, _, _, _, _, _]) d_Tree_distance_62 rfl (by decide) (w_pv rfl) rfl ?_
          refine Rn.goto (tgt := 19) d_Tree_distance_65 (by decide) ?_
          have e3 : (if (lo : Int) < u then (u : Int) else lo) = ((if lo < u then u else lo : Nat) : Int) := by split <;> split <;> omega
          have e4 : (if (u : Int) < lo then (u : Int) else lo) = ((if u < lo then u else lo : Nat) : Int) := by split <;> split <;> omega
          rw [e3, e4]
          simp only [Int.toNat_natCast] at hd
          refine ih _ _ (s + 1) (fr + 1) _ ?_ ?_ ?_ ?_ ?_
          · split <;> split <;> omega
          · split <;> omega
          · split <;> split <;> omega
          · split <;> split <;> omega
          · rw [← h5, hd]
            by_cases h6 : lo < u
            · rw [if_pos h6, if_neg (by omega)]; omega
            · by_cases h7 : u < lo
              · rw [if_neg h6, if_pos h7, dist_sym hf (show u < 12 by omega) (show lo < 12 by omega)]; omega
              · have : u = lo := by omega
                subst this
                simp; omega
  refine loop 22 _ _ 0 0 _ ?_ ?_ ?_ ?_ ?_
  · split <;> split <;> omega
  · split <;> omega
  · split <;> split <;> omega
  · split <;> split <;> omega
  · by_cases h6 : a < b
    · rw [if_pos h6, if_neg (by omega)]; omega
    · by_cases h7 : b < a
      · rw [if_neg h6, if_pos h7, dist_sym hf hb ha]; omega
      · have : a = b := by omega
        subst this
        simp
