/-! The reference's calls: image, restore, year. -/
set_option maxRecDepth 20000
set_option maxHeartbeats 400000
/-- an image of the reference, but for whether it is kept -/
def imB (M : wM) (o : Nat) (I : wIm) : Prop := (∀ k, k < 26 → M.1 56 (o + k) = iI (I.2.1 k)) ∧ (∀ k, k < 16 → M.1 56 (o + 26 + k) = iI (I.2.2.2 k)) ∧ M.1 56 (o + 45) = iI I.2.2.1
theorem imA.put {M M' : wM} {β : Nat → Int} {n : Nat} {σ : Nat → Int} {m : Nat} {τ : Nat → Int} {I J : wIm} {w o : Nat} (h : mdA M β n σ m τ I J) (hw : w < 2) (ho : o = 50 * w) (h1 : ∀ k, k ≠ 56 → k ≠ 57 → M'.1 k = M.1 k) (h2 : ∀ j, j < o ∨ o + 50 ≤ j → M'.1 56 j = M.1 56 j) (h3 : ∀ j, j ≠ w → M'.1 57 j = M.1 57 j) (h4 : M'.1 57 w = iI 1) (h5 : imB M' o (true, β, m, τ)) : mdA M' β n σ m τ (if w = 0 then (true, β, m, τ) else I) (if w = 0 then J else (true, β, m, τ)) := by
  obtain ⟨q1, q2, q3, q4, q5, q6, q7⟩ := h
  refine ⟨fun k hk => by rw [h1 48 (by decide) (by decide)]; exact q1 k hk, fun i hi => by rw [h1 51 (by decide) (by decide)]; exact q2 i hi, by rw [h1 47 (by decide) (by decide)]; exact q3, fun i hi => by rw [h1 50 (by decide) (by decide)]; exact q4 i hi, by rw [h1 47 (by decide) (by decide)]; exact q5, ?_, ?_⟩
  · by_cases e : w = 0
    · subst e; subst ho
      rw [if_pos rfl]
      exact ⟨h4, fun _ => h5⟩
    · rw [if_neg e]
      refine ⟨by rw [h3 0 (by omega)]; exact q6.1, fun k => ?_⟩
      obtain ⟨a1, a2, a3⟩ := q6.2 k
      exact ⟨fun j hj => by rw [h2 _ (by omega)]; exact a1 j hj, fun j hj => by rw [h2 _ (by omega)]; exact a2 j hj, by rw [h2 _ (by omega)]; exact a3⟩
  · by_cases e : w = 0
    · subst e; subst ho
      rw [if_pos rfl]
      refine ⟨by rw [h3 1 (by omega)]; exact q7.1, fun k => ?_⟩
      obtain ⟨a1, a2, a3⟩ := q7.2 k
      exact ⟨fun j hj => by rw [h2 _ (by omega)]; exact a1 j hj, fun j hj => by rw [h2 _ (by omega)]; exact a2 j hj, by rw [h2 _ (by omega)]; exact a3⟩
    · have : w = 1 := by omega
      subst this; subst ho
      rw [if_neg e]
      exact ⟨h4, fun _ => h5⟩
theorem m_Md_image {M : wM} {β : Nat → Int} {n : Nat} {σ : Nat → Int} {m : Nat} {τ : Nat → Int} {I J : wIm} {w : Int} {Rr : Int × wIm × wIm} (hG : M.2.2 = RG) (hA : mdA M β n σ m τ I J) (hV : aLok β n σ m τ I J) (hw : -2147483648 ≤ w ∧ w < 2147483648) (v1 : ¬ (0 ≤ w ∧ w ≤ 1) → Rr = (-2, I, J)) (v2 : w = 0 → Rr = (1, (true, β, m, τ), J)) (v3 : w = 1 → Rr = (1, I, (true, β, m, τ))) : EvI k_Md_image [.ref 47, .int (iI w)] SH M (fun r M' => r = iI Rr.1 ∧ mdA M' β n σ m τ Rr.2.1 Rr.2.2 ∧ Ofm M M') := by
  refine EvI.of 2 (by decide) (Nat.le_of_ble_eq_true rfl) rfl ?_
  refine Rn.iload_n d_Md_image_0 rfl ?_
  refine Rn.iconst (v := iI 0) d_Md_image_1 rfl ?_
  refine Rn.iconst (v := iI 1) d_Md_image_2 rfl ?_
  refine Rn.cSI d_Md_image_3 s_Md_image_Md_in g_708 g_709 ⟨rfl, rfl⟩ ⟨Nat.zero_le _, Nat.zero_le _⟩ (m_Md_in hw (by decide) (by decide)) rfl rfl (Nat.le_of_ble_eq_true rfl) (fun rr MM qq => ?_)
  obtain ⟨rfl, rfl⟩ := And.imp id Eq.symm qq; clear qq
  refine In.if_ne (tgt := 12) d_Md_image_6 (by decide) fl_rg (fun c6 => ?_) (fun c6 => ?_)
  · have q := fl_ne c6
    obtain ⟨w, rfl⟩ : ∃ k : Nat, w = k := ⟨w.toNat, by omega⟩
    have hR : Rr = (1, (if w = 0 then (true, β, m, τ) else I), (if w = 0 then J else (true, β, m, τ))) := by
      by_cases e : w = 0
      · rw [v2 (by omega), if_pos e, if_pos e]
      · rw [v3 (by omega), if_neg e, if_neg e]
    rw [hR]
    obtain ⟨o, ho⟩ : ∃ o : Nat, o = 50 * w := ⟨_, rfl⟩
    have ho2 : (50 : Int) * w = o := by omega
    have loop2 : ∀ (d k : Nat) (Mc : wM), k + d = 16 → (∀ c, c ≠ 56 → Mc.1 c = M.1 c) → Mc.2 = M.2 → (∀ j, j < o ∨ o + 50 ≤ j → Mc.1 56 j = M.1 56 j) → (∀ j, j < 26 → Mc.1 56 (o + j) = iI (β j)) → (∀ j, j < k → Mc.1 56 (o + 26 + j) = iI (τ j)) → Rn k_Md_image none (0, 0) 47 [some (.ref 47), some (.int (iI w)), some (.int (iI o)), some (.int (iI k))] [] SH Mc (w_FI (0, 0) SH (fun r M' => r = iI 1 ∧ mdA M' β n σ m τ (if w = 0 then (true, β, m, τ) else I) (if w = 0 then J else (true, β, m, τ)) ∧ Ofm M M')) := by
      intro d
      induction d with
      | zero =>
        intro k Mc h1 h2 h3 h4 h5 h6
        have hGc : Mc.2.2 = RG := by rw [h3]; exact hG
        refine Rn.iload_n d_Md_image_47 rfl ?_
        refine Rn.bipush (v := iI 16) d_Md_image_48 (by decide +kernel) ?_
        refine In.icmp_ge (tgt := 76) d_Md_image_50 (by decide) ⟨by omega, by omega⟩ ⟨by omega, by omega⟩ (fun c50 => ?_) (fun c50 => ?_)
        · refine Rn.aload_n d_Md_image_76 rfl ?_
          refine Rn.getR d_Md_image_77 f_Md_image g_665 z_Md (r_Md_image (by assumption)) ?_
          refine Rn.iload_n d_Md_image_80 rfl ?_
          refine Rn.bipush (v := iI 45) d_Md_image_81 (by decide +kernel) ?_
          refine In.add d_Md_image_83 ?_
          refine Rn.aload_n d_Md_image_84 rfl ?_
          refine In.getI d_Md_image_85 f_Md_sights g_652 z_Md (by rw [h2 _ (by decide)]; exact hA.2.2.2.2.1) ?_
          refine In.ast d_Md_image_88 z_Md_image (show ((o : Int) + 45) = ((o + 45 : Nat) : Int) by omega) (by omega) (by decide) ?_
          refine Rn.aload_n d_Md_image_89 rfl ?_
          refine Rn.getR d_Md_image_90 f_Md_isKept g_666 z_Md (r_Md_isKept (by assumption)) ?_
          refine Rn.iload_n d_Md_image_93 rfl ?_
          refine Rn.iconst (v := iI 1) d_Md_image_94 rfl ?_
          refine In.zast1 d_Md_image_95 z_Md_isKept rfl (by omega) (by decide) ?_
          refine Rn.iconst (v := iI 1) d_Md_image_96 rfl ?_
          have hO : Ofm M (w_ui (w_ui Mc 56 (o + 45) (iI m)) 57 w (iI 1)) := ⟨fun c hc => by rw [w_ui_off _ _ _ _ _ (by omega), w_ui_off _ _ _ _ _ (by omega)]; exact h2 c (by omega), by show Mc.2.2 = _; rw [h3]⟩
          exact Rn.iret d_Md_image_97 rfl rfl ⟨rfl, imA.put hA (by omega) ho (fun c e1 e2 => by rw [w_ui_off _ _ _ _ _ e2, w_ui_off _ _ _ _ _ e1]; exact h2 c e1) (fun j hj => by rw [w_ui_off _ _ _ _ _ (by decide), w_ui_if, if_neg (by omega)]; exact h4 j hj) (fun j hj => by rw [w_ui_if, if_neg (by omega), w_ui_off _ _ _ _ _ (by decide), h2 _ (by decide)]) (w_ui_at _ _ _ _) ⟨fun j hj => by rw [w_ui_off _ _ _ _ _ (by decide), w_ui_if, if_neg (by omega)]; exact h5 j hj, fun j hj => by rw [w_ui_off _ _ _ _ _ (by decide), w_ui_if, if_neg (by omega)]; exact h6 j (by omega), by rw [w_ui_off _ _ _ _ _ (by decide), w_ui_at]⟩, hO⟩
        · omega
      | succ d ih =>
        intro k Mc h1 h2 h3 h4 h5 h6
        have hGc : Mc.2.2 = RG := by rw [h3]; exact hG
        refine Rn.iload_n d_Md_image_47 rfl ?_
        refine Rn.bipush (v := iI 16) d_Md_image_48 (by decide +kernel) ?_
        refine In.icmp_ge (tgt := 76) d_Md_image_50 (by decide) ⟨by omega, by omega⟩ ⟨by omega, by omega⟩ (fun c50 => ?_) (fun c50 => ?_)
        · omega
        · refine Rn.aload_n d_Md_image_53 rfl ?_
          refine Rn.getR d_Md_image_54 f_Md_image g_665 z_Md (r_Md_image (by assumption)) ?_
          refine Rn.iload_n d_Md_image_57 rfl ?_
          refine Rn.bipush (v := iI 26) d_Md_image_58 (by decide +kernel) ?_
          refine In.add d_Md_image_60 ?_
          refine Rn.iload_n d_Md_image_61 rfl ?_
          refine In.add d_Md_image_62 ?_
          refine Rn.aload_n d_Md_image_63 rfl ?_
          refine Rn.getR d_Md_image_64 f_Md_sight g_653 z_Md (r_Md_sight (by assumption)) ?_
          refine Rn.iload_n d_Md_image_67 rfl ?_
          refine In.ald d_Md_image_68 z_Md_sight rfl (by omega) (by decide) (by rw [h2 _ (by decide)]; exact hA.2.2.2.1 k (by omega)) ?_
          refine In.ast d_Md_image_69 z_Md_image (show ((o : Int) + 26 + k) = ((o + 26 + k : Nat) : Int) by omega) (by omega) (by decide) ?_
          refine In.inc (lv1 := [_, _, _, _]) d_Md_image_70 rfl (by decide) (w_pv rfl) rfl ?_
          refine Rn.goto (tgt := 47) d_Md_image_73 (by decide) ?_
          refine ih (k + 1) _ (by omega) (fun c hc => by rw [w_ui_off _ _ _ _ _ hc]; exact h2 c hc) h3 (fun j hj => by rw [w_ui_if, if_neg (by omega)]; exact h4 j hj) (fun j hj => by rw [w_ui_if, if_neg (by omega)]; exact h5 j hj) (fun j hj => ?_)
          rw [w_ui_if]
          by_cases e : j = k
          · rw [if_pos ⟨rfl, by omega⟩, e]
          · rw [if_neg (by omega)]; exact h6 j (by omega)
    have loop1 : ∀ (d k : Nat) (Mc : wM), k + d = 26 → (∀ c, c ≠ 56 → Mc.1 c = M.1 c) → Mc.2 = M.2 → (∀ j, j < o ∨ o + 50 ≤ j → Mc.1 56 j = M.1 56 j) → (∀ j, j < k → Mc.1 56 (o + j) = iI (β j)) → Rn k_Md_image none (0, 0) 19 [some (.ref 47), some (.int (iI w)), some (.int (iI o)), some (.int (iI k))] [] SH Mc (w_FI (0, 0) SH (fun r M' => r = iI 1 ∧ mdA M' β n σ m τ (if w = 0 then (true, β, m, τ) else I) (if w = 0 then J else (true, β, m, τ)) ∧ Ofm M M')) := by
      intro d
      induction d with
      | zero =>
        intro k Mc h1 h2 h3 h4 h5
        refine Rn.iload_n d_Md_image_19 rfl ?_
        refine Rn.bipush (v := iI 26) d_Md_image_20 (by decide +kernel) ?_
        refine In.icmp_ge (tgt := 45) d_Md_image_22 (by decide) ⟨by omega, by omega⟩ ⟨by omega, by omega⟩ (fun c22 => ?_) (fun c22 => ?_)
        · refine Rn.iconst (v := iI 0) d_Md_image_45 rfl ?_
          refine Rn.istore_n (lv1 := [_, _, _, _]) d_Md_image_46 (by decide) (w_pv rfl) rfl ?_
          exact loop2 16 0 Mc rfl h2 h3 h4 (fun j hj => h5 j (by omega)) (fun j hj => by omega)
        · omega
      | succ d ih =>
        intro k Mc h1 h2 h3 h4 h5
        have hGc : Mc.2.2 = RG := by rw [h3]; exact hG
        refine Rn.iload_n d_Md_image_19 rfl ?_
        refine Rn.bipush (v := iI 26) d_Md_image_20 (by decide +kernel) ?_
        refine In.icmp_ge (tgt := 45) d_Md_image_22 (by decide) ⟨by omega, by omega⟩ ⟨by omega, by omega⟩ (fun c22 => ?_) (fun c22 => ?_)
        · omega
        · refine Rn.aload_n d_Md_image_25 rfl ?_
          refine Rn.getR d_Md_image_26 f_Md_image g_665 z_Md (r_Md_image (by assumption)) ?_
          refine Rn.iload_n d_Md_image_29 rfl ?_
          refine Rn.iload_n d_Md_image_30 rfl ?_
          refine In.add d_Md_image_31 ?_
          refine Rn.aload_n d_Md_image_32 rfl ?_
          refine Rn.getR d_Md_image_33 f_Md_book g_650 z_Md (r_Md_book (by assumption)) ?_
          refine Rn.iload_n d_Md_image_36 rfl ?_
          refine In.ald d_Md_image_37 z_Md_book rfl (by omega) (by decide) (by rw [h2 _ (by decide)]; exact hA.1 k (by omega)) ?_
          refine In.ast d_Md_image_38 z_Md_image (show ((o : Int) + k) = ((o + k : Nat) : Int) by omega) (by omega) (by decide) ?_
          refine In.inc (lv1 := [_, _, _, _]) d_Md_image_39 rfl (by decide) (w_pv rfl) rfl ?_
          refine Rn.goto (tgt := 19) d_Md_image_42 (by decide) ?_
          refine ih (k + 1) _ (by omega) (fun c hc => by rw [w_ui_off _ _ _ _ _ hc]; exact h2 c hc) h3 (fun j hj => by rw [w_ui_if, if_neg (by omega)]; exact h4 j hj) (fun j hj => ?_)
          rw [w_ui_if]
          by_cases e : j = k
          · rw [if_pos ⟨rfl, by omega⟩, e]
          · rw [if_neg (by omega)]; exact h5 j (by omega)
    refine Rn.bipush (v := iI 50) d_Md_image_12 (by decide +kernel) ?_
    refine Rn.iload_n d_Md_image_14 rfl ?_
    refine In.mul d_Md_image_15 ?_
    rw [ho2]
    refine Rn.istore_n (lv1 := [_, _, _, _]) d_Md_image_16 (by decide) (w_pv rfl) rfl ?_
    refine Rn.iconst (v := iI 0) d_Md_image_17 rfl ?_
    refine Rn.istore_n (lv1 := [_, _, _, _]) d_Md_image_18 (by decide) (w_pv rfl) rfl ?_
    exact loop1 26 0 M rfl (fun _ _ => rfl) rfl (fun _ _ => rfl) (fun j hj => by omega)
  · have q := fl_eq c6
    rw [v1 q]
    refine Rn.bipush (v := iI (-2)) d_Md_image_9 (by decide +kernel) ?_
    exact Rn.iret d_Md_image_11 rfl rfl ⟨rfl, hA, Ofm.rf⟩
theorem m_Md_restore {M : wM} {β : Nat → Int} {n : Nat} {σ : Nat → Int} {m : Nat} {τ : Nat → Int} {I J : wIm} {w : Int} {Rr : Int × (Nat → Int) × Nat × (Nat → Int)} (hG : M.2.2 = RG) (hA : mdA M β n σ m τ I J) (hV : aLok β n σ m τ I J) (hw : -2147483648 ≤ w ∧ w < 2147483648) (v1 : ¬ (0 ≤ w ∧ w ≤ 1) → Rr = (-2, β, m, τ)) (v2 : w = 0 → I.1 = false → Rr = (-3, β, m, τ)) (v3 : w = 1 → J.1 = false → Rr = (-3, β, m, τ)) (v4 : w = 0 → I.1 = true → Rr = (1, I.2)) (v5 : w = 1 → J.1 = true → Rr = (1, J.2)) : EvI k_Md_restore [.ref 47, .int (iI w)] SH M (fun r M' => r = iI Rr.1 ∧ mdA M' Rr.2.1 n σ Rr.2.2.1 Rr.2.2.2 I J ∧ Ofm M M') := by
  refine EvI.of 2 (by decide) (Nat.le_of_ble_eq_true rfl) rfl ?_
  refine Rn.iload_n d_Md_restore_0 rfl ?_
  refine Rn.iconst (v := iI 0) d_Md_restore_1 rfl ?_
  refine Rn.iconst (v := iI 1) d_Md_restore_2 rfl ?_
  refine Rn.cSI d_Md_restore_3 s_Md_restore_Md_in g_708 g_709 ⟨rfl, rfl⟩ ⟨Nat.zero_le _, Nat.zero_le _⟩ (m_Md_in hw (by decide) (by decide)) rfl rfl (Nat.le_of_ble_eq_true rfl) (fun rr MM qq => ?_)
  obtain ⟨rfl, rfl⟩ := And.imp id Eq.symm qq; clear qq
  refine In.if_ne (tgt := 12) d_Md_restore_6 (by decide) fl_rg (fun c6 => ?_) (fun c6 => ?_)
  · have q := fl_ne c6
    obtain ⟨w, rfl⟩ : ∃ k : Nat, w = k := ⟨w.toNat, by omega⟩
    obtain ⟨o, ho⟩ : ∃ o : Nat, o = 50 * w := ⟨_, rfl⟩
    have ho2 : (50 : Int) * w = o := by omega
    obtain ⟨K, hK1, hK2, hK3⟩ : ∃ K : wIm, imA M o w K ∧ (K.1 = false → Rr = (-3, β, m, τ)) ∧ (K.1 = true → Rr = (1, K.2)) := by
      by_cases e : w = 0
      · subst e; subst ho
        exact ⟨I, hA.2.2.2.2.2.1, v2 rfl, v4 rfl⟩
      · have : w = 1 := by omega
        subst this; subst ho
        exact ⟨J, hA.2.2.2.2.2.2, v3 rfl, v5 rfl⟩
    refine Rn.aload_n d_Md_restore_12 rfl ?_
    refine Rn.getR d_Md_restore_13 f_Md_isKept g_666 z_Md (r_Md_isKept (by assumption)) ?_
    refine Rn.iload_n d_Md_restore_16 rfl ?_
    refine In.zald d_Md_restore_17 z_Md_isKept rfl (by omega) (by decide) hK1.1 ?_
    refine In.if_ne (tgt := 24) d_Md_restore_18 (by decide) fl_rg (fun c18 => ?_) (fun c18 => ?_)
    · have z := fl_ne c18
      rw [hK3 z]
      obtain ⟨b1, b2, b3⟩ := hK1.2 z
      have loop2 : ∀ (d k : Nat) (Mc : wM), k + d = 16 → (∀ c, c ≠ 48 → c ≠ 50 → Mc.1 c = M.1 c) → Mc.2 = M.2 → (∀ j, j < 26 → Mc.1 48 j = iI (K.2.1 j)) → (∀ j, j < k → Mc.1 50 j = iI (K.2.2.2 j)) → Rn k_Md_restore none (0, 0) 59 [some (.ref 47), some (.int (iI w)), some (.int (iI o)), some (.int (iI k))] [] SH Mc (w_FI (0, 0) SH (fun r M' => r = iI 1 ∧ mdA M' K.2.1 n σ K.2.2.1 K.2.2.2 I J ∧ Ofm M M')) := by
        intro d
        induction d with
        | zero =>
          intro k Mc h1 h2 h3 h4 h5
          have hGc : Mc.2.2 = RG := by rw [h3]; exact hG
          refine Rn.iload_n d_Md_restore_59 rfl ?_
          refine Rn.bipush (v := iI 16) d_Md_restore_60 (by decide +kernel) ?_
          refine In.icmp_ge (tgt := 88) d_Md_restore_62 (by decide) ⟨by omega, by omega⟩ ⟨by omega, by omega⟩ (fun c62 => ?_) (fun c62 => ?_)
          · refine Rn.aload_n d_Md_restore_88 rfl ?_
            refine Rn.aload_n d_Md_restore_89 rfl ?_
            refine Rn.getR d_Md_restore_90 f_Md_image g_665 z_Md (r_Md_image (by assumption)) ?_
            refine Rn.iload_n d_Md_restore_93 rfl ?_
            refine Rn.bipush (v := iI 45) d_Md_restore_94 (by decide +kernel) ?_
            refine In.add d_Md_restore_96 ?_
            refine In.ald d_Md_restore_97 z_Md_image (show ((o : Int) + 45) = ((o + 45 : Nat) : Int) by omega) (by omega) (by decide) (by rw [h2 _ (by decide) (by decide)]; exact b3) ?_
            refine In.putI d_Md_restore_98 f_Md_sights g_652 z_Md ?_
            refine Rn.iconst (v := iI 1) d_Md_restore_101 rfl ?_
            have hS : ∀ i, i < 16 → (w_ui Mc 47 2 (iI (K.2.2.1 : Int))).1 50 i = iI (K.2.2.2 i) := fun i hi => by rw [w_ui_off _ _ _ _ _ (by decide)]; exact h5 i (by omega)
            have hmd : mdA (w_ui Mc 47 2 (iI (K.2.2.1 : Int))) K.2.1 n σ K.2.2.1 K.2.2.2 I J := by
              obtain ⟨q1, q2, q3, q4, q5, q6, q7⟩ := hA
              refine ⟨fun k hk => by rw [w_ui_off _ _ _ _ _ (by decide)]; exact h4 k hk, fun i hi => by rw [w_ui_off _ _ _ _ _ (by decide), h2 _ (by decide) (by decide)]; exact q2 i hi, by rw [w_ui_if, if_neg (by omega), h2 _ (by decide) (by decide)]; exact q3, hS, w_ui_at _ _ _ _, q6.of ?_ ?_, q7.of ?_ ?_⟩
              · rw [w_ui_off _ _ _ _ _ (by decide), h2 _ (by decide) (by decide)]
              · rw [w_ui_off _ _ _ _ _ (by decide), h2 _ (by decide) (by decide)]
              · rw [w_ui_off _ _ _ _ _ (by decide), h2 _ (by decide) (by decide)]
              · rw [w_ui_off _ _ _ _ _ (by decide), h2 _ (by decide) (by decide)]
            exact Rn.iret d_Md_restore_102 rfl rfl ⟨rfl, hmd, fun c hc => by rw [w_ui_off _ _ _ _ _ (by omega)]; exact h2 c (by omega) (by omega), by show Mc.2.2 = _; rw [h3]⟩
          · omega
        | succ d ih =>
          intro k Mc h1 h2 h3 h4 h5
          have hGc : Mc.2.2 = RG := by rw [h3]; exact hG
          refine Rn.iload_n d_Md_restore_59 rfl ?_
          refine Rn.bipush (v := iI 16) d_Md_restore_60 (by decide +kernel) ?_
          refine In.icmp_ge (tgt := 88) d_Md_restore_62 (by decide) ⟨by omega, by omega⟩ ⟨by omega, by omega⟩ (fun c62 => ?_) (fun c62 => ?_)
          · omega
          · refine Rn.aload_n d_Md_restore_65 rfl ?_
            refine Rn.getR d_Md_restore_66 f_Md_sight g_653 z_Md (r_Md_sight (by assumption)) ?_
            refine Rn.iload_n d_Md_restore_69 rfl ?_
            refine Rn.aload_n d_Md_restore_70 rfl ?_
            refine Rn.getR d_Md_restore_71 f_Md_image g_665 z_Md (r_Md_image (by assumption)) ?_
            refine Rn.iload_n d_Md_restore_74 rfl ?_
            refine Rn.bipush (v := iI 26) d_Md_restore_75 (by decide +kernel) ?_
            refine In.add d_Md_restore_77 ?_
            refine Rn.iload_n d_Md_restore_78 rfl ?_
            refine In.add d_Md_restore_79 ?_
            refine In.ald d_Md_restore_80 z_Md_image (show ((o : Int) + 26 + k) = ((o + 26 + k : Nat) : Int) by omega) (by omega) (by decide) (by rw [h2 _ (by decide) (by decide)]; exact b2 k (by omega)) ?_
            refine In.ast d_Md_restore_81 z_Md_sight rfl (by omega) (by decide) ?_
            refine In.inc (lv1 := [_, _, _, _]) d_Md_restore_82 rfl (by decide) (w_pv rfl) rfl ?_
            refine Rn.goto (tgt := 59) d_Md_restore_85 (by decide) ?_
            refine ih (k + 1) _ (by omega) (fun c hc hc2 => by rw [w_ui_off _ _ _ _ _ hc2]; exact h2 c hc hc2) h3 (fun j hj => by rw [w_ui_off _ _ _ _ _ (by decide)]; exact h4 j hj) (fun j hj => ?_)
            rw [w_ui_if]
            by_cases e : j = k
            · rw [if_pos ⟨rfl, by omega⟩, e]
            · rw [if_neg (by omega)]; exact h5 j (by omega)
      have loop1 : ∀ (d k : Nat) (Mc : wM), k + d = 26 → (∀ c, c ≠ 48 → c ≠ 50 → Mc.1 c = M.1 c) → Mc.2 = M.2 → (∀ j, j < k → Mc.1 48 j = iI (K.2.1 j)) → Rn k_Md_restore none (0, 0) 31 [some (.ref 47), some (.int (iI w)), some (.int (iI o)), some (.int (iI k))] [] SH Mc (w_FI (0, 0) SH (fun r M' => r = iI 1 ∧ mdA M' K.2.1 n σ K.2.2.1 K.2.2.2 I J ∧ Ofm M M')) := by
        intro d
        induction d with
        | zero =>
          intro k Mc h1 h2 h3 h4
          refine Rn.iload_n d_Md_restore_31 rfl ?_
          refine Rn.bipush (v := iI 26) d_Md_restore_32 (by decide +kernel) ?_
          refine In.icmp_ge (tgt := 57) d_Md_restore_34 (by decide) ⟨by omega, by omega⟩ ⟨by omega, by omega⟩ (fun c34 => ?_) (fun c34 => ?_)
          · refine Rn.iconst (v := iI 0) d_Md_restore_57 rfl ?_
            refine Rn.istore_n (lv1 := [_, _, _, _]) d_Md_restore_58 (by decide) (w_pv rfl) rfl ?_
            exact loop2 16 0 Mc rfl h2 h3 (fun j hj => h4 j (by omega)) (fun j hj => by omega)
          · omega
        | succ d ih =>
          intro k Mc h1 h2 h3 h4
          have hGc : Mc.2.2 = RG := by rw [h3]; exact hG
          refine Rn.iload_n d_Md_restore_31 rfl ?_
          refine Rn.bipush (v := iI 26) d_Md_restore_32 (by decide +kernel) ?_
          refine In.icmp_ge (tgt := 57) d_Md_restore_34 (by decide) ⟨by omega, by omega⟩ ⟨by omega, by omega⟩ (fun c34 => ?_) (fun c34 => ?_)
          · omega
          · refine Rn.aload_n d_Md_restore_37 rfl ?_
            refine Rn.getR d_Md_restore_38 f_Md_book g_650 z_Md (r_Md_book (by assumption)) ?_
            refine Rn.iload_n d_Md_restore_41 rfl ?_
            refine Rn.aload_n d_Md_restore_42 rfl ?_
            refine Rn.getR d_Md_restore_43 f_Md_image g_665 z_Md (r_Md_image (by assumption)) ?_
            refine Rn.iload_n d_Md_restore_46 rfl ?_
            refine Rn.iload_n d_Md_restore_47 rfl ?_
            refine In.add d_Md_restore_48 ?_
            refine In.ald d_Md_restore_49 z_Md_image (show ((o : Int) + k) = ((o + k : Nat) : Int) by omega) (by omega) (by decide) (by rw [h2 _ (by decide) (by decide)]; exact b1 k (by omega)) ?_
            refine In.ast d_Md_restore_50 z_Md_book rfl (by omega) (by decide) ?_
            refine In.inc (lv1 := [_, _, _, _]) d_Md_restore_51 rfl (by decide) (w_pv rfl) rfl ?_
            refine Rn.goto (tgt := 31) d_Md_restore_54 (by decide) ?_
            refine ih (k + 1) _ (by omega) (fun c hc hc2 => by rw [w_ui_off _ _ _ _ _ hc]; exact h2 c hc hc2) h3 (fun j hj => ?_)
            rw [w_ui_if]
            by_cases e : j = k
            · rw [if_pos ⟨rfl, by omega⟩, e]
            · rw [if_neg (by omega)]; exact h4 j (by omega)
      refine Rn.bipush (v := iI 50) d_Md_restore_24 (by decide +kernel) ?_
      refine Rn.iload_n d_Md_restore_26 rfl ?_
      refine In.mul d_Md_restore_27 ?_
      rw [ho2]
      refine Rn.istore_n (lv1 := [_, _, _, _]) d_Md_restore_28 (by decide) (w_pv rfl) rfl ?_
      refine Rn.iconst (v := iI 0) d_Md_restore_29 rfl ?_
      refine Rn.istore_n (lv1 := [_, _, _, _]) d_Md_restore_30 (by decide) (w_pv rfl) rfl ?_
      exact loop1 26 0 M rfl (fun _ _ _ => rfl) rfl (fun j hj => by omega)
    · have z := Bool.eq_false_iff.mpr (fl_eq c18)
      rw [hK2 z]
      refine Rn.bipush (v := iI (-3)) d_Md_restore_21 (by decide +kernel) ?_
      exact Rn.iret d_Md_restore_23 rfl rfl ⟨rfl, hA, Ofm.rf⟩
  · have q := fl_eq c6
    rw [v1 q]
    refine Rn.bipush (v := iI (-2)) d_Md_restore_9 (by decide +kernel) ?_
    exact Rn.iret d_Md_restore_11 rfl rfl ⟨rfl, hA, Ofm.rf⟩
theorem m_Md_year {M : wM} {β : Nat → Int} {n : Nat} {σ : Nat → Int} {m : Nat} {τ : Nat → Int} {I J : wIm} {x d w V : Int} (hG : M.2.2 = RG) (hA : mdA M β n σ m τ I J) (hV : aLok β n σ m τ I J) (hx : -2147483648 ≤ x ∧ x < 2147483648) (hd : -2147483648 ≤ d ∧ d < 2147483648) (hw : -2147483648 ≤ w ∧ w < 2147483648) (v1 : ¬ ((0 ≤ x ∧ x ≤ 9999) ∧ (1 ≤ d ∧ d ≤ 99) ∧ (0 ≤ w ∧ w ≤ 2)) → V = -2) (v2 : ((0 ≤ x ∧ x ≤ 9999) ∧ (1 ≤ d ∧ d ≤ 99)) → w = 0 → V = pc (hungS (yrF d.toNat β x.toNat) 6)) (v3 : ((0 ≤ x ∧ x ≤ 9999) ∧ (1 ≤ d ∧ d ≤ 99)) → w = 1 → V = chipS (yrF d.toNat β x.toNat) 6) (v4 : ((0 ≤ x ∧ x ≤ 9999) ∧ (1 ≤ d ∧ d ≤ 99)) → w = 2 → V = pc (bk (yrF d.toNat β x.toNat))) : EvI k_Md_year [.ref 47, .int (iI x), .int (iI d), .int (iI w)] SH M (fun r M' => r = iI V ∧ mdA M' β n σ m τ I J ∧ Ofm M M') := by
  refine EvI.of 4 (by decide) (Nat.le_of_ble_eq_true rfl) rfl ?_
  have bad : ¬ ((0 ≤ x ∧ x ≤ 9999) ∧ (1 ≤ d ∧ d ≤ 99) ∧ (0 ≤ w ∧ w ≤ 2)) → Rn k_Md_year none (0, 0) 30 [some (.ref 47), some (.int (iI x)), some (.int (iI d)), some (.int (iI w)), none, none, none, none] [] SH M (w_FI (0, 0) SH (fun r M' => r = iI V ∧ mdA M' β n σ m τ I J ∧ Ofm M M')) := by
    intro q
    rw [v1 q]
    refine Rn.bipush (v := iI (-2)) d_Md_year_30 (by decide +kernel) ?_
    exact Rn.iret d_Md_year_32 rfl rfl ⟨rfl, hA, Ofm.rf⟩
  refine Rn.iload_n d_Md_year_0 rfl ?_
  refine Rn.iconst (v := iI 0) d_Md_year_1 rfl ?_
  refine Rn.sipush (v := iI 9999) d_Md_year_2 (by decide +kernel) ?_
  refine Rn.cSI d_Md_year_5 s_Md_year_Md_in g_708 g_709 ⟨rfl, rfl⟩ ⟨Nat.zero_le _, Nat.zero_le _⟩ (m_Md_in hx (by decide) (by decide)) rfl rfl (Nat.le_of_ble_eq_true rfl) (fun rr MM qq => ?_)
  obtain ⟨rfl, rfl⟩ := And.imp id Eq.symm qq; clear qq
  refine In.if_eq (tgt := 30) d_Md_year_8 (by decide) fl_rg (fun c8 => ?_) (fun c8 => ?_)
  · have q := fl_eq c8
    exact bad (by omega)
  · have q := fl_ne c8
    refine Rn.iload_n d_Md_year_11 rfl ?_
    refine Rn.iconst (v := iI 1) d_Md_year_12 rfl ?_
    refine Rn.bipush (v := iI 99) d_Md_year_13 (by decide +kernel) ?_
    refine Rn.cSI d_Md_year_15 s_Md_year_Md_in g_708 g_709 ⟨rfl, rfl⟩ ⟨Nat.zero_le _, Nat.zero_le _⟩ (m_Md_in hd (by decide) (by decide)) rfl rfl (Nat.le_of_ble_eq_true rfl) (fun rr MM qq => ?_)
    obtain ⟨rfl, rfl⟩ := And.imp id Eq.symm qq; clear qq
    refine In.if_eq (tgt := 30) d_Md_year_18 (by decide) fl_rg (fun c18 => ?_) (fun c18 => ?_)
    · have q2 := fl_eq c18
      exact bad (by omega)
    · have q2 := fl_ne c18
      refine Rn.iload_n d_Md_year_21 rfl ?_
      refine Rn.iconst (v := iI 0) d_Md_year_22 rfl ?_
      refine Rn.iconst (v := iI 2) d_Md_year_23 rfl ?_
      refine Rn.cSI d_Md_year_24 s_Md_year_Md_in g_708 g_709 ⟨rfl, rfl⟩ ⟨Nat.zero_le _, Nat.zero_le _⟩ (m_Md_in hw (by decide) (by decide)) rfl rfl (Nat.le_of_ble_eq_true rfl) (fun rr MM qq => ?_)
      obtain ⟨rfl, rfl⟩ := And.imp id Eq.symm qq; clear qq
      refine In.if_ne (tgt := 33) d_Md_year_27 (by decide) fl_rg (fun c27 => ?_) (fun c27 => ?_)
      · have q3 := fl_ne c27
        have v2 := v2 ⟨q, q2⟩
        have v3 := v3 ⟨q, q2⟩
        have v4 := v4 ⟨q, q2⟩
        obtain ⟨x, rfl⟩ : ∃ k : Nat, x = k := ⟨x.toNat, by omega⟩
        obtain ⟨d, rfl⟩ : ∃ k : Nat, d = k := ⟨d.toNat, by omega⟩
        simp only [Int.toNat_natCast] at v2 v3 v4
        obtain ⟨F, hF⟩ : ∃ F, F = yrF d β x := ⟨_, rfl⟩
        rw [← hF] at v2 v3 v4
        have hokF : hok F := by rw [hF]; exact yrF_ok d hV.1 x
        have hlt := hungS_lt hokF.l 6 (Nat.le_refl _)
        have hbk := hok_bk hokF
        have hch := fun k (hk : k ≤ 6) => chipS_rg hokF.c k hk
        have fin : ∀ (e k xx : Nat) (Mc : wM) (y7 : Option Value), k + e = 6 → Kp M Mc → nwA Mc F → Rn k_Md_year none (0, 0) 215 [some (.ref 47), some (.int (iI x)), some (.int (iI d)), some (.int (iI w)), some (.int (iI xx)), some (.int (iI (chipS F k))), some (.int (iI k)), y7] [] SH Mc (w_FI (0, 0) SH (fun r M' => r = iI V ∧ mdA M' β n σ m τ I J ∧ Ofm M M')) := by
          intro e
          induction e with
          | zero =>
            intro k xx Mc y7 h1 h2 h3
            have hGc := h2.G hG
            have : k = 6 := by omega
            subst this
            refine Rn.iload d_Md_year_215 rfl ?_
            refine Rn.bipush (v := iI 6) d_Md_year_217 (by decide +kernel) ?_
            refine In.icmp_ge (tgt := 243) d_Md_year_219 (by decide) ⟨by omega, by omega⟩ ⟨by omega, by omega⟩ (fun c219 => ?_) (fun c219 => ?_)
            · refine Rn.iload_n d_Md_year_243 rfl ?_
              refine In.if_ne (tgt := 257) d_Md_year_244 (by decide) ⟨by omega, by omega⟩ (fun c244 => ?_) (fun c244 => ?_)
              · refine Rn.iload_n d_Md_year_257 rfl ?_
                refine Rn.iconst (v := iI 1) d_Md_year_258 rfl ?_
                refine In.icmp_ne (tgt := 267) d_Md_year_259 (by decide) ⟨by omega, by omega⟩ ⟨by omega, by omega⟩ (fun c259 => ?_) (fun c259 => ?_)
                · rw [v4 (by omega)]
                  refine Rn.aload_n d_Md_year_267 rfl ?_
                  refine Rn.getR d_Md_year_268 f_Md_now g_651 z_Md (r_Md_now (by assumption)) ?_
                  refine Rn.bipush (v := iI 24) d_Md_year_271 (by decide +kernel) ?_
                  refine In.ald d_Md_year_273 z_Md_now rfl (by decide) (by decide) ((h3 24 (by decide)).trans (by rw [hbk.1])) ?_
                  refine Rn.cSI d_Md_year_274 s_Md_year_Md_bits g_766 g_767 ⟨rfl, rfl⟩ ⟨Nat.zero_le _, Nat.zero_le _⟩ (m_Md_bits (show bk F < 2147483648 by omega)) rfl rfl (Nat.le_of_ble_eq_true rfl) (fun rr MM qq => ?_)
                  obtain ⟨rfl, rfl⟩ := And.imp id Eq.symm qq; clear qq
                  exact Rn.iret d_Md_year_277 rfl rfl ⟨rfl, hA.kp h2, h2.o⟩
                · rw [v3 (by omega)]
                  refine Rn.iload d_Md_year_262 rfl ?_
                  refine Rn.goto (tgt := 277) d_Md_year_264 (by decide) ?_
                  exact Rn.iret d_Md_year_277 rfl rfl ⟨rfl, hA.kp h2, h2.o⟩
              · rw [v2 (by omega)]
                refine Rn.aload_n d_Md_year_247 rfl ?_
                refine Rn.cVI d_Md_year_248 s_Md_year_Md_hanging g_762 g_764 gs_17 ⟨rfl, rfl⟩ ⟨Nat.zero_le _, Nat.zero_le _⟩ (m_Md_hanging hGc h3 hokF.l) rfl rfl z_Md c_Md (Nat.le_of_ble_eq_true rfl) (fun rr MM qq => ?_)
                obtain ⟨rfl, rfl⟩ := And.imp id Eq.symm qq; clear qq
                refine Rn.cSI d_Md_year_251 s_Md_year_Md_bits g_766 g_767 ⟨rfl, rfl⟩ ⟨Nat.zero_le _, Nat.zero_le _⟩ (m_Md_bits (show hungS F 6 < 2147483648 by omega)) rfl rfl (Nat.le_of_ble_eq_true rfl) (fun rr MM qq => ?_)
                obtain ⟨rfl, rfl⟩ := And.imp id Eq.symm qq; clear qq
                refine Rn.goto (tgt := 277) d_Md_year_254 (by decide) ?_
                exact Rn.iret d_Md_year_277 rfl rfl ⟨rfl, hA.kp h2, h2.o⟩
            · omega
          | succ e ih =>
            intro k xx Mc y7 h1 h2 h3
            have hGc := h2.G hG
            have ih := ih (k + 1) xx Mc y7 (by omega) h2 h3
            have e1 : chipS F (k + 1) = chipS F k + F (18 + k) := rfl
            rw [e1] at ih
            refine Rn.iload d_Md_year_215 rfl ?_
            refine Rn.bipush (v := iI 6) d_Md_year_217 (by decide +kernel) ?_
            refine In.icmp_ge (tgt := 243) d_Md_year_219 (by decide) ⟨by omega, by omega⟩ ⟨by omega, by omega⟩ (fun c219 => ?_) (fun c219 => ?_)
            · omega
            · refine Rn.iload d_Md_year_222 rfl ?_
              refine Rn.aload_n d_Md_year_224 rfl ?_
              refine Rn.getR d_Md_year_225 f_Md_now g_651 z_Md (r_Md_now (by assumption)) ?_
              refine Rn.bipush (v := iI 18) d_Md_year_228 (by decide +kernel) ?_
              refine Rn.iload d_Md_year_230 rfl ?_
              refine In.add d_Md_year_232 ?_
              refine In.ald d_Md_year_233 z_Md_now (by omega) (by omega) (by decide) (h3 (18 + k) (by omega)) ?_
              refine In.add d_Md_year_234 ?_
              refine Rn.istore (lv1 := [_, _, _, _, _, _, _, _]) d_Md_year_235 (by decide) (w_pv rfl) rfl ?_
              refine In.inc (lv1 := [_, _, _, _, _, _, _, _]) d_Md_year_237 rfl (by decide) (w_pv rfl) rfl ?_
              refine Rn.goto (tgt := 215) d_Md_year_240 (by decide) ?_
              exact ih
        have loop : ∀ (e k xx : Nat) (g : Nat → Int) (Mc : wM) (y6 y7 : Option Value), k + e = d → xx < 65537 → hok g → Kp M Mc → nwA Mc g → yrF e g xx = F → Rn k_Md_year none (0, 0) 43 [some (.ref 47), some (.int (iI x)), some (.int (iI d)), some (.int (iI w)), some (.int (iI xx)), some (.int (iI k)), y6, y7] [] SH Mc (w_FI (0, 0) SH (fun r M' => r = iI V ∧ mdA M' β n σ m τ I J ∧ Ofm M M')) := by
          intro e
          induction e with
          | zero =>
            intro k xx g Mc y6 y7 h1 h2 h3 h4 h5 h6
            have e0 : yrF 0 g xx = g := rfl
            rw [e0] at h6
            subst h6
            refine Rn.iload d_Md_year_43 rfl ?_
            refine Rn.iload_n d_Md_year_45 rfl ?_
            refine In.icmp_ge (tgt := 209) d_Md_year_46 (by decide) ⟨by omega, by omega⟩ ⟨by omega, by omega⟩ (fun c46 => ?_) (fun c46 => ?_)
            · refine Rn.iconst (v := iI 0) d_Md_year_209 rfl ?_
              refine Rn.istore (lv1 := [_, _, _, _, _, _, _, _]) d_Md_year_210 (by decide) (w_pv rfl) rfl ?_
              refine Rn.iconst (v := iI 0) d_Md_year_212 rfl ?_
              refine Rn.istore (lv1 := [_, _, _, _, _, _, _, _]) d_Md_year_213 (by decide) (w_pv rfl) rfl ?_
              exact fin 6 0 xx Mc _ rfl h4 h5
            · omega
          | succ e ih =>
            intro k xx g Mc y6 y7 h1 h2 h3 h4 h5 h6
            have hGc := h4.G hG
            have e0 : yrF (e + 1) g xx = yrF e (yrA g (yrX xx)) (yrX xx) := rfl
            rw [e0, yrA_act] at h6
            have hX : yrX xx < 65537 := Nat.mod_lt _ (by decide)
            have hXe : ((75 : Int) * xx + 74) % 65537 = (yrX xx : Nat) := by unfold yrX; omega
            have hao := yr_ok (yrX xx)
            have eK : yrK (yrX xx) = (if yrX xx / 6 % 8 = 4 then 1 else if yrX xx / 6 % 8 = 5 then 2 else if yrX xx / 6 % 8 = 6 then 3 else if yrX xx / 6 % 8 = 7 then (if yrX xx / 48 % 8 = 0 then 4 else 5) else 0) := rfl
            have eO : yrO (yrX xx) = (if yrX xx / 6 % 8 = 4 then yrX xx % 6 else if yrX xx / 6 % 8 = 5 then 1 + yrX xx / 48 % 9 else if yrX xx / 6 % 8 = 6 then yrX xx / 48 % 12 else if yrX xx / 6 % 8 = 7 then 0 else yrX xx % 6) := rfl
            have eP : yrP (yrX xx) = (if yrX xx / 6 % 8 = 4 then 0 else if yrX xx / 6 % 8 = 5 then 0 else if yrX xx / 6 % 8 = 6 then yrX xx / 48 / 12 % 12 else if yrX xx / 6 % 8 = 7 then 0 else yrX xx / 48 % 12) := rfl
            have ih := ih (k + 1) (yrX xx)
            generalize yrX xx = X at *
            have nxt : ∀ (K O P : Nat) (Mx : wM) (z6 z7 : Option Value) (r : Int), yrK X = K → yrO X = O → yrP X = P → Act1 Mc Mx g (actG g K O P) → Rn k_Md_year none (0, 0) 203 [some (.ref 47), some (.int (iI x)), some (.int (iI d)), some (.int (iI w)), some (.int (iI X)), some (.int (iI k)), z6, z7] [] SH (w_ui Mx 47 10 (iI r)) (w_FI (0, 0) SH (fun r M' => r = iI V ∧ mdA M' β n σ m τ I J ∧ Ofm M M')) := by
              intro K O P Mx z6 z7 r r1 r2 r3 hAc
              subst r1; subst r2; subst r3
              refine In.inc (lv1 := [_, _, _, _, _, _, _, _]) d_Md_year_203 rfl (by decide) (w_pv rfl) rfl ?_
              refine Rn.goto (tgt := 43) d_Md_year_206 (by decide) ?_
              exact ih _ _ _ _ (by omega) hX (actG_ok h3 hao) ((h4.tr hAc.1).tr (Kp.fl (by omega))) (hAc.2.1.ui (by decide)) h6
            refine Rn.iload d_Md_year_43 rfl ?_
            refine Rn.iload_n d_Md_year_45 rfl ?_
            refine In.icmp_ge (tgt := 209) d_Md_year_46 (by decide) ⟨by omega, by omega⟩ ⟨by omega, by omega⟩ (fun c46 => ?_) (fun c46 => ?_)
            · omega
            · refine Rn.bipush (v := iI 75) d_Md_year_49 (by decide +kernel) ?_
              refine Rn.iload d_Md_year_51 rfl ?_
              refine In.mul d_Md_year_53 ?_
              refine Rn.bipush (v := iI 74) d_Md_year_54 (by decide +kernel) ?_
              refine In.add d_Md_year_56 ?_
              refine In.ldc (z := (65537)) d_Md_year_57 g_876 (by decide +kernel) ?_
              refine In.rem d_Md_year_59 ⟨by omega, by omega⟩ ⟨by decide, by decide⟩ ?_
              rw [hXe]
              refine Rn.istore (lv1 := [_, _, _, _, _, _, _, _]) d_Md_year_60 (by decide) (w_pv rfl) rfl ?_
              refine Rn.iload d_Md_year_62 rfl ?_
              refine Rn.bipush (v := iI 6) d_Md_year_64 (by decide +kernel) ?_
              refine In.div d_Md_year_66 ⟨by omega, by omega⟩ ⟨by decide, by decide⟩ ?_
              refine Rn.bipush (v := iI 8) d_Md_year_67 (by decide +kernel) ?_
              refine In.rem d_Md_year_69 ⟨by omega, by omega⟩ ⟨by decide, by decide⟩ ?_
              refine Rn.istore (lv1 := [_, _, _, _, _, _, _, _]) d_Md_year_70 (by decide) (w_pv rfl) rfl ?_
              refine Rn.iload d_Md_year_72 rfl ?_
              refine Rn.bipush (v := iI 48) d_Md_year_74 (by decide +kernel) ?_
              refine In.div d_Md_year_76 ⟨by omega, by omega⟩ ⟨by decide, by decide⟩ ?_
              refine Rn.istore (lv1 := [_, _, _, _, _, _, _, _]) d_Md_year_77 (by decide) (w_pv rfl) rfl ?_
              obtain ⟨z, hz⟩ : ∃ z : Nat, z = X / 48 := ⟨_, rfl⟩
              obtain ⟨h, hh⟩ : ∃ h : Nat, h = X / 6 % 8 := ⟨_, rfl⟩
              rw [← hz, ← hh] at eK eO eP
              have ez : (X : Int) / 48 = z := by omega
              have eh : (X : Int) / 6 % 8 = h := by omega
              have ex : (X : Int) % 6 = (X % 6 : Nat) := by omega
              rw [ez, eh]
              have hz2 : z < 2000 := by omega
              refine Rn.iload d_Md_year_79 rfl ?_
              refine Rn.iconst (v := iI 4) d_Md_year_81 rfl ?_
              refine In.icmp_ge (tgt := 106) d_Md_year_82 (by decide) ⟨by omega, by omega⟩ ⟨by omega, by omega⟩ (fun c82 => ?_) (fun c82 => ?_)
              · refine Rn.iload d_Md_year_106 rfl ?_
                refine Rn.iconst (v := iI 4) d_Md_year_108 rfl ?_
                refine In.icmp_ne (tgt := 128) d_Md_year_109 (by decide) ⟨by omega, by omega⟩ ⟨by omega, by omega⟩ (fun c109 => ?_) (fun c109 => ?_)
                · refine Rn.iload d_Md_year_128 rfl ?_
                  refine Rn.iconst (v := iI 5) d_Md_year_130 rfl ?_
                  refine In.icmp_ne (tgt := 152) d_Md_year_131 (by decide) ⟨by omega, by omega⟩ ⟨by omega, by omega⟩ (fun c131 => ?_) (fun c131 => ?_)
                  · refine Rn.iload d_Md_year_152 rfl ?_
                    refine Rn.bipush (v := iI 6) d_Md_year_154 (by decide +kernel) ?_
                    refine In.icmp_ne (tgt := 183) d_Md_year_156 (by decide) ⟨by omega, by omega⟩ ⟨by omega, by omega⟩ (fun c156 => ?_) (fun c156 => ?_)
                    · have h7 : h = 7 := by omega
                      have eK2 : yrK X = (if z % 8 = 0 then 4 else 5) := by rw [eK, if_neg (by omega), if_neg (by omega), if_neg (by omega), if_pos h7]
                      have eO2 : yrO X = 0 := by rw [eO, if_neg (by omega), if_neg (by omega), if_neg (by omega), if_pos h7]
                      have eP2 : yrP X = 0 := by rw [eP, if_neg (by omega), if_neg (by omega), if_neg (by omega), if_pos h7]
                      refine Rn.aload_n d_Md_year_183 rfl ?_
                      refine Rn.iload d_Md_year_184 rfl ?_
                      refine Rn.bipush (v := iI 8) d_Md_year_186 (by decide +kernel) ?_
                      refine In.rem d_Md_year_188 ⟨by omega, by omega⟩ ⟨by decide, by decide⟩ ?_
                      refine In.if_ne (tgt := 199) d_Md_year_189 (by decide) ⟨by omega, by omega⟩ (fun c189 => ?_) (fun c189 => ?_)
                      · rw [if_neg (by omega)] at eK2
                        have w5 : whyF g 5 0 0 = 0 := rfl
                        have ea : actG g 5 0 0 = g := by unfold actG; rw [if_pos w5]; rfl
                        refine Rn.iconst (v := iI 0) d_Md_year_199 rfl ?_
                        refine In.putI d_Md_year_200 f_Md_reason g_660 z_Md ?_
                        exact nxt 5 0 0 Mc _ _ _ eK2 eO2 eP2 (by rw [ea]; exact Act1.rf h5)
                      · rw [if_pos (by omega)] at eK2
                        refine Rn.aload_n d_Md_year_192 rfl ?_
                        refine Rn.cVI d_Md_year_193 s_Md_year_Md_endWinter g_750 g_752 gs_14 ⟨rfl, rfl⟩ ⟨Nat.zero_le _, Nat.zero_le _⟩ (m_Md_endWinter (o := 0) (p := 0) hGc h5 h3) rfl rfl z_Md c_Md (Nat.le_of_ble_eq_true rfl) (fun rr Mx qq => ?_)
                        obtain ⟨rfl, hAc⟩ := qq
                        refine Rn.goto (tgt := 200) d_Md_year_196 (by decide) ?_
                        refine In.putI d_Md_year_200 f_Md_reason g_660 z_Md ?_
                        exact nxt 4 0 0 Mx _ _ _ eK2 eO2 eP2 hAc
                    · have h7 : h = 6 := by omega
                      have eK2 : yrK X = 3 := by rw [eK, if_neg (by omega), if_neg (by omega), if_pos h7]
                      have eO2 : yrO X = z % 12 := by rw [eO, if_neg (by omega), if_neg (by omega), if_pos h7]
                      have eP2 : yrP X = z / 12 % 12 := by rw [eP, if_neg (by omega), if_neg (by omega), if_pos h7]
                      refine Rn.aload_n d_Md_year_159 rfl ?_
                      refine Rn.aload_n d_Md_year_160 rfl ?_
                      refine Rn.iload d_Md_year_161 rfl ?_
                      refine Rn.bipush (v := iI 12) d_Md_year_163 (by decide +kernel) ?_
                      refine In.rem d_Md_year_165 ⟨by omega, by omega⟩ ⟨by decide, by decide⟩ ?_
                      refine Rn.iload d_Md_year_166 rfl ?_
                      refine Rn.bipush (v := iI 12) d_Md_year_168 (by decide +kernel) ?_
                      refine In.div d_Md_year_170 ⟨by omega, by omega⟩ ⟨by decide, by decide⟩ ?_
                      refine Rn.bipush (v := iI 12) d_Md_year_171 (by decide +kernel) ?_
                      refine In.rem d_Md_year_173 ⟨by omega, by omega⟩ ⟨by decide, by decide⟩ ?_
                      rw [show (z : Int) % 12 = (z % 12 : Nat) by omega, show (z : Int) / 12 % 12 = (z / 12 % 12 : Nat) by omega]
                      refine Rn.cVI d_Md_year_174 s_Md_year_Md_bend g_754 g_756 gs_15 ⟨rfl, rfl⟩ ⟨Nat.zero_le _, Nat.zero_le _⟩ (m_Md_bend hGc h5 h3 (show z % 12 < 12 by omega) (show z / 12 % 12 < 12 by omega)) rfl rfl z_Md c_Md (Nat.le_of_ble_eq_true rfl) (fun rr Mx qq => ?_)
                      obtain ⟨rfl, hAc⟩ := qq
                      refine In.putI d_Md_year_177 f_Md_reason g_660 z_Md ?_
                      refine Rn.goto (tgt := 203) d_Md_year_180 (by decide) ?_
                      exact nxt 3 _ _ Mx _ _ _ eK2 eO2 eP2 hAc
                  · have h7 : h = 5 := by omega
                    have eK2 : yrK X = 2 := by rw [eK, if_neg (by omega), if_pos h7]
                    have eO2 : yrO X = 1 + z % 9 := by rw [eO, if_neg (by omega), if_pos h7]
                    have eP2 : yrP X = 0 := by rw [eP, if_neg (by omega), if_pos h7]
                    refine Rn.aload_n d_Md_year_134 rfl ?_
                    refine Rn.aload_n d_Md_year_135 rfl ?_
                    refine Rn.iconst (v := iI 1) d_Md_year_136 rfl ?_
                    refine Rn.iload d_Md_year_137 rfl ?_
                    refine Rn.bipush (v := iI 9) d_Md_year_139 (by decide +kernel) ?_
                    refine In.rem d_Md_year_141 ⟨by omega, by omega⟩ ⟨by decide, by decide⟩ ?_
                    refine In.add d_Md_year_142 ?_
                    rw [show (1 : Int) + (z : Int) % 9 = (1 + z % 9 : Nat) by omega]
                    refine Rn.cVI d_Md_year_143 s_Md_year_Md_blow g_758 g_760 gs_16 ⟨rfl, rfl⟩ ⟨Nat.zero_le _, Nat.zero_le _⟩ (m_Md_blow (p := 0) hGc h5 h3 (show 1 ≤ 1 + z % 9 ∧ 1 + z % 9 ≤ 9 by omega)) rfl rfl z_Md c_Md (Nat.le_of_ble_eq_true rfl) (fun rr Mx qq => ?_)
                    obtain ⟨rfl, hAc⟩ := qq
                    refine In.putI d_Md_year_146 f_Md_reason g_660 z_Md ?_
                    refine Rn.goto (tgt := 203) d_Md_year_149 (by decide) ?_
                    exact nxt 2 _ _ Mx _ _ _ eK2 eO2 eP2 hAc
                · have h7 : h = 4 := by omega
                  have eK2 : yrK X = 1 := by rw [eK, if_pos h7]
                  have eO2 : yrO X = X % 6 := by rw [eO, if_pos h7]
                  have eP2 : yrP X = 0 := by rw [eP, if_pos h7]
                  refine Rn.aload_n d_Md_year_112 rfl ?_
                  refine Rn.aload_n d_Md_year_113 rfl ?_
                  refine Rn.iload d_Md_year_114 rfl ?_
                  refine Rn.bipush (v := iI 6) d_Md_year_116 (by decide +kernel) ?_
                  refine In.rem d_Md_year_118 ⟨by omega, by omega⟩ ⟨by decide, by decide⟩ ?_
                  rw [ex]
                  refine Rn.cVI d_Md_year_119 s_Md_year_Md_pack g_773 g_775 gs_19 ⟨rfl, rfl⟩ ⟨Nat.zero_le _, Nat.zero_le _⟩ (m_Md_pack (p := 0) hGc h5 h3 (show X % 6 < 6 by omega)) rfl rfl z_Md c_Md (Nat.le_of_ble_eq_true rfl) (fun rr Mx qq => ?_)
                  obtain ⟨rfl, hAc⟩ := qq
                  refine In.putI d_Md_year_122 f_Md_reason g_660 z_Md ?_
                  refine Rn.goto (tgt := 203) d_Md_year_125 (by decide) ?_
                  exact nxt 1 _ _ Mx _ _ _ eK2 eO2 eP2 hAc
              · have eK2 : yrK X = 0 := by rw [eK, if_neg (by omega), if_neg (by omega), if_neg (by omega), if_neg (by omega)]
                have eO2 : yrO X = X % 6 := by rw [eO, if_neg (by omega), if_neg (by omega), if_neg (by omega), if_neg (by omega)]
                have eP2 : yrP X = z % 12 := by rw [eP, if_neg (by omega), if_neg (by omega), if_neg (by omega), if_neg (by omega)]
                refine Rn.aload_n d_Md_year_85 rfl ?_
                refine Rn.aload_n d_Md_year_86 rfl ?_
                refine Rn.iload d_Md_year_87 rfl ?_
                refine Rn.bipush (v := iI 6) d_Md_year_89 (by decide +kernel) ?_
                refine In.rem d_Md_year_91 ⟨by omega, by omega⟩ ⟨by decide, by decide⟩ ?_
                refine Rn.iload d_Md_year_92 rfl ?_
                refine Rn.bipush (v := iI 12) d_Md_year_94 (by decide +kernel) ?_
                refine In.rem d_Md_year_96 ⟨by omega, by omega⟩ ⟨by decide, by decide⟩ ?_
                rw [ex, show (z : Int) % 12 = (z % 12 : Nat) by omega]
                refine Rn.cVI d_Md_year_97 s_Md_year_Md_hang g_780 g_782 gs_20 ⟨rfl, rfl⟩ ⟨Nat.zero_le _, Nat.zero_le _⟩ (m_Md_hang hGc h5 h3 (show X % 6 < 6 by omega) (show z % 12 < 12 by omega)) rfl rfl z_Md c_Md (Nat.le_of_ble_eq_true rfl) (fun rr Mx qq => ?_)
                obtain ⟨rfl, hAc⟩ := qq
                refine In.putI d_Md_year_100 f_Md_reason g_660 z_Md ?_
                refine Rn.goto (tgt := 203) d_Md_year_103 (by decide) ?_
                exact nxt 0 _ _ Mx _ _ _ eK2 eO2 eP2 hAc
        refine Rn.aload_n d_Md_year_33 rfl ?_
        refine Rn.cVV d_Md_year_34 s_Md_year_Md_asNow g_715 g_717 gs_10 ⟨rfl, rfl⟩ ⟨Nat.zero_le _, Nat.zero_le _⟩ (m_Md_asNow hG hA.1) rfl rfl z_Md c_Md (Nat.le_of_ble_eq_true rfl) (fun M1 qq => ?_)
        obtain ⟨k1, n1, _, _, _⟩ := qq
        refine Rn.iload_n d_Md_year_37 rfl ?_
        refine Rn.istore (lv1 := [_, _, _, _, _, _, _, _]) d_Md_year_38 (by decide) (w_pv rfl) rfl ?_
        refine Rn.iconst (v := iI 0) d_Md_year_40 rfl ?_
        refine Rn.istore (lv1 := [_, _, _, _, _, _, _, _]) d_Md_year_41 (by decide) (w_pv rfl) rfl ?_
        exact loop d 0 x β M1 _ _ (by omega) (by omega) hV.1 k1 n1 hF.symm
      · have q3 := fl_eq c27
        exact bad (by omega)
