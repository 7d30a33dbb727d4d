/-! The reference's acts. -/
set_option maxRecDepth 20000
set_option maxHeartbeats 400000
theorem m_Md_hang {M : wM} {g : Nat → Int} {o p : Nat} (hG : M.2.2 = RG) (hN : nwA M g) (hV : hok g) (ho : o < 6) (hp : p < 12) : EvI k_Md_hang [.ref 47, .int (iI o), .int (iI p)] SH M (fun r M' => r = iI (whyF g 0 o p) ∧ Act1 M M' g (actG g 0 o p)) := by
  refine EvI.of 1 (by decide) (Nat.le_of_ble_eq_true rfl) rfl ?_
  have hbk := hok_bk hV
  have w1 : (bk g).testBit o = true → whyF g 0 o p = 1 := fun q => by unfold whyF; rw [if_pos rfl, if_pos q]
  refine Rn.aload_n d_Md_hang_0 rfl ?_
  refine Rn.getR d_Md_hang_1 f_Md_now g_651 z_Md (r_Md_now (by assumption)) ?_
  refine Rn.bipush (v := iI 24) d_Md_hang_4 (by decide +kernel) ?_
  refine In.ald d_Md_hang_6 z_Md_now rfl (by decide) (by decide) ((hN 24 (by decide)).trans (by rw [hbk.1])) ?_
  refine Rn.iload_n d_Md_hang_7 rfl ?_
  refine Rn.cSI d_Md_hang_8 s_Md_hang_Md_has g_777 g_778 ⟨rfl, rfl⟩ ⟨Nat.zero_le _, Nat.zero_le _⟩ (m_Md_has (show bk g < 2147483648 by omega) (show o < 31 by omega)) rfl rfl (Nat.le_of_ble_eq_true rfl) (fun rr MM qq => ?_)
  obtain ⟨rfl, rfl⟩ := And.imp id Eq.symm qq; clear qq
  refine In.if_eq (tgt := 16) d_Md_hang_11 (by decide) fl_rg (fun c11 => ?_) (fun c11 => ?_)
  · have q := fl_eq c11
    have h3 := onB_hung hV (l := p) ho
    refine Rn.aload_n d_Md_hang_16 rfl ?_
    refine Rn.iload_n d_Md_hang_17 rfl ?_
    refine Rn.cVI d_Md_hang_18 s_Md_hang_Md_ballOn g_719 g_721 gs_11 ⟨rfl, rfl⟩ ⟨Nat.zero_le _, Nat.zero_le _⟩ (m_Md_ballOn hG hN hV (show -1000 ≤ (p : Int) ∧ (p : Int) ≤ 1000 by omega)) rfl rfl z_Md c_Md (Nat.le_of_ble_eq_true rfl) (fun rr MM qq => ?_)
    obtain ⟨rfl, rfl⟩ := And.imp id Eq.symm qq; clear qq
    refine Rn.istore_n (lv1 := [_, _, _, _]) d_Md_hang_21 (by decide) (w_pv rfl) rfl ?_
    refine Rn.iload_n d_Md_hang_22 rfl ?_
    rcases h3 with ⟨e1, e2, e3⟩ | ⟨e1, e2⟩ | ⟨x, e0, e1, e2, e3, e4⟩
    · have w : whyF g 0 o p = 0 := by
        unfold whyF
        rw [if_pos rfl, if_neg q, if_neg (by rw [e2]; simp), if_neg e3]
      have wa : ∀ k, actG g 0 o p k = up g (12 + o) p k := fun k => by
        unfold actG; rw [if_pos w]
        exact putF_same hV ho q k
      rw [e1, w]
      refine In.if_lt (tgt := 37) d_Md_hang_23 (by decide) ⟨by omega, by omega⟩ (fun c23 => ?_) (fun c23 => ?_)
      · refine Rn.aload_n d_Md_hang_37 rfl ?_
        refine Rn.getR d_Md_hang_38 f_Md_now g_651 z_Md (r_Md_now (by assumption)) ?_
        refine Rn.bipush (v := iI 12) d_Md_hang_41 (by decide +kernel) ?_
        refine Rn.iload_n d_Md_hang_43 rfl ?_
        refine In.add d_Md_hang_44 ?_
        refine Rn.iload_n d_Md_hang_45 rfl ?_
        refine In.ast d_Md_hang_46 z_Md_now (show ((12 : Int) + o) = ((12 + o : Nat) : Int) by omega) (by omega) (by decide) ?_
        refine Rn.iconst (v := iI 0) d_Md_hang_47 rfl ?_
        exact Rn.iret d_Md_hang_48 rfl rfl ⟨rfl, Act1.of (Kp.ui (by omega)) (hN.up.cg (fun k _ => wa k)) (by rw [w_ui_off _ _ _ _ _ (by decide)]) (fun b hb => by rw [wa, up_ne _ _ _ _ (by omega)])⟩
      · omega
    · have w : whyF g 0 o p = 3 := by
        unfold whyF
        rw [if_pos rfl, if_neg q, if_neg (by omega), if_pos e2]
      have wa : actG g 0 o p = g := by unfold actG; rw [if_neg (by omega)]
      rw [e1, w, wa]
      refine In.if_lt (tgt := 37) d_Md_hang_23 (by decide) ⟨by omega, by omega⟩ (fun c23 => ?_) (fun c23 => ?_)
      · omega
      · refine Rn.iload_n d_Md_hang_26 rfl ?_
        refine Rn.iload_n d_Md_hang_27 rfl ?_
        refine In.icmp_ne (tgt := 35) d_Md_hang_28 (by decide) ⟨by omega, by omega⟩ ⟨by omega, by omega⟩ (fun c28 => ?_) (fun c28 => ?_)
        · omega
        · refine Rn.iconst (v := iI 3) d_Md_hang_31 rfl ?_
          refine Rn.goto (tgt := 36) d_Md_hang_32 (by decide) ?_
          exact Rn.iret d_Md_hang_36 rfl rfl ⟨rfl, Act1.rf hN⟩
    · have w : whyF g 0 o p = 2 := by
        unfold whyF
        rw [if_pos rfl, if_neg q, if_pos ⟨e3, e4⟩]
      have wa : actG g 0 o p = g := by unfold actG; rw [if_neg (by omega)]
      rw [e1, w, wa]
      refine In.if_lt (tgt := 37) d_Md_hang_23 (by decide) ⟨by omega, by omega⟩ (fun c23 => ?_) (fun c23 => ?_)
      · omega
      · refine Rn.iload_n d_Md_hang_26 rfl ?_
        refine Rn.iload_n d_Md_hang_27 rfl ?_
        refine In.icmp_ne (tgt := 35) d_Md_hang_28 (by decide) ⟨by omega, by omega⟩ ⟨by omega, by omega⟩ (fun c28 => ?_) (fun c28 => ?_)
        · refine Rn.iconst (v := iI 2) d_Md_hang_35 rfl ?_
          exact Rn.iret d_Md_hang_36 rfl rfl ⟨rfl, Act1.rf hN⟩
        · omega
  · have q := fl_ne c11
    have wa : actG g 0 o p = g := by unfold actG; rw [if_neg (by rw [w1 q]; decide)]
    rw [w1 q, wa]
    refine Rn.iconst (v := iI 1) d_Md_hang_14 rfl ?_
    exact Rn.iret d_Md_hang_15 rfl rfl ⟨rfl, Act1.rf hN⟩
theorem m_Md_pack {M : wM} {g : Nat → Int} {o p : Nat} (hG : M.2.2 = RG) (hN : nwA M g) (hV : hok g) (ho : o < 6) : EvI k_Md_pack [.ref 47, .int (iI o)] SH M (fun r M' => r = iI (whyF g 1 o p) ∧ Act1 M M' g (actG g 1 o p)) := by
  refine EvI.of 0 (by decide) (Nat.le_of_ble_eq_true rfl) rfl ?_
  have hbk := hok_bk hV
  have hlo := hV.l o ho
  have w1 : (bk g).testBit o = true → whyF g 1 o p = 1 := fun q => by unfold whyF; rw [if_neg (by decide), if_pos rfl, if_pos q]
  refine Rn.aload_n d_Md_pack_0 rfl ?_
  refine Rn.getR d_Md_pack_1 f_Md_now g_651 z_Md (r_Md_now (by assumption)) ?_
  refine Rn.bipush (v := iI 24) d_Md_pack_4 (by decide +kernel) ?_
  refine In.ald d_Md_pack_6 z_Md_now rfl (by decide) (by decide) ((hN 24 (by decide)).trans (by rw [hbk.1])) ?_
  refine Rn.iload_n d_Md_pack_7 rfl ?_
  refine Rn.cSI d_Md_pack_8 s_Md_pack_Md_has g_777 g_778 ⟨rfl, rfl⟩ ⟨Nat.zero_le _, Nat.zero_le _⟩ (m_Md_has (show bk g < 2147483648 by omega) (show o < 31 by omega)) rfl rfl (Nat.le_of_ble_eq_true rfl) (fun rr MM qq => ?_)
  obtain ⟨rfl, rfl⟩ := And.imp id Eq.symm qq; clear qq
  refine In.if_eq (tgt := 16) d_Md_pack_11 (by decide) fl_rg (fun c11 => ?_) (fun c11 => ?_)
  · have q := fl_eq c11
    refine Rn.aload_n d_Md_pack_16 rfl ?_
    refine Rn.getR d_Md_pack_17 f_Md_now g_651 z_Md (r_Md_now (by assumption)) ?_
    refine Rn.bipush (v := iI 12) d_Md_pack_20 (by decide +kernel) ?_
    refine Rn.iload_n d_Md_pack_22 rfl ?_
    refine In.add d_Md_pack_23 ?_
    refine In.ald d_Md_pack_24 z_Md_now (by omega) (by omega) (by decide) (hN (12 + o) (by omega)) ?_
    refine In.if_ge (tgt := 30) d_Md_pack_25 (by decide) ⟨by omega, by omega⟩ (fun c25 => ?_) (fun c25 => ?_)
    · have w : whyF g 1 o p = 0 := by
        unfold whyF
        rw [if_neg (by decide), if_pos rfl, if_neg q, if_neg (by omega)]
      have wa : ∀ k, actG g 1 o p k = up g (12 + o) (-6) k := fun k => by
        unfold actG; rw [if_pos w]
        exact putF_same hV ho q k
      rw [w]
      refine Rn.aload_n d_Md_pack_30 rfl ?_
      refine Rn.getR d_Md_pack_31 f_Md_now g_651 z_Md (r_Md_now (by assumption)) ?_
      refine Rn.bipush (v := iI 12) d_Md_pack_34 (by decide +kernel) ?_
      refine Rn.iload_n d_Md_pack_36 rfl ?_
      refine In.add d_Md_pack_37 ?_
      refine Rn.bipush (v := iI (-6)) d_Md_pack_38 (by decide +kernel) ?_
      refine In.ast d_Md_pack_40 z_Md_now (show ((12 : Int) + o) = ((12 + o : Nat) : Int) by omega) (by omega) (by decide) ?_
      refine Rn.iconst (v := iI 0) d_Md_pack_41 rfl ?_
      exact Rn.iret d_Md_pack_42 rfl rfl ⟨rfl, Act1.of (Kp.ui (by omega)) (hN.up.cg (fun k _ => wa k)) (by rw [w_ui_off _ _ _ _ _ (by decide)]) (fun b hb => by rw [wa, up_ne _ _ _ _ (by omega)])⟩
    · have w : whyF g 1 o p = 3 := by
        unfold whyF
        rw [if_neg (by decide), if_pos rfl, if_neg q, if_pos (by omega)]
      have wa : actG g 1 o p = g := by unfold actG; rw [if_neg (by omega)]
      rw [w, wa]
      refine Rn.iconst (v := iI 3) d_Md_pack_28 rfl ?_
      exact Rn.iret d_Md_pack_29 rfl rfl ⟨rfl, Act1.rf hN⟩
  · have q := fl_ne c11
    have wa : actG g 1 o p = g := by unfold actG; rw [if_neg (by rw [w1 q]; decide)]
    rw [w1 q, wa]
    refine Rn.iconst (v := iI 1) d_Md_pack_14 rfl ?_
    exact Rn.iret d_Md_pack_15 rfl rfl ⟨rfl, Act1.rf hN⟩
theorem m_Md_bend {M : wM} {g : Nat → Int} {o p : Nat} (hG : M.2.2 = RG) (hN : nwA M g) (hV : hok g) (ho : o < 12) (hp : p < 12) : EvI k_Md_bend [.ref 47, .int (iI o), .int (iI p)] SH M (fun r M' => r = iI (whyF g 3 o p) ∧ Act1 M M' g (actG g 3 o p)) := by
  refine EvI.of 0 (by decide) (Nat.le_of_ble_eq_true rfl) rfl ?_
  have w1 : o ≤ p → whyF g 3 o p = 5 := fun q => by unfold whyF; rw [if_neg (by decide), if_neg (by decide), if_neg (by decide), if_pos rfl, if_pos q]
  have w2 : ¬ o ≤ p → g o = p → whyF g 3 o p = 5 := fun q q2 => by unfold whyF; rw [if_neg (by decide), if_neg (by decide), if_neg (by decide), if_pos rfl, if_neg q, if_pos q2]
  have w3 : ¬ o ≤ p → ¬ g o = p → whyF g 3 o p = 0 := fun q q2 => by unfold whyF; rw [if_neg (by decide), if_neg (by decide), if_neg (by decide), if_pos rfl, if_neg q, if_neg q2]
  refine Rn.iload_n d_Md_bend_0 rfl ?_
  refine Rn.iload_n d_Md_bend_1 rfl ?_
  refine In.icmp_ge (tgt := 15) d_Md_bend_2 (by decide) ⟨by omega, by omega⟩ ⟨by omega, by omega⟩ (fun c2 => ?_) (fun c2 => ?_)
  · have w := w1 (by omega)
    have wa : actG g 3 o p = g := by unfold actG; rw [if_neg (by omega)]
    rw [w, wa]
    refine Rn.iconst (v := iI 5) d_Md_bend_15 rfl ?_
    exact Rn.iret d_Md_bend_16 rfl rfl ⟨rfl, Act1.rf hN⟩
  · have ht := hV.t o (by omega) ho
    refine Rn.aload_n d_Md_bend_5 rfl ?_
    refine Rn.getR d_Md_bend_6 f_Md_now g_651 z_Md (r_Md_now (by assumption)) ?_
    refine Rn.iload_n d_Md_bend_9 rfl ?_
    refine In.ald d_Md_bend_10 z_Md_now rfl (by omega) (by decide) (hN o (by omega)) ?_
    refine Rn.iload_n d_Md_bend_11 rfl ?_
    refine In.icmp_ne (tgt := 17) d_Md_bend_12 (by decide) ⟨by omega, by omega⟩ ⟨by omega, by omega⟩ (fun c12 => ?_) (fun c12 => ?_)
    · have w := w3 (by omega) (by omega)
      have wa : ∀ k, actG g 3 o p k = up g o p k := fun k => by unfold actG; rw [if_pos w]; rfl
      rw [w]
      refine Rn.aload_n d_Md_bend_17 rfl ?_
      refine Rn.getR d_Md_bend_18 f_Md_now g_651 z_Md (r_Md_now (by assumption)) ?_
      refine Rn.iload_n d_Md_bend_21 rfl ?_
      refine Rn.iload_n d_Md_bend_22 rfl ?_
      refine In.ast d_Md_bend_23 z_Md_now rfl (by omega) (by decide) ?_
      refine Rn.iconst (v := iI 0) d_Md_bend_24 rfl ?_
      exact Rn.iret d_Md_bend_25 rfl rfl ⟨rfl, Act1.of (Kp.ui (by omega)) (hN.up.cg (fun k _ => wa k)) (by rw [w_ui_off _ _ _ _ _ (by decide)]) (fun b hb => by rw [wa, up_ne _ _ _ _ (by omega)])⟩
    · have w := w2 (by omega) (by omega)
      have wa : actG g 3 o p = g := by unfold actG; rw [if_neg (by omega)]
      rw [w, wa]
      refine Rn.iconst (v := iI 5) d_Md_bend_15 rfl ?_
      exact Rn.iret d_Md_bend_16 rfl rfl ⟨rfl, Act1.rf hN⟩
theorem m_Md_endWinter {M : wM} {g : Nat → Int} {o p : Nat} (hG : M.2.2 = RG) (hN : nwA M g) (hV : hok g) : EvI k_Md_endWinter [.ref 47] SH M (fun r M' => r = iI (whyF g 4 o p) ∧ Act1 M M' g (actG g 4 o p)) := by
  refine EvI.of 1 (by decide) (Nat.le_of_ble_eq_true rfl) rfl ?_
  have hw := hV.w
  have w1 : g 25 < 99 → whyF g 4 o p = 0 := fun q => by unfold whyF; rw [if_neg (by decide), if_neg (by decide), if_neg (by decide), if_neg (by decide), if_pos rfl, if_pos q]
  have w2 : ¬ g 25 < 99 → whyF g 4 o p = 6 := fun q => by unfold whyF; rw [if_neg (by decide), if_neg (by decide), if_neg (by decide), if_neg (by decide), if_pos rfl, if_neg q]
  refine Rn.aload_n d_Md_endWinter_0 rfl ?_
  refine Rn.getR d_Md_endWinter_1 f_Md_now g_651 z_Md (r_Md_now (by assumption)) ?_
  refine Rn.bipush (v := iI 25) d_Md_endWinter_4 (by decide +kernel) ?_
  refine In.ald d_Md_endWinter_6 z_Md_now rfl (by decide) (by decide) (hN 25 (by decide)) ?_
  refine Rn.bipush (v := iI 99) d_Md_endWinter_7 (by decide +kernel) ?_
  refine In.icmp_ne (tgt := 15) d_Md_endWinter_9 (by decide) ⟨by omega, by omega⟩ ⟨by omega, by omega⟩ (fun c9 => ?_) (fun c9 => ?_)
  · have w := w1 (by omega)
    have wa : ∀ k, actG g 4 o p k = up (packN g 6) 25 (g 25 + 1) k := fun k => by unfold actG; rw [if_pos w]; rfl
    rw [w]
    refine Rn.aload_n d_Md_endWinter_15 rfl ?_
    refine Rn.getR d_Md_endWinter_16 f_Md_now g_651 z_Md (r_Md_now (by assumption)) ?_
    refine Rn.bipush (v := iI 25) d_Md_endWinter_19 (by decide +kernel) ?_
    refine Rn.dup2 d_Md_endWinter_21 rfl rfl ?_
    refine In.ald d_Md_endWinter_22 z_Md_now rfl (by decide) (by decide) (hN 25 (by decide)) ?_
    refine Rn.iconst (v := iI 1) d_Md_endWinter_23 rfl ?_
    refine In.add d_Md_endWinter_24 ?_
    refine In.ast d_Md_endWinter_25 z_Md_now rfl (by decide) (by decide) ?_
    refine Rn.iconst (v := iI 0) d_Md_endWinter_26 rfl ?_
    refine Rn.istore_n (lv1 := [_, _]) d_Md_endWinter_27 (by decide) (w_pv rfl) rfl ?_
    have loop : ∀ (d b : Nat) (Mc : wM), b + d = 6 → Kp M Mc → nwA Mc (up (packN g b) 25 (g 25 + 1)) → Mc.1 47 = M.1 47 → Rn k_Md_endWinter none (0, 0) 28 [some (.ref 47), some (.int (iI b))] [] SH Mc (w_FI (0, 0) SH (fun r M' => r = iI 0 ∧ Act1 M M' g (actG g 4 o p))) := by
      intro d
      induction d with
      | zero =>
        intro b Mc h1 h2 h3 h4
        have : b = 6 := by omega
        subst this
        refine Rn.iload_n d_Md_endWinter_28 rfl ?_
        refine Rn.bipush (v := iI 6) d_Md_endWinter_29 (by decide +kernel) ?_
        refine In.icmp_ge (tgt := 51) d_Md_endWinter_31 (by decide) ⟨by omega, by omega⟩ ⟨by omega, by omega⟩ (fun c31 => ?_) (fun c31 => ?_)
        · refine Rn.iconst (v := iI 0) d_Md_endWinter_51 rfl ?_
          exact Rn.iret d_Md_endWinter_52 rfl rfl ⟨rfl, Act1.of h2 (h3.cg (fun k _ => wa k)) h4 (fun b hb => by rw [wa, up_ne _ _ _ _ (by omega), packN_if, if_neg (by omega)])⟩
        · omega
      | succ d ih =>
        intro b Mc h1 h2 h3 h4
        have hGc := h2.G hG
        refine Rn.iload_n d_Md_endWinter_28 rfl ?_
        refine Rn.bipush (v := iI 6) d_Md_endWinter_29 (by decide +kernel) ?_
        refine In.icmp_ge (tgt := 51) d_Md_endWinter_31 (by decide) ⟨by omega, by omega⟩ ⟨by omega, by omega⟩ (fun c31 => ?_) (fun c31 => ?_)
        · omega
        · refine Rn.aload_n d_Md_endWinter_34 rfl ?_
          refine Rn.getR d_Md_endWinter_35 f_Md_now g_651 z_Md (r_Md_now (by assumption)) ?_
          refine Rn.bipush (v := iI 12) d_Md_endWinter_38 (by decide +kernel) ?_
          refine Rn.iload_n d_Md_endWinter_40 rfl ?_
          refine In.add d_Md_endWinter_41 ?_
          refine Rn.bipush (v := iI (-6)) d_Md_endWinter_42 (by decide +kernel) ?_
          refine In.ast d_Md_endWinter_44 z_Md_now (show ((12 : Int) + b) = ((12 + b : Nat) : Int) by omega) (by omega) (by decide) ?_
          refine In.inc (lv1 := [_, _]) d_Md_endWinter_45 rfl (by decide) (w_pv rfl) rfl ?_
          refine Rn.goto (tgt := 28) d_Md_endWinter_48 (by decide) ?_
          refine ih (b + 1) _ (by omega) (h2.tr (Kp.ui (by omega))) (h3.up.cg (fun k _ => ?_)) (by rw [w_ui_off _ _ _ _ _ (by decide)]; exact h4)
          simp only [packN, up]
          by_cases e : k = 25
          · subst e; rw [if_pos rfl, if_neg (by omega), if_pos rfl]
          · rw [if_neg e, if_neg e]
    refine loop 6 0 _ rfl (Kp.ui (by omega)) (hN.up.cg (fun k _ => rfl)) (by rw [w_ui_off _ _ _ _ _ (by decide)])
  · have w := w2 (by omega)
    have wa : actG g 4 o p = g := by unfold actG; rw [if_neg (by omega)]
    rw [w, wa]
    refine Rn.bipush (v := iI 6) d_Md_endWinter_12 (by decide +kernel) ?_
    exact Rn.iret d_Md_endWinter_14 rfl rfl ⟨rfl, Act1.rf hN⟩
