/-! The law, from its first instruction. -/
set_option maxRecDepth 20000
set_option maxHeartbeats 400000
theorem law_loop {L b0 : Nat} {xs : Nat → Int32} {Q : Option Value → wSh → wM → Nat × Nat → Prop} (hL : L ≤ 448) (hQ : ∀ M, Q (some (.int (iI 1))) SH M (58, 2282)) : ∀ (d k : Nat) (M : wM), L < k + d → k ≤ 455 → INV M → Rn k_Law_law (some (L, xs, b0)) (58, 2282) 18 [some (.ref w_scr), some (.ref 0), some (.ref 47), some (.int (iI k))] [] SH M Q := by
  intro d
  induction d with
  | zero =>
    intro k M h1 h2 h3
    refine Rn.iload_n d_Law_law_18 rfl ?_
    refine Rn.aload_n d_Law_law_19 rfl ?_
    refine In.slen rfl d_Law_law_20 ?_
    refine Rn.bipush (v := iI 7) d_Law_law_21 (by decide +kernel) ?_
    refine In.sub d_Law_law_23 ?_
    refine In.icmp_gt (tgt := 852) d_Law_law_24 (by decide) ⟨by omega, by omega⟩ ⟨by omega, by omega⟩ (fun c24 => ?_) (fun c24 => ?_)
    · refine Rn.iconst (v := iI 1) d_Law_law_852 rfl ?_
      exact Rn.ret (v := some (.int (iI 1))) ⟨d_Law_law_853, _, rfl, by decide +kernel⟩ rfl (hQ _)
    · omega
  | succ d ih =>
    intro k M h1 h2 h3
    refine Rn.iload_n d_Law_law_18 rfl ?_
    refine Rn.aload_n d_Law_law_19 rfl ?_
    refine In.slen rfl d_Law_law_20 ?_
    refine Rn.bipush (v := iI 7) d_Law_law_21 (by decide +kernel) ?_
    refine In.sub d_Law_law_23 ?_
    refine In.icmp_gt (tgt := 852) d_Law_law_24 (by decide) ⟨by omega, by omega⟩ ⟨by omega, by omega⟩ (fun c24 => ?_) (fun c24 => ?_)
    · refine Rn.iconst (v := iI 1) d_Law_law_852 rfl ?_
      exact Rn.ret (v := some (.int (iI 1))) ⟨d_Law_law_853, _, rfl, by decide +kernel⟩ rfl (hQ _)
    · have hk : k + 7 ≤ L := by omega
      have cont : ∀ M', INV M' → Rn k_Law_law (some (L, xs, b0)) (58, 2282) 846 [some (.ref w_scr), some (.ref 0), some (.ref 47), some (.int (iI k))] [] SH M' Q := by
        intro M' hI
        refine In.inc (lv1 := [_, _, _, _]) d_Law_law_846 rfl (by decide) (w_pv rfl) rfl ?_
        refine Rn.goto (tgt := 18) d_Law_law_849 (by decide) ?_
        exact ih (k + 7) M' (by omega) (by omega) hI
      refine Rn.aload_n d_Law_law_27 rfl ?_
      refine Rn.iload_n d_Law_law_28 rfl ?_
      refine In.sld rfl d_Law_law_29 rfl (by omega) (by omega) ?_
      refine Rn.bipush (v := iI 31) d_Law_law_30 (by decide +kernel) ?_
      refine Rn.iand d_Law_law_32 ?_
      rw [← iI_of (xs k)]
      obtain ⟨z, hz, hz2⟩ := and31 (xs k)
      rw [hz]
      rcases (show z = 0 ∨ z = 1 ∨ z = 2 ∨ z = 3 ∨ z = 4 ∨ z = 5 ∨ z = 6 ∨ z = 7 ∨ z = 8 ∨ z = 9 ∨ z = 10 ∨ z = 11 ∨ z = 12 ∨ z = 13 ∨ z = 14 ∨ z = 15 ∨ z = 16 ∨ z = 17 ∨ z = 18 ∨ z = 19 ∨ z = 20 ∨ z = 21 ∨ z = 22 ∨ z = 23 ∨ z = 24 ∨ 25 ≤ z by omega) with e | e | e | e | e | e | e | e | e | e | e | e | e | e | e | e | e | e | e | e | e | e | e | e | e | e
      · subst e
        refine In.tabIn (off := 115) (tgt := 148) 0 d_Law_law_33 rfl (by decide) (by decide) rfl (by decide) ?_
        exact law_0 hL hk h3 cont
      · subst e
        refine In.tabIn (off := 148) (tgt := 181) 1 d_Law_law_33 rfl (by decide) (by decide) rfl (by decide) ?_
        exact law_1 hL hk h3 cont
      · subst e
        refine In.tabIn (off := 191) (tgt := 224) 2 d_Law_law_33 rfl (by decide) (by decide) rfl (by decide) ?_
        exact law_2 hL hk h3 cont
      · subst e
        refine In.tabIn (off := 214) (tgt := 247) 3 d_Law_law_33 rfl (by decide) (by decide) rfl (by decide) ?_
        exact law_3 hL hk h3 cont
      · subst e
        refine In.tabIn (off := 227) (tgt := 260) 4 d_Law_law_33 rfl (by decide) (by decide) rfl (by decide) ?_
        exact law_4 hL hk h3 cont
      · subst e
        refine In.tabIn (off := 240) (tgt := 273) 5 d_Law_law_33 rfl (by decide) (by decide) rfl (by decide) ?_
        exact law_5 hL hk h3 cont
      · subst e
        refine In.tabIn (off := 263) (tgt := 296) 6 d_Law_law_33 rfl (by decide) (by decide) rfl (by decide) ?_
        exact law_6 hL hk h3 cont
      · subst e
        refine In.tabIn (off := 276) (tgt := 309) 7 d_Law_law_33 rfl (by decide) (by decide) rfl (by decide) ?_
        exact law_7 hL hk h3 cont
      · subst e
        refine In.tabIn (off := 309) (tgt := 342) 8 d_Law_law_33 rfl (by decide) (by decide) rfl (by decide) ?_
        exact law_8 hL hk h3 cont
      · subst e
        refine In.tabIn (off := 332) (tgt := 365) 9 d_Law_law_33 rfl (by decide) (by decide) rfl (by decide) ?_
        exact law_9 hL hk h3 cont
      · subst e
        refine In.tabIn (off := 365) (tgt := 398) 10 d_Law_law_33 rfl (by decide) (by decide) rfl (by decide) ?_
        exact law_10 hL hk h3 cont
      · subst e
        refine In.tabIn (off := 398) (tgt := 431) 11 d_Law_law_33 rfl (by decide) (by decide) rfl (by decide) ?_
        exact law_11 hL hk h3 cont
      · subst e
        refine In.tabIn (off := 421) (tgt := 454) 12 d_Law_law_33 rfl (by decide) (by decide) rfl (by decide) ?_
        exact law_12 hL hk h3 cont
      · subst e
        refine In.tabIn (off := 444) (tgt := 477) 13 d_Law_law_33 rfl (by decide) (by decide) rfl (by decide) ?_
        exact law_13 hL hk h3 cont
      · subst e
        refine In.tabIn (off := 477) (tgt := 510) 14 d_Law_law_33 rfl (by decide) (by decide) rfl (by decide) ?_
        exact law_14 hL hk h3 cont
      · subst e
        refine In.tabIn (off := 510) (tgt := 543) 15 d_Law_law_33 rfl (by decide) (by decide) rfl (by decide) ?_
        exact law_15 hL hk h3 cont
      · subst e
        refine In.tabIn (off := 543) (tgt := 576) 16 d_Law_law_33 rfl (by decide) (by decide) rfl (by decide) ?_
        exact law_16 hL hk h3 cont
      · subst e
        refine In.tabIn (off := 556) (tgt := 589) 17 d_Law_law_33 rfl (by decide) (by decide) rfl (by decide) ?_
        exact law_17 hL hk h3 cont
      · subst e
        refine In.tabIn (off := 579) (tgt := 612) 18 d_Law_law_33 rfl (by decide) (by decide) rfl (by decide) ?_
        exact law_18 hL hk h3 cont
      · subst e
        refine In.tabIn (off := 602) (tgt := 635) 19 d_Law_law_33 rfl (by decide) (by decide) rfl (by decide) ?_
        exact law_19 hL hk h3 cont
      · subst e
        refine In.tabIn (off := 625) (tgt := 658) 20 d_Law_law_33 rfl (by decide) (by decide) rfl (by decide) ?_
        exact law_20 hL hk h3 cont
      · subst e
        refine In.tabIn (off := 701) (tgt := 734) 21 d_Law_law_33 rfl (by decide) (by decide) rfl (by decide) ?_
        exact law_21 hL hk h3 cont
      · subst e
        refine In.tabIn (off := 744) (tgt := 777) 22 d_Law_law_33 rfl (by decide) (by decide) rfl (by decide) ?_
        exact law_22 hL hk h3 cont
      · subst e
        refine In.tabIn (off := 767) (tgt := 800) 23 d_Law_law_33 rfl (by decide) (by decide) rfl (by decide) ?_
        exact law_23 hL hk h3 cont
      · subst e
        refine In.tabIn (off := 790) (tgt := 823) 24 d_Law_law_33 rfl (by decide) (by decide) rfl (by decide) ?_
        exact law_24 hL hk h3 cont
      · refine In.tabOut (tgt := 846) d_Law_law_33 ⟨by omega, by omega⟩ (by omega) (by decide) ?_
        exact cont M h3
def M00 : wM := (fun _ _ => 0, fun _ _ => 0, fun _ _ => none)
theorem RG_big {k : Nat} (h : 58 ≤ k) : RG k = fun _ => none := by
  funext i
  show (RGl.getD k []).getD i none = none
  have e : RGl.length = 58 := rfl
  rw [List.getD_eq_getElem?_getD (l := RGl), List.getElem?_eq_none (by omega)]
  rfl
theorem law_body {L b0 : Nat} {xs : Nat → Int32} {Q : Option Value → wSh → wM → Nat × Nat → Prop} (hL : L ≤ 448) (hQ : ∀ M, Q (some (.int (iI 1))) SH M (58, 2282)) : Rn k_Law_law (some (L, xs, b0)) (0, 0) 0 [some (.ref w_scr), none, none, none] [] (SH.take 0) M00 Q := by
  refine Rn.mk d_Law_law_0 mk_BH g_16 ⟨by decide, by decide⟩ z_BH (by omega) ⟨by repeat first | exact wi0 | refine wir (by omega) ?_ | refine wii ?_, by repeat first | exact wL0 | refine wLs ?_ | refine wLr (by omega) ?_ | refine wLi ?_ | refine wLn ?_⟩ ?_
  refine Rn.dup d_Law_law_3 rfl ?_
  refine Rn.callI rfl d_Law_law_4 s_Law_law_BH_init g_18 g_19 rfl (m_BH_init (zr_at M00 0)) rfl rfl (Nat.le_of_ble_eq_true rfl) ⟨by decide, by decide⟩ (Or.inl (by rw [tk_len (by omega)]; exact ⟨by repeat first | exact wi0 | refine wir (by omega) ?_ | refine wii ?_, by repeat first | exact wL0 | refine wLs ?_ | refine wLr (by omega) ?_ | refine wLi ?_ | refine wLn ?_⟩)) (fun vv ss M1 qq _ => ?_)
  obtain ⟨rfl, rfl, ⟨m1, hC⟩⟩ := qq
  refine Rn.astore_n (lv1 := [_, _, _, _]) d_Law_law_7 (by decide) (w_pv rfl) rfl ?_
  refine Rn.mk d_Law_law_8 mk_Md g_644 ⟨by decide, by decide⟩ z_Md (by omega) ⟨by repeat first | exact wi0 | refine wir (by omega) ?_ | refine wii ?_, by repeat first | exact wL0 | refine wLs ?_ | refine wLr (by omega) ?_ | refine wLi ?_ | refine wLn ?_⟩ ?_
  refine Rn.dup d_Law_law_11 rfl ?_
  refine Rn.callI rfl d_Law_law_12 s_Law_law_Md_init g_646 g_647 rfl (m_Md_init (zr_at M1 47) (by rw [zi, if_pos rfl])) rfl rfl (Nat.le_of_ble_eq_true rfl) ⟨by decide, by decide⟩ (Or.inl (by rw [tk_len (by omega)]; exact ⟨by repeat first | exact wi0 | refine wir (by omega) ?_ | refine wii ?_, by repeat first | exact wL0 | refine wLs ?_ | refine wLr (by omega) ?_ | refine wLi ?_ | refine wLn ?_⟩)) (fun vv ss M2 qq _ => ?_)
  obtain ⟨rfl, rfl, ⟨m2, hD⟩⟩ := qq
  refine Rn.astore_n (lv1 := [_, _, _, _]) d_Law_law_15 (by decide) (w_pv rfl) rfl ?_
  refine Rn.iconst (v := iI 0) d_Law_law_16 rfl ?_
  refine Rn.istore_n (lv1 := [_, _, _, _]) d_Law_law_17 (by decide) (w_pv rfl) rfl ?_
  have hG : M2.2.2 = RG := by
    funext k
    by_cases h1 : k < 47
    · rw [(m2.1 k (by omega)).2, zr, if_neg (by omega)]; exact m1.2 k (Nat.zero_le _) h1
    · by_cases h2 : k < 58
      · exact m2.2 k (by omega) h2
      · rw [(m2.1 k (by omega)).2, zr, if_neg (by omega), (m1.1 k (by omega)).2, zr, if_neg (by omega), RG_big (by omega)]; rfl
  have hC2 : clsAt M2 be0 0 (fun _ => 0) 0 (fun _ => 0) im0 im0 := clsAt.off (M := M1) (M' := (M2.1, M1.2)) (lo := 47) (hi := 58) hC ⟨fun k hk => by show M2.1 k = M1.1 k; rw [(m2.1 k (by omega)).1, zi, if_neg (by omega)], rfl⟩ (by omega)
  exact law_loop hL hQ 449 0 M2 (by omega) (by omega) ⟨hG, _, _, _, _, _, _, _, hC2, hD, ok_0⟩
