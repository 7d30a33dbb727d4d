/-! The reference's winters. -/
set_option maxRecDepth 20000
set_option maxHeartbeats 400000
def pdA (M : wM) (n : Nat) (σ : Nat → Int) : Prop := (∀ i, i < 60 → M.1 51 i = iI (σ i)) ∧ M.1 47 4 = iI n
theorem pdA.kp {M M' : wM} {n : Nat} {σ : Nat → Int} (h : pdA M n σ) (ho : Kp M M') : pdA M' n σ := ⟨fun i hi => by rw [ho.1 51 (by omega)]; exact h.1 i hi, by rw [ho.2.2.2]; exact h.2⟩
theorem m_Md_faultOf {M : wM} {n : Nat} {σ : Nat → Int} (hG : M.2.2 = RG) (hP : pdA M n σ) (hp : pok n σ) : EvI k_Md_faultOf [.ref 47] SH M (fun r M' => r = iI (fltS σ n) ∧ M' = M) := by
  refine EvI.of 2 (by decide) (Nat.le_of_ble_eq_true rfl) rfl ?_
  refine Rn.iconst (v := iI 0) d_Md_faultOf_0 rfl ?_
  refine Rn.istore_n (lv1 := [_, _, _]) d_Md_faultOf_1 (by decide) (w_pv rfl) rfl ?_
  refine Rn.iconst (v := iI 0) d_Md_faultOf_2 rfl ?_
  refine Rn.istore_n (lv1 := [_, _, _]) d_Md_faultOf_3 (by decide) (w_pv rfl) rfl ?_
  obtain ⟨V, hVV⟩ : ∃ V, V = fltS σ n := ⟨_, rfl⟩
  rw [← hVV]
  have hn := hp.1
  have loop : ∀ (d k : Nat) (s : Int), k + d = n → 0 ≤ s ∧ s ≤ 4 → fltF σ n d k s = V → Rn k_Md_faultOf none (0, 0) 4 [some (.ref 47), some (.int (iI s)), some (.int (iI k))] [] SH M (w_FI (0, 0) SH (fun r M' => r = iI V ∧ M' = M)) := by
    intro d
    induction d with
    | zero =>
      intro k s h1 h2 h3
      have e1 : s = 0 → fltF σ n 0 k s = -6 := fun q => by simp only [fltF]; rw [if_pos q]
      have e2 : ¬ s = 0 → fltF σ n 0 k s = n := fun q => by simp only [fltF]; rw [if_neg q]
      refine Rn.iload_n d_Md_faultOf_4 rfl ?_
      refine Rn.aload_n d_Md_faultOf_5 rfl ?_
      refine In.getI d_Md_faultOf_6 f_Md_signs g_654 z_Md hP.2 ?_
      refine In.icmp_ge (tgt := 35) d_Md_faultOf_9 (by decide) ⟨by omega, by omega⟩ ⟨by omega, by omega⟩ (fun c9 => ?_) (fun c9 => ?_)
      · refine Rn.iload_n d_Md_faultOf_35 rfl ?_
        refine In.if_ne (tgt := 44) d_Md_faultOf_36 (by decide) ⟨by omega, by omega⟩ (fun c36 => ?_) (fun c36 => ?_)
        · rw [e2 (by omega)] at h3
          refine Rn.aload_n d_Md_faultOf_44 rfl ?_
          refine In.getI d_Md_faultOf_45 f_Md_signs g_654 z_Md hP.2 ?_
          exact Rn.iret d_Md_faultOf_48 rfl rfl ⟨by rw [← h3], rfl⟩
        · rw [e1 (by omega)] at h3
          refine Rn.bipush (v := iI (-6)) d_Md_faultOf_39 (by decide +kernel) ?_
          refine Rn.goto (tgt := 48) d_Md_faultOf_41 (by decide) ?_
          exact Rn.iret d_Md_faultOf_48 rfl rfl ⟨by rw [← h3], rfl⟩
      · omega
    | succ d ih =>
      intro k s h1 h2 h3
      have hs := stpF_rg s (σ k)
      have hpk := hp.2 k (by omega)
      have e1 : stpF s (σ k) < 0 → fltF σ n (d + 1) k s = k := fun q => by simp only [fltF]; rw [if_pos q]
      have e2 : ¬ stpF s (σ k) < 0 → fltF σ n (d + 1) k s = fltF σ n d (k + 1) (stpF s (σ k)) := fun q => by simp only [fltF]; rw [if_neg q]
      refine Rn.iload_n d_Md_faultOf_4 rfl ?_
      refine Rn.aload_n d_Md_faultOf_5 rfl ?_
      refine In.getI d_Md_faultOf_6 f_Md_signs g_654 z_Md hP.2 ?_
      refine In.icmp_ge (tgt := 35) d_Md_faultOf_9 (by decide) ⟨by omega, by omega⟩ ⟨by omega, by omega⟩ (fun c9 => ?_) (fun c9 => ?_)
      · omega
      · refine Rn.iload_n d_Md_faultOf_12 rfl ?_
        refine Rn.aload_n d_Md_faultOf_13 rfl ?_
        refine Rn.getR d_Md_faultOf_14 f_Md_pad g_655 z_Md (r_Md_pad (by assumption)) ?_
        refine Rn.iload_n d_Md_faultOf_17 rfl ?_
        refine In.ald d_Md_faultOf_18 z_Md_pad rfl (by omega) (by decide) (hP.1 k (by omega)) ?_
        refine Rn.cSI d_Md_faultOf_19 s_Md_faultOf_Md_step g_739 g_740 ⟨rfl, rfl⟩ ⟨Nat.zero_le _, Nat.zero_le _⟩ (m_Md_step h2 (show -1000 ≤ σ k ∧ σ k ≤ 1000 by omega)) rfl rfl (Nat.le_of_ble_eq_true rfl) (fun rr MM qq => ?_)
        obtain ⟨rfl, rfl⟩ := And.imp id Eq.symm qq; clear qq
        refine Rn.istore_n (lv1 := [_, _, _]) d_Md_faultOf_22 (by decide) (w_pv rfl) rfl ?_
        refine Rn.iload_n d_Md_faultOf_23 rfl ?_
        refine In.if_ge (tgt := 29) d_Md_faultOf_24 (by decide) ⟨by omega, by omega⟩ (fun c24 => ?_) (fun c24 => ?_)
        · rw [e2 (by omega)] at h3
          refine In.inc (lv1 := [_, _, _]) d_Md_faultOf_29 rfl (by decide) (w_pv rfl) rfl ?_
          refine Rn.goto (tgt := 4) d_Md_faultOf_32 (by decide) ?_
          exact ih (k + 1) _ (by omega) (by omega) h3
        · rw [e1 (by omega)] at h3
          refine Rn.iload_n d_Md_faultOf_27 rfl ?_
          exact Rn.iret d_Md_faultOf_28 rfl rfl ⟨by rw [← h3], rfl⟩
  exact loop n 0 0 (by omega) (by decide) hVV.symm
def wntR (M M' : wM) (β : Nat → Int) (T : wT) : Prop := Kp M M' ∧ nwA M' T.2.1 ∧ M'.1 47 11 = iI T.2.2.1 ∧ (T.1 ≠ 0 → M'.1 47 10 = iI T.1) ∧ M'.1 47 7 = iI T.2.2.2.1 ∧ M'.1 47 8 = iI T.2.2.2.2 ∧ M'.1 47 6 = iI (chipS T.2.1 6 - chipS β 6)
theorem no_bits : ∀ f, f < 64 → (∀ j, j < 6 → f.testBit j = false) → f = 0 := by decide +kernel
theorem some_bit {f j : Nat} (h : f.testBit j = true) : f ≠ 0 := fun e => by subst e; simp at h
theorem m_Md_goWinters {M : wM} {β : Nat → Int} {n : Nat} {σ : Nat → Int} (hG : M.2.2 = RG) (hB : bkA M β) (hV : hok β) (hP : pdA M n σ) (hp : pok n σ) (hf : fltS σ n = -6) : EvI k_Md_goWinters [.ref 47] SH M (fun r M' => r = iI (if (tellS σ n β).1 = 0 then -6 else ((tellS σ n β).2.2.1 : Int)) ∧ wntR M M' β (tellS σ n β)) := by
  refine EvI.of 5 (by decide) (Nat.le_of_ble_eq_true rfl) rfl ?_
  obtain ⟨T, hT⟩ : ∃ T, T = tellS σ n β := ⟨_, rfl⟩
  rw [← hT]
  have hn := hp.1
  refine Rn.aload_n d_Md_goWinters_0 rfl ?_
  refine Rn.cVV d_Md_goWinters_1 s_Md_goWinters_Md_asNow g_715 g_717 gs_10 ⟨rfl, rfl⟩ ⟨Nat.zero_le _, Nat.zero_le _⟩ (m_Md_asNow hG hB) rfl rfl z_Md c_Md (Nat.le_of_ble_eq_true rfl) (fun M0 qq => ?_)
  obtain ⟨k0, n0, a6, a7, a8⟩ := qq
  have hG0 := k0.G hG
  refine Rn.aload_n d_Md_goWinters_4 rfl ?_
  refine Rn.iconst (v := iI 0) d_Md_goWinters_5 rfl ?_
  refine In.putI d_Md_goWinters_6 f_Md_acts g_661 z_Md ?_
  refine Rn.iconst (v := iI 0) d_Md_goWinters_9 rfl ?_
  refine Rn.istore_n (lv1 := [_, _, _, _, _, _]) d_Md_goWinters_10 (by decide) (w_pv rfl) rfl ?_
  have loop : ∀ (m pl ac : Nat) (bA bB : Int) (g : Nat → Int) (Mc : wM) (x2 x3 x4 x5 : Option Value), ac + m = 60 → ac ≤ pl → okAt σ n pl → hok g → Kp M Mc → nwA Mc g → Mc.1 47 11 = iI ac → Mc.1 47 7 = iI bA → Mc.1 47 8 = iI bB → Mc.1 47 6 = iI (chipS g 6 - chipS β 6) → (bA = -6 ∨ (0 ≤ bA ∧ bA ≤ 100)) → tellF σ n m g pl ac bA bB = T → Rn k_Md_goWinters none (0, 0) 11 [some (.ref 47), some (.int (iI pl)), x2, x3, x4, x5] [] SH Mc (w_FI (0, 0) SH (fun r M' => r = iI (if T.1 = 0 then -6 else (T.2.2.1 : Int)) ∧ wntR M M' β T)) := by
    intro m
    induction m with
    | zero =>
      intro pl ac bA bB g Mc x2 x3 x4 x5 h1 h2 h3 h4 h5 h6 h7 h8 h9 h10 h11 h12
      have hPc := hP.kp h5
      have hpl := h3.1
      have e : tellF σ n 0 g pl ac bA bB = (0, g, ac, bA, bB) := rfl
      rw [e] at h12
      refine Rn.iload_n d_Md_goWinters_11 rfl ?_
      refine Rn.aload_n d_Md_goWinters_12 rfl ?_
      refine In.getI d_Md_goWinters_13 f_Md_signs g_654 z_Md hPc.2 ?_
      refine In.icmp_ge (tgt := 247) d_Md_goWinters_16 (by decide) ⟨by omega, by omega⟩ ⟨by omega, by omega⟩ (fun c16 => ?_) (fun c16 => ?_)
      · refine Rn.bipush (v := iI (-6)) d_Md_goWinters_247 (by decide +kernel) ?_
        subst h12
        exact Rn.iret d_Md_goWinters_249 rfl rfl ⟨rfl, h5, h6, h7, fun q => absurd rfl q, h8, h9, h10⟩
      · omega
    | succ m ih =>
      intro pl ac bA bB g Mc x2 x3 x4 x5 h1 h2 h3 h4 h5 h6 h7 h8 h9 h10 h11 h12
      have hPc := hP.kp h5
      have hGc := h5.G hG
      have hpl := h3.1
      refine Rn.iload_n d_Md_goWinters_11 rfl ?_
      refine Rn.aload_n d_Md_goWinters_12 rfl ?_
      refine In.getI d_Md_goWinters_13 f_Md_signs g_654 z_Md hPc.2 ?_
      refine In.icmp_ge (tgt := 247) d_Md_goWinters_16 (by decide) ⟨by omega, by omega⟩ ⟨by omega, by omega⟩ (fun c16 => ?_) (fun c16 => ?_)
      · rw [tellF, if_pos (by omega)] at h12
        refine Rn.bipush (v := iI (-6)) d_Md_goWinters_247 (by decide +kernel) ?_
        subst h12
        exact Rn.iret d_Md_goWinters_249 rfl rfl ⟨rfl, h5, h6, h7, fun q => absurd rfl q, h8, h9, h10⟩
      · obtain ⟨hak, hok2, hL⟩ := rd_ok h3 (show pl < n by omega)
        have hcs := ok_cases h3 (show pl < n by omega)
        have hspl := hp.2 pl (by omega)
        rw [tellF, if_neg (by omega)] at h12
        have hbk := hok_bk h4
        have fin : ∀ (K O P L : Nat) (s : Int) (Mx : wM) (y4 y5 : Option Value), rdK σ pl = K → rdO σ pl = O → rdP σ pl = P → rdL σ pl = L → Act1 Mc Mx g (actG g K O P) → Rn k_Md_goWinters none (0, 0) 162 [some (.ref 47), some (.int (iI ((pl : Int) + L))), some (.int (iI s)), some (.int (iI (bk g))), y4, y5] [] SH (w_ui Mx 47 10 (iI (whyF g K O P))) (w_FI (0, 0) SH (fun r M' => r = iI (if T.1 = 0 then -6 else (T.2.2.1 : Int)) ∧ wntR M M' β T)) := by
          intro K O P L s Mx y4 y5 r1 r2 r3 r4 hA
          subst r1; subst r2; subst r3; subst r4
          obtain ⟨q1, q2, q3, q4⟩ := hA
          have hK3 : Kp M (w_ui Mx 47 10 (iI (whyF g (rdK σ pl) (rdO σ pl) (rdP σ pl)))) := (h5.tr q1).tr (Kp.fl (by omega))
          have hN3 : nwA (w_ui Mx 47 10 (iI (whyF g (rdK σ pl) (rdO σ pl) (rdP σ pl)))) (actG g (rdK σ pl) (rdO σ pl) (rdP σ pl)) := q2.ui (by decide)
          have f10 : (w_ui Mx 47 10 (iI (whyF g (rdK σ pl) (rdO σ pl) (rdP σ pl)))).1 47 10 = iI (whyF g (rdK σ pl) (rdO σ pl) (rdP σ pl)) := w_ui_at _ _ _ _
          have f11 : (w_ui Mx 47 10 (iI (whyF g (rdK σ pl) (rdO σ pl) (rdP σ pl)))).1 47 11 = iI ac := by rw [w_ui_if, if_neg (by omega), q3 _ (by decide)]; exact h7
          have f7 : (w_ui Mx 47 10 (iI (whyF g (rdK σ pl) (rdO σ pl) (rdP σ pl)))).1 47 7 = iI bA := by rw [w_ui_if, if_neg (by omega), q3 _ (by decide)]; exact h8
          have f8 : (w_ui Mx 47 10 (iI (whyF g (rdK σ pl) (rdO σ pl) (rdP σ pl)))).1 47 8 = iI bB := by rw [w_ui_if, if_neg (by omega), q3 _ (by decide)]; exact h9
          have f6 : (w_ui Mx 47 10 (iI (whyF g (rdK σ pl) (rdO σ pl) (rdP σ pl)))).1 47 6 = iI (chipS (actG g (rdK σ pl) (rdO σ pl) (rdP σ pl)) 6 - chipS β 6) := by
            rw [w_ui_if, if_neg (by omega), q4 _ h10]; congr 1; omega
          generalize w_ui Mx 47 10 (iI (whyF g (rdK σ pl) (rdO σ pl) (rdP σ pl))) = M3 at hK3 hN3 f10 f11 f7 f8 f6 ⊢
          have hG3 := hK3.G hG
          have hwr := whyF_rg g (rdK σ pl) (rdO σ pl) (rdP σ pl)
          refine Rn.aload_n d_Md_goWinters_162 rfl ?_
          refine In.getI d_Md_goWinters_163 f_Md_reason g_660 z_Md f10 ?_
          refine In.if_le (tgt := 174) d_Md_goWinters_166 (by decide) ⟨by omega, by omega⟩ (fun c166 => ?_) (fun c166 => ?_)
          · have hw0 : whyF g (rdK σ pl) (rdO σ pl) (rdP σ pl) = 0 := by omega
            have ea : actG g (rdK σ pl) (rdO σ pl) (rdP σ pl) = folF g (rdK σ pl) (rdO σ pl) (rdP σ pl) := by unfold actG; rw [if_pos hw0]
            have hok3 := folF_ok h4 hak hw0
            rw [if_neg (by omega)] at h12
            rw [ea] at hN3 f6
            generalize folF g (rdK σ pl) (rdO σ pl) (rdP σ pl) = g1 at hN3 f6 hok3 h12
            have hbk1 := hok_bk hok3
            refine Rn.aload_n d_Md_goWinters_174 rfl ?_
            refine Rn.getR d_Md_goWinters_175 f_Md_now g_651 z_Md (r_Md_now (by assumption)) ?_
            refine Rn.bipush (v := iI 24) d_Md_goWinters_178 (by decide +kernel) ?_
            refine In.ald d_Md_goWinters_180 z_Md_now rfl (by decide) (by decide) ((hN3 24 (by decide)).trans (by rw [hbk1.1])) ?_
            refine Rn.iload_n d_Md_goWinters_181 rfl ?_
            refine Rn.iconst (v := iI (-1)) d_Md_goWinters_182 rfl ?_
            refine Rn.ixor d_Md_goWinters_183 ?_
            refine Rn.iand d_Md_goWinters_184 ?_
            rw [frs_ok _ hbk1.2 _ hbk.2]
            have hf64 := frs_lt (bk g1) (bk g)
            generalize frs (bk g1) (bk g) = f at hf64 h12 ⊢
            refine Rn.istore (lv1 := [_, _, _, _, _, _]) d_Md_goWinters_185 (by decide) (w_pv rfl) rfl ?_
            refine Rn.iconst (v := iI 0) d_Md_goWinters_187 rfl ?_
            refine Rn.istore (lv1 := [_, _, _, _, _, _]) d_Md_goWinters_188 (by decide) (w_pv rfl) rfl ?_
            have fin2 : ∀ (M4 : wM) (bA1 bB1 : Int) (z5 : Option Value), Kp M M4 → nwA M4 g1 → M4.1 47 11 = iI ac → M4.1 47 7 = iI bA1 → M4.1 47 8 = iI bB1 → M4.1 47 6 = iI (chipS g1 6 - chipS β 6) → bA1 = (if f = 0 ∨ bA ≠ -6 then bA else ac) → bB1 = (if f = 0 ∨ bA ≠ -6 then bB else nth (fun k => f.testBit k) 12 0 0 0) → Rn k_Md_goWinters none (0, 0) 234 [some (.ref 47), some (.int (iI ((pl : Int) + rdL σ pl))), some (.int (iI s)), some (.int (iI (bk g))), some (.int (iI f)), z5] [] SH M4 (w_FI (0, 0) SH (fun r M' => r = iI (if T.1 = 0 then -6 else (T.2.2.1 : Int)) ∧ wntR M M' β T)) := by
              intro M4 bA1 bB1 z5 g1 g2 g3 g4 g5 g6 g7 g8
              rw [← g7, ← g8] at h12
              refine Rn.aload_n d_Md_goWinters_234 rfl ?_
              refine Rn.dup d_Md_goWinters_235 rfl ?_
              refine In.getI d_Md_goWinters_236 f_Md_acts g_661 z_Md g3 ?_
              refine Rn.iconst (v := iI 1) d_Md_goWinters_239 rfl ?_
              refine In.add d_Md_goWinters_240 ?_
              refine In.putI d_Md_goWinters_241 f_Md_acts g_661 z_Md ?_
              refine Rn.goto (tgt := 11) d_Md_goWinters_244 (by decide) ?_
              refine ih (pl + rdL σ pl) (ac + 1) bA1 bB1 _ _ _ _ _ _ (by omega) (by omega) hok2 hok3 (g1.tr (Kp.fl (by omega))) (g2.ui (by decide)) (w_ui_at _ _ _ _) ?_ ?_ ?_ ?_ h12
              · rw [w_ui_if, if_neg (by omega)]; exact g4
              · rw [w_ui_if, if_neg (by omega)]; exact g5
              · rw [w_ui_if, if_neg (by omega)]; exact g6
              · rw [g7]; split <;> omega
            have stB : ∀ (M4 : wM) (bA1 bB1 : Int) (b : Nat), b ≤ 6 → Kp M M4 → nwA M4 g1 → M4.1 47 11 = iI ac → M4.1 47 7 = iI bA1 → M4.1 47 8 = iI bB1 → M4.1 47 6 = iI (chipS g1 6 - chipS β 6) → bA1 = (if f = 0 ∨ bA ≠ -6 then bA else ac) → bB1 = (if f = 0 ∨ bA ≠ -6 then bB else nth (fun k => f.testBit k) 12 0 0 0) → 0 ≤ bA1 ∧ bA1 ≤ 100 → Rn k_Md_goWinters none (0, 0) 190 [some (.ref 47), some (.int (iI ((pl : Int) + rdL σ pl))), some (.int (iI s)), some (.int (iI (bk g))), some (.int (iI f)), some (.int (iI b))] [] SH M4 (w_FI (0, 0) SH (fun r M' => r = iI (if T.1 = 0 then -6 else (T.2.2.1 : Int)) ∧ wntR M M' β T)) := by
              intro M4 bA1 bB1 b g0 g1 g2 g3 g4 g5 g6 g7 g8 g9
              refine Rn.iload d_Md_goWinters_190 rfl ?_
              refine Rn.bipush (v := iI 6) d_Md_goWinters_192 (by decide +kernel) ?_
              refine In.icmp_ge (tgt := 234) d_Md_goWinters_194 (by decide) ⟨by omega, by omega⟩ ⟨by omega, by omega⟩ (fun c194 => ?_) (fun c194 => ?_)
              · exact fin2 M4 bA1 bB1 _ g1 g2 g3 g4 g5 g6 g7 g8
              · refine Rn.aload_n d_Md_goWinters_197 rfl ?_
                refine In.getI d_Md_goWinters_198 f_Md_brokenAt g_657 z_Md g4 ?_
                refine In.if_ge (tgt := 234) d_Md_goWinters_201 (by decide) ⟨by omega, by omega⟩ (fun c201 => ?_) (fun c201 => ?_)
                · exact fin2 M4 bA1 bB1 _ g1 g2 g3 g4 g5 g6 g7 g8
                · omega
            rcases h11 with hm6 | hm6
            · have stA : ∀ (e b : Nat), b + e = 6 → (∀ j, j < b → f.testBit j = false) → Rn k_Md_goWinters none (0, 0) 190 [some (.ref 47), some (.int (iI ((pl : Int) + rdL σ pl))), some (.int (iI s)), some (.int (iI (bk g))), some (.int (iI f)), some (.int (iI b))] [] SH M3 (w_FI (0, 0) SH (fun r M' => r = iI (if T.1 = 0 then -6 else (T.2.2.1 : Int)) ∧ wntR M M' β T)) := by
                intro e
                induction e with
                | zero =>
                  intro b k1 k2
                  have hf0 := no_bits f hf64 (fun j hj => k2 j (by omega))
                  refine Rn.iload d_Md_goWinters_190 rfl ?_
                  refine Rn.bipush (v := iI 6) d_Md_goWinters_192 (by decide +kernel) ?_
                  refine In.icmp_ge (tgt := 234) d_Md_goWinters_194 (by decide) ⟨by omega, by omega⟩ ⟨by omega, by omega⟩ (fun c194 => ?_) (fun c194 => ?_)
                  · exact fin2 M3 bA bB _ hK3 hN3 f11 f7 f8 f6 (by rw [if_pos (Or.inl hf0)]) (by rw [if_pos (Or.inl hf0)])
                  · omega
                | succ e ihe =>
                  intro b k1 k2
                  have ihe := ihe (b + 1)
                  refine Rn.iload d_Md_goWinters_190 rfl ?_
                  refine Rn.bipush (v := iI 6) d_Md_goWinters_192 (by decide +kernel) ?_
                  refine In.icmp_ge (tgt := 234) d_Md_goWinters_194 (by decide) ⟨by omega, by omega⟩ ⟨by omega, by omega⟩ (fun c194 => ?_) (fun c194 => ?_)
                  · omega
                  · refine Rn.aload_n d_Md_goWinters_197 rfl ?_
                    refine In.getI d_Md_goWinters_198 f_Md_brokenAt g_657 z_Md f7 ?_
                    refine In.if_ge (tgt := 234) d_Md_goWinters_201 (by decide) ⟨by omega, by omega⟩ (fun c201 => ?_) (fun c201 => ?_)
                    · omega
                    · refine Rn.iload d_Md_goWinters_204 rfl ?_
                      refine Rn.iload d_Md_goWinters_206 rfl ?_
                      refine Rn.cSI d_Md_goWinters_208 s_Md_goWinters_Md_has g_777 g_778 ⟨rfl, rfl⟩ ⟨Nat.zero_le _, Nat.zero_le _⟩ (m_Md_has (show f < 2147483648 by omega) (show b < 31 by omega)) rfl rfl (Nat.le_of_ble_eq_true rfl) (fun rr MM qq => ?_)
                      obtain ⟨rfl, rfl⟩ := And.imp id Eq.symm qq; clear qq
                      refine In.if_eq (tgt := 228) d_Md_goWinters_211 (by decide) fl_rg (fun c211 => ?_) (fun c211 => ?_)
                      · have k3 := fl_eq c211
                        refine In.inc (lv1 := [_, _, _, _, _, _]) d_Md_goWinters_228 rfl (by decide) (w_pv rfl) rfl ?_
                        refine Rn.goto (tgt := 190) d_Md_goWinters_231 (by decide) ?_
                        refine ihe (by omega) (fun j hj => ?_)
                        by_cases ej : j = b
                        · subst ej; exact Bool.eq_false_iff.mpr k3
                        · exact k2 j (by omega)
                      · have k3 := fl_ne c211
                        have hnf := some_bit k3
                        have hnth : nth (fun k => f.testBit k) 12 0 0 0 = b := nth_first 12 0 b (by omega) (by omega) k3 (fun k _ hk => k2 k hk)
                        refine Rn.aload_n d_Md_goWinters_214 rfl ?_
                        refine Rn.aload_n d_Md_goWinters_215 rfl ?_
                        refine In.getI d_Md_goWinters_216 f_Md_acts g_661 z_Md f11 ?_
                        refine In.putI d_Md_goWinters_219 f_Md_brokenAt g_657 z_Md ?_
                        refine Rn.aload_n d_Md_goWinters_222 rfl ?_
                        refine Rn.iload d_Md_goWinters_223 rfl ?_
                        refine In.putI d_Md_goWinters_225 f_Md_brokenWhich g_658 z_Md ?_
                        refine In.inc (lv1 := [_, _, _, _, _, _]) d_Md_goWinters_228 rfl (by decide) (w_pv rfl) rfl ?_
                        refine Rn.goto (tgt := 190) d_Md_goWinters_231 (by decide) ?_
                        refine stB _ ac b (b + 1) (by omega) ((hK3.tr (Kp.fl (by omega))).tr (Kp.fl (by omega))) ((hN3.ui (by decide)).ui (by decide)) ?_ ?_ (w_ui_at _ _ _ _) ?_ (by rw [if_neg (by omega)]) (by rw [if_neg (by omega), hnth]) (by omega)
                        · rw [w_ui_if, if_neg (by omega), w_ui_if, if_neg (by omega)]; exact f11
                        · rw [w_ui_if, if_neg (by omega), w_ui_if, if_pos ⟨rfl, rfl⟩]
                        · rw [w_ui_if, if_neg (by omega), w_ui_if, if_neg (by omega)]; exact f6
              exact stA 6 0 rfl (fun j hj => by omega)
            · exact stB M3 bA bB 0 (by omega) hK3 hN3 f11 f7 f8 f6 (by rw [if_pos (Or.inr (by omega))]) (by rw [if_pos (Or.inr (by omega))]) hm6
          · have hwn : whyF g (rdK σ pl) (rdO σ pl) (rdP σ pl) ≠ 0 := by omega
            have ea : actG g (rdK σ pl) (rdO σ pl) (rdP σ pl) = g := by unfold actG; rw [if_neg hwn]
            rw [if_pos hwn] at h12
            rw [ea] at hN3 f6
            subst h12
            refine Rn.aload_n d_Md_goWinters_169 rfl ?_
            refine In.getI d_Md_goWinters_170 f_Md_acts g_661 z_Md f11 ?_
            exact Rn.iret d_Md_goWinters_173 rfl rfl ⟨by rw [if_neg hwn], hK3, hN3, f11, fun _ => f10, f7, f8, f6⟩
        refine Rn.aload_n d_Md_goWinters_19 rfl ?_
        refine Rn.getR d_Md_goWinters_20 f_Md_pad g_655 z_Md (r_Md_pad (by assumption)) ?_
        refine Rn.iload_n d_Md_goWinters_23 rfl ?_
        refine In.ald d_Md_goWinters_24 z_Md_pad rfl (by omega) (by decide) (hPc.1 pl (by omega)) ?_
        refine Rn.istore_n (lv1 := [_, _, _, _, _, _]) d_Md_goWinters_25 (by decide) (w_pv rfl) rfl ?_
        refine Rn.aload_n d_Md_goWinters_26 rfl ?_
        refine Rn.getR d_Md_goWinters_27 f_Md_now g_651 z_Md (r_Md_now (by assumption)) ?_
        refine Rn.bipush (v := iI 24) d_Md_goWinters_30 (by decide +kernel) ?_
        refine In.ald d_Md_goWinters_32 z_Md_now rfl (by decide) (by decide) ((h6 24 (by decide)).trans (by rw [hbk.1])) ?_
        refine Rn.istore_n (lv1 := [_, _, _, _, _, _]) d_Md_goWinters_33 (by decide) (w_pv rfl) rfl ?_
        refine Rn.iload_n d_Md_goWinters_34 rfl ?_
        refine Rn.bipush (v := iI 46) d_Md_goWinters_35 (by decide +kernel) ?_
        rcases hcs with ⟨t1, t2, t3, t4, _⟩ | ⟨t1, t3, t4, t5, _⟩ | ⟨t1, t3, t4, t5, _⟩ | ⟨t1, _⟩
        · have eL : rdL σ pl = 2 := by unfold rdL; rw [if_pos ⟨t1, t2⟩]
          have eO : rdO σ pl = (σ pl - 65).toNat := by unfold rdO; rw [if_pos ⟨t1, t2⟩]
          have hsp1 := hp.2 (pl + 1) (by omega)
          obtain ⟨o, ho⟩ : ∃ o : Nat, σ pl - 65 = o := ⟨(σ pl - 65).toNat, by omega⟩
          rw [ho, Int.toNat_natCast] at eO
          refine In.icmp_ne (tgt := 54) d_Md_goWinters_37 (by decide) ⟨by omega, by omega⟩ ⟨by omega, by omega⟩ (fun c37 => ?_) (fun c37 => ?_)
          · refine Rn.iload_n d_Md_goWinters_54 rfl ?_
            refine Rn.bipush (v := iI 98) d_Md_goWinters_55 (by decide +kernel) ?_
            refine In.icmp_ne (tgt := 96) d_Md_goWinters_57 (by decide) ⟨by omega, by omega⟩ ⟨by omega, by omega⟩ (fun c57 => ?_) (fun c57 => ?_)
            · refine Rn.aload_n d_Md_goWinters_96 rfl ?_
              refine Rn.getR d_Md_goWinters_97 f_Md_pad g_655 z_Md (r_Md_pad (by assumption)) ?_
              refine Rn.iload_n d_Md_goWinters_100 rfl ?_
              refine Rn.iconst (v := iI 1) d_Md_goWinters_101 rfl ?_
              refine In.add d_Md_goWinters_102 ?_
              refine In.ald d_Md_goWinters_103 z_Md_pad (show ((pl : Int) + 1) = ((pl + 1 : Nat) : Int) by omega) (by omega) (by decide) (hPc.1 (pl + 1) (by omega)) ?_
              refine Rn.istore (lv1 := [_, _, _, _, _, _]) d_Md_goWinters_104 (by decide) (w_pv rfl) rfl ?_
              refine Rn.aload_n d_Md_goWinters_106 rfl ?_
              refine Rn.iload_n d_Md_goWinters_107 rfl ?_
              refine Rn.bipush (v := iI 100) d_Md_goWinters_108 (by decide +kernel) ?_
              refine In.icmp_ne (tgt := 125) d_Md_goWinters_110 (by decide) ⟨by omega, by omega⟩ ⟨by omega, by omega⟩ (fun c110 => ?_) (fun c110 => ?_)
              · refine Rn.iload d_Md_goWinters_125 rfl ?_
                refine Rn.bipush (v := iI 95) d_Md_goWinters_127 (by decide +kernel) ?_
                refine In.icmp_ne (tgt := 143) d_Md_goWinters_129 (by decide) ⟨by omega, by omega⟩ ⟨by omega, by omega⟩ (fun c129 => ?_) (fun c129 => ?_)
                · have eK : rdK σ pl = 0 := by unfold rdK; rw [if_pos ⟨t1, t2⟩, if_neg c129]
                  have eP : rdP σ pl = (σ (pl + 1) - 97).toNat := by unfold rdP; rw [if_pos ⟨t1, t2⟩, if_neg c129]
                  obtain ⟨q, hq⟩ : ∃ o : Nat, σ (pl + 1) - 97 = o := ⟨(σ (pl + 1) - 97).toNat, by omega⟩
                  rw [hq, Int.toNat_natCast] at eP
                  refine Rn.aload_n d_Md_goWinters_143 rfl ?_
                  refine Rn.iload_n d_Md_goWinters_144 rfl ?_
                  refine Rn.bipush (v := iI 65) d_Md_goWinters_145 (by decide +kernel) ?_
                  refine In.sub d_Md_goWinters_147 ?_
                  refine Rn.iload d_Md_goWinters_148 rfl ?_
                  refine Rn.bipush (v := iI 97) d_Md_goWinters_150 (by decide +kernel) ?_
                  refine In.sub d_Md_goWinters_152 ?_
                  rw [ho, hq]
                  refine Rn.cVI d_Md_goWinters_153 s_Md_goWinters_Md_hang g_780 g_782 gs_20 ⟨rfl, rfl⟩ ⟨Nat.zero_le _, Nat.zero_le _⟩ (m_Md_hang hGc h6 h4 (show o < 6 by omega) (show q < 12 by omega)) rfl rfl z_Md c_Md (Nat.le_of_ble_eq_true rfl) (fun rr Mx qq => ?_)
                  obtain ⟨rfl, hA⟩ := qq
                  refine In.putI d_Md_goWinters_156 f_Md_reason g_660 z_Md ?_
                  refine In.inc (lv1 := [_, _, _, _, _, _]) d_Md_goWinters_159 rfl (by decide) (w_pv rfl) rfl ?_
                  exact fin 0 o q 2 _ Mx _ _ eK eO eP eL hA
                · have eK : rdK σ pl = 1 := by unfold rdK; rw [if_pos ⟨t1, t2⟩, if_pos c129]
                  have eP : rdP σ pl = 0 := by unfold rdP; rw [if_pos ⟨t1, t2⟩, if_pos c129]
                  refine Rn.aload_n d_Md_goWinters_132 rfl ?_
                  refine Rn.iload_n d_Md_goWinters_133 rfl ?_
                  refine Rn.bipush (v := iI 65) d_Md_goWinters_134 (by decide +kernel) ?_
                  refine In.sub d_Md_goWinters_136 ?_
                  rw [ho]
                  refine Rn.cVI d_Md_goWinters_137 s_Md_goWinters_Md_pack g_773 g_775 gs_19 ⟨rfl, rfl⟩ ⟨Nat.zero_le _, Nat.zero_le _⟩ (m_Md_pack (p := 0) hGc h6 h4 (show o < 6 by omega)) rfl rfl z_Md c_Md (Nat.le_of_ble_eq_true rfl) (fun rr Mx qq => ?_)
                  obtain ⟨rfl, hA⟩ := qq
                  refine Rn.goto (tgt := 156) d_Md_goWinters_140 (by decide) ?_
                  refine In.putI d_Md_goWinters_156 f_Md_reason g_660 z_Md ?_
                  refine In.inc (lv1 := [_, _, _, _, _, _]) d_Md_goWinters_159 rfl (by decide) (w_pv rfl) rfl ?_
                  exact fin 1 o 0 2 _ Mx _ _ eK eO eP eL hA
              · omega
            · omega
          · omega
        · have nb : ¬ (65 ≤ σ pl ∧ σ pl ≤ 70) := by omega
          have eL : rdL σ pl = 2 := by unfold rdL; rw [if_neg nb, if_pos t1]
          have eO : rdO σ pl = (σ (pl + 1) - 48).toNat := by unfold rdO; rw [if_neg nb, if_pos t1]
          have eK : rdK σ pl = 2 := by unfold rdK; rw [if_neg nb, if_pos t1]
          have eP : rdP σ pl = 0 := by unfold rdP; rw [if_neg nb, if_neg (by omega)]
          obtain ⟨o, ho⟩ : ∃ o : Nat, σ (pl + 1) - 48 = o := ⟨(σ (pl + 1) - 48).toNat, by omega⟩
          rw [ho, Int.toNat_natCast] at eO
          refine In.icmp_ne (tgt := 54) d_Md_goWinters_37 (by decide) ⟨by omega, by omega⟩ ⟨by omega, by omega⟩ (fun c37 => ?_) (fun c37 => ?_)
          · refine Rn.iload_n d_Md_goWinters_54 rfl ?_
            refine Rn.bipush (v := iI 98) d_Md_goWinters_55 (by decide +kernel) ?_
            refine In.icmp_ne (tgt := 96) d_Md_goWinters_57 (by decide) ⟨by omega, by omega⟩ ⟨by omega, by omega⟩ (fun c57 => ?_) (fun c57 => ?_)
            · refine Rn.aload_n d_Md_goWinters_96 rfl ?_
              refine Rn.getR d_Md_goWinters_97 f_Md_pad g_655 z_Md (r_Md_pad (by assumption)) ?_
              refine Rn.iload_n d_Md_goWinters_100 rfl ?_
              refine Rn.iconst (v := iI 1) d_Md_goWinters_101 rfl ?_
              refine In.add d_Md_goWinters_102 ?_
              refine In.ald d_Md_goWinters_103 z_Md_pad (show ((pl : Int) + 1) = ((pl + 1 : Nat) : Int) by omega) (by omega) (by decide) (hPc.1 (pl + 1) (by omega)) ?_
              refine Rn.istore (lv1 := [_, _, _, _, _, _]) d_Md_goWinters_104 (by decide) (w_pv rfl) rfl ?_
              refine Rn.aload_n d_Md_goWinters_106 rfl ?_
              refine Rn.iload_n d_Md_goWinters_107 rfl ?_
              refine Rn.bipush (v := iI 100) d_Md_goWinters_108 (by decide +kernel) ?_
              refine In.icmp_ne (tgt := 125) d_Md_goWinters_110 (by decide) ⟨by omega, by omega⟩ ⟨by omega, by omega⟩ (fun c110 => ?_) (fun c110 => ?_)
              · omega
              · refine Rn.aload_n d_Md_goWinters_113 rfl ?_
                refine Rn.iload d_Md_goWinters_114 rfl ?_
                refine Rn.bipush (v := iI 48) d_Md_goWinters_116 (by decide +kernel) ?_
                refine In.sub d_Md_goWinters_118 ?_
                rw [ho]
                refine Rn.cVI d_Md_goWinters_119 s_Md_goWinters_Md_blow g_758 g_760 gs_16 ⟨rfl, rfl⟩ ⟨Nat.zero_le _, Nat.zero_le _⟩ (m_Md_blow (p := 0) hGc h6 h4 (show 1 ≤ o ∧ o ≤ 9 by omega)) rfl rfl z_Md c_Md (Nat.le_of_ble_eq_true rfl) (fun rr Mx qq => ?_)
                obtain ⟨rfl, hA⟩ := qq
                refine Rn.goto (tgt := 156) d_Md_goWinters_122 (by decide) ?_
                refine In.putI d_Md_goWinters_156 f_Md_reason g_660 z_Md ?_
                refine In.inc (lv1 := [_, _, _, _, _, _]) d_Md_goWinters_159 rfl (by decide) (w_pv rfl) rfl ?_
                exact fin 2 o 0 2 _ Mx _ _ eK eO eP eL hA
            · omega
          · omega
        · have nb : ¬ (65 ≤ σ pl ∧ σ pl ≤ 70) := by omega
          have nd : ¬ σ pl = 100 := by omega
          have eL : rdL σ pl = 3 := by unfold rdL; rw [if_neg nb, if_neg nd, if_pos t1]
          have eO : rdO σ pl = (σ (pl + 1) - 97).toNat := by unfold rdO; rw [if_neg nb, if_neg nd, if_pos t1]
          have eK : rdK σ pl = 3 := by unfold rdK; rw [if_neg nb, if_neg nd, if_pos t1]
          have eP : rdP σ pl = (σ (pl + 2) - 97).toNat := by unfold rdP; rw [if_neg nb, if_pos t1]
          obtain ⟨o, ho⟩ : ∃ o : Nat, σ (pl + 1) - 97 = o := ⟨(σ (pl + 1) - 97).toNat, by omega⟩
          obtain ⟨q, hq⟩ : ∃ o : Nat, σ (pl + 2) - 97 = o := ⟨(σ (pl + 2) - 97).toNat, by omega⟩
          rw [ho, Int.toNat_natCast] at eO
          rw [hq, Int.toNat_natCast] at eP
          refine In.icmp_ne (tgt := 54) d_Md_goWinters_37 (by decide) ⟨by omega, by omega⟩ ⟨by omega, by omega⟩ (fun c37 => ?_) (fun c37 => ?_)
          · refine Rn.iload_n d_Md_goWinters_54 rfl ?_
            refine Rn.bipush (v := iI 98) d_Md_goWinters_55 (by decide +kernel) ?_
            refine In.icmp_ne (tgt := 96) d_Md_goWinters_57 (by decide) ⟨by omega, by omega⟩ ⟨by omega, by omega⟩ (fun c57 => ?_) (fun c57 => ?_)
            · omega
            · refine Rn.aload_n d_Md_goWinters_60 rfl ?_
              refine Rn.aload_n d_Md_goWinters_61 rfl ?_
              refine Rn.aload_n d_Md_goWinters_62 rfl ?_
              refine Rn.getR d_Md_goWinters_63 f_Md_pad g_655 z_Md (r_Md_pad (by assumption)) ?_
              refine Rn.iload_n d_Md_goWinters_66 rfl ?_
              refine Rn.iconst (v := iI 1) d_Md_goWinters_67 rfl ?_
              refine In.add d_Md_goWinters_68 ?_
              refine In.ald d_Md_goWinters_69 z_Md_pad (show ((pl : Int) + 1) = ((pl + 1 : Nat) : Int) by omega) (by omega) (by decide) (hPc.1 (pl + 1) (by omega)) ?_
              refine Rn.bipush (v := iI 97) d_Md_goWinters_70 (by decide +kernel) ?_
              refine In.sub d_Md_goWinters_72 ?_
              refine Rn.aload_n d_Md_goWinters_73 rfl ?_
              refine Rn.getR d_Md_goWinters_74 f_Md_pad g_655 z_Md (r_Md_pad (by assumption)) ?_
              refine Rn.iload_n d_Md_goWinters_77 rfl ?_
              refine Rn.iconst (v := iI 2) d_Md_goWinters_78 rfl ?_
              refine In.add d_Md_goWinters_79 ?_
              refine In.ald d_Md_goWinters_80 z_Md_pad (show ((pl : Int) + 2) = ((pl + 2 : Nat) : Int) by omega) (by omega) (by decide) (hPc.1 (pl + 2) (by omega)) ?_
              refine Rn.bipush (v := iI 97) d_Md_goWinters_81 (by decide +kernel) ?_
              refine In.sub d_Md_goWinters_83 ?_
              rw [ho, hq]
              refine Rn.cVI d_Md_goWinters_84 s_Md_goWinters_Md_bend g_754 g_756 gs_15 ⟨rfl, rfl⟩ ⟨Nat.zero_le _, Nat.zero_le _⟩ (m_Md_bend hGc h6 h4 (show o < 12 by omega) (show q < 12 by omega)) rfl rfl z_Md c_Md (Nat.le_of_ble_eq_true rfl) (fun rr Mx qq => ?_)
              obtain ⟨rfl, hA⟩ := qq
              refine In.putI d_Md_goWinters_87 f_Md_reason g_660 z_Md ?_
              refine In.inc (lv1 := [_, _, _, _, _, _]) d_Md_goWinters_90 rfl (by decide) (w_pv rfl) rfl ?_
              refine Rn.goto (tgt := 162) d_Md_goWinters_93 (by decide) ?_
              exact fin 3 o q 3 _ Mx _ _ eK eO eP eL hA
          · omega
        · have nb : ¬ (65 ≤ σ pl ∧ σ pl ≤ 70) := by omega
          have nd : ¬ σ pl = 100 := by omega
          have nw : ¬ σ pl = 98 := by omega
          have eL : rdL σ pl = 1 := by unfold rdL; rw [if_neg nb, if_neg nd, if_neg nw]
          have eO : rdO σ pl = 0 := by unfold rdO; rw [if_neg nb, if_neg nd, if_neg nw]
          have eK : rdK σ pl = 4 := by unfold rdK; rw [if_neg nb, if_neg nd, if_neg nw]
          have eP : rdP σ pl = 0 := by unfold rdP; rw [if_neg nb, if_neg nw]
          refine In.icmp_ne (tgt := 54) d_Md_goWinters_37 (by decide) ⟨by omega, by omega⟩ ⟨by omega, by omega⟩ (fun c37 => ?_) (fun c37 => ?_)
          · omega
          · refine Rn.aload_n d_Md_goWinters_40 rfl ?_
            refine Rn.aload_n d_Md_goWinters_41 rfl ?_
            refine Rn.cVI d_Md_goWinters_42 s_Md_goWinters_Md_endWinter g_750 g_752 gs_14 ⟨rfl, rfl⟩ ⟨Nat.zero_le _, Nat.zero_le _⟩ (m_Md_endWinter (o := 0) (p := 0) hGc h6 h4) rfl rfl z_Md c_Md (Nat.le_of_ble_eq_true rfl) (fun rr Mx qq => ?_)
            obtain ⟨rfl, hA⟩ := qq
            refine In.putI d_Md_goWinters_45 f_Md_reason g_660 z_Md ?_
            refine In.inc (lv1 := [_, _, _, _, _, _]) d_Md_goWinters_48 rfl (by decide) (w_pv rfl) rfl ?_
            refine Rn.goto (tgt := 162) d_Md_goWinters_51 (by decide) ?_
            exact fin 4 0 0 1 _ Mx _ _ eK eO eP eL hA
  refine loop 60 0 0 (-6) (-6) β _ _ _ _ _ rfl (Nat.le_refl _) ⟨Nat.zero_le _, hf⟩ hV (k0.tr (Kp.fl (by omega))) (n0.ui (by decide)) (w_ui_at _ _ _ _) ?_ ?_ ?_ (Or.inl rfl) hT.symm
  · rw [w_ui_if, if_neg (by omega)]; exact a7
  · rw [w_ui_if, if_neg (by omega)]; exact a8
  · rw [w_ui_if, if_neg (by omega), a6]; congr 1; omega
