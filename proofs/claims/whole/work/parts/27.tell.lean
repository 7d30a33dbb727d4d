/-! Telling. -/
set_option maxRecDepth 20000
set_option maxHeartbeats 400000
theorem m_Telling_hill {M : wM} (hG : M.2.2 = RG) : EvR k_Telling_hill [.ref 11] SH M (fun r M' => r = 12 ∧ M' = M) := by
  refine EvR.of 0 (by decide) (Nat.le_of_ble_eq_true rfl) rfl ?_
  refine Rn.aload_n d_Telling_hill_0 rfl ?_
  refine Rn.getR d_Telling_hill_1 f_Telling_hill g_110 z_Telling (r_Telling_hill (by assumption)) ?_
  exact Rn.aret d_Telling_hill_4 rfl ⟨rfl, rfl⟩
theorem m_Telling_acts {M : wM} {v : Int} (hv : M.1 11 2 = iI v) : EvI k_Telling_acts [.ref 11] SH M (fun r M' => r = iI v ∧ M' = M) := by
  refine EvI.of 0 (by decide) (Nat.le_of_ble_eq_true rfl) rfl ?_
  refine Rn.aload_n d_Telling_acts_0 rfl ?_
  refine In.getI d_Telling_acts_1 f_Telling_acts g_112 z_Telling hv ?_
  exact Rn.iret d_Telling_acts_4 rfl rfl ⟨rfl, rfl⟩
theorem m_Telling_why {M : wM} {v : Int} (hv : M.1 11 3 = iI v) : EvI k_Telling_why [.ref 11] SH M (fun r M' => r = iI v ∧ M' = M) := by
  refine EvI.of 0 (by decide) (Nat.le_of_ble_eq_true rfl) rfl ?_
  refine Rn.aload_n d_Telling_why_0 rfl ?_
  refine In.getI d_Telling_why_1 f_Telling_why g_113 z_Telling hv ?_
  exact Rn.iret d_Telling_why_4 rfl rfl ⟨rfl, rfl⟩
theorem m_Telling_actThatBroke {M : wM} {v : Int} (hv : M.1 11 4 = iI v) : EvI k_Telling_actThatBroke [.ref 11] SH M (fun r M' => r = iI v ∧ M' = M) := by
  refine EvI.of 0 (by decide) (Nat.le_of_ble_eq_true rfl) rfl ?_
  refine Rn.aload_n d_Telling_actThatBroke_0 rfl ?_
  refine In.getI d_Telling_actThatBroke_1 f_Telling_actThatBroke g_114 z_Telling hv ?_
  exact Rn.iret d_Telling_actThatBroke_4 rfl rfl ⟨rfl, rfl⟩
theorem m_Telling_ballThatBroke {M : wM} {v : Int} (hv : M.1 11 5 = iI v) : EvI k_Telling_ballThatBroke [.ref 11] SH M (fun r M' => r = iI v ∧ M' = M) := by
  refine EvI.of 0 (by decide) (Nat.le_of_ble_eq_true rfl) rfl ?_
  refine Rn.aload_n d_Telling_ballThatBroke_0 rfl ?_
  refine In.getI d_Telling_ballThatBroke_1 f_Telling_ballThatBroke g_115 z_Telling hv ?_
  exact Rn.iret d_Telling_ballThatBroke_4 rfl rfl ⟨rfl, rfl⟩
theorem m_Telling_noteBroken {M : wM} {f : Nat} {ac bA bB : Int} (hf : f < 64) (h2 : M.1 11 2 = iI ac) (h4 : M.1 11 4 = iI bA) (h5 : M.1 11 5 = iI bB) (hr : -6 ≤ bA ∧ bA ≤ 100) : EvV k_Telling_noteBroken [.ref 11, .int (iI f)] SH M (fun M' => M'.1 11 2 = iI ac ∧ M'.1 11 3 = M.1 11 3 ∧ M'.1 11 4 = iI (if f = 0 ∨ bA ≠ -6 then bA else ac) ∧ M'.1 11 5 = iI (if f = 0 ∨ bA ≠ -6 then bB else nth (fun k => f.testBit k) 12 0 0 0) ∧ Off M M' 11 12) := by
  refine EvV.of 0 (by decide) (Nat.le_of_ble_eq_true rfl) rfl ?_
  refine Rn.iload_n d_Telling_noteBroken_0 rfl ?_
  refine In.if_eq (tgt := 13) d_Telling_noteBroken_1 (by decide) ⟨by omega, by omega⟩ (fun c1 => ?_) (fun c1 => ?_)
  · exact Rn.vret d_Telling_noteBroken_13 rfl ⟨h2, rfl, by rw [if_pos (Or.inl (by omega))]; exact h4, by rw [if_pos (Or.inl (by omega))]; exact h5, Off.rf⟩
  · refine Rn.aload_n d_Telling_noteBroken_4 rfl ?_
    refine In.getI d_Telling_noteBroken_5 f_Telling_actThatBroke g_114 z_Telling h4 ?_
    refine Rn.bipush (v := iI (-6)) d_Telling_noteBroken_8 (by decide +kernel) ?_
    refine In.icmp_eq (tgt := 14) d_Telling_noteBroken_10 (by decide) ⟨by omega, by omega⟩ ⟨by omega, by omega⟩ (fun c10 => ?_) (fun c10 => ?_)
    · refine Rn.aload_n d_Telling_noteBroken_14 rfl ?_
      refine Rn.aload_n d_Telling_noteBroken_15 rfl ?_
      refine In.getI d_Telling_noteBroken_16 f_Telling_acts g_112 z_Telling h2 ?_
      refine In.putI d_Telling_noteBroken_19 f_Telling_actThatBroke g_114 z_Telling ?_
      refine Rn.aload_n d_Telling_noteBroken_22 rfl ?_
      refine Rn.iload_n d_Telling_noteBroken_23 rfl ?_
      refine Rn.iconst (v := iI 0) d_Telling_noteBroken_24 rfl ?_
      refine Rn.cSNI d_Telling_noteBroken_25 s_Telling_noteBroken_BH_memberAt (j := 15) (host := "BaubleHill") rfl g_411 ⟨rfl, rfl⟩ ⟨Nat.zero_le _, Nat.zero_le _⟩ (m_BH_memberAt (show f < 2147483648 by omega) (show -2147483648 ≤ (0 : Int) ∧ (0 : Int) < 2147483648 by omega)) rfl rfl (Nat.le_of_ble_eq_true rfl) (fun rr MM qq => ?_)
      obtain ⟨rfl, rfl⟩ := And.imp id Eq.symm qq; clear qq
      refine In.putI d_Telling_noteBroken_28 f_Telling_ballThatBroke g_115 z_Telling ?_
      have hn : ¬ (f = 0 ∨ bA ≠ -6) := by omega
      rw [if_neg hn, if_neg hn]
      refine Rn.vret d_Telling_noteBroken_31 rfl ⟨?_, ?_, ?_, ?_, (Off.ui _ _ _ _).tr (Off.ui _ _ _ _)⟩
      · rw [w_ui_if, if_neg (by omega), w_ui_if, if_neg (by omega)]; exact h2
      · rw [w_ui_if, if_neg (by omega), w_ui_if, if_neg (by omega)]
      · rw [w_ui_if, if_neg (by omega), w_ui_at]
      · rw [w_ui_at]
    · exact Rn.vret d_Telling_noteBroken_13 rfl ⟨h2, rfl, by rw [if_pos (Or.inr (by omega))]; exact h4, by rw [if_pos (Or.inr (by omega))]; exact h5, Off.rf⟩
/-- what Telling holds behind a tale -/
def toldAt (M : wM) (T : wT) : Prop := hillAt M 12 T.2.1 ∧ M.1 11 2 = iI T.2.2.1 ∧ M.1 11 3 = iI T.1 ∧ M.1 11 4 = iI T.2.2.2.1 ∧ M.1 11 5 = iI T.2.2.2.2
theorem nth_12 (P : Nat → Bool) : -6 ≤ nth P 12 0 0 0 ∧ nth P 12 0 0 0 ≤ 100 := by
  rcases nth_rg P 12 0 0 0 with h | h <;> omega
theorem whyF_rg (β : Nat → Int) (k o p : Nat) : 0 ≤ whyF β k o p ∧ whyF β k o p ≤ 6 := by
  unfold whyF
  repeat' split
  all_goals decide
theorem m_Telling_tell {M : wM} {n h : Nat} {σ β : Nat → Int} (hh : isHill h) (hne : h + 5 ≤ 11 ∨ 18 ≤ h) (hG : M.2.2 = RG) (hA : padAt M n σ) (hV : pok n σ) (hB : hillAt M h β) (hβ : hok β) : EvI k_Telling_tell [.ref 11, .ref 9, .ref h] SH M (fun r M' => r = iI (if fltS σ n = -6 ∧ (tellS σ n β).1 = 0 then 1 else 0) ∧ (fltS σ n = -6 → toldAt M' (tellS σ n β)) ∧ Off M M' 11 18) := by
  refine EvI.of 3 (by decide) (Nat.le_of_ble_eq_true rfl) rfl ?_
  have hn := hV.1
  refine Rn.aload_n d_Telling_tell_0 rfl ?_
  refine Rn.getR d_Telling_tell_1 f_Telling_hill g_110 z_Telling (r_Telling_hill (by assumption)) ?_
  refine Rn.aload_n d_Telling_tell_4 rfl ?_
  refine Rn.cVV d_Telling_tell_5 s_Telling_tell_Hill_copyFrom g_310 g_311 g_312 ⟨rfl, rfl⟩ ⟨Nat.zero_le _, Nat.zero_le _⟩ (m_Hill_copyFrom i_Telling_hill hh (by omega) hG hB) rfl rfl (z_Hill (by first | assumption | exact i_Image_hill (by assumption) | exact i_BH_hill | exact i_Telling_hill | exact i_Year_hill)) c_Hill (Nat.le_of_ble_eq_true rfl) (fun M0 qq => ?_)
  obtain ⟨hH, hO⟩ := qq
  have hG0 := hO.G hG
  have hfr := fltS_rg σ n
  refine Rn.aload_n d_Telling_tell_8 rfl ?_
  refine Rn.iconst (v := iI 0) d_Telling_tell_9 rfl ?_
  refine In.putI d_Telling_tell_10 f_Telling_acts g_112 z_Telling ?_
  refine Rn.aload_n d_Telling_tell_13 rfl ?_
  refine Rn.iconst (v := iI 0) d_Telling_tell_14 rfl ?_
  refine In.putI d_Telling_tell_15 f_Telling_why g_113 z_Telling ?_
  refine Rn.aload_n d_Telling_tell_18 rfl ?_
  refine Rn.bipush (v := iI (-6)) d_Telling_tell_19 (by decide +kernel) ?_
  refine In.putI d_Telling_tell_21 f_Telling_actThatBroke g_114 z_Telling ?_
  refine Rn.aload_n d_Telling_tell_24 rfl ?_
  refine Rn.bipush (v := iI (-6)) d_Telling_tell_25 (by decide +kernel) ?_
  refine In.putI d_Telling_tell_27 f_Telling_ballThatBroke g_115 z_Telling ?_
  refine Rn.aload_n d_Telling_tell_30 rfl ?_
  have hO1 : Off M (w_ui (w_ui (w_ui (w_ui M0 11 2 (iI 0)) 11 3 (iI 0)) 11 4 (iI (-6))) 11 5 (iI (-6))) 11 18 := (hO.wide (by omega) (by omega)).tr ((((Off.ui _ _ _ _).wide (by omega) (by omega)).tr ((Off.ui _ _ _ _).wide (by omega) (by omega))).tr (((Off.ui _ _ _ _).wide (by omega) (by omega)).tr ((Off.ui _ _ _ _).wide (by omega) (by omega))))
  have hH1 : hillAt (w_ui (w_ui (w_ui (w_ui M0 11 2 (iI 0)) 11 3 (iI 0)) 11 4 (iI (-6))) 11 5 (iI (-6))) 12 β := hH.off (lo := 11) (hi := 12) ((((Off.ui _ _ _ _).wide (by omega) (by omega)).tr ((Off.ui _ _ _ _).wide (by omega) (by omega))).tr (((Off.ui _ _ _ _).wide (by omega) (by omega)).tr ((Off.ui _ _ _ _).wide (by omega) (by omega)))) (by omega)
  have e2 : (w_ui (w_ui (w_ui (w_ui M0 11 2 (iI 0)) 11 3 (iI 0)) 11 4 (iI (-6))) 11 5 (iI (-6))).1 11 2 = iI 0 := by simp [w_ui_if]
  have e3 : (w_ui (w_ui (w_ui (w_ui M0 11 2 (iI 0)) 11 3 (iI 0)) 11 4 (iI (-6))) 11 5 (iI (-6))).1 11 3 = iI 0 := by simp [w_ui_if]
  have e4 : (w_ui (w_ui (w_ui (w_ui M0 11 2 (iI 0)) 11 3 (iI 0)) 11 4 (iI (-6))) 11 5 (iI (-6))).1 11 4 = iI (-6) := by simp [w_ui_if]
  have e5 : (w_ui (w_ui (w_ui (w_ui M0 11 2 (iI 0)) 11 3 (iI 0)) 11 4 (iI (-6))) 11 5 (iI (-6))).1 11 5 = iI (-6) := by simp [w_ui_if]
  generalize w_ui (w_ui (w_ui (w_ui M0 11 2 (iI 0)) 11 3 (iI 0)) 11 4 (iI (-6))) 11 5 (iI (-6)) = M1 at hO1 hH1 e2 e3 e4 e5 ⊢
  have hG1 := hO1.G hG
  refine Rn.cVI d_Telling_tell_31 s_Telling_tell_Pad_firstWrong g_322 g_285 g_286 ⟨rfl, rfl⟩ ⟨Nat.zero_le _, Nat.zero_le _⟩ (m_Pad_firstWrong hG1 (hA.off hO1 (by omega)) hV) rfl rfl z_Pad c_Pad (Nat.le_of_ble_eq_true rfl) (fun rr MM qq => ?_)
  obtain ⟨rfl, rfl⟩ := And.imp id Eq.symm qq; clear qq
  refine Rn.bipush (v := iI (-6)) d_Telling_tell_34 (by decide +kernel) ?_
  refine In.icmp_eq (tgt := 41) d_Telling_tell_36 (by decide) ⟨by omega, by omega⟩ ⟨by omega, by omega⟩ (fun c36 => ?_) (fun c36 => ?_)
  · have loop : ∀ (m tu pl : Nat) (ac : Nat) (bA bB : Int) (β1 : Nat → Int) (Mc : wM) (x5 : Option Value), tu + m = 60 → tu ≤ pl → ac = tu → okAt σ n pl → hok β1 → hillAt Mc 12 β1 → Mc.1 11 2 = iI ac → Mc.1 11 3 = iI 0 → Mc.1 11 4 = iI bA → Mc.1 11 5 = iI bB → (-6 ≤ bA ∧ bA ≤ 100) → Off M Mc 11 18 → tellF σ n m β1 pl ac bA bB = tellS σ n β → Rn k_Telling_tell none (0, 0) 46 [some (.ref 11), some (.ref 9), some (.ref h), some (.int (iI pl)), some (.int (iI tu)), x5] [] SH Mc (w_FI (0, 0) SH (fun r M' => r = iI (if fltS σ n = -6 ∧ (tellS σ n β).1 = 0 then 1 else 0) ∧ (fltS σ n = -6 → toldAt M' (tellS σ n β)) ∧ Off M M' 11 18)) := by
      intro m
      induction m with
      | zero =>
        intro tu pl ac bA bB β1 Mc x5 h1 h1b h1c h2 h3 h4 h5 h6 h7 h8 h9 h10 h11
        simp only [tellF] at h11
        refine Rn.iload d_Telling_tell_46 rfl ?_
        refine Rn.bipush (v := iI 60) d_Telling_tell_48 (by decide +kernel) ?_
        refine In.icmp_ge (tgt := 147) d_Telling_tell_50 (by decide) ⟨by omega, by omega⟩ ⟨by omega, by omega⟩ (fun c50 => ?_) (fun c50 => ?_)
        · refine Rn.iconst (v := iI 1) d_Telling_tell_147 rfl ?_
          exact Rn.iret d_Telling_tell_148 rfl (by decide +kernel) ⟨by rw [if_pos ⟨c36, by rw [← h11]⟩], fun _ => by rw [← h11]; exact ⟨h4, h5, h6, h7, h8⟩, h10⟩
        · omega
      | succ m ih =>
        intro tu pl ac bA bB β1 Mc x5 h1 h1b h1c h2 h3 h4 h5 h6 h7 h8 h9 h10 h11
        have hGc := h10.G hG
        have hAc := hA.off h10 (by omega)
        have hpl := h2.1
        refine Rn.iload d_Telling_tell_46 rfl ?_
        refine Rn.bipush (v := iI 60) d_Telling_tell_48 (by decide +kernel) ?_
        refine In.icmp_ge (tgt := 147) d_Telling_tell_50 (by decide) ⟨by omega, by omega⟩ ⟨by omega, by omega⟩ (fun c50 => ?_) (fun c50 => ?_)
        · omega
        · refine Rn.iload_n d_Telling_tell_53 rfl ?_
          refine Rn.aload_n d_Telling_tell_54 rfl ?_
          refine Rn.cVI d_Telling_tell_55 s_Telling_tell_Pad_size g_323 g_265 g_266 ⟨rfl, rfl⟩ ⟨Nat.zero_le _, Nat.zero_le _⟩ (m_Pad_size hAc) rfl rfl z_Pad c_Pad (Nat.le_of_ble_eq_true rfl) (fun rr MM qq => ?_)
          obtain ⟨rfl, rfl⟩ := And.imp id Eq.symm qq; clear qq
          refine In.icmp_ge (tgt := 147) d_Telling_tell_58 (by decide) ⟨by omega, by omega⟩ ⟨by omega, by omega⟩ (fun c58 => ?_) (fun c58 => ?_)
          · rw [tellF, if_pos (by omega)] at h11
            refine Rn.iconst (v := iI 1) d_Telling_tell_147 rfl ?_
            exact Rn.iret d_Telling_tell_148 rfl (by decide +kernel) ⟨by rw [if_pos ⟨c36, by rw [← h11]⟩], fun _ => by rw [← h11]; exact ⟨h4, h5, h6, h7, h8⟩, h10⟩
          · obtain ⟨hak, hok2, hL⟩ := rd_ok h2 (show pl < n by omega)
            rw [tellF, if_neg (by omega)] at h11
            refine Rn.aload_n d_Telling_tell_61 rfl ?_
            refine Rn.iload_n d_Telling_tell_62 rfl ?_
            refine Rn.aload_n d_Telling_tell_63 rfl ?_
            refine Rn.getR d_Telling_tell_64 f_Telling_act g_111 z_Telling (r_Telling_act (by assumption)) ?_
            refine Rn.cVI d_Telling_tell_67 s_Telling_tell_Pad_read g_324 g_325 g_326 ⟨rfl, rfl⟩ ⟨Nat.zero_le _, Nat.zero_le _⟩ (m_Pad_read i_Telling_act hGc hAc hV h2 (show pl < n by omega)) rfl rfl z_Pad c_Pad (Nat.le_of_ble_eq_true rfl) (fun rr M2 qq => ?_)
            obtain ⟨rfl, hac, hO2⟩ := qq
            have hG2 := hO2.G hGc
            have hH2 := h4.off hO2 (by omega)
            refine Rn.istore_n (lv1 := [_, _, _, _, _, _]) d_Telling_tell_70 (by decide) (w_pv rfl) rfl ?_
            refine Rn.aload_n d_Telling_tell_71 rfl ?_
            refine Rn.aload_n d_Telling_tell_72 rfl ?_
            refine Rn.getR d_Telling_tell_73 f_Telling_hill g_110 z_Telling (r_Telling_hill (by assumption)) ?_
            refine Rn.aload_n d_Telling_tell_76 rfl ?_
            refine Rn.getR d_Telling_tell_77 f_Telling_act g_111 z_Telling (r_Telling_act (by assumption)) ?_
            refine Rn.cVI d_Telling_tell_80 s_Telling_tell_Hill_whyNot g_336 g_337 g_338 ⟨rfl, rfl⟩ ⟨Nat.zero_le _, Nat.zero_le _⟩ (m_Hill_whyNot i_Telling_hill i_Telling_act hG2 hH2 h3 hak hac) rfl rfl (z_Hill (by first | assumption | exact i_Image_hill (by assumption) | exact i_BH_hill | exact i_Telling_hill | exact i_Year_hill)) c_Hill (Nat.le_of_ble_eq_true rfl) (fun rr MM qq => ?_)
            obtain ⟨rfl, rfl⟩ := And.imp id Eq.symm qq; clear qq
            have hwr := whyF_rg β1 (rdK σ pl) (rdO σ pl) (rdP σ pl)
            refine In.putI d_Telling_tell_83 f_Telling_why g_113 z_Telling ?_
            refine Rn.aload_n d_Telling_tell_86 rfl ?_
            refine In.getI d_Telling_tell_87 f_Telling_why g_113 z_Telling (w_ui_at _ _ _ _) ?_
            have hO3 : Off M (w_ui M2 11 3 (iI (whyF β1 (rdK σ pl) (rdO σ pl) (rdP σ pl)))) 11 18 := h10.tr ((hO2.wide (by omega) (by omega)).tr ((Off.ui _ _ _ _).wide (by omega) (by omega)))
            have hH3 : hillAt (w_ui M2 11 3 (iI (whyF β1 (rdK σ pl) (rdO σ pl) (rdP σ pl)))) 12 β1 := hH2.off (Off.ui _ _ _ _) (by omega)
            have hac3 : actAt (w_ui M2 11 3 (iI (whyF β1 (rdK σ pl) (rdO σ pl) (rdP σ pl)))) 17 (rdK σ pl) (rdO σ pl) (rdP σ pl) := hac.off (Off.ui _ _ _ _) (by omega)
            have f2 : (w_ui M2 11 3 (iI (whyF β1 (rdK σ pl) (rdO σ pl) (rdP σ pl)))).1 11 2 = iI ac := by rw [w_ui_if, if_neg (by omega), hO2.1 _ (by omega)]; exact h5
            have f3 : (w_ui M2 11 3 (iI (whyF β1 (rdK σ pl) (rdO σ pl) (rdP σ pl)))).1 11 3 = iI (whyF β1 (rdK σ pl) (rdO σ pl) (rdP σ pl)) := w_ui_at _ _ _ _
            have f4 : (w_ui M2 11 3 (iI (whyF β1 (rdK σ pl) (rdO σ pl) (rdP σ pl)))).1 11 4 = iI bA := by rw [w_ui_if, if_neg (by omega), hO2.1 _ (by omega)]; exact h7
            have f5 : (w_ui M2 11 3 (iI (whyF β1 (rdK σ pl) (rdO σ pl) (rdP σ pl)))).1 11 5 = iI bB := by rw [w_ui_if, if_neg (by omega), hO2.1 _ (by omega)]; exact h8
            generalize w_ui M2 11 3 (iI (whyF β1 (rdK σ pl) (rdO σ pl) (rdP σ pl))) = M3 at hO3 hH3 hac3 f2 f3 f4 f5 ⊢
            have hG3 := hO3.G hG
            refine In.if_eq (tgt := 95) d_Telling_tell_90 (by decide) ⟨by omega, by omega⟩ (fun c90 => ?_) (fun c90 => ?_)
            · rw [if_neg (by omega)] at h11
              have hok3 := folF_ok h3 hak c90
              rw [c90] at f3
              refine Rn.aload_n d_Telling_tell_95 rfl ?_
              refine Rn.getR d_Telling_tell_96 f_Telling_hill g_110 z_Telling (r_Telling_hill (by assumption)) ?_
              refine Rn.cVI d_Telling_tell_99 s_Telling_tell_Hill_brokenBalls g_364 g_365 g_366 ⟨rfl, rfl⟩ ⟨Nat.zero_le _, Nat.zero_le _⟩ (m_Hill_brokenBalls i_Telling_hill hG3 hH3) rfl rfl (z_Hill (by first | assumption | exact i_Image_hill (by assumption) | exact i_BH_hill | exact i_Telling_hill | exact i_Year_hill)) c_Hill (Nat.le_of_ble_eq_true rfl) (fun rr MM qq => ?_)
              obtain ⟨rfl, rfl⟩ := And.imp id Eq.symm qq; clear qq
              refine Rn.istore (lv1 := [_, _, _, _, _, _]) d_Telling_tell_102 (by decide) (w_pv rfl) rfl ?_
              refine Rn.aload_n d_Telling_tell_104 rfl ?_
              refine Rn.getR d_Telling_tell_105 f_Telling_hill g_110 z_Telling (r_Telling_hill (by assumption)) ?_
              refine Rn.aload_n d_Telling_tell_108 rfl ?_
              refine Rn.getR d_Telling_tell_109 f_Telling_act g_111 z_Telling (r_Telling_act (by assumption)) ?_
              refine Rn.cVV d_Telling_tell_112 s_Telling_tell_Hill_follow g_368 g_369 g_370 ⟨rfl, rfl⟩ ⟨Nat.zero_le _, Nat.zero_le _⟩ (m_Hill_follow i_Telling_hill i_Telling_act hG3 hH3 h3 hak hac3) rfl rfl (z_Hill (by first | assumption | exact i_Image_hill (by assumption) | exact i_BH_hill | exact i_Telling_hill | exact i_Year_hill)) c_Hill (Nat.le_of_ble_eq_true rfl) (fun M4 qq => ?_)
              obtain ⟨hH4, hO4⟩ := qq
              have hG4 := hO4.G hG3
              have hbk1 := hok_bk h3
              have hbk4 := hok_bk hok3
              refine Rn.aload_n d_Telling_tell_115 rfl ?_
              refine Rn.aload_n d_Telling_tell_116 rfl ?_
              refine Rn.getR d_Telling_tell_117 f_Telling_hill g_110 z_Telling (r_Telling_hill (by assumption)) ?_
              refine Rn.cVI d_Telling_tell_120 s_Telling_tell_Hill_brokenBalls g_364 g_365 g_366 ⟨rfl, rfl⟩ ⟨Nat.zero_le _, Nat.zero_le _⟩ (m_Hill_brokenBalls i_Telling_hill hG4 hH4) rfl rfl (z_Hill (by first | assumption | exact i_Image_hill (by assumption) | exact i_BH_hill | exact i_Telling_hill | exact i_Year_hill)) c_Hill (Nat.le_of_ble_eq_true rfl) (fun rr MM qq => ?_)
              obtain ⟨rfl, rfl⟩ := And.imp id Eq.symm qq; clear qq
              rw [hbk4.1, hbk1.1]
              refine Rn.iload d_Telling_tell_123 rfl ?_
              refine Rn.iconst (v := iI (-1)) d_Telling_tell_125 rfl ?_
              refine Rn.ixor d_Telling_tell_126 ?_
              refine Rn.iand d_Telling_tell_127 ?_
              rw [frs_ok _ hbk4.2 _ hbk1.2]
              refine Rn.cVV d_Telling_tell_128 s_Telling_tell_Telling_noteBroken g_406 g_408 gs_4 ⟨rfl, rfl⟩ ⟨Nat.zero_le _, Nat.zero_le _⟩ (m_Telling_noteBroken (frs_lt _ _) (show M4.1 11 2 = iI ac by rw [hO4.1 _ (by omega)]; exact f2) (show M4.1 11 4 = iI bA by rw [hO4.1 _ (by omega)]; exact f4) (show M4.1 11 5 = iI bB by rw [hO4.1 _ (by omega)]; exact f5) h9) rfl rfl z_Telling c_Telling (Nat.le_of_ble_eq_true rfl) (fun M5 qq => ?_)
              obtain ⟨g2, g3, g4, g5, hO5⟩ := qq
              have hG5 := hO5.G hG4
              refine Rn.aload_n d_Telling_tell_131 rfl ?_
              refine Rn.dup d_Telling_tell_132 rfl ?_
              refine In.getI d_Telling_tell_133 f_Telling_acts g_112 z_Telling g2 ?_
              refine Rn.iconst (v := iI 1) d_Telling_tell_136 rfl ?_
              refine In.add d_Telling_tell_137 ?_
              refine In.putI d_Telling_tell_138 f_Telling_acts g_112 z_Telling ?_
              refine In.inc (lv1 := [_, _, _, _, _, _]) d_Telling_tell_141 rfl (by decide) (w_pv rfl) rfl ?_
              refine Rn.goto (tgt := 46) d_Telling_tell_144 (by decide) ?_
              have hac1 : ac ≤ 60 := by omega
              refine ih (tu + 1) (pl + rdL σ pl) (ac + 1) _ _ _ _ _ (by omega) (by omega) (by omega) hok2 hok3 ((hH4.off hO5 (by omega)).off (Off.ui _ _ _ _) (by omega)) (w_ui_at _ _ _ _) ?_ ?_ ?_ ?_ (hO3.tr ((hO4.wide (by omega) (by omega)).tr ((hO5.wide (by omega) (by omega)).tr ((Off.ui _ _ _ _).wide (by omega) (by omega))))) h11
              · rw [w_ui_if, if_neg (by omega), g3, hO4.1 _ (by omega)]; exact f3
              · rw [w_ui_if, if_neg (by omega)]; exact g4
              · rw [w_ui_if, if_neg (by omega)]; exact g5
              · by_cases q : frs (bk (folF β1 (rdK σ pl) (rdO σ pl) (rdP σ pl))) (bk β1) = 0 ∨ bA ≠ -6
                · rw [if_pos q]; exact h9
                · rw [if_neg q]; omega
            · rw [if_pos c90] at h11
              refine Rn.iconst (v := iI 0) d_Telling_tell_93 rfl ?_
              exact Rn.iret d_Telling_tell_94 rfl (by decide +kernel) ⟨by rw [if_neg (fun q => c90 (by rw [← q.2, ← h11]))], fun _ => by rw [← h11]; exact ⟨hH3, f2, f3, f4, f5⟩, hO3⟩
    refine Rn.iconst (v := iI 0) d_Telling_tell_41 rfl ?_
    refine Rn.istore_n (lv1 := [_, _, _, _, _, _]) d_Telling_tell_42 (by decide) (w_pv rfl) rfl ?_
    refine Rn.iconst (v := iI 0) d_Telling_tell_43 rfl ?_
    refine Rn.istore (lv1 := [_, _, _, _, _, _]) d_Telling_tell_44 (by decide) (w_pv rfl) rfl ?_
    exact loop 60 0 0 0 (-6) (-6) β M1 _ rfl (Nat.le_refl _) rfl ⟨Nat.zero_le _, c36⟩ hβ hH1 e2 e3 e4 e5 (by omega) hO1 rfl
  · refine Rn.iconst (v := iI 0) d_Telling_tell_39 rfl ?_
    exact Rn.iret d_Telling_tell_40 rfl (by decide +kernel) ⟨by rw [if_neg (fun q => c36 q.1)], fun q => absurd q c36, hO1⟩
