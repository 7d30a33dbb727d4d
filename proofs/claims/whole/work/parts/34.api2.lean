/-! The class's calls, the second half. -/
set_option maxRecDepth 20000
set_option maxHeartbeats 400000
theorem iI_wr (a : Int) : iI a = iI (a + 4294967296) := by
  unfold iI
  rw [Int32.ofInt_add]
  have : Int32.ofInt 4294967296 = 0 := by decide +kernel
  rw [this, Int32.add_zero]
theorem nrm {a k : Int} (ha : -2147483648 ≤ a ∧ a < 2147483648) (hk : 0 ≤ k ∧ k ≤ 100) : ∃ d, iI (a - k) = iI d ∧ (-2147483648 ≤ d ∧ d < 2147483648) ∧ (d = a - k ∨ (1000 < d ∧ a - k < -1000)) := by
  by_cases h : -2147483648 ≤ a - k
  · exact ⟨a - k, rfl, by omega, Or.inl rfl⟩
  · exact ⟨a - k + 4294967296, iI_wr _, by omega, Or.inr (by omega)⟩
theorem m_BH_near {M : wM} {β : Nat → Int} {n : Nat} {σ : Nat → Int} {m : Nat} {τ : Nat → Int} {I J : wIm} {w V : Int} (hG : M.2.2 = RG) (hA : clsAt M β n σ m τ I J) (hV : aLok β n σ m τ I J) (hw : -2147483648 ≤ w ∧ w < 2147483648)
    (v1 : ¬ (0 ≤ w ∧ w ≤ 3) → V = -2) (v2 : (0 ≤ w ∧ w ≤ 3) → hungS β 6 = 0 → V = -6) (v3 : (0 ≤ w ∧ w ≤ 3) → hungS β 6 ≠ 0 → w = 0 ∨ w = 2 → V = (fNear β (hungS β 6) (decide (2 ≤ w)) 11).1) (v4 : (0 ≤ w ∧ w ≤ 3) → hungS β 6 ≠ 0 → ¬ (w = 0 ∨ w = 2) → V = (fNear β (hungS β 6) (decide (2 ≤ w)) 11).2) : EvI k_BH_near [.ref 0, .int (iI w)] SH M (fun r M' => r = iI V ∧ clsAt M' β n σ m τ I J ∧ Off M M' 0 47) := by
  refine EvI.of 6 (by decide) (Nat.le_of_ble_eq_true rfl) rfl ?_
  have hh4 := hungS_lt hV.1.l 6 (Nat.le_refl _)
  have ht := hV.1.t
  refine Rn.iload_n d_BH_near_0 rfl ?_
  refine In.if_lt (tgt := 9) d_BH_near_1 (by decide) ⟨by omega, by omega⟩ (fun c1 => ?_) (fun c1 => ?_)
  · rw [v1 (by omega)]
    refine Rn.bipush (v := iI (-2)) d_BH_near_9 (by decide +kernel) ?_
    exact Rn.iret d_BH_near_11 rfl rfl ⟨rfl, hA, Off.rf⟩
  · refine Rn.iload_n d_BH_near_4 rfl ?_
    refine Rn.iconst (v := iI 3) d_BH_near_5 rfl ?_
    refine In.icmp_le (tgt := 12) d_BH_near_6 (by decide) ⟨by omega, by omega⟩ ⟨by omega, by omega⟩ (fun c6 => ?_) (fun c6 => ?_)
    · have q1 : 0 ≤ w ∧ w ≤ 3 := by omega
      refine Rn.aload_n d_BH_near_12 rfl ?_
      refine Rn.getR d_BH_near_13 f_BH_hill g_186 z_BH (r_BH_hill (by assumption)) ?_
      refine Rn.cVI d_BH_near_16 s_BH_near_Hill_hungLoops g_441 g_249 g_250 ⟨rfl, rfl⟩ ⟨Nat.zero_le _, Nat.zero_le _⟩ (m_Hill_hungLoops i_BH_hill hG hA.1 hV.1.l) rfl rfl (z_Hill (by first | assumption | exact i_Image_hill (by assumption) | exact i_BH_hill | exact i_Telling_hill | exact i_Year_hill)) c_Hill (Nat.le_of_ble_eq_true rfl) (fun rr MM qq => ?_)
      obtain ⟨rfl, rfl⟩ := And.imp id Eq.symm qq; clear qq
      refine Rn.istore_n (lv1 := [_, _, _, _, _, _, _, _]) d_BH_near_19 (by decide) (w_pv rfl) rfl ?_
      refine Rn.iload_n d_BH_near_20 rfl ?_
      generalize hung : hungS β 6 = h at *
      refine In.if_ne (tgt := 27) d_BH_near_21 (by decide) ⟨by omega, by omega⟩ (fun c21 => ?_) (fun c21 => ?_)
      · have q2 : h ≠ 0 := by omega
        have L : ∀ far : Bool, far = decide (2 ≤ w) → Rn k_BH_near none (0, 0) 37 [some (.ref 0), some (.int (iI w)), some (.int (iI h)), none, none, none, none, none] [.int (iI (if far = true then 1 else 0))] SH M (w_FI (0, 0) SH (fun r M' => r = iI V ∧ clsAt M' β n σ m τ I J ∧ Off M M' 0 47)) := by
          intro far hfar
          rw [← hfar] at v3 v4
          refine Rn.istore_n (lv1 := [_, _, _, _, _, _, _, _]) d_BH_near_37 (by decide) (w_pv rfl) rfl ?_
          refine Rn.iconst (v := iI 0) d_BH_near_38 rfl ?_
          refine Rn.istore (lv1 := [_, _, _, _, _, _, _, _]) d_BH_near_39 (by decide) (w_pv rfl) rfl ?_
          refine Rn.aload_n d_BH_near_41 rfl ?_
          refine Rn.getR d_BH_near_42 f_BH_hill g_186 z_BH (r_BH_hill (by assumption)) ?_
          refine Rn.cVR d_BH_near_45 s_BH_near_Hill_tree g_221 g_222 g_223 ⟨rfl, rfl⟩ ⟨Nat.zero_le _, Nat.zero_le _⟩ (m_Hill_tree i_BH_hill hG) rfl rfl (z_Hill (by first | assumption | exact i_Image_hill (by assumption) | exact i_BH_hill | exact i_Telling_hill | exact i_Year_hill)) c_Hill (Nat.le_of_ble_eq_true rfl) (fun rr MM qq => ?_)
          obtain ⟨rfl, rfl⟩ := And.imp id Eq.symm qq; clear qq
          refine Rn.iconst (v := iI 0) d_BH_near_48 rfl ?_
          refine Rn.iload_n d_BH_near_49 rfl ?_
          refine Rn.iload_n d_BH_near_50 rfl ?_
          refine Rn.cVI d_BH_near_51 s_BH_near_Tree_howFar g_486 g_487 g_488 ⟨rfl, rfl⟩ ⟨Nat.zero_le _, Nat.zero_le _⟩ (m_Tree_howFar (l := 0) (far := far) (i_Hill_tree i_BH_hill) hG hA.1.1 ht (by decide) hh4) rfl rfl (z_Tree (by first | assumption | exact i_Hill_tree (by assumption) | exact i_Hill_tree i_BH_hill)) c_Tree (Nat.le_of_ble_eq_true rfl) (fun rr MM qq => ?_)
          obtain ⟨rfl, rfl⟩ := And.imp id Eq.symm qq; clear qq
          refine Rn.istore (lv1 := [_, _, _, _, _, _, _, _]) d_BH_near_54 (by decide) (w_pv rfl) rfl ?_
          refine Rn.iconst (v := iI 1) d_BH_near_56 rfl ?_
          refine Rn.istore (lv1 := [_, _, _, _, _, _, _, _]) d_BH_near_57 (by decide) (w_pv rfl) rfl ?_
          have loop : ∀ (d k : Nat) (x7 : Option Value), k + d = 11 → Rn k_BH_near none (0, 0) 59 [some (.ref 0), some (.int (iI w)), some (.int (iI h)), some (.int (iI (if far = true then 1 else 0))), some (.int (iI (fNear β h far k).1)), some (.int (iI (fNear β h far k).2)), some (.int (iI (k + 1 : Nat))), x7] [] SH M (w_FI (0, 0) SH (fun r M' => r = iI V ∧ clsAt M' β n σ m τ I J ∧ Off M M' 0 47)) := by
            intro d
            induction d with
            | zero =>
              intro k x7 h1
              have : k = 11 := by omega
              subst this
              refine Rn.iload d_BH_near_59 rfl ?_
              refine Rn.bipush (v := iI 12) d_BH_near_61 (by decide +kernel) ?_
              refine In.icmp_ge (tgt := 103) d_BH_near_63 (by decide) ⟨by omega, by omega⟩ ⟨by omega, by omega⟩ (fun c63 => ?_) (fun c63 => ?_)
              · refine Rn.iload_n d_BH_near_103 rfl ?_
                refine In.if_eq (tgt := 112) d_BH_near_104 (by decide) ⟨by omega, by omega⟩ (fun c104 => ?_) (fun c104 => ?_)
                · refine Rn.iload d_BH_near_112 rfl ?_
                  refine Rn.goto (tgt := 119) d_BH_near_114 (by decide) ?_
                  rw [v3 q1 q2 (Or.inl c104)]
                  exact Rn.iret d_BH_near_119 rfl rfl ⟨rfl, hA, Off.rf⟩
                · refine Rn.iload_n d_BH_near_107 rfl ?_
                  refine Rn.iconst (v := iI 2) d_BH_near_108 rfl ?_
                  refine In.icmp_ne (tgt := 117) d_BH_near_109 (by decide) ⟨by omega, by omega⟩ ⟨by omega, by omega⟩ (fun c109 => ?_) (fun c109 => ?_)
                  · refine Rn.iload d_BH_near_117 rfl ?_
                    rw [v4 q1 q2 (by omega)]
                    exact Rn.iret d_BH_near_119 rfl rfl ⟨rfl, hA, Off.rf⟩
                  · refine Rn.iload d_BH_near_112 rfl ?_
                    refine Rn.goto (tgt := 119) d_BH_near_114 (by decide) ?_
                    rw [v3 q1 q2 (Or.inr c109)]
                    exact Rn.iret d_BH_near_119 rfl rfl ⟨rfl, hA, Off.rf⟩
              · omega
            | succ d ih =>
              intro k x7 h1
              have b1 := howF_le ht (l := k + 1) (s := h) (by omega) far 12 (Nat.le_refl _)
              have b2 := fNear_le ht h far k (by omega)
              have e1 : howF β (k + 1) h far 12 < (fNear β h far k).2 → fNear β h far (k + 1) = (k + 1, howF β (k + 1) h far 12) := fun q => by simp only [fNear]; rw [if_pos q]
              have e2 : ¬ howF β (k + 1) h far 12 < (fNear β h far k).2 → fNear β h far (k + 1) = fNear β h far k := fun q => by simp only [fNear]; rw [if_neg q]
              have ih := ih (k + 1) (some (.int (iI (howF β (k + 1) h far 12)))) (by omega)
              refine Rn.iload d_BH_near_59 rfl ?_
              refine Rn.bipush (v := iI 12) d_BH_near_61 (by decide +kernel) ?_
              refine In.icmp_ge (tgt := 103) d_BH_near_63 (by decide) ⟨by omega, by omega⟩ ⟨by omega, by omega⟩ (fun c63 => ?_) (fun c63 => ?_)
              · omega
              · refine Rn.aload_n d_BH_near_66 rfl ?_
                refine Rn.getR d_BH_near_67 f_BH_hill g_186 z_BH (r_BH_hill (by assumption)) ?_
                refine Rn.cVR d_BH_near_70 s_BH_near_Hill_tree g_221 g_222 g_223 ⟨rfl, rfl⟩ ⟨Nat.zero_le _, Nat.zero_le _⟩ (m_Hill_tree i_BH_hill hG) rfl rfl (z_Hill (by first | assumption | exact i_Image_hill (by assumption) | exact i_BH_hill | exact i_Telling_hill | exact i_Year_hill)) c_Hill (Nat.le_of_ble_eq_true rfl) (fun rr MM qq => ?_)
                obtain ⟨rfl, rfl⟩ := And.imp id Eq.symm qq; clear qq
                refine Rn.iload d_BH_near_73 rfl ?_
                refine Rn.iload_n d_BH_near_75 rfl ?_
                refine Rn.iload_n d_BH_near_76 rfl ?_
                refine Rn.cVI d_BH_near_77 s_BH_near_Tree_howFar g_486 g_487 g_488 ⟨rfl, rfl⟩ ⟨Nat.zero_le _, Nat.zero_le _⟩ (m_Tree_howFar (l := k + 1) (far := far) (i_Hill_tree i_BH_hill) hG hA.1.1 ht (by omega) hh4) rfl rfl (z_Tree (by first | assumption | exact i_Hill_tree (by assumption) | exact i_Hill_tree i_BH_hill)) c_Tree (Nat.le_of_ble_eq_true rfl) (fun rr MM qq => ?_)
                obtain ⟨rfl, rfl⟩ := And.imp id Eq.symm qq; clear qq
                refine Rn.istore (lv1 := [_, _, _, _, _, _, _, _]) d_BH_near_80 (by decide) (w_pv rfl) rfl ?_
                refine Rn.iload d_BH_near_82 rfl ?_
                refine Rn.iload d_BH_near_84 rfl ?_
                refine In.icmp_ge (tgt := 97) d_BH_near_86 (by decide) ⟨by omega, by omega⟩ ⟨by omega, by omega⟩ (fun c86 => ?_) (fun c86 => ?_)
                · refine In.inc (lv1 := [_, _, _, _, _, _, _, _]) d_BH_near_97 rfl (by decide) (w_pv rfl) rfl ?_
                  refine Rn.goto (tgt := 59) d_BH_near_100 (by decide) ?_
                  rw [e2 (by omega)] at ih
                  exact ih
                · refine Rn.iload d_BH_near_89 rfl ?_
                  refine Rn.istore (lv1 := [_, _, _, _, _, _, _, _]) d_BH_near_91 (by decide) (w_pv rfl) rfl ?_
                  refine Rn.iload d_BH_near_93 rfl ?_
                  refine Rn.istore (lv1 := [_, _, _, _, _, _, _, _]) d_BH_near_95 (by decide) (w_pv rfl) rfl ?_
                  refine In.inc (lv1 := [_, _, _, _, _, _, _, _]) d_BH_near_97 rfl (by decide) (w_pv rfl) rfl ?_
                  refine Rn.goto (tgt := 59) d_BH_near_100 (by decide) ?_
                  rw [e1 (by omega)] at ih
                  exact ih
          exact loop 11 0 _ rfl
        refine Rn.iload_n d_BH_near_27 rfl ?_
        refine Rn.iconst (v := iI 2) d_BH_near_28 rfl ?_
        refine In.icmp_lt (tgt := 36) d_BH_near_29 (by decide) ⟨by omega, by omega⟩ ⟨by omega, by omega⟩ (fun c29 => ?_) (fun c29 => ?_)
        · refine Rn.iconst (v := iI 0) d_BH_near_36 rfl ?_
          exact L false (decide_eq_false (by omega)).symm
        · refine Rn.iconst (v := iI 1) d_BH_near_32 rfl ?_
          refine Rn.goto (tgt := 37) d_BH_near_33 (by decide) ?_
          exact L true (decide_eq_true (by omega)).symm
      · rw [v2 q1 (by omega)]
        refine Rn.bipush (v := iI (-6)) d_BH_near_24 (by decide +kernel) ?_
        exact Rn.iret d_BH_near_26 rfl rfl ⟨rfl, hA, Off.rf⟩
    · rw [v1 (by omega)]
      refine Rn.bipush (v := iI (-2)) d_BH_near_9 (by decide +kernel) ?_
      exact Rn.iret d_BH_near_11 rfl rfl ⟨rfl, hA, Off.rf⟩
theorem m_BH_room {M : wM} {β : Nat → Int} {n : Nat} {σ : Nat → Int} {m : Nat} {τ : Nat → Int} {I J : wIm} {x w V : Int} {P : Nat → Bool} (hG : M.2.2 = RG) (hA : clsAt M β n σ m τ I J) (hV : aLok β n σ m τ I J) (hx : -2147483648 ≤ x ∧ x < 2147483648) (hw : -2147483648 ≤ w ∧ w < 2147483648) (hP : ∀ s, P s = true ↔ standS β x s)
    (v1 : ¬ ((0 ≤ x ∧ x ≤ 11) ∧ (0 ≤ w ∧ w ≤ 1)) → V = -2) (v2 : (0 ≤ x ∧ x ≤ 11) → w = 0 → V = pc (moN P 4095)) (v3 : (0 ≤ x ∧ x ≤ 11) → w = 1 → V = moN P 4095) : EvI k_BH_room [.ref 0, .int (iI x), .int (iI w)] SH M (fun r M' => r = iI V ∧ clsAt M' β n σ m τ I J ∧ Off M M' 0 47) := by
  refine EvI.of 1 (by decide) (Nat.le_of_ble_eq_true rfl) rfl ?_
  have bad : ¬ ((0 ≤ x ∧ x ≤ 11) ∧ (0 ≤ w ∧ w ≤ 1)) → Rn k_BH_room none (0, 0) 19 [some (.ref 0), some (.int (iI x)), some (.int (iI w)), none] [] SH M (w_FI (0, 0) SH (fun r M' => r = iI V ∧ clsAt M' β n σ m τ I J ∧ Off M M' 0 47)) := by
    intro q
    rw [v1 q]
    refine Rn.bipush (v := iI (-2)) d_BH_room_19 (by decide +kernel) ?_
    exact Rn.iret d_BH_room_21 rfl rfl ⟨rfl, hA, Off.rf⟩
  refine Rn.iload_n d_BH_room_0 rfl ?_
  refine In.if_lt (tgt := 19) d_BH_room_1 (by decide) ⟨by omega, by omega⟩ (fun c1 => ?_) (fun c1 => ?_)
  · exact bad (by omega)
  · refine Rn.iload_n d_BH_room_4 rfl ?_
    refine Rn.bipush (v := iI 11) d_BH_room_5 (by decide +kernel) ?_
    refine In.icmp_gt (tgt := 19) d_BH_room_7 (by decide) ⟨by omega, by omega⟩ ⟨by omega, by omega⟩ (fun c7 => ?_) (fun c7 => ?_)
    · exact bad (by omega)
    · refine Rn.iload_n d_BH_room_10 rfl ?_
      refine In.if_lt (tgt := 19) d_BH_room_11 (by decide) ⟨by omega, by omega⟩ (fun c11 => ?_) (fun c11 => ?_)
      · exact bad (by omega)
      · refine Rn.iload_n d_BH_room_14 rfl ?_
        refine Rn.iconst (v := iI 1) d_BH_room_15 rfl ?_
        refine In.icmp_le (tgt := 22) d_BH_room_16 (by decide) ⟨by omega, by omega⟩ ⟨by omega, by omega⟩ (fun c16 => ?_) (fun c16 => ?_)
        · have hle := moN_le P 4095
          refine Rn.aload_n d_BH_room_22 rfl ?_
          refine Rn.getR d_BH_room_23 f_BH_choice g_190 z_BH (r_BH_choice (by assumption)) ?_
          refine Rn.aload_n d_BH_room_26 rfl ?_
          refine Rn.getR d_BH_room_27 f_BH_hill g_186 z_BH (r_BH_hill (by assumption)) ?_
          refine Rn.cVR d_BH_room_30 s_BH_room_Hill_tree g_221 g_222 g_223 ⟨rfl, rfl⟩ ⟨Nat.zero_le _, Nat.zero_le _⟩ (m_Hill_tree i_BH_hill hG) rfl rfl (z_Hill (by first | assumption | exact i_Image_hill (by assumption) | exact i_BH_hill | exact i_Telling_hill | exact i_Year_hill)) c_Hill (Nat.le_of_ble_eq_true rfl) (fun rr MM qq => ?_)
          obtain ⟨rfl, rfl⟩ := And.imp id Eq.symm qq; clear qq
          refine Rn.iload_n d_BH_room_33 rfl ?_
          refine Rn.cVI d_BH_room_34 s_BH_room_Choice_mostApart g_495 g_496 g_497 ⟨rfl, rfl⟩ ⟨Nat.zero_le _, Nat.zero_le _⟩ (m_Choice_mostApart (P := P) (i_Hill_tree i_BH_hill) (by omega) hG hA.1.1 hV.1.t (show 0 ≤ x ∧ x ≤ 11 by omega) hP) rfl rfl z_Choice c_Choice (Nat.le_of_ble_eq_true rfl) (fun rr M1 qq => ?_)
          obtain ⟨rfl, hO⟩ := qq
          have hA1 := hA.off hO (by omega)
          refine Rn.istore_n (lv1 := [_, _, _, _]) d_BH_room_37 (by decide) (w_pv rfl) rfl ?_
          refine Rn.iload_n d_BH_room_38 rfl ?_
          refine In.if_ne (tgt := 49) d_BH_room_39 (by decide) ⟨by omega, by omega⟩ (fun c39 => ?_) (fun c39 => ?_)
          · rw [v3 (by omega) (by omega)]
            refine Rn.iload_n d_BH_room_49 rfl ?_
            exact Rn.iret d_BH_room_50 rfl rfl ⟨rfl, hA1, hO.wide (by omega) (by omega)⟩
          · rw [v2 (by omega) c39]
            refine Rn.iload_n d_BH_room_42 rfl ?_
            refine Rn.cSI d_BH_room_43 s_BH_room_Int_bitCount g_510 g_358 ⟨rfl, rfl⟩ ⟨Nat.zero_le _, Nat.zero_le _⟩ (m_Int_bitCount (show moN P 4095 < 4096 by omega)) rfl rfl (Nat.le_of_ble_eq_true rfl) (fun rr MM qq => ?_)
            obtain ⟨rfl, rfl⟩ := And.imp id Eq.symm qq; clear qq
            refine Rn.goto (tgt := 50) d_BH_room_46 (by decide) ?_
            exact Rn.iret d_BH_room_50 rfl rfl ⟨rfl, hA1, hO.wide (by omega) (by omega)⟩
        · exact bad (by omega)
theorem m_BH_candles {M : wM} {β : Nat → Int} {n : Nat} {σ : Nat → Int} {m : Nat} {τ : Nat → Int} {I J : wIm} {x w V : Int} {P : Nat → Bool} (hG : M.2.2 = RG) (hA : clsAt M β n σ m τ I J) (hV : aLok β n σ m τ I J) (hx : -2147483648 ≤ x ∧ x < 2147483648) (hw : -2147483648 ≤ w ∧ w < 2147483648) (hP : ∀ s, P s = true ↔ litN β x s 12 = 4095)
    (v1 : ¬ ((0 ≤ x ∧ x ≤ 11) ∧ (0 ≤ w ∧ w ≤ 1)) → V = -2) (v2 : (0 ≤ x ∧ x ≤ 11) → w = 0 → V = pc (feN P 4094)) (v3 : (0 ≤ x ∧ x ≤ 11) → w = 1 → V = feN P 4094) : EvI k_BH_candles [.ref 0, .int (iI x), .int (iI w)] SH M (fun r M' => r = iI V ∧ clsAt M' β n σ m τ I J ∧ Off M M' 0 47) := by
  refine EvI.of 1 (by decide) (Nat.le_of_ble_eq_true rfl) rfl ?_
  have bad : ¬ ((0 ≤ x ∧ x ≤ 11) ∧ (0 ≤ w ∧ w ≤ 1)) → Rn k_BH_candles none (0, 0) 19 [some (.ref 0), some (.int (iI x)), some (.int (iI w)), none] [] SH M (w_FI (0, 0) SH (fun r M' => r = iI V ∧ clsAt M' β n σ m τ I J ∧ Off M M' 0 47)) := by
    intro q
    rw [v1 q]
    refine Rn.bipush (v := iI (-2)) d_BH_candles_19 (by decide +kernel) ?_
    exact Rn.iret d_BH_candles_21 rfl rfl ⟨rfl, hA, Off.rf⟩
  refine Rn.iload_n d_BH_candles_0 rfl ?_
  refine In.if_lt (tgt := 19) d_BH_candles_1 (by decide) ⟨by omega, by omega⟩ (fun c1 => ?_) (fun c1 => ?_)
  · exact bad (by omega)
  · refine Rn.iload_n d_BH_candles_4 rfl ?_
    refine Rn.bipush (v := iI 11) d_BH_candles_5 (by decide +kernel) ?_
    refine In.icmp_gt (tgt := 19) d_BH_candles_7 (by decide) ⟨by omega, by omega⟩ ⟨by omega, by omega⟩ (fun c7 => ?_) (fun c7 => ?_)
    · exact bad (by omega)
    · refine Rn.iload_n d_BH_candles_10 rfl ?_
      refine In.if_lt (tgt := 19) d_BH_candles_11 (by decide) ⟨by omega, by omega⟩ (fun c11 => ?_) (fun c11 => ?_)
      · exact bad (by omega)
      · refine Rn.iload_n d_BH_candles_14 rfl ?_
        refine Rn.iconst (v := iI 1) d_BH_candles_15 rfl ?_
        refine In.icmp_le (tgt := 22) d_BH_candles_16 (by decide) ⟨by omega, by omega⟩ ⟨by omega, by omega⟩ (fun c16 => ?_) (fun c16 => ?_)
        · have hle := feN_le P 4094 (by decide)
          refine Rn.aload_n d_BH_candles_22 rfl ?_
          refine Rn.getR d_BH_candles_23 f_BH_choice g_190 z_BH (r_BH_choice (by assumption)) ?_
          refine Rn.aload_n d_BH_candles_26 rfl ?_
          refine Rn.getR d_BH_candles_27 f_BH_hill g_186 z_BH (r_BH_hill (by assumption)) ?_
          refine Rn.cVR d_BH_candles_30 s_BH_candles_Hill_tree g_221 g_222 g_223 ⟨rfl, rfl⟩ ⟨Nat.zero_le _, Nat.zero_le _⟩ (m_Hill_tree i_BH_hill hG) rfl rfl (z_Hill (by first | assumption | exact i_Image_hill (by assumption) | exact i_BH_hill | exact i_Telling_hill | exact i_Year_hill)) c_Hill (Nat.le_of_ble_eq_true rfl) (fun rr MM qq => ?_)
          obtain ⟨rfl, rfl⟩ := And.imp id Eq.symm qq; clear qq
          refine Rn.iload_n d_BH_candles_33 rfl ?_
          refine Rn.cVI d_BH_candles_34 s_BH_candles_Choice_fewestLighting g_515 g_516 g_517 ⟨rfl, rfl⟩ ⟨Nat.zero_le _, Nat.zero_le _⟩ (m_Choice_fewestLighting (P := P) (i_Hill_tree i_BH_hill) (by omega) hG hA.1.1 hV.1.t (show 0 ≤ x ∧ x ≤ 11 by omega) hP) rfl rfl z_Choice c_Choice (Nat.le_of_ble_eq_true rfl) (fun rr M1 qq => ?_)
          obtain ⟨rfl, hO⟩ := qq
          have hA1 := hA.off hO (by omega)
          refine Rn.istore_n (lv1 := [_, _, _, _]) d_BH_candles_37 (by decide) (w_pv rfl) rfl ?_
          refine Rn.iload_n d_BH_candles_38 rfl ?_
          refine In.if_ne (tgt := 49) d_BH_candles_39 (by decide) ⟨by omega, by omega⟩ (fun c39 => ?_) (fun c39 => ?_)
          · rw [v3 (by omega) (by omega)]
            refine Rn.iload_n d_BH_candles_49 rfl ?_
            exact Rn.iret d_BH_candles_50 rfl rfl ⟨rfl, hA1, hO.wide (by omega) (by omega)⟩
          · rw [v2 (by omega) c39]
            refine Rn.iload_n d_BH_candles_42 rfl ?_
            refine Rn.cSI d_BH_candles_43 s_BH_candles_Int_bitCount g_510 g_358 ⟨rfl, rfl⟩ ⟨Nat.zero_le _, Nat.zero_le _⟩ (m_Int_bitCount (show feN P 4094 < 4096 by omega)) rfl rfl (Nat.le_of_ble_eq_true rfl) (fun rr MM qq => ?_)
            obtain ⟨rfl, rfl⟩ := And.imp id Eq.symm qq; clear qq
            refine Rn.goto (tgt := 50) d_BH_candles_46 (by decide) ?_
            exact Rn.iret d_BH_candles_50 rfl rfl ⟨rfl, hA1, hO.wide (by omega) (by omega)⟩
        · exact bad (by omega)
theorem m_BH_seen {M : wM} {β : Nat → Int} {n : Nat} {σ : Nat → Int} {m : Nat} {τ : Nat → Int} {I J : wIm} {l v : Int} {Rr : Int × Nat × (Nat → Int)} (hG : M.2.2 = RG) (hA : clsAt M β n σ m τ I J) (hV : aLok β n σ m τ I J) (hl : -2147483648 ≤ l ∧ l < 2147483648) (hv : -2147483648 ≤ v ∧ v < 2147483648)
    (v1 : ¬ lpq l → Rr = (-1, m, τ)) (v2 : lpq l → ¬ (0 ≤ v ∧ v ≤ 11) → Rr = (-2, m, τ)) (v3 : lpq l → (0 ≤ v ∧ v ≤ 11) → m = 8 → Rr = (-4, m, τ)) (v4 : lpq l → (0 ≤ v ∧ v ≤ 11) → m < 8 → Rr = (((m + 1 : Nat) : Int), m + 1, up (up τ (2 * m) l) (2 * m + 1) v)) : EvI k_BH_seen [.ref 0, .int (iI l), .int (iI v)] SH M (fun r M' => r = iI Rr.1 ∧ clsAt M' β n σ Rr.2.1 Rr.2.2 I J ∧ Off M M' 0 47) := by
  refine EvI.of 0 (by decide) (Nat.le_of_ble_eq_true rfl) rfl ?_
  have hm := hV.2.2.1.1
  refine Rn.iload_n d_BH_seen_0 rfl ?_
  refine Rn.cSI d_BH_seen_1 s_BH_seen_BH_isLoop g_218 g_219 ⟨rfl, rfl⟩ ⟨Nat.zero_le _, Nat.zero_le _⟩ (m_BH_isLoop hl) rfl rfl (Nat.le_of_ble_eq_true rfl) (fun rr MM qq => ?_)
  obtain ⟨rfl, rfl⟩ := And.imp id Eq.symm qq; clear qq
  refine In.if_ne (tgt := 9) d_BH_seen_4 (by decide) fl_rg (fun c4 => ?_) (fun c4 => ?_)
  · have q1 := fl_ne c4
    refine Rn.iload_n d_BH_seen_9 rfl ?_
    refine In.if_lt (tgt := 19) d_BH_seen_10 (by decide) ⟨by omega, by omega⟩ (fun c10 => ?_) (fun c10 => ?_)
    · rw [v2 q1 (by omega)]
      refine Rn.bipush (v := iI (-2)) d_BH_seen_19 (by decide +kernel) ?_
      exact Rn.iret d_BH_seen_21 rfl rfl ⟨rfl, hA, Off.rf⟩
    · refine Rn.iload_n d_BH_seen_13 rfl ?_
      refine Rn.bipush (v := iI 11) d_BH_seen_14 (by decide +kernel) ?_
      refine In.icmp_le (tgt := 22) d_BH_seen_16 (by decide) ⟨by omega, by omega⟩ ⟨by omega, by omega⟩ (fun c16 => ?_) (fun c16 => ?_)
      · refine Rn.aload_n d_BH_seen_22 rfl ?_
        refine Rn.getR d_BH_seen_23 f_BH_sights g_187 z_BH (r_BH_sights (by assumption)) ?_
        refine Rn.cVI d_BH_seen_26 s_BH_seen_Sights_size g_527 g_528 g_529 ⟨rfl, rfl⟩ ⟨Nat.zero_le _, Nat.zero_le _⟩ (m_Sights_size i_BH_sights hA.2.2.1) rfl rfl (z_Sights (by first | assumption | exact i_Image_sights (by assumption) | exact i_BH_sights)) c_Sights (Nat.le_of_ble_eq_true rfl) (fun rr MM qq => ?_)
        obtain ⟨rfl, rfl⟩ := And.imp id Eq.symm qq; clear qq
        refine Rn.bipush (v := iI 8) d_BH_seen_29 (by decide +kernel) ?_
        refine In.icmp_lt (tgt := 37) d_BH_seen_31 (by decide) ⟨by omega, by omega⟩ ⟨by omega, by omega⟩ (fun c31 => ?_) (fun c31 => ?_)
        · rw [v4 q1 (by omega) (by omega)]
          refine Rn.aload_n d_BH_seen_37 rfl ?_
          refine Rn.getR d_BH_seen_38 f_BH_sights g_187 z_BH (r_BH_sights (by assumption)) ?_
          refine Rn.iload_n d_BH_seen_41 rfl ?_
          refine Rn.iload_n d_BH_seen_42 rfl ?_
          refine Rn.cVV d_BH_seen_43 s_BH_seen_Sights_add g_531 g_532 g_533 ⟨rfl, rfl⟩ ⟨Nat.zero_le _, Nat.zero_le _⟩ (m_Sights_add i_BH_sights hG hA.2.2.1 (show m < 8 by omega)) rfl rfl (z_Sights (by first | assumption | exact i_Image_sights (by assumption) | exact i_BH_sights)) c_Sights (Nat.le_of_ble_eq_true rfl) (fun M1 qq => ?_)
          obtain ⟨hS, hO⟩ := qq
          have hG1 := hO.G hG
          refine Rn.aload_n d_BH_seen_46 rfl ?_
          refine Rn.getR d_BH_seen_47 f_BH_sights g_187 z_BH (r_BH_sights (by assumption)) ?_
          refine Rn.cVI d_BH_seen_50 s_BH_seen_Sights_size g_527 g_528 g_529 ⟨rfl, rfl⟩ ⟨Nat.zero_le _, Nat.zero_le _⟩ (m_Sights_size i_BH_sights hS) rfl rfl (z_Sights (by first | assumption | exact i_Image_sights (by assumption) | exact i_BH_sights)) c_Sights (Nat.le_of_ble_eq_true rfl) (fun rr MM qq => ?_)
          obtain ⟨rfl, rfl⟩ := And.imp id Eq.symm qq; clear qq
          exact Rn.iret d_BH_seen_53 rfl rfl ⟨rfl, hA.sg hS hO, hO.wide (by omega) (by omega)⟩
        · rw [v3 q1 (by omega) (by omega)]
          refine Rn.bipush (v := iI (-4)) d_BH_seen_34 (by decide +kernel) ?_
          exact Rn.iret d_BH_seen_36 rfl rfl ⟨rfl, hA, Off.rf⟩
      · rw [v2 q1 (by omega)]
        refine Rn.bipush (v := iI (-2)) d_BH_seen_19 (by decide +kernel) ?_
        exact Rn.iret d_BH_seen_21 rfl rfl ⟨rfl, hA, Off.rf⟩
  · rw [v1 (fl_eq c4)]
    refine Rn.iconst (v := iI (-1)) d_BH_seen_7 rfl ?_
    exact Rn.iret d_BH_seen_8 rfl rfl ⟨rfl, hA, Off.rf⟩
theorem m_BH_forget {M : wM} {β : Nat → Int} {n : Nat} {σ : Nat → Int} {m : Nat} {τ : Nat → Int} {I J : wIm} (hG : M.2.2 = RG) (hA : clsAt M β n σ m τ I J) : EvI k_BH_forget [.ref 0] SH M (fun r M' => r = iI m ∧ clsAt M' β n σ 0 τ I J ∧ Off M M' 0 47) := by
  refine EvI.of 1 (by decide) (Nat.le_of_ble_eq_true rfl) rfl ?_
  refine Rn.aload_n d_BH_forget_0 rfl ?_
  refine Rn.getR d_BH_forget_1 f_BH_sights g_187 z_BH (r_BH_sights (by assumption)) ?_
  refine Rn.cVI d_BH_forget_4 s_BH_forget_Sights_size g_527 g_528 g_529 ⟨rfl, rfl⟩ ⟨Nat.zero_le _, Nat.zero_le _⟩ (m_Sights_size i_BH_sights hA.2.2.1) rfl rfl (z_Sights (by first | assumption | exact i_Image_sights (by assumption) | exact i_BH_sights)) c_Sights (Nat.le_of_ble_eq_true rfl) (fun rr MM qq => ?_)
  obtain ⟨rfl, rfl⟩ := And.imp id Eq.symm qq; clear qq
  refine Rn.istore_n (lv1 := [_, _]) d_BH_forget_7 (by decide) (w_pv rfl) rfl ?_
  refine Rn.aload_n d_BH_forget_8 rfl ?_
  refine Rn.getR d_BH_forget_9 f_BH_sights g_187 z_BH (r_BH_sights (by assumption)) ?_
  refine Rn.cVV d_BH_forget_12 s_BH_forget_Sights_clear g_539 g_540 g_541 ⟨rfl, rfl⟩ ⟨Nat.zero_le _, Nat.zero_le _⟩ (m_Sights_clear i_BH_sights hA.2.2.1) rfl rfl (z_Sights (by first | assumption | exact i_Image_sights (by assumption) | exact i_BH_sights)) c_Sights (Nat.le_of_ble_eq_true rfl) (fun MM qq => ?_)
  obtain ⟨hS, hO⟩ := qq
  refine Rn.iload_n d_BH_forget_15 rfl ?_
  exact Rn.iret d_BH_forget_16 rfl rfl ⟨rfl, hA.sg hS hO, hO.wide (by omega) (by omega)⟩
theorem m_BH_where {M : wM} {β : Nat → Int} {n : Nat} {σ : Nat → Int} {m : Nat} {τ : Nat → Int} {I J : wIm} {i V : Int} (hG : M.2.2 = RG) (hA : clsAt M β n σ m τ I J) (hV : aLok β n σ m τ I J) (hi : -2147483648 ≤ i ∧ i < 2147483648) (v1 : i = -1 → V = pc (fitN β τ m)) (v2 : i ≠ -1 → V = nth (fun k => (fitN β τ m).testBit k) 12 0 0 i) : EvI k_BH_where [.ref 0, .int (iI i)] SH M (fun r M' => r = iI V ∧ clsAt M' β n σ m τ I J ∧ Off M M' 0 47) := by
  refine EvI.of 1 (by decide) (Nat.le_of_ble_eq_true rfl) rfl ?_
  have hlt := fitN_lt β τ m
  refine Rn.aload_n d_BH_where_0 rfl ?_
  refine Rn.getR d_BH_where_1 f_BH_sights g_187 z_BH (r_BH_sights (by assumption)) ?_
  refine Rn.aload_n d_BH_where_4 rfl ?_
  refine Rn.getR d_BH_where_5 f_BH_hill g_186 z_BH (r_BH_hill (by assumption)) ?_
  refine Rn.cVR d_BH_where_8 s_BH_where_Hill_tree g_221 g_222 g_223 ⟨rfl, rfl⟩ ⟨Nat.zero_le _, Nat.zero_le _⟩ (m_Hill_tree i_BH_hill hG) rfl rfl (z_Hill (by first | assumption | exact i_Image_hill (by assumption) | exact i_BH_hill | exact i_Telling_hill | exact i_Year_hill)) c_Hill (Nat.le_of_ble_eq_true rfl) (fun rr MM qq => ?_)
  obtain ⟨rfl, rfl⟩ := And.imp id Eq.symm qq; clear qq
  refine Rn.cVI d_BH_where_11 s_BH_where_Sights_fitting g_547 g_548 g_549 ⟨rfl, rfl⟩ ⟨Nat.zero_le _, Nat.zero_le _⟩ (m_Sights_fitting i_BH_sights (i_Hill_tree i_BH_hill) hG hA.2.2.1 hV.2.2.1 hA.1.1 hV.1.t) rfl rfl (z_Sights (by first | assumption | exact i_Image_sights (by assumption) | exact i_BH_sights)) c_Sights (Nat.le_of_ble_eq_true rfl) (fun rr MM qq => ?_)
  obtain ⟨rfl, rfl⟩ := And.imp id Eq.symm qq; clear qq
  refine Rn.istore_n (lv1 := [_, _, _]) d_BH_where_14 (by decide) (w_pv rfl) rfl ?_
  refine Rn.iload_n d_BH_where_15 rfl ?_
  refine Rn.iconst (v := iI (-1)) d_BH_where_16 rfl ?_
  refine In.icmp_ne (tgt := 27) d_BH_where_17 (by decide) ⟨by omega, by omega⟩ ⟨by omega, by omega⟩ (fun c17 => ?_) (fun c17 => ?_)
  · rw [v2 c17]
    refine Rn.iload_n d_BH_where_27 rfl ?_
    refine Rn.iload_n d_BH_where_28 rfl ?_
    refine Rn.cSI d_BH_where_29 s_BH_where_BH_memberAt g_472 g_411 ⟨rfl, rfl⟩ ⟨Nat.zero_le _, Nat.zero_le _⟩ (m_BH_memberAt (show fitN β τ m < 2147483648 by omega) hi) rfl rfl (Nat.le_of_ble_eq_true rfl) (fun rr MM qq => ?_)
    obtain ⟨rfl, rfl⟩ := And.imp id Eq.symm qq; clear qq
    exact Rn.iret d_BH_where_32 rfl rfl ⟨rfl, hA, Off.rf⟩
  · rw [v1 c17]
    refine Rn.iload_n d_BH_where_20 rfl ?_
    refine Rn.cSI d_BH_where_21 s_BH_where_Int_bitCount g_510 g_358 ⟨rfl, rfl⟩ ⟨Nat.zero_le _, Nat.zero_le _⟩ (m_Int_bitCount hlt) rfl rfl (Nat.le_of_ble_eq_true rfl) (fun rr MM qq => ?_)
    obtain ⟨rfl, rfl⟩ := And.imp id Eq.symm qq; clear qq
    refine Rn.goto (tgt := 32) d_BH_where_24 (by decide) ?_
    exact Rn.iret d_BH_where_32 rfl rfl ⟨rfl, hA, Off.rf⟩
theorem m_BH_ask {M : wM} {β : Nat → Int} {n : Nat} {σ : Nat → Int} {m : Nat} {τ : Nat → Int} {I J : wIm} {w V : Int} (hG : M.2.2 = RG) (hA : clsAt M β n σ m τ I J) (hV : aLok β n σ m τ I J) (hw : -2147483648 ≤ w ∧ w < 2147483648) (v1 : ¬ (0 ≤ w ∧ w ≤ 1) → V = -2) (v2 : (0 ≤ w ∧ w ≤ 1) → fitN β τ m = 0 → V = -6) (v3 : fitN β τ m ≠ 0 → w = 0 → V = (fAskN β (fitN β τ m) 11).1) (v4 : fitN β τ m ≠ 0 → w = 1 → V = (fAskN β (fitN β τ m) 11).2) : EvI k_BH_ask [.ref 0, .int (iI w)] SH M (fun r M' => r = iI V ∧ clsAt M' β n σ m τ I J ∧ Off M M' 0 47) := by
  refine EvI.of 5 (by decide) (Nat.le_of_ble_eq_true rfl) rfl ?_
  have hlt := fitN_lt β τ m
  have ht := hV.1.t
  refine Rn.iload_n d_BH_ask_0 rfl ?_
  refine In.if_lt (tgt := 9) d_BH_ask_1 (by decide) ⟨by omega, by omega⟩ (fun c1 => ?_) (fun c1 => ?_)
  · rw [v1 (by omega)]
    refine Rn.bipush (v := iI (-2)) d_BH_ask_9 (by decide +kernel) ?_
    exact Rn.iret d_BH_ask_11 rfl rfl ⟨rfl, hA, Off.rf⟩
  · refine Rn.iload_n d_BH_ask_4 rfl ?_
    refine Rn.iconst (v := iI 1) d_BH_ask_5 rfl ?_
    refine In.icmp_le (tgt := 12) d_BH_ask_6 (by decide) ⟨by omega, by omega⟩ ⟨by omega, by omega⟩ (fun c6 => ?_) (fun c6 => ?_)
    · refine Rn.aload_n d_BH_ask_12 rfl ?_
      refine Rn.getR d_BH_ask_13 f_BH_sights g_187 z_BH (r_BH_sights (by assumption)) ?_
      refine Rn.aload_n d_BH_ask_16 rfl ?_
      refine Rn.getR d_BH_ask_17 f_BH_hill g_186 z_BH (r_BH_hill (by assumption)) ?_
      refine Rn.cVR d_BH_ask_20 s_BH_ask_Hill_tree g_221 g_222 g_223 ⟨rfl, rfl⟩ ⟨Nat.zero_le _, Nat.zero_le _⟩ (m_Hill_tree i_BH_hill hG) rfl rfl (z_Hill (by first | assumption | exact i_Image_hill (by assumption) | exact i_BH_hill | exact i_Telling_hill | exact i_Year_hill)) c_Hill (Nat.le_of_ble_eq_true rfl) (fun rr MM qq => ?_)
      obtain ⟨rfl, rfl⟩ := And.imp id Eq.symm qq; clear qq
      refine Rn.cVI d_BH_ask_23 s_BH_ask_Sights_fitting g_547 g_548 g_549 ⟨rfl, rfl⟩ ⟨Nat.zero_le _, Nat.zero_le _⟩ (m_Sights_fitting i_BH_sights (i_Hill_tree i_BH_hill) hG hA.2.2.1 hV.2.2.1 hA.1.1 ht) rfl rfl (z_Sights (by first | assumption | exact i_Image_sights (by assumption) | exact i_BH_sights)) c_Sights (Nat.le_of_ble_eq_true rfl) (fun rr MM qq => ?_)
      obtain ⟨rfl, rfl⟩ := And.imp id Eq.symm qq; clear qq
      refine Rn.istore_n (lv1 := [_, _, _, _, _, _, _]) d_BH_ask_26 (by decide) (w_pv rfl) rfl ?_
      refine Rn.iload_n d_BH_ask_27 rfl ?_
      generalize hfit : fitN β τ m = s at *
      refine In.if_ne (tgt := 34) d_BH_ask_28 (by decide) ⟨by omega, by omega⟩ (fun c28 => ?_) (fun c28 => ?_)
      · have q2 : s ≠ 0 := by omega
        refine Rn.iconst (v := iI 0) d_BH_ask_34 rfl ?_
        refine Rn.istore_n (lv1 := [_, _, _, _, _, _, _]) d_BH_ask_35 (by decide) (w_pv rfl) rfl ?_
        refine Rn.aload_n d_BH_ask_36 rfl ?_
        refine Rn.getR d_BH_ask_37 f_BH_hill g_186 z_BH (r_BH_hill (by assumption)) ?_
        refine Rn.cVR d_BH_ask_40 s_BH_ask_Hill_tree g_221 g_222 g_223 ⟨rfl, rfl⟩ ⟨Nat.zero_le _, Nat.zero_le _⟩ (m_Hill_tree i_BH_hill hG) rfl rfl (z_Hill (by first | assumption | exact i_Image_hill (by assumption) | exact i_BH_hill | exact i_Telling_hill | exact i_Year_hill)) c_Hill (Nat.le_of_ble_eq_true rfl) (fun rr MM qq => ?_)
        obtain ⟨rfl, rfl⟩ := And.imp id Eq.symm qq; clear qq
        refine Rn.iconst (v := iI 0) d_BH_ask_43 rfl ?_
        refine Rn.iload_n d_BH_ask_44 rfl ?_
        refine Rn.cVI d_BH_ask_45 s_BH_ask_Tree_mostLeft g_556 g_557 g_558 ⟨rfl, rfl⟩ ⟨Nat.zero_le _, Nat.zero_le _⟩ (m_Tree_mostLeft (l := 0) (s := s) (i_Hill_tree i_BH_hill) hG hA.1.1 ht (by decide)) rfl rfl (z_Tree (by first | assumption | exact i_Hill_tree (by assumption) | exact i_Hill_tree i_BH_hill)) c_Tree (Nat.le_of_ble_eq_true rfl) (fun rr MM qq => ?_)
        obtain ⟨rfl, rfl⟩ := And.imp id Eq.symm qq; clear qq
        refine Rn.istore (lv1 := [_, _, _, _, _, _, _]) d_BH_ask_48 (by decide) (w_pv rfl) rfl ?_
        refine Rn.iconst (v := iI 1) d_BH_ask_50 rfl ?_
        refine Rn.istore (lv1 := [_, _, _, _, _, _, _]) d_BH_ask_51 (by decide) (w_pv rfl) rfl ?_
        have loop : ∀ (d k : Nat) (x6 : Option Value), k + d = 11 → Rn k_BH_ask none (0, 0) 53 [some (.ref 0), some (.int (iI w)), some (.int (iI s)), some (.int (iI (fAskN β s k).1)), some (.int (iI (fAskN β s k).2)), some (.int (iI (k + 1 : Nat))), x6] [] SH M (w_FI (0, 0) SH (fun r M' => r = iI V ∧ clsAt M' β n σ m τ I J ∧ Off M M' 0 47)) := by
          intro d
          induction d with
          | zero =>
            intro k x6 h1
            have : k = 11 := by omega
            subst this
            refine Rn.iload d_BH_ask_53 rfl ?_
            refine Rn.bipush (v := iI 12) d_BH_ask_55 (by decide +kernel) ?_
            refine In.icmp_ge (tgt := 95) d_BH_ask_57 (by decide) ⟨by omega, by omega⟩ ⟨by omega, by omega⟩ (fun c57 => ?_) (fun c57 => ?_)
            · refine Rn.iload_n d_BH_ask_95 rfl ?_
              refine In.if_ne (tgt := 103) d_BH_ask_96 (by decide) ⟨by omega, by omega⟩ (fun c96 => ?_) (fun c96 => ?_)
              · rw [v4 q2 (by omega)]
                refine Rn.iload d_BH_ask_103 rfl ?_
                exact Rn.iret d_BH_ask_105 rfl rfl ⟨rfl, hA, Off.rf⟩
              · rw [v3 q2 c96]
                refine Rn.iload_n d_BH_ask_99 rfl ?_
                refine Rn.goto (tgt := 105) d_BH_ask_100 (by decide) ?_
                exact Rn.iret d_BH_ask_105 rfl rfl ⟨rfl, hA, Off.rf⟩
            · omega
          | succ d ih =>
            intro k x6 h1
            have b1 := mlF_le β (k + 1) s 12
            have b2 := fAskN_le β s k
            have e1 : mlF β (k + 1) s 12 < (fAskN β s k).2 → fAskN β s (k + 1) = (k + 1, mlF β (k + 1) s 12) := fun q => by simp only [fAskN]; rw [if_pos q]
            have e2 : ¬ mlF β (k + 1) s 12 < (fAskN β s k).2 → fAskN β s (k + 1) = fAskN β s k := fun q => by simp only [fAskN]; rw [if_neg q]
            have ih := ih (k + 1) (some (.int (iI (mlF β (k + 1) s 12)))) (by omega)
            refine Rn.iload d_BH_ask_53 rfl ?_
            refine Rn.bipush (v := iI 12) d_BH_ask_55 (by decide +kernel) ?_
            refine In.icmp_ge (tgt := 95) d_BH_ask_57 (by decide) ⟨by omega, by omega⟩ ⟨by omega, by omega⟩ (fun c57 => ?_) (fun c57 => ?_)
            · omega
            · refine Rn.aload_n d_BH_ask_60 rfl ?_
              refine Rn.getR d_BH_ask_61 f_BH_hill g_186 z_BH (r_BH_hill (by assumption)) ?_
              refine Rn.cVR d_BH_ask_64 s_BH_ask_Hill_tree g_221 g_222 g_223 ⟨rfl, rfl⟩ ⟨Nat.zero_le _, Nat.zero_le _⟩ (m_Hill_tree i_BH_hill hG) rfl rfl (z_Hill (by first | assumption | exact i_Image_hill (by assumption) | exact i_BH_hill | exact i_Telling_hill | exact i_Year_hill)) c_Hill (Nat.le_of_ble_eq_true rfl) (fun rr MM qq => ?_)
              obtain ⟨rfl, rfl⟩ := And.imp id Eq.symm qq; clear qq
              refine Rn.iload d_BH_ask_67 rfl ?_
              refine Rn.iload_n d_BH_ask_69 rfl ?_
              refine Rn.cVI d_BH_ask_70 s_BH_ask_Tree_mostLeft g_556 g_557 g_558 ⟨rfl, rfl⟩ ⟨Nat.zero_le _, Nat.zero_le _⟩ (m_Tree_mostLeft (l := k + 1) (s := s) (i_Hill_tree i_BH_hill) hG hA.1.1 ht (by omega)) rfl rfl (z_Tree (by first | assumption | exact i_Hill_tree (by assumption) | exact i_Hill_tree i_BH_hill)) c_Tree (Nat.le_of_ble_eq_true rfl) (fun rr MM qq => ?_)
              obtain ⟨rfl, rfl⟩ := And.imp id Eq.symm qq; clear qq
              refine Rn.istore (lv1 := [_, _, _, _, _, _, _]) d_BH_ask_73 (by decide) (w_pv rfl) rfl ?_
              refine Rn.iload d_BH_ask_75 rfl ?_
              refine Rn.iload d_BH_ask_77 rfl ?_
              refine In.icmp_ge (tgt := 89) d_BH_ask_79 (by decide) ⟨by omega, by omega⟩ ⟨by omega, by omega⟩ (fun c79 => ?_) (fun c79 => ?_)
              · refine In.inc (lv1 := [_, _, _, _, _, _, _]) d_BH_ask_89 rfl (by decide) (w_pv rfl) rfl ?_
                refine Rn.goto (tgt := 53) d_BH_ask_92 (by decide) ?_
                rw [e2 (by omega)] at ih
                exact ih
              · refine Rn.iload d_BH_ask_82 rfl ?_
                refine Rn.istore_n (lv1 := [_, _, _, _, _, _, _]) d_BH_ask_84 (by decide) (w_pv rfl) rfl ?_
                refine Rn.iload d_BH_ask_85 rfl ?_
                refine Rn.istore (lv1 := [_, _, _, _, _, _, _]) d_BH_ask_87 (by decide) (w_pv rfl) rfl ?_
                refine In.inc (lv1 := [_, _, _, _, _, _, _]) d_BH_ask_89 rfl (by decide) (w_pv rfl) rfl ?_
                refine Rn.goto (tgt := 53) d_BH_ask_92 (by decide) ?_
                rw [e1 (by omega)] at ih
                exact ih
        exact loop 11 0 _ rfl
      · rw [v2 (by omega) (by omega)]
        refine Rn.bipush (v := iI (-6)) d_BH_ask_31 (by decide +kernel) ?_
        exact Rn.iret d_BH_ask_33 rfl rfl ⟨rfl, hA, Off.rf⟩
    · rw [v1 (by omega)]
      refine Rn.bipush (v := iI (-2)) d_BH_ask_9 (by decide +kernel) ?_
      exact Rn.iret d_BH_ask_11 rfl rfl ⟨rfl, hA, Off.rf⟩
theorem m_BH_cut {M : wM} {β : Nat → Int} {n : Nat} {σ : Nat → Int} {m : Nat} {τ : Nat → Int} {I J : wIm} {w V : Int} (hG : M.2.2 = RG) (hA : clsAt M β n σ m τ I J) (hV : aLok β n σ m τ I J) (hw : -2147483648 ≤ w ∧ w < 2147483648) (v1 : ¬ (0 ≤ w ∧ w ≤ 1) → V = -2) (v2 : w = 0 → woF β 0 11 0 ≠ 0 → V = 1) (v3 : w = 0 → woF β 0 11 0 = 0 → V = 0) (v4 : w = 1 → V = fCutN β 11 1) : EvI k_BH_cut [.ref 0, .int (iI w)] SH M (fun r M' => r = iI V ∧ clsAt M' β n σ m τ I J ∧ Off M M' 0 47) := by
  refine EvI.of 1 (by decide) (Nat.le_of_ble_eq_true rfl) rfl ?_
  have ht := hV.1.t
  have hb := fun c => woF_lt β c 11 0
  refine Rn.iload_n d_BH_cut_0 rfl ?_
  refine In.if_lt (tgt := 9) d_BH_cut_1 (by decide) ⟨by omega, by omega⟩ (fun c1 => ?_) (fun c1 => ?_)
  · rw [v1 (by omega)]
    refine Rn.bipush (v := iI (-2)) d_BH_cut_9 (by decide +kernel) ?_
    exact Rn.iret d_BH_cut_11 rfl rfl ⟨rfl, hA, Off.rf⟩
  · refine Rn.iload_n d_BH_cut_4 rfl ?_
    refine Rn.iconst (v := iI 1) d_BH_cut_5 rfl ?_
    refine In.icmp_le (tgt := 12) d_BH_cut_6 (by decide) ⟨by omega, by omega⟩ ⟨by omega, by omega⟩ (fun c6 => ?_) (fun c6 => ?_)
    · refine Rn.iload_n d_BH_cut_12 rfl ?_
      refine In.if_ne (tgt := 40) d_BH_cut_13 (by decide) ⟨by omega, by omega⟩ (fun c13 => ?_) (fun c13 => ?_)
      · rw [v4 (by omega)]
        obtain ⟨V1, hV1⟩ : ∃ V1, V1 = fCutN β 11 1 := ⟨_, rfl⟩
        rw [← hV1]
        refine Rn.iconst (v := iI 1) d_BH_cut_40 rfl ?_
        refine Rn.istore_n (lv1 := [_, _, _]) d_BH_cut_41 (by decide) (w_pv rfl) rfl ?_
        have loop : ∀ (d k : Nat) (Mc : wM), k + d = 12 → 1 ≤ k → Off M Mc 20 22 → fCutN β d k = V1 → Rn k_BH_cut none (0, 0) 42 [some (.ref 0), some (.int (iI w)), some (.int (iI k))] [] SH Mc (w_FI (0, 0) SH (fun r M' => r = iI V1 ∧ clsAt M' β n σ m τ I J ∧ Off M M' 0 47)) := by
          intro d
          induction d with
          | zero =>
            intro k Mc h1 h2 h3 h4
            simp only [fCutN] at h4
            have hGc := h3.G hG
            refine Rn.iload_n d_BH_cut_42 rfl ?_
            refine Rn.bipush (v := iI 12) d_BH_cut_43 (by decide +kernel) ?_
            refine In.icmp_ge (tgt := 74) d_BH_cut_45 (by decide) ⟨by omega, by omega⟩ ⟨by omega, by omega⟩ (fun c45 => ?_) (fun c45 => ?_)
            · refine Rn.bipush (v := iI (-6)) d_BH_cut_74 (by decide +kernel) ?_
              exact Rn.iret d_BH_cut_76 rfl rfl ⟨by rw [← h4], hA.off h3 (by omega), h3.wide (by omega) (by omega)⟩
            · omega
          | succ d ih =>
            intro k Mc h1 h2 h3 h4
            have hGc := h3.G hG
            have hAc := hA.off h3 (by omega)
            have hbk := hb k
            have e1 : woF β k 11 0 = 0 → fCutN β (d + 1) k = k := fun q => by simp only [fCutN]; rw [if_pos q]
            have e2 : ¬ woF β k 11 0 = 0 → fCutN β (d + 1) k = fCutN β d (k + 1) := fun q => by simp only [fCutN]; rw [if_neg q]
            refine Rn.iload_n d_BH_cut_42 rfl ?_
            refine Rn.bipush (v := iI 12) d_BH_cut_43 (by decide +kernel) ?_
            refine In.icmp_ge (tgt := 74) d_BH_cut_45 (by decide) ⟨by omega, by omega⟩ ⟨by omega, by omega⟩ (fun c45 => ?_) (fun c45 => ?_)
            · omega
            · refine Rn.aload_n d_BH_cut_48 rfl ?_
              refine Rn.getR d_BH_cut_49 f_BH_cutting g_191 z_BH (r_BH_cutting (by assumption)) ?_
              refine Rn.aload_n d_BH_cut_52 rfl ?_
              refine Rn.getR d_BH_cut_53 f_BH_hill g_186 z_BH (r_BH_hill (by assumption)) ?_
              refine Rn.cVR d_BH_cut_56 s_BH_cut_Hill_tree g_221 g_222 g_223 ⟨rfl, rfl⟩ ⟨Nat.zero_le _, Nat.zero_le _⟩ (m_Hill_tree i_BH_hill hGc) rfl rfl (z_Hill (by first | assumption | exact i_Image_hill (by assumption) | exact i_BH_hill | exact i_Telling_hill | exact i_Year_hill)) c_Hill (Nat.le_of_ble_eq_true rfl) (fun rr MM qq => ?_)
              obtain ⟨rfl, rfl⟩ := And.imp id Eq.symm qq; clear qq
              refine Rn.iload_n d_BH_cut_59 rfl ?_
              refine Rn.cVI d_BH_cut_60 s_BH_cut_Cutting_worth g_566 g_567 g_568 ⟨rfl, rfl⟩ ⟨Nat.zero_le _, Nat.zero_le _⟩ (m_Cutting_worth (c := k) (i_Hill_tree i_BH_hill) (by omega) hGc hAc.1.1 ht (by omega)) rfl rfl z_Cutting c_Cutting (Nat.le_of_ble_eq_true rfl) (fun rr M1 qq => ?_)
              obtain ⟨rfl, hO⟩ := qq
              refine In.if_ne (tgt := 68) d_BH_cut_63 (by decide) ⟨by omega, by omega⟩ (fun c63 => ?_) (fun c63 => ?_)
              · rw [e2 (by omega)] at h4
                refine In.inc (lv1 := [_, _, _]) d_BH_cut_68 rfl (by decide) (w_pv rfl) rfl ?_
                refine Rn.goto (tgt := 42) d_BH_cut_71 (by decide) ?_
                exact ih (k + 1) _ (by omega) (by omega) (h3.tr hO) h4
              · rw [e1 (by omega)] at h4
                refine Rn.iload_n d_BH_cut_66 rfl ?_
                exact Rn.iret d_BH_cut_67 rfl rfl ⟨by rw [← h4], hAc.off hO (by omega), (h3.tr hO).wide (by omega) (by omega)⟩
        exact loop 11 1 M rfl (Nat.le_refl _) Off.rf hV1.symm
      · have hb0 := hb 0
        refine Rn.aload_n d_BH_cut_16 rfl ?_
        refine Rn.getR d_BH_cut_17 f_BH_cutting g_191 z_BH (r_BH_cutting (by assumption)) ?_
        refine Rn.aload_n d_BH_cut_20 rfl ?_
        refine Rn.getR d_BH_cut_21 f_BH_hill g_186 z_BH (r_BH_hill (by assumption)) ?_
        refine Rn.cVR d_BH_cut_24 s_BH_cut_Hill_tree g_221 g_222 g_223 ⟨rfl, rfl⟩ ⟨Nat.zero_le _, Nat.zero_le _⟩ (m_Hill_tree i_BH_hill hG) rfl rfl (z_Hill (by first | assumption | exact i_Image_hill (by assumption) | exact i_BH_hill | exact i_Telling_hill | exact i_Year_hill)) c_Hill (Nat.le_of_ble_eq_true rfl) (fun rr MM qq => ?_)
        obtain ⟨rfl, rfl⟩ := And.imp id Eq.symm qq; clear qq
        refine Rn.iconst (v := iI 0) d_BH_cut_27 rfl ?_
        refine Rn.cVI d_BH_cut_28 s_BH_cut_Cutting_worth g_566 g_567 g_568 ⟨rfl, rfl⟩ ⟨Nat.zero_le _, Nat.zero_le _⟩ (m_Cutting_worth (c := 0) (i_Hill_tree i_BH_hill) (by omega) hG hA.1.1 ht (by decide)) rfl rfl z_Cutting c_Cutting (Nat.le_of_ble_eq_true rfl) (fun rr M1 qq => ?_)
        obtain ⟨rfl, hO⟩ := qq
        refine In.if_eq (tgt := 38) d_BH_cut_31 (by decide) ⟨by omega, by omega⟩ (fun c31 => ?_) (fun c31 => ?_)
        · rw [v3 c13 (by omega)]
          refine Rn.iconst (v := iI 0) d_BH_cut_38 rfl ?_
          exact Rn.iret d_BH_cut_39 rfl rfl ⟨rfl, hA.off hO (by omega), hO.wide (by omega) (by omega)⟩
        · rw [v2 c13 (by omega)]
          refine Rn.iconst (v := iI 1) d_BH_cut_34 rfl ?_
          refine Rn.goto (tgt := 39) d_BH_cut_35 (by decide) ?_
          exact Rn.iret d_BH_cut_39 rfl rfl ⟨rfl, hA.off hO (by omega), hO.wide (by omega) (by omega)⟩
    · rw [v1 (by omega)]
      refine Rn.bipush (v := iI (-2)) d_BH_cut_9 (by decide +kernel) ?_
      exact Rn.iret d_BH_cut_11 rfl rfl ⟨rfl, hA, Off.rf⟩
theorem m_BH_tissue {M : wM} {β : Nat → Int} {n : Nat} {σ : Nat → Int} {m : Nat} {τ : Nat → Int} {I J : wIm} {a r k j w part V : Int} (hG : M.2.2 = RG) (hA : clsAt M β n σ m τ I J) (hV : aLok β n σ m τ I J) (ha : -2147483648 ≤ a ∧ a < 2147483648) (hr : -2147483648 ≤ r ∧ r < 2147483648) (hk : -2147483648 ≤ k ∧ k < 2147483648) (hj : -2147483648 ≤ j ∧ j < 2147483648) (hw : -2147483648 ≤ w ∧ w < 2147483648) (hpt : -2147483648 ≤ part ∧ part < 2147483648)
    (v1 : ¬ tisQ a r k j w part → V = -1000000000000000002) (v2 : tisQ a r k j w part → w = 0 → V = lowS (hyN a.toNat r.toNat k.toNat j.toNat (k.toNat - j.toNat + 1)) (ch a.toNat k.toNat) part) (v3 : tisQ a r k j w part → w = 1 → V = lowS (k.toNat * r.toNat) (if a = 0 then 1 else a.toNat) part) : EvL k_BH_tissue [.ref 0, .int (iI a), .int (iI r), .int (iI k), .int (iI j), .int (iI w), .int (iI part)] SH M (fun v M' => v = jI V ∧ clsAt M' β n σ m τ I J ∧ Off M M' 0 47) := by
  refine EvL.of 1 (by decide) (Nat.le_of_ble_eq_true rfl) rfl ?_
  have bad : ¬ tisQ a r k j w part → ∀ x, Rn k_BH_tissue none (0, 0) 73 [some (.ref 0), some (.int (iI a)), some (.int (iI r)), some (.int (iI k)), some (.int (iI j)), some (.int (iI w)), some (.int (iI part)), x] [] SH M (w_FL (0, 0) SH (fun v M' => v = jI V ∧ clsAt M' β n σ m τ I J ∧ Off M M' 0 47)) := by
    intro q x
    rw [v1 q]
    refine In.ldc2 (z := (-1000000000000000002)) d_BH_tissue_73 g_575 (by decide +kernel) ?_
    exact Rn.lret d_BH_tissue_76 rfl ⟨rfl, hA, Off.rf⟩
  have bad0 : ¬ tisQ a r k j w part → Rn k_BH_tissue none (0, 0) 43 [some (.ref 0), some (.int (iI a)), some (.int (iI r)), some (.int (iI k)), some (.int (iI j)), some (.int (iI w)), some (.int (iI part)), none] [] SH M (w_FL (0, 0) SH (fun v M' => v = jI V ∧ clsAt M' β n σ m τ I J ∧ Off M M' 0 47)) := by
    intro q
    refine Rn.iconst (v := iI 0) d_BH_tissue_43 rfl ?_
    refine Rn.istore (lv1 := [_, _, _, _, _, _, _, _]) d_BH_tissue_44 (by decide) (w_pv rfl) rfl ?_
    refine Rn.iload d_BH_tissue_46 rfl ?_
    refine In.if_eq (tgt := 73) d_BH_tissue_48 (by decide) ⟨by omega, by omega⟩ (fun c48 => ?_) (fun c48 => ?_)
    · exact bad q _
    · omega
  unfold tisQ at *
  refine Rn.iload_n d_BH_tissue_0 rfl ?_
  refine In.if_lt (tgt := 43) d_BH_tissue_1 (by decide) ⟨by omega, by omega⟩ (fun c1 => ?_) (fun c1 => ?_)
  · exact bad0 (by omega)
  · refine Rn.iload_n d_BH_tissue_4 rfl ?_
    refine Rn.bipush (v := iI 40) d_BH_tissue_5 (by decide +kernel) ?_
    refine In.icmp_gt (tgt := 43) d_BH_tissue_7 (by decide) ⟨by omega, by omega⟩ ⟨by omega, by omega⟩ (fun c7 => ?_) (fun c7 => ?_)
    · exact bad0 (by omega)
    · refine Rn.iload_n d_BH_tissue_10 rfl ?_
      refine In.if_lt (tgt := 43) d_BH_tissue_11 (by decide) ⟨by omega, by omega⟩ (fun c11 => ?_) (fun c11 => ?_)
      · exact bad0 (by omega)
      · refine Rn.iload_n d_BH_tissue_14 rfl ?_
        refine Rn.iload_n d_BH_tissue_15 rfl ?_
        refine In.icmp_gt (tgt := 43) d_BH_tissue_16 (by decide) ⟨by omega, by omega⟩ ⟨by omega, by omega⟩ (fun c16 => ?_) (fun c16 => ?_)
        · exact bad0 (by omega)
        · refine Rn.iload_n d_BH_tissue_19 rfl ?_
          refine In.if_lt (tgt := 43) d_BH_tissue_20 (by decide) ⟨by omega, by omega⟩ (fun c20 => ?_) (fun c20 => ?_)
          · exact bad0 (by omega)
          · refine Rn.iload_n d_BH_tissue_23 rfl ?_
            refine Rn.iload_n d_BH_tissue_24 rfl ?_
            refine In.icmp_gt (tgt := 43) d_BH_tissue_25 (by decide) ⟨by omega, by omega⟩ ⟨by omega, by omega⟩ (fun c25 => ?_) (fun c25 => ?_)
            · exact bad0 (by omega)
            · refine Rn.iload d_BH_tissue_28 rfl ?_
              refine In.if_lt (tgt := 43) d_BH_tissue_30 (by decide) ⟨by omega, by omega⟩ (fun c30 => ?_) (fun c30 => ?_)
              · exact bad0 (by omega)
              · refine Rn.iload d_BH_tissue_33 rfl ?_
                refine Rn.iload_n d_BH_tissue_35 rfl ?_
                refine In.icmp_gt (tgt := 43) d_BH_tissue_36 (by decide) ⟨by omega, by omega⟩ ⟨by omega, by omega⟩ (fun c36 => ?_) (fun c36 => ?_)
                · exact bad0 (by omega)
                · refine Rn.iconst (v := iI 1) d_BH_tissue_39 rfl ?_
                  refine Rn.goto (tgt := 44) d_BH_tissue_40 (by decide) ?_
                  refine Rn.istore (lv1 := [_, _, _, _, _, _, _, _]) d_BH_tissue_44 (by decide) (w_pv rfl) rfl ?_
                  refine Rn.iload d_BH_tissue_46 rfl ?_
                  refine In.if_eq (tgt := 73) d_BH_tissue_48 (by decide) ⟨by omega, by omega⟩ (fun c48 => ?_) (fun c48 => ?_)
                  · omega
                  · refine Rn.iload d_BH_tissue_51 rfl ?_
                    refine In.if_lt (tgt := 73) d_BH_tissue_53 (by decide) ⟨by omega, by omega⟩ (fun c53 => ?_) (fun c53 => ?_)
                    · exact bad (by omega) _
                    · refine Rn.iload d_BH_tissue_56 rfl ?_
                      refine Rn.iconst (v := iI 1) d_BH_tissue_58 rfl ?_
                      refine In.icmp_gt (tgt := 73) d_BH_tissue_59 (by decide) ⟨by omega, by omega⟩ ⟨by omega, by omega⟩ (fun c59 => ?_) (fun c59 => ?_)
                      · exact bad (by omega) _
                      · refine Rn.iload d_BH_tissue_62 rfl ?_
                        refine In.if_lt (tgt := 73) d_BH_tissue_64 (by decide) ⟨by omega, by omega⟩ (fun c64 => ?_) (fun c64 => ?_)
                        · exact bad (by omega) _
                        · refine Rn.iload d_BH_tissue_67 rfl ?_
                          refine Rn.iconst (v := iI 1) d_BH_tissue_69 rfl ?_
                          refine In.icmp_le (tgt := 77) d_BH_tissue_70 (by decide) ⟨by omega, by omega⟩ ⟨by omega, by omega⟩ (fun c70 => ?_) (fun c70 => ?_)
                          · have q : (0 ≤ a ∧ a ≤ 40) ∧ (0 ≤ r ∧ r ≤ a) ∧ (0 ≤ k ∧ k ≤ a) ∧ (0 ≤ j ∧ j ≤ k) ∧ (0 ≤ w ∧ w ≤ 1) ∧ (0 ≤ part ∧ part ≤ 1) := by omega
                            have u2 := v2 q
                            have u3 := v3 q
                            obtain ⟨a, rfl⟩ : ∃ x : Nat, a = x := ⟨a.toNat, by omega⟩
                            obtain ⟨r, rfl⟩ : ∃ x : Nat, r = x := ⟨r.toNat, by omega⟩
                            obtain ⟨k, rfl⟩ : ∃ x : Nat, k = x := ⟨k.toNat, by omega⟩
                            obtain ⟨j, rfl⟩ : ∃ x : Nat, j = x := ⟨j.toNat, by omega⟩
                            simp only [Int.toNat_natCast] at u2 u3
                            refine Rn.iload d_BH_tissue_77 rfl ?_
                            refine In.if_ne (tgt := 101) d_BH_tissue_79 (by decide) ⟨by omega, by omega⟩ (fun c79 => ?_) (fun c79 => ?_)
                            · have hVe := u3 (show w = 1 by omega)
                              rw [hVe]
                              have e1 : (if (a : Int) < 1 then (1 : Int) else a) = ((if (a : Int) = 0 then 1 else a : Nat) : Int) := by split <;> split <;> omega
                              have hkr : k * r ≤ 40 * 40 := Nat.mul_le_mul (by omega) (by omega)
                              refine Rn.iload_n d_BH_tissue_101 rfl ?_
                              refine In.i2l d_BH_tissue_102 ⟨by omega, by omega⟩ ?_
                              refine Rn.iload_n d_BH_tissue_103 rfl ?_
                              refine In.i2l d_BH_tissue_104 ⟨by omega, by omega⟩ ?_
                              refine In.lmul d_BH_tissue_105 ?_
                              refine Rn.iload_n d_BH_tissue_106 rfl ?_
                              refine Rn.iconst (v := iI 1) d_BH_tissue_107 rfl ?_
                              refine In.max ⟨by omega, by omega⟩ ⟨by omega, by omega⟩ d_BH_tissue_108 g_592 g_393 g_14 g_394 (Nat.le_of_ble_eq_true rfl) (Nat.le_of_ble_eq_true rfl) ?_
                              rw [e1, ← Int.natCast_mul]
                              have hq : (if (a : Int) = 0 then 1 else a : Nat) ≤ 40 ∧ 0 < (if (a : Int) = 0 then 1 else a : Nat) := by split <;> omega
                              generalize (if (a : Int) = 0 then 1 else a : Nat) = q1 at hq ⊢
                              refine In.i2l d_BH_tissue_111 ⟨by omega, by omega⟩ ?_
                              refine Rn.iload d_BH_tissue_112 rfl ?_
                              refine Rn.cSL d_BH_tissue_114 s_BH_tissue_Chance_lowest g_583 g_584 ⟨rfl, rfl⟩ ⟨Nat.zero_le _, Nat.zero_le _⟩ (m_Chance_lowest (show k * r < 4611686018427387904 by omega) (show q1 < 4611686018427387904 by omega) hq.2 (show 0 ≤ part ∧ part ≤ 1 by omega)) rfl rfl (Nat.le_of_ble_eq_true rfl) (fun rr MM qq => ?_)
                              obtain ⟨rfl, rfl⟩ := And.imp id Eq.symm qq; clear qq
                              exact Rn.lret d_BH_tissue_117 rfl ⟨rfl, hA, Off.rf⟩
                            · rw [u2 c79]
                              have b1 := hyN_le (n := a) (r := r) (k := k) (j := j) (by omega) (by omega) (k - j + 1)
                              have b2 := ch_40 (n := a) (k := k) (by omega)
                              have b3 := ch_pos a k (by omega)
                              have b4 : (k - j + 1) * 2 ^ 40 ≤ 41 * 2 ^ 40 := Nat.mul_le_mul (by omega) (Nat.le_refl _)
                              refine Rn.iload_n d_BH_tissue_82 rfl ?_
                              refine Rn.iload_n d_BH_tissue_83 rfl ?_
                              refine Rn.iload_n d_BH_tissue_84 rfl ?_
                              refine Rn.iload d_BH_tissue_85 rfl ?_
                              refine Rn.cSL d_BH_tissue_87 s_BH_tissue_Chance_waysAtLeast g_576 g_577 ⟨rfl, rfl⟩ ⟨Nat.zero_le _, Nat.zero_le _⟩ (m_Chance_waysAtLeast (n := a) (r := r) (k := k) (j := j) (by omega) (by omega) (by omega) (by omega)) rfl rfl (Nat.le_of_ble_eq_true rfl) (fun rr MM qq => ?_)
                              obtain ⟨rfl, rfl⟩ := And.imp id Eq.symm qq; clear qq
                              refine Rn.iload_n d_BH_tissue_90 rfl ?_
                              refine Rn.iload_n d_BH_tissue_91 rfl ?_
                              refine Rn.cSL d_BH_tissue_92 s_BH_tissue_Chance_ways g_582 g_580 ⟨rfl, rfl⟩ ⟨Nat.zero_le _, Nat.zero_le _⟩ (m_Chance_ways (n := a) (k := k) (by omega) (by omega)) rfl rfl (Nat.le_of_ble_eq_true rfl) (fun rr MM qq => ?_)
                              obtain ⟨rfl, rfl⟩ := And.imp id Eq.symm qq; clear qq
                              refine Rn.iload d_BH_tissue_95 rfl ?_
                              refine Rn.cSL d_BH_tissue_97 s_BH_tissue_Chance_lowest g_583 g_584 ⟨rfl, rfl⟩ ⟨Nat.zero_le _, Nat.zero_le _⟩ (m_Chance_lowest (show hyN a r k j (k - j + 1) < 4611686018427387904 by omega) (show ch a k < 4611686018427387904 by omega) b3 (show 0 ≤ part ∧ part ≤ 1 by omega)) rfl rfl (Nat.le_of_ble_eq_true rfl) (fun rr MM qq => ?_)
                              obtain ⟨rfl, rfl⟩ := And.imp id Eq.symm qq; clear qq
                              exact Rn.lret d_BH_tissue_100 rfl ⟨rfl, hA, Off.rf⟩
                          · exact bad (by omega) _
theorem m_BH_year {M : wM} {β : Nat → Int} {n : Nat} {σ : Nat → Int} {m : Nat} {τ : Nat → Int} {I J : wIm} {x d w V : Int} (hG : M.2.2 = RG) (hA : clsAt M β n σ m τ I J) (hV : aLok β n σ m τ I J) (hx : -2147483648 ≤ x ∧ x < 2147483648) (hd : -2147483648 ≤ d ∧ d < 2147483648) (hw : -2147483648 ≤ w ∧ w < 2147483648) (v1 : ¬ ((0 ≤ x ∧ x ≤ 9999) ∧ (1 ≤ d ∧ d ≤ 99) ∧ (0 ≤ w ∧ w ≤ 2)) → V = -2) (v2 : ((0 ≤ x ∧ x ≤ 9999) ∧ (1 ≤ d ∧ d ≤ 99)) → w = 0 → V = pc (hungS (yrF d.toNat β x.toNat) 6)) (v3 : ((0 ≤ x ∧ x ≤ 9999) ∧ (1 ≤ d ∧ d ≤ 99)) → w = 1 → V = chipS (yrF d.toNat β x.toNat) 6) (v4 : ((0 ≤ x ∧ x ≤ 9999) ∧ (1 ≤ d ∧ d ≤ 99)) → w = 2 → V = pc (bk (yrF d.toNat β x.toNat))) : EvI k_BH_year [.ref 0, .int (iI x), .int (iI d), .int (iI w)] SH M (fun r M' => r = iI V ∧ clsAt M' β n σ m τ I J ∧ Off M M' 0 47) := by
  refine EvI.of 1 (by decide) (Nat.le_of_ble_eq_true rfl) rfl ?_
  have bad : ¬ ((0 ≤ x ∧ x ≤ 9999) ∧ (1 ≤ d ∧ d ≤ 99) ∧ (0 ≤ w ∧ w ≤ 2)) → Rn k_BH_year none (0, 0) 31 [some (.ref 0), some (.int (iI x)), some (.int (iI d)), some (.int (iI w)), none] [] SH M (w_FI (0, 0) SH (fun r M' => r = iI V ∧ clsAt M' β n σ m τ I J ∧ Off M M' 0 47)) := by
    intro q
    rw [v1 q]
    refine Rn.bipush (v := iI (-2)) d_BH_year_31 (by decide +kernel) ?_
    exact Rn.iret d_BH_year_33 rfl rfl ⟨rfl, hA, Off.rf⟩
  refine Rn.iload_n d_BH_year_0 rfl ?_
  refine In.if_lt (tgt := 31) d_BH_year_1 (by decide) ⟨by omega, by omega⟩ (fun c1 => ?_) (fun c1 => ?_)
  · exact bad (by omega)
  · refine Rn.iload_n d_BH_year_4 rfl ?_
    refine Rn.sipush (v := iI 9999) d_BH_year_5 (by decide +kernel) ?_
    refine In.icmp_gt (tgt := 31) d_BH_year_8 (by decide) ⟨by omega, by omega⟩ ⟨by omega, by omega⟩ (fun c8 => ?_) (fun c8 => ?_)
    · exact bad (by omega)
    · refine Rn.iload_n d_BH_year_11 rfl ?_
      refine Rn.iconst (v := iI 1) d_BH_year_12 rfl ?_
      refine In.icmp_lt (tgt := 31) d_BH_year_13 (by decide) ⟨by omega, by omega⟩ ⟨by omega, by omega⟩ (fun c13 => ?_) (fun c13 => ?_)
      · exact bad (by omega)
      · refine Rn.iload_n d_BH_year_16 rfl ?_
        refine Rn.bipush (v := iI 99) d_BH_year_17 (by decide +kernel) ?_
        refine In.icmp_gt (tgt := 31) d_BH_year_19 (by decide) ⟨by omega, by omega⟩ ⟨by omega, by omega⟩ (fun c19 => ?_) (fun c19 => ?_)
        · exact bad (by omega)
        · refine Rn.iload_n d_BH_year_22 rfl ?_
          refine In.if_lt (tgt := 31) d_BH_year_23 (by decide) ⟨by omega, by omega⟩ (fun c23 => ?_) (fun c23 => ?_)
          · exact bad (by omega)
          · refine Rn.iload_n d_BH_year_26 rfl ?_
            refine Rn.iconst (v := iI 2) d_BH_year_27 rfl ?_
            refine In.icmp_le (tgt := 34) d_BH_year_28 (by decide) ⟨by omega, by omega⟩ ⟨by omega, by omega⟩ (fun c28 => ?_) (fun c28 => ?_)
            · obtain ⟨x, rfl⟩ : ∃ y : Nat, x = y := ⟨x.toNat, by omega⟩
              obtain ⟨d, rfl⟩ : ∃ y : Nat, d = y := ⟨d.toNat, by omega⟩
              simp only [Int.toNat_natCast] at v2 v3 v4
              have v2 := v2 (by omega)
              have v3 := v3 (by omega)
              have v4 := v4 (by omega)
              refine Rn.aload_n d_BH_year_34 rfl ?_
              refine Rn.getR d_BH_year_35 f_BH_years g_192 z_BH (r_BH_years (by assumption)) ?_
              refine Rn.aload_n d_BH_year_38 rfl ?_
              refine Rn.getR d_BH_year_39 f_BH_hill g_186 z_BH (r_BH_hill (by assumption)) ?_
              refine Rn.iload_n d_BH_year_42 rfl ?_
              refine Rn.iload_n d_BH_year_43 rfl ?_
              refine Rn.cVR d_BH_year_44 s_BH_year_Year_pass g_597 g_598 g_599 ⟨rfl, rfl⟩ ⟨Nat.zero_le _, Nat.zero_le _⟩ (m_Year_pass (x := x) (m := d) i_BH_hill (by omega) hG hA.1 hV.1 (by omega) (by omega)) rfl rfl z_Year c_Year (Nat.le_of_ble_eq_true rfl) (fun rr M1 qq => ?_)
              obtain ⟨rfl, hH, hO⟩ := qq
              have hG1 := hO.G hG
              have hA1 := hA.off hO (by omega)
              have hk := yrF_ok d hV.1 x
              refine Rn.astore (lv1 := [_, _, _, _, _]) d_BH_year_47 (by decide) (w_pv rfl) rfl ?_
              refine Rn.iload_n d_BH_year_49 rfl ?_
              rcases (show w = 0 ∨ w = 1 ∨ w = 2 by omega) with e | e | e
              · rw [v2 e]
                subst e
                refine In.look (off := 26) (tgt := 76) d_BH_year_50 ⟨by omega, by omega⟩ (by decide) (rfl) (by decide) ?_
                refine Rn.aload d_BH_year_76 rfl ?_
                refine Rn.cVI d_BH_year_78 s_BH_year_Hill_hungLoops g_441 g_249 g_250 ⟨rfl, rfl⟩ ⟨Nat.zero_le _, Nat.zero_le _⟩ (m_Hill_hungLoops i_Year_hill hG1 hH hk.l) rfl rfl (z_Hill (by first | assumption | exact i_Image_hill (by assumption) | exact i_BH_hill | exact i_Telling_hill | exact i_Year_hill)) c_Hill (Nat.le_of_ble_eq_true rfl) (fun rr MM qq => ?_)
                obtain ⟨rfl, rfl⟩ := And.imp id Eq.symm qq; clear qq
                refine Rn.cSI d_BH_year_81 s_BH_year_Int_bitCount g_510 g_358 ⟨rfl, rfl⟩ ⟨Nat.zero_le _, Nat.zero_le _⟩ (m_Int_bitCount (hungS_lt hk.l 6 (Nat.le_refl _))) rfl rfl (Nat.le_of_ble_eq_true rfl) (fun rr MM qq => ?_)
                obtain ⟨rfl, rfl⟩ := And.imp id Eq.symm qq; clear qq
                exact Rn.iret d_BH_year_84 rfl rfl ⟨rfl, hA1, hO.wide (by omega) (by omega)⟩
              · rw [v3 e]
                subst e
                refine In.look (off := 35) (tgt := 85) d_BH_year_50 ⟨by omega, by omega⟩ (by decide) (rfl) (by decide) ?_
                refine Rn.aload d_BH_year_85 rfl ?_
                refine Rn.cVI d_BH_year_87 s_BH_year_Hill_allChips g_443 g_444 g_445 ⟨rfl, rfl⟩ ⟨Nat.zero_le _, Nat.zero_le _⟩ (m_Hill_allChips i_Year_hill hG1 hH) rfl rfl (z_Hill (by first | assumption | exact i_Image_hill (by assumption) | exact i_BH_hill | exact i_Telling_hill | exact i_Year_hill)) c_Hill (Nat.le_of_ble_eq_true rfl) (fun rr MM qq => ?_)
                obtain ⟨rfl, rfl⟩ := And.imp id Eq.symm qq; clear qq
                exact Rn.iret d_BH_year_90 rfl rfl ⟨rfl, hA1, hO.wide (by omega) (by omega)⟩
              · rw [v4 e]
                subst e
                refine In.look (off := 41) (tgt := 91) d_BH_year_50 ⟨by omega, by omega⟩ (by decide) (rfl) (by decide) ?_
                refine Rn.aload d_BH_year_91 rfl ?_
                refine Rn.cVI d_BH_year_93 s_BH_year_Hill_brokenBalls g_442 g_365 g_366 ⟨rfl, rfl⟩ ⟨Nat.zero_le _, Nat.zero_le _⟩ (m_Hill_brokenBalls i_Year_hill hG1 hH) rfl rfl (z_Hill (by first | assumption | exact i_Image_hill (by assumption) | exact i_BH_hill | exact i_Telling_hill | exact i_Year_hill)) c_Hill (Nat.le_of_ble_eq_true rfl) (fun rr MM qq => ?_)
                obtain ⟨rfl, rfl⟩ := And.imp id Eq.symm qq; clear qq
                have hb := hok_bk hk
                rw [hb.1]
                refine Rn.cSI d_BH_year_96 s_BH_year_Int_bitCount g_510 g_358 ⟨rfl, rfl⟩ ⟨Nat.zero_le _, Nat.zero_le _⟩ (m_Int_bitCount (show bk (yrF d β x) < 4096 by omega)) rfl rfl (Nat.le_of_ble_eq_true rfl) (fun rr MM qq => ?_)
                obtain ⟨rfl, rfl⟩ := And.imp id Eq.symm qq; clear qq
                exact Rn.iret d_BH_year_99 rfl rfl ⟨rfl, hA1, hO.wide (by omega) (by omega)⟩
            · exact bad (by omega)
theorem m_BH_imageOf {M : wM} {w : Int} (hG : M.2.2 = RG) (hw : 0 ≤ w ∧ w ≤ 1) : EvR k_BH_imageOf [.ref 0, .int (iI w)] SH M (fun r M' => r = (if w = 0 then 29 else 38) ∧ M' = M) := by
  refine EvR.of 0 (by decide) (Nat.le_of_ble_eq_true rfl) rfl ?_
  refine Rn.iload_n d_BH_imageOf_0 rfl ?_
  refine In.if_ne (tgt := 11) d_BH_imageOf_1 (by decide) ⟨by omega, by omega⟩ (fun c1 => ?_) (fun c1 => ?_)
  · rw [if_neg c1]
    refine Rn.aload_n d_BH_imageOf_11 rfl ?_
    refine Rn.getR d_BH_imageOf_12 f_BH_secondImage g_194 z_BH (r_BH_secondImage (by assumption)) ?_
    exact Rn.aret d_BH_imageOf_15 rfl ⟨rfl, rfl⟩
  · rw [if_pos c1]
    refine Rn.aload_n d_BH_imageOf_4 rfl ?_
    refine Rn.getR d_BH_imageOf_5 f_BH_firstImage g_193 z_BH (r_BH_firstImage (by assumption)) ?_
    refine Rn.goto (tgt := 15) d_BH_imageOf_8 (by decide) ?_
    exact Rn.aret d_BH_imageOf_15 rfl ⟨rfl, rfl⟩
theorem m_BH_image {M : wM} {β : Nat → Int} {n : Nat} {σ : Nat → Int} {m : Nat} {τ : Nat → Int} {I J : wIm} {w : Int} {Rr : Int × wIm × wIm} (hG : M.2.2 = RG) (hA : clsAt M β n σ m τ I J) (hV : aLok β n σ m τ I J) (hw : -2147483648 ≤ w ∧ w < 2147483648) (v1 : ¬ (0 ≤ w ∧ w ≤ 1) → Rr = (-2, I, J)) (v2 : w = 0 → Rr = (1, (true, β, m, τ), J)) (v3 : w = 1 → Rr = (1, I, (true, β, m, τ))) : EvI k_BH_image [.ref 0, .int (iI w)] SH M (fun r M' => r = iI Rr.1 ∧ clsAt M' β n σ m τ Rr.2.1 Rr.2.2 ∧ Off M M' 0 47) := by
  refine EvI.of 0 (by decide) (Nat.le_of_ble_eq_true rfl) rfl ?_
  refine Rn.iload_n d_BH_image_0 rfl ?_
  refine In.if_lt (tgt := 9) d_BH_image_1 (by decide) ⟨by omega, by omega⟩ (fun c1 => ?_) (fun c1 => ?_)
  · rw [v1 (by omega)]
    refine Rn.bipush (v := iI (-2)) d_BH_image_9 (by decide +kernel) ?_
    exact Rn.iret d_BH_image_11 rfl rfl ⟨rfl, hA, Off.rf⟩
  · refine Rn.iload_n d_BH_image_4 rfl ?_
    refine Rn.iconst (v := iI 1) d_BH_image_5 rfl ?_
    refine In.icmp_le (tgt := 12) d_BH_image_6 (by decide) ⟨by omega, by omega⟩ ⟨by omega, by omega⟩ (fun c6 => ?_) (fun c6 => ?_)
    · refine Rn.aload_n d_BH_image_12 rfl ?_
      refine Rn.iload_n d_BH_image_13 rfl ?_
      refine Rn.cVR d_BH_image_14 s_BH_image_BH_imageOf g_614 g_616 gs_9 ⟨rfl, rfl⟩ ⟨Nat.zero_le _, Nat.zero_le _⟩ (m_BH_imageOf hG (show 0 ≤ w ∧ w ≤ 1 by omega)) rfl rfl z_BH c_BH (Nat.le_of_ble_eq_true rfl) (fun rr MM qq => ?_)
      obtain ⟨rfl, rfl⟩ := And.imp id Eq.symm qq; clear qq
      by_cases e : w = 0
      · rw [v2 e, if_pos e]
        refine Rn.aload_n d_BH_image_17 rfl ?_
        refine Rn.getR d_BH_image_18 f_BH_hill g_186 z_BH (r_BH_hill (by assumption)) ?_
        refine Rn.aload_n d_BH_image_21 rfl ?_
        refine Rn.getR d_BH_image_22 f_BH_sights g_187 z_BH (r_BH_sights (by assumption)) ?_
        refine Rn.cVV d_BH_image_25 s_BH_image_Image_keep g_618 g_619 g_620 ⟨rfl, rfl⟩ ⟨Nat.zero_le _, Nat.zero_le _⟩ (m_Image_keep (i := 29) (by simp [isImage]) i_BH_hill i_BH_sights (by omega) (by omega) hG hA.1 hA.2.2.1) rfl rfl (z_Image (by first | assumption | exact i_BH_firstImage | exact i_BH_secondImage)) c_Image (Nat.le_of_ble_eq_true rfl) (fun MM qq => ?_)
        obtain ⟨hB, hS, hK, hO⟩ := qq
        refine Rn.iconst (v := iI 1) d_BH_image_28 rfl ?_
        exact Rn.iret d_BH_image_29 rfl rfl ⟨rfl, ⟨hA.1.off hO (by omega), hA.2.1.off hO (by omega), hA.2.2.1.off hO (by omega), ⟨hB, hS, hK⟩, hA.2.2.2.2.off hO (by omega)⟩, hO.wide (by omega) (by omega)⟩
      · rw [v3 (by omega), if_neg e]
        refine Rn.aload_n d_BH_image_17 rfl ?_
        refine Rn.getR d_BH_image_18 f_BH_hill g_186 z_BH (r_BH_hill (by assumption)) ?_
        refine Rn.aload_n d_BH_image_21 rfl ?_
        refine Rn.getR d_BH_image_22 f_BH_sights g_187 z_BH (r_BH_sights (by assumption)) ?_
        refine Rn.cVV d_BH_image_25 s_BH_image_Image_keep g_618 g_619 g_620 ⟨rfl, rfl⟩ ⟨Nat.zero_le _, Nat.zero_le _⟩ (m_Image_keep (i := 38) (by simp [isImage]) i_BH_hill i_BH_sights (by omega) (by omega) hG hA.1 hA.2.2.1) rfl rfl (z_Image (by first | assumption | exact i_BH_firstImage | exact i_BH_secondImage)) c_Image (Nat.le_of_ble_eq_true rfl) (fun MM qq => ?_)
        obtain ⟨hB, hS, hK, hO⟩ := qq
        refine Rn.iconst (v := iI 1) d_BH_image_28 rfl ?_
        exact Rn.iret d_BH_image_29 rfl rfl ⟨rfl, ⟨hA.1.off hO (by omega), hA.2.1.off hO (by omega), hA.2.2.1.off hO (by omega), hA.2.2.2.1.off hO (by omega), ⟨hB, hS, hK⟩⟩, hO.wide (by omega) (by omega)⟩
    · rw [v1 (by omega)]
      refine Rn.bipush (v := iI (-2)) d_BH_image_9 (by decide +kernel) ?_
      exact Rn.iret d_BH_image_11 rfl rfl ⟨rfl, hA, Off.rf⟩
theorem m_BH_restore {M : wM} {β : Nat → Int} {n : Nat} {σ : Nat → Int} {m : Nat} {τ : Nat → Int} {I J : wIm} {w : Int} {Rr : Int × (Nat → Int) × Nat × (Nat → Int)} (hG : M.2.2 = RG) (hA : clsAt M β n σ m τ I J) (hV : aLok β n σ m τ I J) (hw : -2147483648 ≤ w ∧ w < 2147483648) (v1 : ¬ (0 ≤ w ∧ w ≤ 1) → Rr = (-2, β, m, τ)) (v2 : w = 0 → I.1 = false → Rr = (-3, β, m, τ)) (v3 : w = 1 → J.1 = false → Rr = (-3, β, m, τ)) (v4 : w = 0 → I.1 = true → Rr = (1, I.2)) (v5 : w = 1 → J.1 = true → Rr = (1, J.2)) : EvI k_BH_restore [.ref 0, .int (iI w)] SH M (fun r M' => r = iI Rr.1 ∧ clsAt M' Rr.2.1 n σ Rr.2.2.1 Rr.2.2.2 I J ∧ Off M M' 0 47) := by
  refine EvI.of 0 (by decide) (Nat.le_of_ble_eq_true rfl) rfl ?_
  refine Rn.iload_n d_BH_restore_0 rfl ?_
  refine In.if_lt (tgt := 9) d_BH_restore_1 (by decide) ⟨by omega, by omega⟩ (fun c1 => ?_) (fun c1 => ?_)
  · rw [v1 (by omega)]
    refine Rn.bipush (v := iI (-2)) d_BH_restore_9 (by decide +kernel) ?_
    exact Rn.iret d_BH_restore_11 rfl rfl ⟨rfl, hA, Off.rf⟩
  · refine Rn.iload_n d_BH_restore_4 rfl ?_
    refine Rn.iconst (v := iI 1) d_BH_restore_5 rfl ?_
    refine In.icmp_le (tgt := 12) d_BH_restore_6 (by decide) ⟨by omega, by omega⟩ ⟨by omega, by omega⟩ (fun c6 => ?_) (fun c6 => ?_)
    · refine Rn.aload_n d_BH_restore_12 rfl ?_
      refine Rn.iload_n d_BH_restore_13 rfl ?_
      refine Rn.cVR d_BH_restore_14 s_BH_restore_BH_imageOf g_614 g_616 gs_9 ⟨rfl, rfl⟩ ⟨Nat.zero_le _, Nat.zero_le _⟩ (m_BH_imageOf hG (show 0 ≤ w ∧ w ≤ 1 by omega)) rfl rfl z_BH c_BH (Nat.le_of_ble_eq_true rfl) (fun rr MM qq => ?_)
      obtain ⟨rfl, rfl⟩ := And.imp id Eq.symm qq; clear qq
      by_cases e : w = 0
      · rw [if_pos e]
        refine Rn.cVI d_BH_restore_17 s_BH_restore_Image_isKept g_632 g_633 g_634 ⟨rfl, rfl⟩ ⟨Nat.zero_le _, Nat.zero_le _⟩ (m_Image_isKept (i := 29) (b := I.1) (by simp [isImage]) hA.2.2.2.1.2.2) rfl rfl (z_Image (by first | assumption | exact i_BH_firstImage | exact i_BH_secondImage)) c_Image (Nat.le_of_ble_eq_true rfl) (fun rr MM qq => ?_)
        obtain ⟨rfl, rfl⟩ := And.imp id Eq.symm qq; clear qq
        refine In.if_ne (tgt := 26) d_BH_restore_20 (by decide) fl_rg (fun c20 => ?_) (fun c20 => ?_)
        · rw [v4 e (fl_ne c20)]
          refine Rn.aload_n d_BH_restore_26 rfl ?_
          refine Rn.iload_n d_BH_restore_27 rfl ?_
          refine Rn.cVR d_BH_restore_28 s_BH_restore_BH_imageOf g_614 g_616 gs_9 ⟨rfl, rfl⟩ ⟨Nat.zero_le _, Nat.zero_le _⟩ (m_BH_imageOf hG (show 0 ≤ w ∧ w ≤ 1 by omega)) rfl rfl z_BH c_BH (Nat.le_of_ble_eq_true rfl) (fun rr MM qq => ?_)
          obtain ⟨rfl, rfl⟩ := And.imp id Eq.symm qq; clear qq
          rw [if_pos e]
          refine Rn.aload_n d_BH_restore_31 rfl ?_
          refine Rn.getR d_BH_restore_32 f_BH_hill g_186 z_BH (r_BH_hill (by assumption)) ?_
          refine Rn.aload_n d_BH_restore_35 rfl ?_
          refine Rn.getR d_BH_restore_36 f_BH_sights g_187 z_BH (r_BH_sights (by assumption)) ?_
          refine Rn.cVV d_BH_restore_39 s_BH_restore_Image_bringBack g_636 g_637 g_638 ⟨rfl, rfl⟩ ⟨Nat.zero_le _, Nat.zero_le _⟩ (m_Image_bringBack (i := 29) (by simp [isImage]) hG hA.2.2.2.1.1 hA.2.2.2.1.2.1) rfl rfl (z_Image (by first | assumption | exact i_BH_firstImage | exact i_BH_secondImage)) c_Image (Nat.le_of_ble_eq_true rfl) (fun MM qq => ?_)
          obtain ⟨hB, hS, hO⟩ := qq
          refine Rn.iconst (v := iI 1) d_BH_restore_42 rfl ?_
          exact Rn.iret d_BH_restore_43 rfl rfl ⟨rfl, ⟨hB, hA.2.1.off hO (by omega), hS, hA.2.2.2.1.off hO (by omega), hA.2.2.2.2.off hO (by omega)⟩, hO.wide (by omega) (by omega)⟩
        · rw [v2 e (Bool.eq_false_iff.mpr (fl_eq c20))]
          refine Rn.bipush (v := iI (-3)) d_BH_restore_23 (by decide +kernel) ?_
          exact Rn.iret d_BH_restore_25 rfl rfl ⟨rfl, hA, Off.rf⟩
      · rw [if_neg e]
        refine Rn.cVI d_BH_restore_17 s_BH_restore_Image_isKept g_632 g_633 g_634 ⟨rfl, rfl⟩ ⟨Nat.zero_le _, Nat.zero_le _⟩ (m_Image_isKept (i := 38) (b := J.1) (by simp [isImage]) hA.2.2.2.2.2.2) rfl rfl (z_Image (by first | assumption | exact i_BH_firstImage | exact i_BH_secondImage)) c_Image (Nat.le_of_ble_eq_true rfl) (fun rr MM qq => ?_)
        obtain ⟨rfl, rfl⟩ := And.imp id Eq.symm qq; clear qq
        refine In.if_ne (tgt := 26) d_BH_restore_20 (by decide) fl_rg (fun c20 => ?_) (fun c20 => ?_)
        · rw [v5 (by omega) (fl_ne c20)]
          refine Rn.aload_n d_BH_restore_26 rfl ?_
          refine Rn.iload_n d_BH_restore_27 rfl ?_
          refine Rn.cVR d_BH_restore_28 s_BH_restore_BH_imageOf g_614 g_616 gs_9 ⟨rfl, rfl⟩ ⟨Nat.zero_le _, Nat.zero_le _⟩ (m_BH_imageOf hG (show 0 ≤ w ∧ w ≤ 1 by omega)) rfl rfl z_BH c_BH (Nat.le_of_ble_eq_true rfl) (fun rr MM qq => ?_)
          obtain ⟨rfl, rfl⟩ := And.imp id Eq.symm qq; clear qq
          rw [if_neg e]
          refine Rn.aload_n d_BH_restore_31 rfl ?_
          refine Rn.getR d_BH_restore_32 f_BH_hill g_186 z_BH (r_BH_hill (by assumption)) ?_
          refine Rn.aload_n d_BH_restore_35 rfl ?_
          refine Rn.getR d_BH_restore_36 f_BH_sights g_187 z_BH (r_BH_sights (by assumption)) ?_
          refine Rn.cVV d_BH_restore_39 s_BH_restore_Image_bringBack g_636 g_637 g_638 ⟨rfl, rfl⟩ ⟨Nat.zero_le _, Nat.zero_le _⟩ (m_Image_bringBack (i := 38) (by simp [isImage]) hG hA.2.2.2.2.1 hA.2.2.2.2.2.1) rfl rfl (z_Image (by first | assumption | exact i_BH_firstImage | exact i_BH_secondImage)) c_Image (Nat.le_of_ble_eq_true rfl) (fun MM qq => ?_)
          obtain ⟨hB, hS, hO⟩ := qq
          refine Rn.iconst (v := iI 1) d_BH_restore_42 rfl ?_
          exact Rn.iret d_BH_restore_43 rfl rfl ⟨rfl, ⟨hB, hA.2.1.off hO (by omega), hS, hA.2.2.2.1.off hO (by omega), hA.2.2.2.2.off hO (by omega)⟩, hO.wide (by omega) (by omega)⟩
        · rw [v3 (by omega) (Bool.eq_false_iff.mpr (fl_eq c20))]
          refine Rn.bipush (v := iI (-3)) d_BH_restore_23 (by decide +kernel) ?_
          exact Rn.iret d_BH_restore_25 rfl rfl ⟨rfl, hA, Off.rf⟩
    · rw [v1 (by omega)]
      refine Rn.bipush (v := iI (-2)) d_BH_restore_9 (by decide +kernel) ?_
      exact Rn.iret d_BH_restore_11 rfl rfl ⟨rfl, hA, Off.rf⟩
def toldS (β : Nat → Int) (n m : Nat) (w : Int) : Int :=
  if 40 ≤ w then (if w < 46 then β (w - 22).toNat else -2) else if 30 ≤ w then (if w < 36 then β (w - 18).toNat else -2) else if 10 ≤ w then (if w < 22 then β (w - 10).toNat else -2)
  else if w = 0 then n else if w = 1 then hungS β 6 else if w = 2 then β 24 else if w = 3 then β 25 else if w = 4 then m else -2
theorem m_BH_told {M : wM} {β : Nat → Int} {n : Nat} {σ : Nat → Int} {m : Nat} {τ : Nat → Int} {I J : wIm} {w : Int} (hG : M.2.2 = RG) (hA : clsAt M β n σ m τ I J) (hV : aLok β n σ m τ I J) (hw : -2147483648 ≤ w ∧ w < 2147483648) : EvI k_BH_told [.ref 0, .int (iI w)] SH M (fun r M' => r = iI (toldS β n m w) ∧ clsAt M' β n σ m τ I J ∧ Off M M' 0 47) := by
  refine EvI.of 0 (by decide) (Nat.le_of_ble_eq_true rfl) rfl ?_
  obtain ⟨d1, e1, r1, o1⟩ := nrm (k := 10) hw (by decide)
  obtain ⟨d2, e2, r2, o2⟩ := nrm (k := 30) hw (by decide)
  obtain ⟨d3, e3, r3, o3⟩ := nrm (k := 40) hw (by decide)
  refine Rn.iload_n d_BH_told_0 rfl ?_
  refine Rn.bipush (v := iI 10) d_BH_told_1 (by decide +kernel) ?_
  refine In.sub d_BH_told_3 ?_
  rw [e1]
  refine Rn.cSI d_BH_told_4 s_BH_told_BH_isLoop g_218 g_219 ⟨rfl, rfl⟩ ⟨Nat.zero_le _, Nat.zero_le _⟩ (m_BH_isLoop r1) rfl rfl (Nat.le_of_ble_eq_true rfl) (fun rr MM qq => ?_)
  obtain ⟨rfl, rfl⟩ := And.imp id Eq.symm qq; clear qq
  refine In.if_eq (tgt := 36) d_BH_told_7 (by decide) fl_rg (fun c7 => ?_) (fun c7 => ?_)
  · have n7 := fl_eq c7
    refine Rn.iload_n d_BH_told_36 rfl ?_
    refine Rn.bipush (v := iI 30) d_BH_told_37 (by decide +kernel) ?_
    refine In.sub d_BH_told_39 ?_
    rw [e2]
    refine Rn.cSI d_BH_told_40 s_BH_told_BH_isBall g_237 g_238 ⟨rfl, rfl⟩ ⟨Nat.zero_le _, Nat.zero_le _⟩ (m_BH_isBall r2) rfl rfl (Nat.le_of_ble_eq_true rfl) (fun rr MM qq => ?_)
    obtain ⟨rfl, rfl⟩ := And.imp id Eq.symm qq; clear qq
    refine In.if_eq (tgt := 58) d_BH_told_43 (by decide) fl_rg (fun c43 => ?_) (fun c43 => ?_)
    · have n43 := fl_eq c43
      refine Rn.iload_n d_BH_told_58 rfl ?_
      refine Rn.bipush (v := iI 40) d_BH_told_59 (by decide +kernel) ?_
      refine In.sub d_BH_told_61 ?_
      rw [e3]
      refine Rn.cSI d_BH_told_62 s_BH_told_BH_isBall g_237 g_238 ⟨rfl, rfl⟩ ⟨Nat.zero_le _, Nat.zero_le _⟩ (m_BH_isBall r3) rfl rfl (Nat.le_of_ble_eq_true rfl) (fun rr MM qq => ?_)
      obtain ⟨rfl, rfl⟩ := And.imp id Eq.symm qq; clear qq
      refine In.if_eq (tgt := 80) d_BH_told_65 (by decide) fl_rg (fun c65 => ?_) (fun c65 => ?_)
      · have n65 := fl_eq c65
        refine Rn.iload_n d_BH_told_80 rfl ?_
        rcases (show w = 0 ∨ w = 1 ∨ w = 2 ∨ w = 3 ∨ w = 4 ∨ (w < 0 ∨ 4 < w) by omega) with e | e | e | e | e | e
        · have eq : toldS β n m w = n := by unfold toldS; rw [if_neg (by omega), if_neg (by omega), if_neg (by omega), if_pos e]
          rw [eq]
          subst e
          refine In.tabIn (off := 35) (tgt := 116) 0 d_BH_told_81 rfl (by decide) (by decide) rfl (by decide) ?_
          refine Rn.aload_n d_BH_told_116 rfl ?_
          refine Rn.getR d_BH_told_117 f_BH_pad g_188 z_BH (r_BH_pad (by assumption)) ?_
          refine Rn.cVI d_BH_told_120 s_BH_told_Pad_size g_264 g_265 g_266 ⟨rfl, rfl⟩ ⟨Nat.zero_le _, Nat.zero_le _⟩ (m_Pad_size hA.2.1) rfl rfl z_Pad c_Pad (Nat.le_of_ble_eq_true rfl) (fun rr MM qq => ?_)
          obtain ⟨rfl, rfl⟩ := And.imp id Eq.symm qq; clear qq
          exact Rn.iret d_BH_told_123 rfl rfl ⟨rfl, hA, Off.rf⟩
        · have eq : toldS β n m w = hungS β 6 := by unfold toldS; rw [if_neg (by omega), if_neg (by omega), if_neg (by omega), if_neg (by omega), if_pos e]
          rw [eq]
          subst e
          refine In.tabIn (off := 43) (tgt := 124) 1 d_BH_told_81 rfl (by decide) (by decide) rfl (by decide) ?_
          refine Rn.aload_n d_BH_told_124 rfl ?_
          refine Rn.getR d_BH_told_125 f_BH_hill g_186 z_BH (r_BH_hill (by assumption)) ?_
          refine Rn.cVI d_BH_told_128 s_BH_told_Hill_hungLoops g_441 g_249 g_250 ⟨rfl, rfl⟩ ⟨Nat.zero_le _, Nat.zero_le _⟩ (m_Hill_hungLoops i_BH_hill hG hA.1 hV.1.l) rfl rfl (z_Hill (by first | assumption | exact i_Image_hill (by assumption) | exact i_BH_hill | exact i_Telling_hill | exact i_Year_hill)) c_Hill (Nat.le_of_ble_eq_true rfl) (fun rr MM qq => ?_)
          obtain ⟨rfl, rfl⟩ := And.imp id Eq.symm qq; clear qq
          exact Rn.iret d_BH_told_131 rfl rfl ⟨rfl, hA, Off.rf⟩
        · have eq : toldS β n m w = β 24 := by unfold toldS; rw [if_neg (by omega), if_neg (by omega), if_neg (by omega), if_neg (by omega), if_neg (by omega), if_pos e]
          rw [eq]
          subst e
          refine In.tabIn (off := 51) (tgt := 132) 2 d_BH_told_81 rfl (by decide) (by decide) rfl (by decide) ?_
          refine Rn.aload_n d_BH_told_132 rfl ?_
          refine Rn.getR d_BH_told_133 f_BH_hill g_186 z_BH (r_BH_hill (by assumption)) ?_
          refine Rn.cVI d_BH_told_136 s_BH_told_Hill_brokenBalls g_442 g_365 g_366 ⟨rfl, rfl⟩ ⟨Nat.zero_le _, Nat.zero_le _⟩ (m_Hill_brokenBalls i_BH_hill hG hA.1) rfl rfl (z_Hill (by first | assumption | exact i_Image_hill (by assumption) | exact i_BH_hill | exact i_Telling_hill | exact i_Year_hill)) c_Hill (Nat.le_of_ble_eq_true rfl) (fun rr MM qq => ?_)
          obtain ⟨rfl, rfl⟩ := And.imp id Eq.symm qq; clear qq
          exact Rn.iret d_BH_told_139 rfl rfl ⟨rfl, hA, Off.rf⟩
        · have eq : toldS β n m w = β 25 := by unfold toldS; rw [if_neg (by omega), if_neg (by omega), if_neg (by omega), if_neg (by omega), if_neg (by omega), if_neg (by omega), if_pos e]
          rw [eq]
          subst e
          refine In.tabIn (off := 59) (tgt := 140) 3 d_BH_told_81 rfl (by decide) (by decide) rfl (by decide) ?_
          refine Rn.aload_n d_BH_told_140 rfl ?_
          refine Rn.getR d_BH_told_141 f_BH_hill g_186 z_BH (r_BH_hill (by assumption)) ?_
          refine Rn.cVI d_BH_told_144 s_BH_told_Hill_winter g_447 g_448 g_449 ⟨rfl, rfl⟩ ⟨Nat.zero_le _, Nat.zero_le _⟩ (m_Hill_winter i_BH_hill hG hA.1) rfl rfl (z_Hill (by first | assumption | exact i_Image_hill (by assumption) | exact i_BH_hill | exact i_Telling_hill | exact i_Year_hill)) c_Hill (Nat.le_of_ble_eq_true rfl) (fun rr MM qq => ?_)
          obtain ⟨rfl, rfl⟩ := And.imp id Eq.symm qq; clear qq
          exact Rn.iret d_BH_told_147 rfl rfl ⟨rfl, hA, Off.rf⟩
        · have eq : toldS β n m w = m := by unfold toldS; rw [if_neg (by omega), if_neg (by omega), if_neg (by omega), if_neg (by omega), if_neg (by omega), if_neg (by omega), if_neg (by omega), if_pos e]
          rw [eq]
          subst e
          refine In.tabIn (off := 67) (tgt := 148) 4 d_BH_told_81 rfl (by decide) (by decide) rfl (by decide) ?_
          refine Rn.aload_n d_BH_told_148 rfl ?_
          refine Rn.getR d_BH_told_149 f_BH_sights g_187 z_BH (r_BH_sights (by assumption)) ?_
          refine Rn.cVI d_BH_told_152 s_BH_told_Sights_size g_527 g_528 g_529 ⟨rfl, rfl⟩ ⟨Nat.zero_le _, Nat.zero_le _⟩ (m_Sights_size i_BH_sights hA.2.2.1) rfl rfl (z_Sights (by first | assumption | exact i_Image_sights (by assumption) | exact i_BH_sights)) c_Sights (Nat.le_of_ble_eq_true rfl) (fun rr MM qq => ?_)
          obtain ⟨rfl, rfl⟩ := And.imp id Eq.symm qq; clear qq
          exact Rn.iret d_BH_told_155 rfl rfl ⟨rfl, hA, Off.rf⟩
        · have eq : toldS β n m w = -2 := by
            unfold toldS
            by_cases g1 : 40 ≤ w
            · rw [if_pos g1, if_neg (by omega)]
            · rw [if_neg g1]
              by_cases g2 : 30 ≤ w
              · rw [if_pos g2, if_neg (by omega)]
              · rw [if_neg g2]
                by_cases g3 : 10 ≤ w
                · rw [if_pos g3, if_neg (by omega)]
                · rw [if_neg g3, if_neg (by omega), if_neg (by omega), if_neg (by omega), if_neg (by omega), if_neg (by omega)]
          rw [eq]
          refine In.tabOut (tgt := 156) d_BH_told_81 ⟨by omega, by omega⟩ (by omega) (by decide) ?_
          refine Rn.bipush (v := iI (-2)) d_BH_told_156 (by decide +kernel) ?_
          exact Rn.iret d_BH_told_158 rfl rfl ⟨rfl, hA, Off.rf⟩
      · have n65 := fl_ne c65
        have hd : d3 = w - 40 := by omega
        obtain ⟨b, hb⟩ : ∃ b : Nat, w - 40 = b := ⟨(w - 40).toNat, by omega⟩
        have eq : toldS β n m w = β (18 + b) := by unfold toldS; rw [if_pos (by omega), if_pos (by omega)]; congr 1; omega
        rw [eq]
        refine Rn.aload_n d_BH_told_68 rfl ?_
        refine Rn.getR d_BH_told_69 f_BH_hill g_186 z_BH (r_BH_hill (by assumption)) ?_
        refine Rn.iload_n d_BH_told_72 rfl ?_
        refine Rn.bipush (v := iI 40) d_BH_told_73 (by decide +kernel) ?_
        refine In.sub d_BH_told_75 ?_
        rw [hb]
        refine Rn.cVI d_BH_told_76 s_BH_told_Hill_chipsOf g_435 g_373 g_374 ⟨rfl, rfl⟩ ⟨Nat.zero_le _, Nat.zero_le _⟩ (m_Hill_chipsOf i_BH_hill hG hA.1 (show b < 6 by omega)) rfl rfl (z_Hill (by first | assumption | exact i_Image_hill (by assumption) | exact i_BH_hill | exact i_Telling_hill | exact i_Year_hill)) c_Hill (Nat.le_of_ble_eq_true rfl) (fun rr MM qq => ?_)
        obtain ⟨rfl, rfl⟩ := And.imp id Eq.symm qq; clear qq
        exact Rn.iret d_BH_told_79 rfl rfl ⟨rfl, hA, Off.rf⟩
    · have n43 := fl_ne c43
      have hd : d2 = w - 30 := by omega
      obtain ⟨b, hb⟩ : ∃ b : Nat, w - 30 = b := ⟨(w - 30).toNat, by omega⟩
      have eq : toldS β n m w = β (12 + b) := by unfold toldS; rw [if_neg (by omega), if_pos (by omega), if_pos (by omega)]; congr 1; omega
      rw [eq]
      refine Rn.aload_n d_BH_told_46 rfl ?_
      refine Rn.getR d_BH_told_47 f_BH_hill g_186 z_BH (r_BH_hill (by assumption)) ?_
      refine Rn.iload_n d_BH_told_50 rfl ?_
      refine Rn.bipush (v := iI 30) d_BH_told_51 (by decide +kernel) ?_
      refine In.sub d_BH_told_53 ?_
      rw [hb]
      refine Rn.cVI d_BH_told_54 s_BH_told_Hill_loopOf g_255 g_245 g_246 ⟨rfl, rfl⟩ ⟨Nat.zero_le _, Nat.zero_le _⟩ (m_Hill_loopOf i_BH_hill hG hA.1 (show b < 6 by omega)) rfl rfl (z_Hill (by first | assumption | exact i_Image_hill (by assumption) | exact i_BH_hill | exact i_Telling_hill | exact i_Year_hill)) c_Hill (Nat.le_of_ble_eq_true rfl) (fun rr MM qq => ?_)
      obtain ⟨rfl, rfl⟩ := And.imp id Eq.symm qq; clear qq
      exact Rn.iret d_BH_told_57 rfl rfl ⟨rfl, hA, Off.rf⟩
  · have n7 := fl_ne c7
    have hd : d1 = w - 10 := by omega
    obtain ⟨b, hb⟩ : ∃ b : Nat, w - 10 = b := ⟨(w - 10).toNat, by omega⟩
    have eq : toldS β n m w = β b := by unfold toldS; rw [if_neg (by omega), if_neg (by omega), if_pos (by omega), if_pos (by omega), hb]; rfl
    rw [eq]
    refine Rn.iload_n d_BH_told_10 rfl ?_
    refine Rn.bipush (v := iI 10) d_BH_told_11 (by decide +kernel) ?_
    refine In.icmp_ne (tgt := 21) d_BH_told_13 (by decide) ⟨by omega, by omega⟩ ⟨by omega, by omega⟩ (fun c13 => ?_) (fun c13 => ?_)
    · refine Rn.aload_n d_BH_told_21 rfl ?_
      refine Rn.getR d_BH_told_22 f_BH_hill g_186 z_BH (r_BH_hill (by assumption)) ?_
      refine Rn.cVR d_BH_told_25 s_BH_told_Hill_tree g_221 g_222 g_223 ⟨rfl, rfl⟩ ⟨Nat.zero_le _, Nat.zero_le _⟩ (m_Hill_tree i_BH_hill hG) rfl rfl (z_Hill (by first | assumption | exact i_Image_hill (by assumption) | exact i_BH_hill | exact i_Telling_hill | exact i_Year_hill)) c_Hill (Nat.le_of_ble_eq_true rfl) (fun rr MM qq => ?_)
      obtain ⟨rfl, rfl⟩ := And.imp id Eq.symm qq; clear qq
      refine Rn.iload_n d_BH_told_28 rfl ?_
      refine Rn.bipush (v := iI 10) d_BH_told_29 (by decide +kernel) ?_
      refine In.sub d_BH_told_31 ?_
      rw [hb]
      refine Rn.cVI d_BH_told_32 s_BH_told_Tree_parentOf g_225 g_226 g_227 ⟨rfl, rfl⟩ ⟨Nat.zero_le _, Nat.zero_le _⟩ (m_Tree_parentOf (i_Hill_tree i_BH_hill) hG hA.1.1 (show 1 ≤ b by omega) (show b < 12 by omega)) rfl rfl (z_Tree (by first | assumption | exact i_Hill_tree (by assumption) | exact i_Hill_tree i_BH_hill)) c_Tree (Nat.le_of_ble_eq_true rfl) (fun rr MM qq => ?_)
      obtain ⟨rfl, rfl⟩ := And.imp id Eq.symm qq; clear qq
      exact Rn.iret d_BH_told_35 rfl rfl ⟨rfl, hA, Off.rf⟩
    · have : b = 0 := by omega
      subst this
      refine Rn.bipush (v := iI (-6)) d_BH_told_16 (by decide +kernel) ?_
      refine Rn.goto (tgt := 35) d_BH_told_18 (by decide) ?_
      exact Rn.iret d_BH_told_35 rfl rfl ⟨by rw [hV.1.z], hA, Off.rf⟩
