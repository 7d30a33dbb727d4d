/-! The reference's calls, the first half. -/
set_option maxRecDepth 20000
set_option maxHeartbeats 400000
theorem mdA.bk {M M' : wM} {β β' : Nat → Int} {n : Nat} {σ : Nat → Int} {m : Nat} {τ : Nat → Int} {I J : wIm} (h : mdA M β n σ m τ I J) (hb : bkA M' β') (ho : ∀ k, k ≠ 48 → k ≠ 49 → k ≠ 47 → M'.1 k = M.1 k) (h2 : M'.1 47 2 = M.1 47 2) (h3 : M'.1 47 4 = M.1 47 4) : mdA M' β' n σ m τ I J := by
  obtain ⟨q1, q2, q3, q4, q5, q6, q7⟩ := h
  exact ⟨hb, fun i hi => by rw [ho 51 (by decide) (by decide) (by decide)]; exact q2 i hi, by rw [h3]; exact q3, fun i hi => by rw [ho 50 (by decide) (by decide) (by decide)]; exact q4 i hi, by rw [h2]; exact q5, q6.of (ho 56 (by decide) (by decide) (by decide)) (ho 57 (by decide) (by decide) (by decide)), q7.of (ho 56 (by decide) (by decide) (by decide)) (ho 57 (by decide) (by decide) (by decide))⟩
theorem mdA.pd {M M' : wM} {β : Nat → Int} {n n' : Nat} {σ σ' : Nat → Int} {m : Nat} {τ : Nat → Int} {I J : wIm} (h : mdA M β n σ m τ I J) (hb : pdA M' n' σ') (ho : ∀ k, k ≠ 51 → k ≠ 47 → M'.1 k = M.1 k) (h2 : M'.1 47 2 = M.1 47 2) : mdA M' β n' σ' m τ I J := by
  obtain ⟨q1, q2, q3, q4, q5, q6, q7⟩ := h
  exact ⟨fun k hk => by rw [ho 48 (by decide) (by decide)]; exact q1 k hk, hb.1, hb.2, fun i hi => by rw [ho 50 (by decide) (by decide)]; exact q4 i hi, by rw [h2]; exact q5, q6.of (ho 56 (by decide) (by decide)) (ho 57 (by decide) (by decide)), q7.of (ho 56 (by decide) (by decide)) (ho 57 (by decide) (by decide))⟩
theorem mdA.sg {M M' : wM} {β : Nat → Int} {n : Nat} {σ : Nat → Int} {m m' : Nat} {τ τ' : Nat → Int} {I J : wIm} (h : mdA M β n σ m τ I J) (hb : ∀ i, i < 16 → M'.1 50 i = iI (τ' i)) (hm : M'.1 47 2 = iI m') (ho : ∀ k, k ≠ 50 → k ≠ 47 → M'.1 k = M.1 k) (h2 : M'.1 47 4 = M.1 47 4) : mdA M' β n σ m' τ' I J := by
  obtain ⟨q1, q2, q3, q4, q5, q6, q7⟩ := h
  exact ⟨fun k hk => by rw [ho 48 (by decide) (by decide)]; exact q1 k hk, fun i hi => by rw [ho 51 (by decide) (by decide)]; exact q2 i hi, by rw [h2]; exact q3, hb, hm, q6.of (ho 56 (by decide) (by decide)) (ho 57 (by decide) (by decide)), q7.of (ho 56 (by decide) (by decide)) (ho 57 (by decide) (by decide))⟩
theorem mdA.p {M : wM} {β : Nat → Int} {n : Nat} {σ : Nat → Int} {m : Nat} {τ : Nat → Int} {I J : wIm} (h : mdA M β n σ m τ I J) : pdA M n σ := ⟨h.2.1, h.2.2.1⟩
theorem m_Md_branch {M : wM} {β : Nat → Int} {n : Nat} {σ : Nat → Int} {m : Nat} {τ : Nat → Int} {I J : wIm} {l p : Int} (hG : M.2.2 = RG) (hA : mdA M β n σ m τ I J) (hV : aLok β n σ m τ I J) (hl : -2147483648 ≤ l ∧ l < 2147483648) (hp : -2147483648 ≤ p ∧ p < 2147483648) : EvI k_Md_branch [.ref 47, .int (iI l), .int (iI p)] SH M (fun r M' => r = iI (fBranch β l p).1 ∧ mdA M' (fBranch β l p).2 n σ m τ I J ∧ Ofm M M') := by
  refine EvI.of 1 (by decide) (Nat.le_of_ble_eq_true rfl) rfl ?_
  have bad : ¬ (lpq l ∧ lpq p ∧ l ≠ 0) → Rn k_Md_branch none (0, 0) 20 [some (.ref 47), some (.int (iI l)), some (.int (iI p)), none] [] SH M (w_FI (0, 0) SH (fun r M' => r = iI (fBranch β l p).1 ∧ mdA M' (fBranch β l p).2 n σ m τ I J ∧ Ofm M M')) := by
    intro q
    have e : fBranch β l p = (-1, β) := by unfold fBranch; rw [if_neg q]
    rw [e]
    refine Rn.iconst (v := iI (-1)) d_Md_branch_20 rfl ?_
    exact Rn.iret d_Md_branch_21 rfl rfl ⟨rfl, hA, Ofm.rf⟩
  refine Rn.iload_n d_Md_branch_0 rfl ?_
  refine Rn.iconst (v := iI 1) d_Md_branch_1 rfl ?_
  refine Rn.bipush (v := iI 11) d_Md_branch_2 (by decide +kernel) ?_
  refine Rn.cSI d_Md_branch_4 s_Md_branch_Md_in g_708 g_709 ⟨rfl, rfl⟩ ⟨Nat.zero_le _, Nat.zero_le _⟩ (m_Md_in hl (by decide) (by decide)) rfl rfl (Nat.le_of_ble_eq_true rfl) (fun rr MM qq => ?_)
  obtain ⟨rfl, rfl⟩ := And.imp id Eq.symm qq; clear qq
  refine In.if_eq (tgt := 20) d_Md_branch_7 (by decide) fl_rg (fun c7 => ?_) (fun c7 => ?_)
  · have q := fl_eq c7
    exact bad (by omega)
  · have q := fl_ne c7
    refine Rn.iload_n d_Md_branch_10 rfl ?_
    refine Rn.iconst (v := iI 0) d_Md_branch_11 rfl ?_
    refine Rn.bipush (v := iI 11) d_Md_branch_12 (by decide +kernel) ?_
    refine Rn.cSI d_Md_branch_14 s_Md_branch_Md_in g_708 g_709 ⟨rfl, rfl⟩ ⟨Nat.zero_le _, Nat.zero_le _⟩ (m_Md_in hp (by decide) (by decide)) rfl rfl (Nat.le_of_ble_eq_true rfl) (fun rr MM qq => ?_)
    obtain ⟨rfl, rfl⟩ := And.imp id Eq.symm qq; clear qq
    refine In.if_ne (tgt := 22) d_Md_branch_17 (by decide) fl_rg (fun c17 => ?_) (fun c17 => ?_)
    · have q2 := fl_ne c17
      refine Rn.iload_n d_Md_branch_22 rfl ?_
      refine Rn.iload_n d_Md_branch_23 rfl ?_
      refine In.icmp_lt (tgt := 30) d_Md_branch_24 (by decide) ⟨by omega, by omega⟩ ⟨by omega, by omega⟩ (fun c24 => ?_) (fun c24 => ?_)
      · have e : fBranch β l p = (β l.toNat, up β l.toNat p) := by unfold fBranch; rw [if_pos (by omega), if_neg (by omega)]
        rw [e]
        obtain ⟨k, rfl⟩ : ∃ k : Nat, l = k := ⟨l.toNat, by omega⟩
        simp only [Int.toNat_natCast]
        refine Rn.aload_n d_Md_branch_30 rfl ?_
        refine Rn.getR d_Md_branch_31 f_Md_book g_650 z_Md (r_Md_book (by assumption)) ?_
        refine Rn.iload_n d_Md_branch_34 rfl ?_
        refine In.ald d_Md_branch_35 z_Md_book rfl (by omega) (by decide) (hA.1 k (by omega)) ?_
        refine Rn.istore_n (lv1 := [_, _, _, _]) d_Md_branch_36 (by decide) (w_pv rfl) rfl ?_
        refine Rn.aload_n d_Md_branch_37 rfl ?_
        refine Rn.getR d_Md_branch_38 f_Md_book g_650 z_Md (r_Md_book (by assumption)) ?_
        refine Rn.iload_n d_Md_branch_41 rfl ?_
        refine Rn.iload_n d_Md_branch_42 rfl ?_
        refine In.ast d_Md_branch_43 z_Md_book rfl (by omega) (by decide) ?_
        refine Rn.iload_n d_Md_branch_44 rfl ?_
        exact Rn.iret d_Md_branch_45 rfl rfl ⟨rfl, hA.bk hA.1.up (fun a h1 h2 h3 => w_ui_off _ _ _ _ _ h1) (by rw [w_ui_off _ _ _ _ _ (by decide)]) (by rw [w_ui_off _ _ _ _ _ (by decide)]), Ofm.ui (by omega)⟩
      · have e : fBranch β l p = (-2, β) := by unfold fBranch; rw [if_pos (by omega), if_pos (by omega)]
        rw [e]
        refine Rn.bipush (v := iI (-2)) d_Md_branch_27 (by decide +kernel) ?_
        exact Rn.iret d_Md_branch_29 rfl rfl ⟨rfl, hA, Ofm.rf⟩
    · have q2 := fl_eq c17
      exact bad (by omega)
theorem m_Md_ball {M : wM} {β : Nat → Int} {n : Nat} {σ : Nat → Int} {m : Nat} {τ : Nat → Int} {I J : wIm} {b l c : Int} (hG : M.2.2 = RG) (hA : mdA M β n σ m τ I J) (hV : aLok β n σ m τ I J) (hb : -2147483648 ≤ b ∧ b < 2147483648) (hl : -2147483648 ≤ l ∧ l < 2147483648) (hc : -2147483648 ≤ c ∧ c < 2147483648) : EvI k_Md_ball [.ref 47, .int (iI b), .int (iI l), .int (iI c)] SH M (fun r M' => r = iI (fBall β b l c).1 ∧ mdA M' (fBall β b l c).2 n σ m τ I J ∧ Ofm M M') := by
  refine EvI.of 2 (by decide) (Nat.le_of_ble_eq_true rfl) rfl ?_
  have hbk := hok_bk hV.1
  have bad : ¬ (blq b ∧ (l = -1 ∨ lpq l)) → Rn k_Md_ball none (0, 0) 19 [some (.ref 47), some (.int (iI b)), some (.int (iI l)), some (.int (iI c)), none, none] [] SH M (w_FI (0, 0) SH (fun r M' => r = iI (fBall β b l c).1 ∧ mdA M' (fBall β b l c).2 n σ m τ I J ∧ Ofm M M')) := by
    intro q
    have e : fBall β b l c = (-1, β) := by unfold fBall; rw [if_neg q]
    rw [e]
    refine Rn.iconst (v := iI (-1)) d_Md_ball_19 rfl ?_
    exact Rn.iret d_Md_ball_20 rfl rfl ⟨rfl, hA, Ofm.rf⟩
  refine Rn.iload_n d_Md_ball_0 rfl ?_
  refine Rn.iconst (v := iI 0) d_Md_ball_1 rfl ?_
  refine Rn.iconst (v := iI 5) d_Md_ball_2 rfl ?_
  refine Rn.cSI d_Md_ball_3 s_Md_ball_Md_in g_708 g_709 ⟨rfl, rfl⟩ ⟨Nat.zero_le _, Nat.zero_le _⟩ (m_Md_in hb (by decide) (by decide)) rfl rfl (Nat.le_of_ble_eq_true rfl) (fun rr MM qq => ?_)
  obtain ⟨rfl, rfl⟩ := And.imp id Eq.symm qq; clear qq
  refine In.if_eq (tgt := 19) d_Md_ball_6 (by decide) fl_rg (fun c6 => ?_) (fun c6 => ?_)
  · have q := fl_eq c6
    exact bad (by omega)
  · have q := fl_ne c6
    refine Rn.iload_n d_Md_ball_9 rfl ?_
    refine Rn.iconst (v := iI (-1)) d_Md_ball_10 rfl ?_
    refine Rn.bipush (v := iI 11) d_Md_ball_11 (by decide +kernel) ?_
    refine Rn.cSI d_Md_ball_13 s_Md_ball_Md_in g_708 g_709 ⟨rfl, rfl⟩ ⟨Nat.zero_le _, Nat.zero_le _⟩ (m_Md_in hl (by decide) (by decide)) rfl rfl (Nat.le_of_ble_eq_true rfl) (fun rr MM qq => ?_)
    obtain ⟨rfl, rfl⟩ := And.imp id Eq.symm qq; clear qq
    refine In.if_ne (tgt := 21) d_Md_ball_16 (by decide) fl_rg (fun c16 => ?_) (fun c16 => ?_)
    · have q2 := fl_ne c16
      have qq1 : blq b ∧ (l = -1 ∨ lpq l) := by omega
      refine Rn.iload_n d_Md_ball_21 rfl ?_
      refine Rn.iconst (v := iI 0) d_Md_ball_22 rfl ?_
      refine Rn.bipush (v := iI 8) d_Md_ball_23 (by decide +kernel) ?_
      refine Rn.cSI d_Md_ball_25 s_Md_ball_Md_in g_708 g_709 ⟨rfl, rfl⟩ ⟨Nat.zero_le _, Nat.zero_le _⟩ (m_Md_in hc (by decide) (by decide)) rfl rfl (Nat.le_of_ble_eq_true rfl) (fun rr MM qq => ?_)
      obtain ⟨rfl, rfl⟩ := And.imp id Eq.symm qq; clear qq
      refine In.if_ne (tgt := 34) d_Md_ball_28 (by decide) fl_rg (fun c28 => ?_) (fun c28 => ?_)
      · have q3 := fl_ne c28
        obtain ⟨b, rfl⟩ : ∃ k : Nat, b = k := ⟨b.toNat, by omega⟩
        have hb6 : b < 6 := by omega
        have f1 : (l ≠ -1 ∧ (β (12 + b) ≠ l ∧ (hungS β 6).testBit l.toNat = true)) → fBall β b l c = (-3, β) := fun k => by
          unfold fBall; rw [if_pos qq1, if_pos q3, Int.toNat_natCast, if_pos k]
        have f2 : ¬ (l ≠ -1 ∧ (β (12 + b) ≠ l ∧ (hungS β 6).testBit l.toNat = true)) → fBall β b l c = (β (12 + b), putF β b (if l = -1 then -6 else l) c) := fun k => by
          unfold fBall; rw [if_pos qq1, if_pos q3, Int.toNat_natCast, if_neg k]
        refine Rn.aload_n d_Md_ball_34 rfl ?_
        refine Rn.cVV d_Md_ball_35 s_Md_ball_Md_asNow g_715 g_717 gs_10 ⟨rfl, rfl⟩ ⟨Nat.zero_le _, Nat.zero_le _⟩ (m_Md_asNow hG hA.1) rfl rfl z_Md c_Md (Nat.le_of_ble_eq_true rfl) (fun M1 qq => ?_)
        obtain ⟨k1, n1, _, _, _⟩ := qq
        have hG1 := k1.G hG
        have hA1 := hA.kp k1
        have good : ∀ (x4 : Option Value), x4 = some (.int (iI (-6))) ∨ x4 = some (.int (iI b)) → ¬ (l ≠ -1 ∧ (β (12 + b) ≠ l ∧ (hungS β 6).testBit l.toNat = true)) → Rn k_Md_ball none (0, 0) 67 [some (.ref 47), some (.int (iI b)), some (.int (iI l)), some (.int (iI c)), x4, none] [] SH M1 (w_FI (0, 0) SH (fun r M' => r = iI (fBall β b l c).1 ∧ mdA M' (fBall β b l c).2 n σ m τ I J ∧ Ofm M M')) := by
          intro x4 hx4 hk
          obtain ⟨z, rfl⟩ : ∃ z : Int, x4 = some (.int (iI z)) := by
            rcases hx4 with e | e
            · exact ⟨_, e⟩
            · exact ⟨_, e⟩
          rw [f2 hk]
          have fin : ∀ v : Int, v = (if l = -1 then -6 else l) → Rn k_Md_ball none (0, 0) 96 [some (.ref 47), some (.int (iI b)), some (.int (iI l)), some (.int (iI c)), some (.int (iI z)), some (.int (iI (β (12 + b))))] [.int (iI v), .int (iI ((12 : Int) + b)), .ref 48] SH M1 (w_FI (0, 0) SH (fun r M' => r = iI (β (12 + b)) ∧ mdA M' (putF β b (if l = -1 then -6 else l) c) n σ m τ I J ∧ Ofm M M')) := by
            intro v hv
            rw [← hv]
            refine In.ast d_Md_ball_96 z_Md_book (show ((12 : Int) + b) = ((12 + b : Nat) : Int) by omega) (by omega) (by decide) ?_
            refine Rn.aload_n d_Md_ball_97 rfl ?_
            refine Rn.getR d_Md_ball_98 f_Md_book g_650 z_Md (r_Md_book (by assumption)) ?_
            refine Rn.bipush (v := iI 18) d_Md_ball_101 (by decide +kernel) ?_
            refine Rn.iload_n d_Md_ball_103 rfl ?_
            refine In.add d_Md_ball_104 ?_
            refine Rn.iload_n d_Md_ball_105 rfl ?_
            refine In.ast d_Md_ball_106 z_Md_book (show ((18 : Int) + b) = ((18 + b : Nat) : Int) by omega) (by omega) (by decide) ?_
            refine Rn.aload_n d_Md_ball_107 rfl ?_
            refine Rn.getR d_Md_ball_108 f_Md_book g_650 z_Md (r_Md_book (by assumption)) ?_
            refine Rn.bipush (v := iI 24) d_Md_ball_111 (by decide +kernel) ?_
            refine Rn.dup2 d_Md_ball_113 rfl rfl ?_
            refine In.ald d_Md_ball_114 z_Md_book rfl (by decide) (by decide) ((hA1.1.up.up 24 (by decide)).trans (by rw [up_ne _ _ _ _ (by omega), up_ne _ _ _ _ (by omega), hbk.1])) ?_
            refine Rn.iconst (v := iI 1) d_Md_ball_115 rfl ?_
            refine Rn.iload_n d_Md_ball_116 rfl ?_
            refine In.shl rfl (by omega) d_Md_ball_117 ?_
            refine Rn.iconst (v := iI (-1)) d_Md_ball_118 rfl ?_
            refine Rn.ixor d_Md_ball_119 ?_
            refine Rn.iand d_Md_ball_120 ?_
            rw [clr_ok _ hbk.2 b hb6]
            refine In.ast d_Md_ball_121 z_Md_book rfl (by decide) (by decide) ?_
            refine Rn.iload d_Md_ball_122 rfl ?_
            exact Rn.iret d_Md_ball_124 rfl rfl ⟨rfl, hA1.bk hA1.1.up.up.up (fun a h1 h2 h3 => by rw [w_ui_off _ _ _ _ _ h1, w_ui_off _ _ _ _ _ h1, w_ui_off _ _ _ _ _ h1]) (by rw [w_ui_off _ _ _ _ _ (by decide), w_ui_off _ _ _ _ _ (by decide), w_ui_off _ _ _ _ _ (by decide)]) (by rw [w_ui_off _ _ _ _ _ (by decide), w_ui_off _ _ _ _ _ (by decide), w_ui_off _ _ _ _ _ (by decide)]), ((k1.o.tr (Ofm.ui (by omega))).tr (Ofm.ui (by omega))).tr (Ofm.ui (by omega))⟩
          refine Rn.aload_n d_Md_ball_67 rfl ?_
          refine Rn.getR d_Md_ball_68 f_Md_book g_650 z_Md (r_Md_book (by assumption)) ?_
          refine Rn.bipush (v := iI 12) d_Md_ball_71 (by decide +kernel) ?_
          refine Rn.iload_n d_Md_ball_73 rfl ?_
          refine In.add d_Md_ball_74 ?_
          refine In.ald d_Md_ball_75 z_Md_book (by omega) (by omega) (by decide) (hA1.1 (12 + b) (by omega)) ?_
          refine Rn.istore (lv1 := [_, _, _, _, _, _]) d_Md_ball_76 (by decide) (w_pv rfl) rfl ?_
          refine Rn.aload_n d_Md_ball_78 rfl ?_
          refine Rn.getR d_Md_ball_79 f_Md_book g_650 z_Md (r_Md_book (by assumption)) ?_
          refine Rn.bipush (v := iI 12) d_Md_ball_82 (by decide +kernel) ?_
          refine Rn.iload_n d_Md_ball_84 rfl ?_
          refine In.add d_Md_ball_85 ?_
          refine Rn.iload_n d_Md_ball_86 rfl ?_
          refine In.if_ge (tgt := 95) d_Md_ball_87 (by decide) ⟨by omega, by omega⟩ (fun c87 => ?_) (fun c87 => ?_)
          · refine Rn.iload_n d_Md_ball_95 rfl ?_
            exact fin l (by rw [if_neg (by omega)])
          · refine Rn.bipush (v := iI (-6)) d_Md_ball_90 (by decide +kernel) ?_
            refine Rn.goto (tgt := 96) d_Md_ball_92 (by decide) ?_
            exact fin (-6) (by rw [if_pos (by omega)])
        refine Rn.iload_n d_Md_ball_38 rfl ?_
        refine In.if_ge (tgt := 46) d_Md_ball_39 (by decide) ⟨by omega, by omega⟩ (fun c39 => ?_) (fun c39 => ?_)
        · have hlp : lpq l := by omega
          obtain ⟨p, rfl⟩ : ∃ k : Nat, l = k := ⟨l.toNat, by omega⟩
          simp only [Int.toNat_natCast] at f1 f2 good
          have h3 := onB_hung hV.1 (l := p) hb6
          refine Rn.aload_n d_Md_ball_46 rfl ?_
          refine Rn.iload_n d_Md_ball_47 rfl ?_
          refine Rn.cVI d_Md_ball_48 s_Md_ball_Md_ballOn g_719 g_721 gs_11 ⟨rfl, rfl⟩ ⟨Nat.zero_le _, Nat.zero_le _⟩ (m_Md_ballOn hG1 n1 hV.1 (show -1000 ≤ (p : Int) ∧ (p : Int) ≤ 1000 by omega)) rfl rfl z_Md c_Md (Nat.le_of_ble_eq_true rfl) (fun rr MM qq => ?_)
          obtain ⟨rfl, rfl⟩ := And.imp id Eq.symm qq; clear qq
          refine Rn.istore (lv1 := [_, _, _, _, _, _]) d_Md_ball_51 (by decide) (w_pv rfl) rfl ?_
          refine Rn.iload d_Md_ball_53 rfl ?_
          rcases h3 with ⟨e1, e2, e3⟩ | ⟨e1, e2⟩ | ⟨x, e0, e1, e2, e3, e4⟩
          · rw [e1]
            refine In.if_lt (tgt := 67) d_Md_ball_55 (by decide) ⟨by omega, by omega⟩ (fun c55 => ?_) (fun c55 => ?_)
            · exact good _ (Or.inl rfl) (by rw [e2]; simp)
            · omega
          · rw [e1]
            refine In.if_lt (tgt := 67) d_Md_ball_55 (by decide) ⟨by omega, by omega⟩ (fun c55 => ?_) (fun c55 => ?_)
            · omega
            · refine Rn.iload d_Md_ball_58 rfl ?_
              refine Rn.iload_n d_Md_ball_60 rfl ?_
              refine In.icmp_eq (tgt := 67) d_Md_ball_61 (by decide) ⟨by omega, by omega⟩ ⟨by omega, by omega⟩ (fun c61 => ?_) (fun c61 => ?_)
              · exact good _ (Or.inr rfl) (by omega)
              · omega
          · rw [e1]
            refine In.if_lt (tgt := 67) d_Md_ball_55 (by decide) ⟨by omega, by omega⟩ (fun c55 => ?_) (fun c55 => ?_)
            · omega
            · refine Rn.iload d_Md_ball_58 rfl ?_
              refine Rn.iload_n d_Md_ball_60 rfl ?_
              refine In.icmp_eq (tgt := 67) d_Md_ball_61 (by decide) ⟨by omega, by omega⟩ ⟨by omega, by omega⟩ (fun c61 => ?_) (fun c61 => ?_)
              · omega
              · rw [f1 ⟨by omega, e3, e4⟩]
                refine Rn.bipush (v := iI (-3)) d_Md_ball_64 (by decide +kernel) ?_
                exact Rn.iret d_Md_ball_66 rfl rfl ⟨rfl, hA1, k1.o⟩
        · refine Rn.iload_n d_Md_ball_42 rfl ?_
          refine Rn.goto (tgt := 51) d_Md_ball_43 (by decide) ?_
          refine Rn.istore (lv1 := [_, _, _, _, _, _]) d_Md_ball_51 (by decide) (w_pv rfl) rfl ?_
          refine Rn.iload d_Md_ball_53 rfl ?_
          refine In.if_lt (tgt := 67) d_Md_ball_55 (by decide) ⟨by omega, by omega⟩ (fun c55 => ?_) (fun c55 => ?_)
          · omega
          · refine Rn.iload d_Md_ball_58 rfl ?_
            refine Rn.iload_n d_Md_ball_60 rfl ?_
            refine In.icmp_eq (tgt := 67) d_Md_ball_61 (by decide) ⟨by omega, by omega⟩ ⟨by omega, by omega⟩ (fun c61 => ?_) (fun c61 => ?_)
            · exact good _ (Or.inr rfl) (by omega)
            · omega
      · have q3 := fl_eq c28
        have e : fBall β b l c = (-2, β) := by unfold fBall; rw [if_pos qq1, if_neg q3]
        rw [e]
        refine Rn.bipush (v := iI (-2)) d_Md_ball_31 (by decide +kernel) ?_
        exact Rn.iret d_Md_ball_33 rfl rfl ⟨rfl, hA, Ofm.rf⟩
    · have q2 := fl_eq c16
      exact bad (by omega)
theorem m_Md_say {M : wM} {β : Nat → Int} {n : Nat} {σ : Nat → Int} {m : Nat} {τ : Nat → Int} {I J : wIm} {c : Int} (hG : M.2.2 = RG) (hA : mdA M β n σ m τ I J) (hV : aLok β n σ m τ I J) (hc : -2147483648 ≤ c ∧ c < 2147483648) : EvI k_Md_say [.ref 47, .int (iI c)] SH M (fun r M' => r = iI (fSay n σ c).1 ∧ mdA M' β (fSay n σ c).2.1 (fSay n σ c).2.2 m τ I J ∧ Ofm M M') := by
  refine EvI.of 0 (by decide) (Nat.le_of_ble_eq_true rfl) rfl ?_
  have hn := hV.2.1.1
  refine Rn.iload_n d_Md_say_0 rfl ?_
  refine Rn.bipush (v := iI 33) d_Md_say_1 (by decide +kernel) ?_
  refine Rn.bipush (v := iI 126) d_Md_say_3 (by decide +kernel) ?_
  refine Rn.cSI d_Md_say_5 s_Md_say_Md_in g_708 g_709 ⟨rfl, rfl⟩ ⟨Nat.zero_le _, Nat.zero_le _⟩ (m_Md_in hc (by decide) (by decide)) rfl rfl (Nat.le_of_ble_eq_true rfl) (fun rr MM qq => ?_)
  obtain ⟨rfl, rfl⟩ := And.imp id Eq.symm qq; clear qq
  refine In.if_ne (tgt := 14) d_Md_say_8 (by decide) fl_rg (fun c8 => ?_) (fun c8 => ?_)
  · have q := fl_ne c8
    refine Rn.aload_n d_Md_say_14 rfl ?_
    refine In.getI d_Md_say_15 f_Md_signs g_654 z_Md hA.2.2.1 ?_
    refine Rn.bipush (v := iI 60) d_Md_say_18 (by decide +kernel) ?_
    refine In.icmp_ne (tgt := 26) d_Md_say_20 (by decide) ⟨by omega, by omega⟩ ⟨by omega, by omega⟩ (fun c20 => ?_) (fun c20 => ?_)
    · have e : fSay n σ c = (((n + 1 : Nat) : Int), n + 1, up σ n c) := by unfold fSay; rw [if_pos q, if_pos (by omega)]
      rw [e]
      have hP : pdA (w_ui (w_ui M 51 n (iI c)) 47 4 (iI ((n : Int) + 1))) (n + 1) (up σ n c) := by
        refine ⟨fun i hi => ?_, by rw [w_ui_at]; rfl⟩
        rw [w_ui_off _ _ _ _ _ (by decide), w_ui_if]
        by_cases ei : i = n
        · subst ei; rw [if_pos ⟨rfl, rfl⟩, up_at]
        · rw [if_neg (by omega), up_ne _ _ _ _ ei]; exact hA.2.1 i hi
      refine Rn.aload_n d_Md_say_26 rfl ?_
      refine Rn.getR d_Md_say_27 f_Md_pad g_655 z_Md (r_Md_pad (by assumption)) ?_
      refine Rn.aload_n d_Md_say_30 rfl ?_
      refine In.getI d_Md_say_31 f_Md_signs g_654 z_Md hA.2.2.1 ?_
      refine Rn.iload_n d_Md_say_34 rfl ?_
      refine In.ast d_Md_say_35 z_Md_pad rfl (by omega) (by decide) ?_
      refine Rn.aload_n d_Md_say_36 rfl ?_
      refine Rn.dup d_Md_say_37 rfl ?_
      refine In.getI d_Md_say_38 f_Md_signs g_654 z_Md (by rw [w_ui_off _ _ _ _ _ (by decide)]; exact hA.2.2.1) ?_
      refine Rn.iconst (v := iI 1) d_Md_say_41 rfl ?_
      refine In.add d_Md_say_42 ?_
      refine In.putI d_Md_say_43 f_Md_signs g_654 z_Md ?_
      refine Rn.aload_n d_Md_say_46 rfl ?_
      refine In.getI d_Md_say_47 f_Md_signs g_654 z_Md (w_ui_at _ _ _ _) ?_
      exact Rn.iret d_Md_say_50 rfl rfl ⟨rfl, hA.pd hP (fun k h1 h2 => by rw [w_ui_off _ _ _ _ _ h2, w_ui_off _ _ _ _ _ h1]) (by rw [w_ui_if, if_neg (by omega), w_ui_off _ _ _ _ _ (by decide)]), (Ofm.ui (by omega)).tr (Ofm.ui (by omega))⟩
    · have e : fSay n σ c = (-4, n, σ) := by unfold fSay; rw [if_pos q, if_neg (by omega)]
      rw [e]
      refine Rn.bipush (v := iI (-4)) d_Md_say_23 (by decide +kernel) ?_
      exact Rn.iret d_Md_say_25 rfl rfl ⟨rfl, hA, Ofm.rf⟩
  · have q := fl_eq c8
    have e : fSay n σ c = (-2, n, σ) := by unfold fSay; rw [if_neg q]
    rw [e]
    refine Rn.bipush (v := iI (-2)) d_Md_say_11 (by decide +kernel) ?_
    exact Rn.iret d_Md_say_13 rfl rfl ⟨rfl, hA, Ofm.rf⟩
theorem m_Md_wipe {M : wM} {β : Nat → Int} {n : Nat} {σ : Nat → Int} {m : Nat} {τ : Nat → Int} {I J : wIm} (hG : M.2.2 = RG) (hA : mdA M β n σ m τ I J) : EvI k_Md_wipe [.ref 47] SH M (fun r M' => r = iI n ∧ mdA M' β 0 σ m τ I J ∧ Ofm M M') := by
  refine EvI.of 1 (by decide) (Nat.le_of_ble_eq_true rfl) rfl ?_
  refine Rn.aload_n d_Md_wipe_0 rfl ?_
  refine In.getI d_Md_wipe_1 f_Md_signs g_654 z_Md hA.2.2.1 ?_
  refine Rn.istore_n (lv1 := [_, _]) d_Md_wipe_4 (by decide) (w_pv rfl) rfl ?_
  refine Rn.aload_n d_Md_wipe_5 rfl ?_
  refine Rn.iconst (v := iI 0) d_Md_wipe_6 rfl ?_
  refine In.putI d_Md_wipe_7 f_Md_signs g_654 z_Md ?_
  refine Rn.iload_n d_Md_wipe_10 rfl ?_
  exact Rn.iret d_Md_wipe_11 rfl rfl ⟨rfl, hA.pd ⟨fun i hi => by rw [w_ui_off _ _ _ _ _ (by decide)]; exact hA.2.1 i hi, w_ui_at _ _ _ _⟩ (fun k h1 h2 => by rw [w_ui_off _ _ _ _ _ h2]) (by rw [w_ui_if, if_neg (by omega)]), Ofm.ui (by omega)⟩
theorem m_Md_fault {M : wM} {β : Nat → Int} {n : Nat} {σ : Nat → Int} {m : Nat} {τ : Nat → Int} {I J : wIm} (hG : M.2.2 = RG) (hA : mdA M β n σ m τ I J) (hV : aLok β n σ m τ I J) : EvI k_Md_fault [.ref 47] SH M (fun r M' => r = iI (fltS σ n) ∧ mdA M' β n σ m τ I J ∧ Ofm M M') := by
  refine EvI.of 0 (by decide) (Nat.le_of_ble_eq_true rfl) rfl ?_
  refine Rn.aload_n d_Md_fault_0 rfl ?_
  refine Rn.cVI d_Md_fault_1 s_Md_fault_Md_faultOf g_735 g_737 gs_12 ⟨rfl, rfl⟩ ⟨Nat.zero_le _, Nat.zero_le _⟩ (m_Md_faultOf hG hA.p hV.2.1) rfl rfl z_Md c_Md (Nat.le_of_ble_eq_true rfl) (fun rr MM qq => ?_)
  obtain ⟨rfl, rfl⟩ := And.imp id Eq.symm qq; clear qq
  exact Rn.iret d_Md_fault_4 rfl rfl ⟨rfl, hA, Ofm.rf⟩
theorem tellF_1 (σ : Nat → Int) (n : Nat) : ∀ m β pl ac bA bB, 0 ≤ (tellF σ n m β pl ac bA bB).1 ∧ (tellF σ n m β pl ac bA bB).1 ≤ 6 ∧ (tellF σ n m β pl ac bA bB).2.2.1 ≤ ac + m
  | 0, β, pl, ac, bA, bB => by simp [tellF]
  | m + 1, β, pl, ac, bA, bB => by
    rw [tellF]
    by_cases h : n ≤ pl
    · rw [if_pos h]; simp
    · rw [if_neg h]
      have hw := whyF_rg β (rdK σ pl) (rdO σ pl) (rdP σ pl)
      by_cases h2 : whyF β (rdK σ pl) (rdO σ pl) (rdP σ pl) ≠ 0
      · rw [if_pos h2]; exact ⟨hw.1, hw.2, by simp⟩
      · rw [if_neg h2]
        have := tellF_1 σ n m (folF β (rdK σ pl) (rdO σ pl) (rdP σ pl)) (pl + rdL σ pl) (ac + 1) (if frs (bk (folF β (rdK σ pl) (rdO σ pl) (rdP σ pl))) (bk β) = 0 ∨ bA ≠ -6 then bA else ac) (if frs (bk (folF β (rdK σ pl) (rdO σ pl) (rdP σ pl))) (bk β) = 0 ∨ bA ≠ -6 then bB else nth (fun k => (frs (bk (folF β (rdK σ pl) (rdO σ pl) (rdP σ pl))) (bk β)).testBit k) 12 0 0 0)
        omega
theorem tellS_1 (σ : Nat → Int) (n : Nat) (β : Nat → Int) : 0 ≤ (tellS σ n β).1 ∧ (tellS σ n β).1 ≤ 6 ∧ (tellS σ n β).2.2.1 ≤ 60 := by
  have := tellF_1 σ n 60 β 0 0 (-6) (-6)
  unfold tellS; omega
theorem m_Md_judge {M : wM} {β : Nat → Int} {n : Nat} {σ : Nat → Int} {m : Nat} {τ : Nat → Int} {I J : wIm} {w : Int} (hG : M.2.2 = RG) (hA : mdA M β n σ m τ I J) (hV : aLok β n σ m τ I J) (hw : -2147483648 ≤ w ∧ w < 2147483648) : EvI k_Md_judge [.ref 47, .int (iI w)] SH M (fun r M' => r = iI (fJudge β n σ w) ∧ mdA M' β n σ m τ I J ∧ Ofm M M') := by
  refine EvI.of 1 (by decide) (Nat.le_of_ble_eq_true rfl) rfl ?_
  have ht := tellS_1 σ n β
  have hfr := fltS_rg σ n
  have hn := hV.2.1.1
  refine Rn.iload_n d_Md_judge_0 rfl ?_
  refine Rn.iconst (v := iI 0) d_Md_judge_1 rfl ?_
  refine Rn.iconst (v := iI 1) d_Md_judge_2 rfl ?_
  refine Rn.cSI d_Md_judge_3 s_Md_judge_Md_in g_708 g_709 ⟨rfl, rfl⟩ ⟨Nat.zero_le _, Nat.zero_le _⟩ (m_Md_in hw (by decide) (by decide)) rfl rfl (Nat.le_of_ble_eq_true rfl) (fun rr MM qq => ?_)
  obtain ⟨rfl, rfl⟩ := And.imp id Eq.symm qq; clear qq
  refine In.if_ne (tgt := 12) d_Md_judge_6 (by decide) fl_rg (fun c6 => ?_) (fun c6 => ?_)
  · have q := fl_ne c6
    refine Rn.aload_n d_Md_judge_12 rfl ?_
    refine Rn.cVI d_Md_judge_13 s_Md_judge_Md_faultOf g_735 g_737 gs_12 ⟨rfl, rfl⟩ ⟨Nat.zero_le _, Nat.zero_le _⟩ (m_Md_faultOf hG hA.p hV.2.1) rfl rfl z_Md c_Md (Nat.le_of_ble_eq_true rfl) (fun rr MM qq => ?_)
    obtain ⟨rfl, rfl⟩ := And.imp id Eq.symm qq; clear qq
    refine In.if_lt (tgt := 22) d_Md_judge_16 (by decide) ⟨by omega, by omega⟩ (fun c16 => ?_) (fun c16 => ?_)
    · have hf : fltS σ n = -6 := by omega
      refine Rn.aload_n d_Md_judge_22 rfl ?_
      refine Rn.cVI d_Md_judge_23 s_Md_judge_Md_goWinters g_746 g_748 gs_13 ⟨rfl, rfl⟩ ⟨Nat.zero_le _, Nat.zero_le _⟩ (m_Md_goWinters hG hA.1 hV.1 hA.p hV.2.1 hf) rfl rfl z_Md c_Md (Nat.le_of_ble_eq_true rfl) (fun rr M1 qq => ?_)
      obtain ⟨rfl, k1, _, k3, k4, _, _, _⟩ := qq
      have e1 : (tellS σ n β).1 = 0 → fJudge β n σ w = -6 := fun k => by unfold fJudge; rw [if_pos q, if_pos hf, if_pos k]
      have e2 : ¬ (tellS σ n β).1 = 0 → w = 0 → fJudge β n σ w = (tellS σ n β).2.2.1 := fun k k2 => by unfold fJudge; rw [if_pos q, if_pos hf, if_neg k, if_pos k2]
      have e3 : ¬ (tellS σ n β).1 = 0 → ¬ w = 0 → fJudge β n σ w = (tellS σ n β).1 := fun k k2 => by unfold fJudge; rw [if_pos q, if_pos hf, if_neg k, if_neg k2]
      by_cases z : (tellS σ n β).1 = 0
      · rw [if_pos z, e1 z]
        refine Rn.istore_n (lv1 := [_, _, _]) d_Md_judge_26 (by decide) (w_pv rfl) rfl ?_
        refine Rn.iload_n d_Md_judge_27 rfl ?_
        refine In.if_lt (tgt := 35) d_Md_judge_28 (by decide) ⟨by omega, by omega⟩ (fun c28 => ?_) (fun c28 => ?_)
        · refine Rn.iload_n d_Md_judge_35 rfl ?_
          refine Rn.goto (tgt := 43) d_Md_judge_36 (by decide) ?_
          exact Rn.iret d_Md_judge_43 rfl rfl ⟨rfl, hA.kp k1, k1.o⟩
        · omega
      · rw [if_neg z]
        refine Rn.istore_n (lv1 := [_, _, _]) d_Md_judge_26 (by decide) (w_pv rfl) rfl ?_
        refine Rn.iload_n d_Md_judge_27 rfl ?_
        refine In.if_lt (tgt := 35) d_Md_judge_28 (by decide) ⟨by omega, by omega⟩ (fun c28 => ?_) (fun c28 => ?_)
        · omega
        · refine Rn.iload_n d_Md_judge_31 rfl ?_
          refine In.if_ne (tgt := 39) d_Md_judge_32 (by decide) ⟨by omega, by omega⟩ (fun c32 => ?_) (fun c32 => ?_)
          · rw [e3 z c32]
            refine Rn.aload_n d_Md_judge_39 rfl ?_
            refine In.getI d_Md_judge_40 f_Md_reason g_660 z_Md (k4 z) ?_
            exact Rn.iret d_Md_judge_43 rfl rfl ⟨rfl, hA.kp k1, k1.o⟩
          · rw [e2 z (by omega)]
            refine Rn.iload_n d_Md_judge_35 rfl ?_
            refine Rn.goto (tgt := 43) d_Md_judge_36 (by decide) ?_
            exact Rn.iret d_Md_judge_43 rfl rfl ⟨rfl, hA.kp k1, k1.o⟩
    · have e : fJudge β n σ w = -5 := by unfold fJudge; rw [if_pos q, if_neg (by omega)]
      rw [e]
      refine Rn.bipush (v := iI (-5)) d_Md_judge_19 (by decide +kernel) ?_
      exact Rn.iret d_Md_judge_21 rfl rfl ⟨rfl, hA, Ofm.rf⟩
  · have q := fl_eq c6
    have e : fJudge β n σ w = -2 := by unfold fJudge; rw [if_neg q]
    rw [e]
    refine Rn.bipush (v := iI (-2)) d_Md_judge_9 (by decide +kernel) ?_
    exact Rn.iret d_Md_judge_11 rfl rfl ⟨rfl, hA, Ofm.rf⟩
theorem m_Md_barOfWinters {M : wM} {β : Nat → Int} {n : Nat} {σ : Nat → Int} (hG : M.2.2 = RG) (hB : bkA M β) (hV : hok β) (hP : pdA M n σ) (hp : pok n σ) : EvI k_Md_barOfWinters [.ref 47] SH M (fun r M' => r = iI (if barS σ n β then 0 else -5) ∧ Kp M M' ∧ (barS σ n β → wntR M M' β (tellS σ n β))) := by
  refine EvI.of 0 (by decide) (Nat.le_of_ble_eq_true rfl) rfl ?_
  have ht := tellS_1 σ n β
  have hfr := fltS_rg σ n
  have hn := hp.1
  refine Rn.aload_n d_Md_barOfWinters_0 rfl ?_
  refine Rn.cVI d_Md_barOfWinters_1 s_Md_barOfWinters_Md_faultOf g_735 g_737 gs_12 ⟨rfl, rfl⟩ ⟨Nat.zero_le _, Nat.zero_le _⟩ (m_Md_faultOf hG hP hp) rfl rfl z_Md c_Md (Nat.le_of_ble_eq_true rfl) (fun rr MM qq => ?_)
  obtain ⟨rfl, rfl⟩ := And.imp id Eq.symm qq; clear qq
  refine In.if_ge (tgt := 14) d_Md_barOfWinters_4 (by decide) ⟨by omega, by omega⟩ (fun c4 => ?_) (fun c4 => ?_)
  · rw [if_neg (fun q => by have := q.1; omega)]
    refine Rn.bipush (v := iI (-5)) d_Md_barOfWinters_14 (by decide +kernel) ?_
    refine Rn.goto (tgt := 20) d_Md_barOfWinters_16 (by decide) ?_
    exact Rn.iret d_Md_barOfWinters_20 rfl rfl ⟨rfl, Kp.rf, fun q => by have := q.1; omega⟩
  · have hf : fltS σ n = -6 := by omega
    refine Rn.aload_n d_Md_barOfWinters_7 rfl ?_
    refine Rn.cVI d_Md_barOfWinters_8 s_Md_barOfWinters_Md_goWinters g_746 g_748 gs_13 ⟨rfl, rfl⟩ ⟨Nat.zero_le _, Nat.zero_le _⟩ (m_Md_goWinters hG hB hV hP hp hf) rfl rfl z_Md c_Md (Nat.le_of_ble_eq_true rfl) (fun rr M1 qq => ?_)
    obtain ⟨rfl, hW⟩ := qq
    by_cases z : (tellS σ n β).1 = 0
    · rw [if_pos z, if_pos ⟨hf, z⟩]
      refine In.if_lt (tgt := 19) d_Md_barOfWinters_11 (by decide) ⟨by omega, by omega⟩ (fun c11 => ?_) (fun c11 => ?_)
      · refine Rn.iconst (v := iI 0) d_Md_barOfWinters_19 rfl ?_
        exact Rn.iret d_Md_barOfWinters_20 rfl rfl ⟨rfl, hW.1, fun _ => hW⟩
      · omega
    · rw [if_neg z, if_neg (fun q => z q.2)]
      refine In.if_lt (tgt := 19) d_Md_barOfWinters_11 (by decide) ⟨by omega, by omega⟩ (fun c11 => ?_) (fun c11 => ?_)
      · omega
      · refine Rn.bipush (v := iI (-5)) d_Md_barOfWinters_14 (by decide +kernel) ?_
        refine Rn.goto (tgt := 20) d_Md_barOfWinters_16 (by decide) ?_
        exact Rn.iret d_Md_barOfWinters_20 rfl rfl ⟨rfl, hW.1, fun q => absurd q.2 z⟩
theorem m_Md_done {M : wM} {β : Nat → Int} {n : Nat} {σ : Nat → Int} {m : Nat} {τ : Nat → Int} {I J : wIm} {R : Int × (Nat → Int) × Nat} (hG : M.2.2 = RG) (hA : mdA M β n σ m τ I J) (hV : aLok β n σ m τ I J) (hR1 : barS σ n β → R = (((tellS σ n β).2.2.1 : Int), (tellS σ n β).2.1, 0)) (hR2 : ¬ barS σ n β → R = (-5, β, n)) : EvI k_Md_done [.ref 47] SH M (fun r M' => r = iI R.1 ∧ mdA M' R.2.1 R.2.2 σ m τ I J ∧ Ofm M M') := by
  refine EvI.of 1 (by decide) (Nat.le_of_ble_eq_true rfl) rfl ?_
  refine Rn.aload_n d_Md_done_0 rfl ?_
  refine Rn.cVI d_Md_done_1 s_Md_done_Md_barOfWinters g_788 g_790 gs_21 ⟨rfl, rfl⟩ ⟨Nat.zero_le _, Nat.zero_le _⟩ (m_Md_barOfWinters hG hA.1 hV.1 hA.p hV.2.1) rfl rfl z_Md c_Md (Nat.le_of_ble_eq_true rfl) (fun rr M1 qq => ?_)
  obtain ⟨rfl, k1, k2⟩ := qq
  have hG1 := k1.G hG
  have hA1 := hA.kp k1
  by_cases z : barS σ n β
  · rw [if_pos z, hR1 z]
    obtain ⟨_, w2, w3, _, _, _, _⟩ := k2 z
    refine In.if_ge (tgt := 10) d_Md_done_4 (by decide) ⟨by omega, by omega⟩ (fun c4 => ?_) (fun c4 => ?_)
    · refine Rn.iconst (v := iI 0) d_Md_done_10 rfl ?_
      refine Rn.istore_n (lv1 := [_, _]) d_Md_done_11 (by decide) (w_pv rfl) rfl ?_
      have loop : ∀ (d k : Nat) (Mc : wM), k + d = 26 → (∀ j, j < k → Mc.1 48 j = iI ((tellS σ n β).2.1 j)) → (∀ j, j ≠ 48 → Mc.1 j = M1.1 j) → Mc.2 = M1.2 → Rn k_Md_done none (0, 0) 12 [some (.ref 47), some (.int (iI k))] [] SH Mc (w_FI (0, 0) SH (fun r M' => r = iI ((tellS σ n β).2.2.1 : Int) ∧ mdA M' (tellS σ n β).2.1 0 σ m τ I J ∧ Ofm M M')) := by
        intro d
        induction d with
        | zero =>
          intro k Mc h1 h2 h3 h4
          have hGc : Mc.2.2 = RG := by rw [h4]; exact hG1
          have hAc : mdA Mc (tellS σ n β).2.1 n σ m τ I J := hA1.bk (fun j hj => h2 j (by omega)) (fun j q1 _ _ => h3 j q1) (by rw [h3 _ (by decide)]) (by rw [h3 _ (by decide)])
          refine Rn.iload_n d_Md_done_12 rfl ?_
          refine Rn.bipush (v := iI 26) d_Md_done_13 (by decide +kernel) ?_
          refine In.icmp_ge (tgt := 36) d_Md_done_15 (by decide) ⟨by omega, by omega⟩ ⟨by omega, by omega⟩ (fun c15 => ?_) (fun c15 => ?_)
          · refine Rn.aload_n d_Md_done_36 rfl ?_
            refine Rn.iconst (v := iI 0) d_Md_done_37 rfl ?_
            refine In.putI d_Md_done_38 f_Md_signs g_654 z_Md ?_
            refine Rn.aload_n d_Md_done_41 rfl ?_
            refine In.getI d_Md_done_42 f_Md_acts g_661 z_Md (by rw [w_ui_if, if_neg (by omega), h3 _ (by decide)]; exact w3) ?_
            exact Rn.iret d_Md_done_45 rfl rfl ⟨rfl, hAc.pd ⟨fun i hi => by rw [w_ui_off _ _ _ _ _ (by decide)]; exact hAc.2.1 i hi, w_ui_at _ _ _ _⟩ (fun k h1 h2 => by rw [w_ui_off _ _ _ _ _ h2]) (by rw [w_ui_if, if_neg (by omega)]), (k1.o.tr ⟨fun j hj => h3 j (by omega), by rw [h4]⟩).tr (Ofm.ui (by omega))⟩
          · omega
        | succ d ih =>
          intro k Mc h1 h2 h3 h4
          have hGc : Mc.2.2 = RG := by rw [h4]; exact hG1
          refine Rn.iload_n d_Md_done_12 rfl ?_
          refine Rn.bipush (v := iI 26) d_Md_done_13 (by decide +kernel) ?_
          refine In.icmp_ge (tgt := 36) d_Md_done_15 (by decide) ⟨by omega, by omega⟩ ⟨by omega, by omega⟩ (fun c15 => ?_) (fun c15 => ?_)
          · omega
          · refine Rn.aload_n d_Md_done_18 rfl ?_
            refine Rn.getR d_Md_done_19 f_Md_book g_650 z_Md (r_Md_book (by assumption)) ?_
            refine Rn.iload_n d_Md_done_22 rfl ?_
            refine Rn.aload_n d_Md_done_23 rfl ?_
            refine Rn.getR d_Md_done_24 f_Md_now g_651 z_Md (r_Md_now (by assumption)) ?_
            refine Rn.iload_n d_Md_done_27 rfl ?_
            refine In.ald d_Md_done_28 z_Md_now rfl (by omega) (by decide) (by rw [h3 _ (by decide)]; exact w2 k (by omega)) ?_
            refine In.ast d_Md_done_29 z_Md_book rfl (by omega) (by decide) ?_
            refine In.inc (lv1 := [_, _]) d_Md_done_30 rfl (by decide) (w_pv rfl) rfl ?_
            refine Rn.goto (tgt := 12) d_Md_done_33 (by decide) ?_
            refine ih (k + 1) _ (by omega) (fun j hj => ?_) (fun j hj => by rw [w_ui_off _ _ _ _ _ hj]; exact h3 j hj) h4
            rw [w_ui_if]
            by_cases e : j = k
            · rw [if_pos ⟨rfl, e⟩, e]
            · rw [if_neg (by omega)]; exact h2 j (by omega)
      exact loop 26 0 M1 rfl (fun j hj => by omega) (fun _ _ => rfl) rfl
    · omega
  · rw [if_neg z, hR2 z]
    refine In.if_ge (tgt := 10) d_Md_done_4 (by decide) ⟨by omega, by omega⟩ (fun c4 => ?_) (fun c4 => ?_)
    · omega
    · refine Rn.bipush (v := iI (-5)) d_Md_done_7 (by decide +kernel) ?_
      exact Rn.iret d_Md_done_9 rfl rfl ⟨rfl, hA1, k1.o⟩
theorem m_Md_behind {M : wM} {β : Nat → Int} {n : Nat} {σ : Nat → Int} {m : Nat} {τ : Nat → Int} {I J : wIm} {b w V : Int} (hG : M.2.2 = RG) (hA : mdA M β n σ m τ I J) (hV : aLok β n σ m τ I J) (hok2 : barS σ n β → hok (tellS σ n β).2.1) (hb : -2147483648 ≤ b ∧ b < 2147483648) (hw : -2147483648 ≤ w ∧ w < 2147483648)
    (v1 : ¬ blq b → V = -1) (v2 : blq b → ¬ (0 ≤ w ∧ w ≤ 2) → V = -2) (v3 : blq b → (0 ≤ w ∧ w ≤ 2) → ¬ barS σ n β → V = -5) (v4 : blq b → barS σ n β → w = 0 → V = (tellS σ n β).2.1 (12 + b.toNat)) (v5 : blq b → barS σ n β → w = 1 → V = (tellS σ n β).2.1 (18 + b.toNat)) (v6 : blq b → barS σ n β → w = 2 → V = if (bk (tellS σ n β).2.1).testBit b.toNat then 1 else 0) : EvI k_Md_behind [.ref 47, .int (iI b), .int (iI w)] SH M (fun r M' => r = iI V ∧ mdA M' β n σ m τ I J ∧ Ofm M M') := by
  refine EvI.of 0 (by decide) (Nat.le_of_ble_eq_true rfl) rfl ?_
  refine Rn.iload_n d_Md_behind_0 rfl ?_
  refine Rn.iconst (v := iI 0) d_Md_behind_1 rfl ?_
  refine Rn.iconst (v := iI 5) d_Md_behind_2 rfl ?_
  refine Rn.cSI d_Md_behind_3 s_Md_behind_Md_in g_708 g_709 ⟨rfl, rfl⟩ ⟨Nat.zero_le _, Nat.zero_le _⟩ (m_Md_in hb (by decide) (by decide)) rfl rfl (Nat.le_of_ble_eq_true rfl) (fun rr MM qq => ?_)
  obtain ⟨rfl, rfl⟩ := And.imp id Eq.symm qq; clear qq
  refine In.if_ne (tgt := 11) d_Md_behind_6 (by decide) fl_rg (fun c6 => ?_) (fun c6 => ?_)
  · have q := fl_ne c6
    have qb : blq b := by omega
    refine Rn.iload_n d_Md_behind_11 rfl ?_
    refine Rn.iconst (v := iI 0) d_Md_behind_12 rfl ?_
    refine Rn.iconst (v := iI 2) d_Md_behind_13 rfl ?_
    refine Rn.cSI d_Md_behind_14 s_Md_behind_Md_in g_708 g_709 ⟨rfl, rfl⟩ ⟨Nat.zero_le _, Nat.zero_le _⟩ (m_Md_in hw (by decide) (by decide)) rfl rfl (Nat.le_of_ble_eq_true rfl) (fun rr MM qq => ?_)
    obtain ⟨rfl, rfl⟩ := And.imp id Eq.symm qq; clear qq
    refine In.if_ne (tgt := 23) d_Md_behind_17 (by decide) fl_rg (fun c17 => ?_) (fun c17 => ?_)
    · have q2 := fl_ne c17
      refine Rn.aload_n d_Md_behind_23 rfl ?_
      refine Rn.cVI d_Md_behind_24 s_Md_behind_Md_barOfWinters g_788 g_790 gs_21 ⟨rfl, rfl⟩ ⟨Nat.zero_le _, Nat.zero_le _⟩ (m_Md_barOfWinters hG hA.1 hV.1 hA.p hV.2.1) rfl rfl z_Md c_Md (Nat.le_of_ble_eq_true rfl) (fun rr M1 qq => ?_)
      obtain ⟨rfl, k1, k2⟩ := qq
      have hG1 := k1.G hG
      have hA1 := hA.kp k1
      by_cases z : barS σ n β
      · obtain ⟨_, w2, w3, _, _, _, _⟩ := k2 z
        have v4 := v4 qb z
        have v5 := v5 qb z
        have v6 := v6 qb z
        have hk := hok2 z
        have hbk := hok_bk hk
        generalize (tellS σ n β).2.1 = g at *
        obtain ⟨b, rfl⟩ : ∃ k : Nat, b = k := ⟨b.toNat, by omega⟩
        simp only [Int.toNat_natCast] at v4 v5 v6
        rw [if_pos z]
        refine In.if_ge (tgt := 33) d_Md_behind_27 (by decide) ⟨by omega, by omega⟩ (fun c27 => ?_) (fun c27 => ?_)
        · refine Rn.iload_n d_Md_behind_33 rfl ?_
          refine Rn.iconst (v := iI 2) d_Md_behind_34 rfl ?_
          refine In.icmp_ne (tgt := 52) d_Md_behind_35 (by decide) ⟨by omega, by omega⟩ ⟨by omega, by omega⟩ (fun c35 => ?_) (fun c35 => ?_)
          · rcases (show w = 0 ∨ w = 1 by omega) with e | e
            · rw [v4 e]
              refine Rn.aload_n d_Md_behind_52 rfl ?_
              refine Rn.getR d_Md_behind_53 f_Md_now g_651 z_Md (r_Md_now (by assumption)) ?_
              refine Rn.bipush (v := iI 12) d_Md_behind_56 (by decide +kernel) ?_
              refine Rn.bipush (v := iI 6) d_Md_behind_58 (by decide +kernel) ?_
              refine Rn.iload_n d_Md_behind_60 rfl ?_
              refine In.mul d_Md_behind_61 ?_
              refine In.add d_Md_behind_62 ?_
              refine Rn.iload_n d_Md_behind_63 rfl ?_
              refine In.add d_Md_behind_64 ?_
              refine In.ald d_Md_behind_65 z_Md_now (show ((12 : Int) + 6 * w + b) = ((12 + b : Nat) : Int) by omega) (by omega) (by decide) (w2 (12 + b) (by omega)) ?_
              exact Rn.iret d_Md_behind_66 rfl rfl ⟨rfl, hA1, k1.o⟩
            · rw [v5 e]
              refine Rn.aload_n d_Md_behind_52 rfl ?_
              refine Rn.getR d_Md_behind_53 f_Md_now g_651 z_Md (r_Md_now (by assumption)) ?_
              refine Rn.bipush (v := iI 12) d_Md_behind_56 (by decide +kernel) ?_
              refine Rn.bipush (v := iI 6) d_Md_behind_58 (by decide +kernel) ?_
              refine Rn.iload_n d_Md_behind_60 rfl ?_
              refine In.mul d_Md_behind_61 ?_
              refine In.add d_Md_behind_62 ?_
              refine Rn.iload_n d_Md_behind_63 rfl ?_
              refine In.add d_Md_behind_64 ?_
              refine In.ald d_Md_behind_65 z_Md_now (show ((12 : Int) + 6 * w + b) = ((18 + b : Nat) : Int) by omega) (by omega) (by decide) (w2 (18 + b) (by omega)) ?_
              exact Rn.iret d_Md_behind_66 rfl rfl ⟨rfl, hA1, k1.o⟩
          · rw [v6 (by omega)]
            refine Rn.aload_n d_Md_behind_38 rfl ?_
            refine Rn.getR d_Md_behind_39 f_Md_now g_651 z_Md (r_Md_now (by assumption)) ?_
            refine Rn.bipush (v := iI 24) d_Md_behind_42 (by decide +kernel) ?_
            refine In.ald d_Md_behind_44 z_Md_now rfl (by decide) (by decide) ((w2 24 (by decide)).trans (by rw [hbk.1])) ?_
            refine Rn.iload_n d_Md_behind_45 rfl ?_
            refine In.shr rfl rfl (by omega) (by omega) d_Md_behind_46 ?_
            refine Rn.iconst (v := iI 1) d_Md_behind_47 rfl ?_
            refine In.and rfl (rfl : (1 : Int) = ((1 : Nat) : Int)) d_Md_behind_48 ?_
            rw [bit_if]
            refine Rn.goto (tgt := 66) d_Md_behind_49 (by decide) ?_
            exact Rn.iret d_Md_behind_66 rfl rfl ⟨rfl, hA1, k1.o⟩
        · omega
      · rw [if_neg z, v3 qb q2 z]
        refine In.if_ge (tgt := 33) d_Md_behind_27 (by decide) ⟨by omega, by omega⟩ (fun c27 => ?_) (fun c27 => ?_)
        · omega
        · refine Rn.bipush (v := iI (-5)) d_Md_behind_30 (by decide +kernel) ?_
          exact Rn.iret d_Md_behind_32 rfl rfl ⟨rfl, hA1, k1.o⟩
    · have q2 := fl_eq c17
      rw [v2 qb q2]
      refine Rn.bipush (v := iI (-2)) d_Md_behind_20 (by decide +kernel) ?_
      exact Rn.iret d_Md_behind_22 rfl rfl ⟨rfl, hA, Ofm.rf⟩
  · have q := fl_eq c6
    rw [v1 (by omega)]
    refine Rn.iconst (v := iI (-1)) d_Md_behind_9 rfl ?_
    exact Rn.iret d_Md_behind_10 rfl rfl ⟨rfl, hA, Ofm.rf⟩
theorem m_Md_then {M : wM} {β : Nat → Int} {n : Nat} {σ : Nat → Int} {m : Nat} {τ : Nat → Int} {I J : wIm} {w V : Int} (hG : M.2.2 = RG) (hA : mdA M β n σ m τ I J) (hV : aLok β n σ m τ I J) (hok2 : barS σ n β → hok (tellS σ n β).2.1) (hw : -2147483648 ≤ w ∧ w < 2147483648)
    (v2 : ¬ (0 ≤ w ∧ w ≤ 5) → V = -2) (v3 : (0 ≤ w ∧ w ≤ 5) → ¬ barS σ n β → V = -5) (v4 : barS σ n β → w = 0 → V = hungS (tellS σ n β).2.1 6) (v5 : barS σ n β → w = 1 → V = (tellS σ n β).2.1 24) (v6 : barS σ n β → w = 2 → V = chipS (tellS σ n β).2.1 6 - chipS β 6) (v7 : barS σ n β → w = 3 → V = (tellS σ n β).2.1 25) (v8 : barS σ n β → w = 4 → V = (tellS σ n β).2.2.2.1) (v9 : barS σ n β → w = 5 → V = (tellS σ n β).2.2.2.2) : EvI k_Md_then [.ref 47, .int (iI w)] SH M (fun r M' => r = iI V ∧ mdA M' β n σ m τ I J ∧ Ofm M M') := by
  refine EvI.of 0 (by decide) (Nat.le_of_ble_eq_true rfl) rfl ?_
  refine Rn.iload_n d_Md_then_0 rfl ?_
  refine Rn.iconst (v := iI 0) d_Md_then_1 rfl ?_
  refine Rn.iconst (v := iI 5) d_Md_then_2 rfl ?_
  refine Rn.cSI d_Md_then_3 s_Md_then_Md_in g_708 g_709 ⟨rfl, rfl⟩ ⟨Nat.zero_le _, Nat.zero_le _⟩ (m_Md_in hw (by decide) (by decide)) rfl rfl (Nat.le_of_ble_eq_true rfl) (fun rr MM qq => ?_)
  obtain ⟨rfl, rfl⟩ := And.imp id Eq.symm qq; clear qq
  refine In.if_ne (tgt := 12) d_Md_then_6 (by decide) fl_rg (fun c6 => ?_) (fun c6 => ?_)
  · have q := fl_ne c6
    refine Rn.aload_n d_Md_then_12 rfl ?_
    refine Rn.cVI d_Md_then_13 s_Md_then_Md_barOfWinters g_788 g_790 gs_21 ⟨rfl, rfl⟩ ⟨Nat.zero_le _, Nat.zero_le _⟩ (m_Md_barOfWinters hG hA.1 hV.1 hA.p hV.2.1) rfl rfl z_Md c_Md (Nat.le_of_ble_eq_true rfl) (fun rr M1 qq => ?_)
    obtain ⟨rfl, k1, k2⟩ := qq
    have hG1 := k1.G hG
    have hA1 := hA.kp k1
    by_cases z : barS σ n β
    · obtain ⟨_, w2, w3, _, w5, w6, w7⟩ := k2 z
      rw [if_pos z]
      refine In.if_ge (tgt := 22) d_Md_then_16 (by decide) ⟨by omega, by omega⟩ (fun c16 => ?_) (fun c16 => ?_)
      · refine Rn.iload_n d_Md_then_22 rfl ?_
        rcases (show w = 0 ∨ w = 1 ∨ w = 2 ∨ w = 3 ∨ w = 4 ∨ w = 5 by omega) with e | e | e | e | e | e
        · rw [v4 z e]
          subst e
          refine In.tabIn (off := 29) (tgt := 52) 0 d_Md_then_23 rfl (by decide) (by decide) rfl (by decide) ?_
          refine Rn.aload_n d_Md_then_52 rfl ?_
          refine Rn.cVI d_Md_then_53 s_Md_then_Md_hanging g_762 g_764 gs_17 ⟨rfl, rfl⟩ ⟨Nat.zero_le _, Nat.zero_le _⟩ (m_Md_hanging hG1 w2 (hok2 z).l) rfl rfl z_Md c_Md (Nat.le_of_ble_eq_true rfl) (fun rr MM qq => ?_)
          obtain ⟨rfl, rfl⟩ := And.imp id Eq.symm qq; clear qq
          exact Rn.iret d_Md_then_56 rfl rfl ⟨rfl, hA1, k1.o⟩
        · rw [v5 z e]
          subst e
          refine In.tabIn (off := 34) (tgt := 57) 1 d_Md_then_23 rfl (by decide) (by decide) rfl (by decide) ?_
          refine Rn.aload_n d_Md_then_57 rfl ?_
          refine Rn.getR d_Md_then_58 f_Md_now g_651 z_Md (r_Md_now (by assumption)) ?_
          refine Rn.bipush (v := iI 24) d_Md_then_61 (by decide +kernel) ?_
          refine In.ald d_Md_then_63 z_Md_now rfl (by decide) (by decide) (w2 24 (by decide)) ?_
          exact Rn.iret d_Md_then_64 rfl rfl ⟨rfl, hA1, k1.o⟩
        · rw [v6 z e]
          subst e
          refine In.tabIn (off := 42) (tgt := 65) 2 d_Md_then_23 rfl (by decide) (by decide) rfl (by decide) ?_
          refine Rn.aload_n d_Md_then_65 rfl ?_
          refine In.getI d_Md_then_66 f_Md_came g_656 z_Md w7 ?_
          exact Rn.iret d_Md_then_69 rfl rfl ⟨rfl, hA1, k1.o⟩
        · rw [v7 z e]
          subst e
          refine In.tabIn (off := 47) (tgt := 70) 3 d_Md_then_23 rfl (by decide) (by decide) rfl (by decide) ?_
          refine Rn.aload_n d_Md_then_70 rfl ?_
          refine Rn.getR d_Md_then_71 f_Md_now g_651 z_Md (r_Md_now (by assumption)) ?_
          refine Rn.bipush (v := iI 25) d_Md_then_74 (by decide +kernel) ?_
          refine In.ald d_Md_then_76 z_Md_now rfl (by decide) (by decide) (w2 25 (by decide)) ?_
          exact Rn.iret d_Md_then_77 rfl rfl ⟨rfl, hA1, k1.o⟩
        · rw [v8 z e]
          refine In.tabOut (tgt := 78) d_Md_then_23 ⟨by omega, by omega⟩ (by omega) (by decide) ?_
          refine Rn.iload_n d_Md_then_78 rfl ?_
          refine Rn.iconst (v := iI 4) d_Md_then_79 rfl ?_
          refine In.icmp_ne (tgt := 90) d_Md_then_80 (by decide) ⟨by omega, by omega⟩ ⟨by omega, by omega⟩ (fun c80 => ?_) (fun c80 => ?_)
          · omega
          · refine Rn.aload_n d_Md_then_83 rfl ?_
            refine In.getI d_Md_then_84 f_Md_brokenAt g_657 z_Md w5 ?_
            refine Rn.goto (tgt := 94) d_Md_then_87 (by decide) ?_
            exact Rn.iret d_Md_then_94 rfl rfl ⟨rfl, hA1, k1.o⟩
        · rw [v9 z e]
          refine In.tabOut (tgt := 78) d_Md_then_23 ⟨by omega, by omega⟩ (by omega) (by decide) ?_
          refine Rn.iload_n d_Md_then_78 rfl ?_
          refine Rn.iconst (v := iI 4) d_Md_then_79 rfl ?_
          refine In.icmp_ne (tgt := 90) d_Md_then_80 (by decide) ⟨by omega, by omega⟩ ⟨by omega, by omega⟩ (fun c80 => ?_) (fun c80 => ?_)
          · refine Rn.aload_n d_Md_then_90 rfl ?_
            refine In.getI d_Md_then_91 f_Md_brokenWhich g_658 z_Md w6 ?_
            exact Rn.iret d_Md_then_94 rfl rfl ⟨rfl, hA1, k1.o⟩
          · omega
      · omega
    · rw [if_neg z, v3 q z]
      refine In.if_ge (tgt := 22) d_Md_then_16 (by decide) ⟨by omega, by omega⟩ (fun c16 => ?_) (fun c16 => ?_)
      · omega
      · refine Rn.bipush (v := iI (-5)) d_Md_then_19 (by decide +kernel) ?_
        exact Rn.iret d_Md_then_21 rfl rfl ⟨rfl, hA1, k1.o⟩
  · have q := fl_eq c6
    rw [v2 q]
    refine Rn.bipush (v := iI (-2)) d_Md_then_9 (by decide +kernel) ?_
    exact Rn.iret d_Md_then_11 rfl rfl ⟨rfl, hA, Ofm.rf⟩
theorem m_Md_apart {M : wM} {β : Nat → Int} {n : Nat} {σ : Nat → Int} {m : Nat} {τ : Nat → Int} {I J : wIm} {a b V : Int} (hG : M.2.2 = RG) (hA : mdA M β n σ m τ I J) (hV : aLok β n σ m τ I J) (ha : -2147483648 ≤ a ∧ a < 2147483648) (hb : -2147483648 ≤ b ∧ b < 2147483648)
    (v1 : ¬ (lpq a ∧ lpq b) → V = -1) (v2 : lpq a → lpq b → V = dist β a.toNat b.toNat) : EvI k_Md_apart [.ref 47, .int (iI a), .int (iI b)] SH M (fun r M' => r = iI V ∧ mdA M' β n σ m τ I J ∧ Ofm M M') := by
  refine EvI.of 0 (by decide) (Nat.le_of_ble_eq_true rfl) rfl ?_
  refine Rn.aload_n d_Md_apart_0 rfl ?_
  refine Rn.cVV d_Md_apart_1 s_Md_apart_Md_asNow g_715 g_717 gs_10 ⟨rfl, rfl⟩ ⟨Nat.zero_le _, Nat.zero_le _⟩ (m_Md_asNow hG hA.1) rfl rfl z_Md c_Md (Nat.le_of_ble_eq_true rfl) (fun M1 qq => ?_)
  obtain ⟨k1, n1, _, _, _⟩ := qq
  have hG1 := k1.G hG
  have hA1 := hA.kp k1
  refine Rn.iload_n d_Md_apart_4 rfl ?_
  refine Rn.iload_n d_Md_apart_5 rfl ?_
  refine Rn.cSI d_Md_apart_6 s_Md_apart_Md_areLoops g_804 g_805 ⟨rfl, rfl⟩ ⟨Nat.zero_le _, Nat.zero_le _⟩ (m_Md_areLoops ha hb) rfl rfl (Nat.le_of_ble_eq_true rfl) (fun rr MM qq => ?_)
  obtain ⟨rfl, rfl⟩ := And.imp id Eq.symm qq; clear qq
  refine In.if_eq (tgt := 21) d_Md_apart_9 (by decide) fl_rg (fun c9 => ?_) (fun c9 => ?_)
  · rw [v1 (fl_eq c9)]
    refine Rn.iconst (v := iI (-1)) d_Md_apart_21 rfl ?_
    exact Rn.iret d_Md_apart_22 rfl rfl ⟨rfl, hA1, k1.o⟩
  · have q := fl_ne c9
    rw [v2 q.1 q.2]
    obtain ⟨a, rfl⟩ : ∃ k : Nat, a = k := ⟨a.toNat, by omega⟩
    obtain ⟨b, rfl⟩ : ∃ k : Nat, b = k := ⟨b.toNat, by omega⟩
    simp only [Int.toNat_natCast]
    refine Rn.aload_n d_Md_apart_12 rfl ?_
    refine Rn.iload_n d_Md_apart_13 rfl ?_
    refine Rn.iload_n d_Md_apart_14 rfl ?_
    refine Rn.cVI d_Md_apart_15 s_Md_apart_Md_apartOf g_769 g_771 gs_18 ⟨rfl, rfl⟩ ⟨Nat.zero_le _, Nat.zero_le _⟩ (m_Md_apartOf hG1 n1 hV.1.t (show a < 12 by omega) (show b < 12 by omega)) rfl rfl z_Md c_Md (Nat.le_of_ble_eq_true rfl) (fun rr MM qq => ?_)
    obtain ⟨rfl, rfl⟩ := And.imp id Eq.symm qq; clear qq
    refine Rn.goto (tgt := 22) d_Md_apart_18 (by decide) ?_
    exact Rn.iret d_Md_apart_22 rfl rfl ⟨rfl, hA1, k1.o⟩
