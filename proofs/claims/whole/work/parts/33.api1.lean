/-! The class's calls, the first half. -/
set_option maxRecDepth 20000
set_option maxHeartbeats 400000
theorem clsAt.hill {M M' : wM} {β β' : Nat → Int} {n : Nat} {σ : Nat → Int} {m : Nat} {τ : Nat → Int} {I J : wIm} (h : clsAt M β n σ m τ I J) (hB : hillAt M' 1 β') (ho : Off M M' 1 6) : clsAt M' β' n σ m τ I J :=
  ⟨hB, h.2.1.off ho (by omega), h.2.2.1.off ho (by omega), h.2.2.2.1.off ho (by omega), h.2.2.2.2.off ho (by omega)⟩
theorem clsAt.pad {M M' : wM} {β : Nat → Int} {n n' : Nat} {σ σ' : Nat → Int} {m : Nat} {τ : Nat → Int} {I J : wIm} (h : clsAt M β n σ m τ I J) (hB : padAt M' n' σ') (ho : Off M M' 9 11) : clsAt M' β n' σ' m τ I J :=
  ⟨h.1.off ho (by omega), hB, h.2.2.1.off ho (by omega), h.2.2.2.1.off ho (by omega), h.2.2.2.2.off ho (by omega)⟩
theorem clsAt.sg {M M' : wM} {β : Nat → Int} {n : Nat} {σ : Nat → Int} {m m' : Nat} {τ τ' : Nat → Int} {I J : wIm} (h : clsAt M β n σ m τ I J) (hB : sgAt M' 6 m' τ') (ho : Off M M' 6 9) : clsAt M' β n σ m' τ' I J :=
  ⟨h.1.off ho (by omega), h.2.1.off ho (by omega), hB, h.2.2.2.1.off ho (by omega), h.2.2.2.2.off ho (by omega)⟩
theorem hillAt.bend {M M' : wM} {h l : Nat} {p : Int} {β : Nat → Int} (hA : hillAt M h β) (hl : l < 12) (hT : treeAt M' (h + 1) (up β l p)) (hO : Off M M' (h + 2) (h + 3)) : hillAt M' h (up β l p) := by
  refine ⟨hT, fun x hx => ?_, fun x hx => ?_, ?_, ?_⟩
  · rw [hO.1 _ (by omega), up_ne _ _ _ _ (by omega)]; exact hA.2.1 x hx
  · rw [hO.1 _ (by omega), up_ne _ _ _ _ (by omega)]; exact hA.2.2.1 x hx
  · rw [hO.1 _ (by omega), up_ne _ _ _ _ (by omega)]; exact hA.2.2.2.1
  · rw [hO.1 _ (by omega), up_ne _ _ _ _ (by omega)]; exact hA.2.2.2.2
theorem m_BH_branch {M : wM} {β : Nat → Int} {n : Nat} {σ : Nat → Int} {m : Nat} {τ : Nat → Int} {I J : wIm} {l p : Int} (hG : M.2.2 = RG) (hA : clsAt M β n σ m τ I J) (hV : aLok β n σ m τ I J) (hl : -2147483648 ≤ l ∧ l < 2147483648) (hp : -2147483648 ≤ p ∧ p < 2147483648) : EvI k_BH_branch [.ref 0, .int (iI l), .int (iI p)] SH M (fun r M' => r = iI (fBranch β l p).1 ∧ clsAt M' (fBranch β l p).2 n σ m τ I J ∧ Off M M' 0 47) := by
  refine EvI.of 1 (by decide) (Nat.le_of_ble_eq_true rfl) rfl ?_
  have bad : ¬ (lpq l ∧ lpq p ∧ l ≠ 0) → fBranch β l p = (-1, β) := fun h => by unfold fBranch; rw [if_neg h]
  refine Rn.iload_n d_BH_branch_0 rfl ?_
  refine Rn.cSI d_BH_branch_1 s_BH_branch_BH_isLoop g_218 g_219 ⟨rfl, rfl⟩ ⟨Nat.zero_le _, Nat.zero_le _⟩ (m_BH_isLoop hl) rfl rfl (Nat.le_of_ble_eq_true rfl) (fun rr MM qq => ?_)
  obtain ⟨rfl, rfl⟩ := And.imp id Eq.symm qq; clear qq
  refine In.if_eq (tgt := 18) d_BH_branch_4 (by decide) fl_rg (fun c4 => ?_) (fun c4 => ?_)
  · rw [bad (fun q => fl_eq c4 q.1)]
    refine Rn.iconst (v := iI (-1)) d_BH_branch_18 rfl ?_
    exact Rn.iret d_BH_branch_19 rfl rfl ⟨rfl, hA, Off.rf⟩
  · refine Rn.iload_n d_BH_branch_7 rfl ?_
    refine Rn.cSI d_BH_branch_8 s_BH_branch_BH_isLoop g_218 g_219 ⟨rfl, rfl⟩ ⟨Nat.zero_le _, Nat.zero_le _⟩ (m_BH_isLoop hp) rfl rfl (Nat.le_of_ble_eq_true rfl) (fun rr MM qq => ?_)
    obtain ⟨rfl, rfl⟩ := And.imp id Eq.symm qq; clear qq
    refine In.if_eq (tgt := 18) d_BH_branch_11 (by decide) fl_rg (fun c11 => ?_) (fun c11 => ?_)
    · rw [bad (fun q => fl_eq c11 q.2.1)]
      refine Rn.iconst (v := iI (-1)) d_BH_branch_18 rfl ?_
      exact Rn.iret d_BH_branch_19 rfl rfl ⟨rfl, hA, Off.rf⟩
    · refine Rn.iload_n d_BH_branch_14 rfl ?_
      refine In.if_ne (tgt := 20) d_BH_branch_15 (by decide) ⟨by omega, by omega⟩ (fun c15 => ?_) (fun c15 => ?_)
      · have q1 := fl_ne c4
        have q2 := fl_ne c11
        obtain ⟨l, rfl⟩ : ∃ x : Nat, l = x := ⟨l.toNat, by omega⟩
        refine Rn.iload_n d_BH_branch_20 rfl ?_
        refine Rn.iload_n d_BH_branch_21 rfl ?_
        refine In.icmp_lt (tgt := 28) d_BH_branch_22 (by decide) ⟨by omega, by omega⟩ ⟨by omega, by omega⟩ (fun c22 => ?_) (fun c22 => ?_)
        · have e : fBranch β l p = (β l, up β l p) := by unfold fBranch; rw [if_pos ⟨q1, q2, c15⟩, if_neg (by omega)]; rfl
          rw [e]
          refine Rn.aload_n d_BH_branch_28 rfl ?_
          refine Rn.getR d_BH_branch_29 f_BH_hill g_186 z_BH (r_BH_hill (by assumption)) ?_
          refine Rn.cVR d_BH_branch_32 s_BH_branch_Hill_tree g_221 g_222 g_223 ⟨rfl, rfl⟩ ⟨Nat.zero_le _, Nat.zero_le _⟩ (m_Hill_tree i_BH_hill hG) rfl rfl (z_Hill (by first | assumption | exact i_Image_hill (by assumption) | exact i_BH_hill | exact i_Telling_hill | exact i_Year_hill)) c_Hill (Nat.le_of_ble_eq_true rfl) (fun rr MM qq => ?_)
          obtain ⟨rfl, rfl⟩ := And.imp id Eq.symm qq; clear qq
          refine Rn.iload_n d_BH_branch_35 rfl ?_
          refine Rn.cVI d_BH_branch_36 s_BH_branch_Tree_parentOf g_225 g_226 g_227 ⟨rfl, rfl⟩ ⟨Nat.zero_le _, Nat.zero_le _⟩ (m_Tree_parentOf (i_Hill_tree i_BH_hill) hG hA.1.1 (show 1 ≤ l by omega) (show l < 12 by omega)) rfl rfl (z_Tree (by first | assumption | exact i_Hill_tree (by assumption) | exact i_Hill_tree i_BH_hill)) c_Tree (Nat.le_of_ble_eq_true rfl) (fun rr MM qq => ?_)
          obtain ⟨rfl, rfl⟩ := And.imp id Eq.symm qq; clear qq
          refine Rn.istore_n (lv1 := [_, _, _, _]) d_BH_branch_39 (by decide) (w_pv rfl) rfl ?_
          refine Rn.aload_n d_BH_branch_40 rfl ?_
          refine Rn.getR d_BH_branch_41 f_BH_hill g_186 z_BH (r_BH_hill (by assumption)) ?_
          refine Rn.cVR d_BH_branch_44 s_BH_branch_Hill_tree g_221 g_222 g_223 ⟨rfl, rfl⟩ ⟨Nat.zero_le _, Nat.zero_le _⟩ (m_Hill_tree i_BH_hill hG) rfl rfl (z_Hill (by first | assumption | exact i_Image_hill (by assumption) | exact i_BH_hill | exact i_Telling_hill | exact i_Year_hill)) c_Hill (Nat.le_of_ble_eq_true rfl) (fun rr MM qq => ?_)
          obtain ⟨rfl, rfl⟩ := And.imp id Eq.symm qq; clear qq
          refine Rn.iload_n d_BH_branch_47 rfl ?_
          refine Rn.iload_n d_BH_branch_48 rfl ?_
          refine Rn.cVV d_BH_branch_49 s_BH_branch_Tree_bend g_229 g_230 g_231 ⟨rfl, rfl⟩ ⟨Nat.zero_le _, Nat.zero_le _⟩ (m_Tree_bend (i_Hill_tree i_BH_hill) hG hA.1.1 (show l < 12 by omega)) rfl rfl (z_Tree (by first | assumption | exact i_Hill_tree (by assumption) | exact i_Hill_tree i_BH_hill)) c_Tree (Nat.le_of_ble_eq_true rfl) (fun MM qq => ?_)
          obtain ⟨hT, hO⟩ := qq
          refine Rn.iload_n d_BH_branch_52 rfl ?_
          exact Rn.iret d_BH_branch_53 rfl rfl ⟨rfl, hA.hill (hA.1.bend (by omega) hT hO) (hO.wide (by omega) (by omega)), hO.wide (by omega) (by omega)⟩
        · have e : fBranch β l p = (-2, β) := by unfold fBranch; rw [if_pos ⟨q1, q2, c15⟩, if_pos (by omega)]
          rw [e]
          refine Rn.bipush (v := iI (-2)) d_BH_branch_25 (by decide +kernel) ?_
          exact Rn.iret d_BH_branch_27 rfl rfl ⟨rfl, hA, Off.rf⟩
      · rw [bad (fun q => q.2.2 c15)]
        refine Rn.iconst (v := iI (-1)) d_BH_branch_18 rfl ?_
        exact Rn.iret d_BH_branch_19 rfl rfl ⟨rfl, hA, Off.rf⟩
theorem m_BH_ball {M : wM} {β : Nat → Int} {n : Nat} {σ : Nat → Int} {m : Nat} {τ : Nat → Int} {I J : wIm} {b l c : Int} (hG : M.2.2 = RG) (hA : clsAt M β n σ m τ I J) (hV : aLok β n σ m τ I J) (hb : -2147483648 ≤ b ∧ b < 2147483648) (hl : -2147483648 ≤ l ∧ l < 2147483648) (hc : -2147483648 ≤ c ∧ c < 2147483648) : EvI k_BH_ball [.ref 0, .int (iI b), .int (iI l), .int (iI c)] SH M (fun r M' => r = iI (fBall β b l c).1 ∧ clsAt M' (fBall β b l c).2 n σ m τ I J ∧ Off M M' 0 47) := by
  refine EvI.of 1 (by decide) (Nat.le_of_ble_eq_true rfl) rfl ?_
  have hk := hV.1
  have bad : ¬ (blq b ∧ (l = -1 ∨ lpq l)) → fBall β b l c = (-1, β) := fun h => by unfold fBall; rw [if_neg h]
  have rest : blq b ∧ (l = -1 ∨ lpq l) → Rn k_BH_ball none (0, 0) 21 [some (.ref 0), some (.int (iI b)), some (.int (iI l)), some (.int (iI c)), none] [] SH M (w_FI (0, 0) SH (fun r M' => r = iI (fBall β b l c).1 ∧ clsAt M' (fBall β b l c).2 n σ m τ I J ∧ Off M M' 0 47)) := by
    intro q
    have bad2 : ¬ (0 ≤ c ∧ c ≤ 8) → fBall β b l c = (-2, β) := fun h => by unfold fBall; rw [if_pos q, if_neg h]
    refine Rn.iload_n d_BH_ball_21 rfl ?_
    refine In.if_lt (tgt := 31) d_BH_ball_22 (by decide) ⟨by omega, by omega⟩ (fun c22 => ?_) (fun c22 => ?_)
    · rw [bad2 (by omega)]
      refine Rn.bipush (v := iI (-2)) d_BH_ball_31 (by decide +kernel) ?_
      exact Rn.iret d_BH_ball_33 rfl rfl ⟨rfl, hA, Off.rf⟩
    · refine Rn.iload_n d_BH_ball_25 rfl ?_
      refine Rn.bipush (v := iI 9) d_BH_ball_26 (by decide +kernel) ?_
      refine In.icmp_lt (tgt := 34) d_BH_ball_28 (by decide) ⟨by omega, by omega⟩ ⟨by omega, by omega⟩ (fun c28 => ?_) (fun c28 => ?_)
      · obtain ⟨⟨q1, q2⟩, q3⟩ := q
        obtain ⟨b, rfl⟩ : ∃ x : Nat, b = x := ⟨b.toNat, by omega⟩
        have last : ∀ (x : Int), fBall β b l c = (β (12 + b), putF β b (if l = -1 then -6 else l) c) → Rn k_BH_ball none (0, 0) 54 [some (.ref 0), some (.int (iI b)), some (.int (iI l)), some (.int (iI c)), none] [] SH M (w_FI (0, 0) SH (fun r M' => r = iI (fBall β b l c).1 ∧ clsAt M' (fBall β b l c).2 n σ m τ I J ∧ Off M M' 0 47)) := by
          intro _ e
          rw [e]
          refine Rn.aload_n d_BH_ball_54 rfl ?_
          refine Rn.getR d_BH_ball_55 f_BH_hill g_186 z_BH (r_BH_hill (by assumption)) ?_
          refine Rn.iload_n d_BH_ball_58 rfl ?_
          refine Rn.cVI d_BH_ball_59 s_BH_ball_Hill_loopOf g_255 g_245 g_246 ⟨rfl, rfl⟩ ⟨Nat.zero_le _, Nat.zero_le _⟩ (m_Hill_loopOf i_BH_hill hG hA.1 (show b < 6 by omega)) rfl rfl (z_Hill (by first | assumption | exact i_Image_hill (by assumption) | exact i_BH_hill | exact i_Telling_hill | exact i_Year_hill)) c_Hill (Nat.le_of_ble_eq_true rfl) (fun rr MM qq => ?_)
          obtain ⟨rfl, rfl⟩ := And.imp id Eq.symm qq; clear qq
          refine Rn.istore (lv1 := [_, _, _, _, _]) d_BH_ball_62 (by decide) (w_pv rfl) rfl ?_
          refine Rn.aload_n d_BH_ball_64 rfl ?_
          refine Rn.getR d_BH_ball_65 f_BH_hill g_186 z_BH (r_BH_hill (by assumption)) ?_
          refine Rn.iload_n d_BH_ball_68 rfl ?_
          refine Rn.iload_n d_BH_ball_69 rfl ?_
          refine Rn.iconst (v := iI (-1)) d_BH_ball_70 rfl ?_
          refine In.icmp_ne (tgt := 79) d_BH_ball_71 (by decide) ⟨by omega, by omega⟩ ⟨by omega, by omega⟩ (fun c71 => ?_) (fun c71 => ?_)
          · rw [if_neg c71]
            refine Rn.iload_n d_BH_ball_79 rfl ?_
            refine Rn.iload_n d_BH_ball_80 rfl ?_
            refine Rn.cVV d_BH_ball_81 s_BH_ball_Hill_put g_256 g_257 g_258 ⟨rfl, rfl⟩ ⟨Nat.zero_le _, Nat.zero_le _⟩ (m_Hill_put i_BH_hill hG hA.1 hk (show b < 6 by omega)) rfl rfl (z_Hill (by first | assumption | exact i_Image_hill (by assumption) | exact i_BH_hill | exact i_Telling_hill | exact i_Year_hill)) c_Hill (Nat.le_of_ble_eq_true rfl) (fun MM qq => ?_)
            obtain ⟨hB, hO⟩ := qq
            refine Rn.iload d_BH_ball_84 rfl ?_
            exact Rn.iret d_BH_ball_86 rfl rfl ⟨rfl, hA.hill hB hO, hO.wide (by omega) (by omega)⟩
          · rw [if_pos c71]
            refine Rn.bipush (v := iI (-6)) d_BH_ball_74 (by decide +kernel) ?_
            refine Rn.goto (tgt := 80) d_BH_ball_76 (by decide) ?_
            refine Rn.iload_n d_BH_ball_80 rfl ?_
            refine Rn.cVV d_BH_ball_81 s_BH_ball_Hill_put g_256 g_257 g_258 ⟨rfl, rfl⟩ ⟨Nat.zero_le _, Nat.zero_le _⟩ (m_Hill_put i_BH_hill hG hA.1 hk (show b < 6 by omega)) rfl rfl (z_Hill (by first | assumption | exact i_Image_hill (by assumption) | exact i_BH_hill | exact i_Telling_hill | exact i_Year_hill)) c_Hill (Nat.le_of_ble_eq_true rfl) (fun MM qq => ?_)
            obtain ⟨hB, hO⟩ := qq
            refine Rn.iload d_BH_ball_84 rfl ?_
            exact Rn.iret d_BH_ball_86 rfl rfl ⟨rfl, hA.hill hB hO, hO.wide (by omega) (by omega)⟩
        refine Rn.iload_n d_BH_ball_34 rfl ?_
        refine Rn.iconst (v := iI (-1)) d_BH_ball_35 rfl ?_
        refine In.icmp_eq (tgt := 54) d_BH_ball_36 (by decide) ⟨by omega, by omega⟩ ⟨by omega, by omega⟩ (fun c36 => ?_) (fun c36 => ?_)
        · refine last 0 ?_
          unfold fBall
          rw [if_pos ⟨⟨q1, q2⟩, q3⟩, if_pos (by omega), if_neg (fun h => h.1 c36)]; rfl
        · obtain ⟨l, rfl⟩ : ∃ x : Nat, l = x := ⟨l.toNat, by omega⟩
          refine Rn.aload_n d_BH_ball_39 rfl ?_
          refine Rn.getR d_BH_ball_40 f_BH_hill g_186 z_BH (r_BH_hill (by assumption)) ?_
          refine Rn.iload_n d_BH_ball_43 rfl ?_
          refine Rn.iload_n d_BH_ball_44 rfl ?_
          refine Rn.cVI d_BH_ball_45 s_BH_ball_Hill_anotherHangs g_240 g_241 g_242 ⟨rfl, rfl⟩ ⟨Nat.zero_le _, Nat.zero_le _⟩ (m_Hill_anotherHangs i_BH_hill hG hA.1 hk.l (show b < 6 by omega) (show l < 12 by omega)) rfl rfl (z_Hill (by first | assumption | exact i_Image_hill (by assumption) | exact i_BH_hill | exact i_Telling_hill | exact i_Year_hill)) c_Hill (Nat.le_of_ble_eq_true rfl) (fun rr MM qq => ?_)
          obtain ⟨rfl, rfl⟩ := And.imp id Eq.symm qq; clear qq
          refine In.if_eq (tgt := 54) d_BH_ball_48 (by decide) fl_rg (fun c48 => ?_) (fun c48 => ?_)
          · have n48 := fl_eq c48
            refine last 0 ?_
            unfold fBall
            rw [if_pos ⟨⟨q1, q2⟩, q3⟩, if_pos (by omega), if_neg (fun h => n48 h.2)]; rfl
          · have n48 := fl_ne c48
            have e : fBall β b l c = (-3, β) := by
              unfold fBall
              rw [if_pos ⟨⟨q1, q2⟩, q3⟩, if_pos (by omega), if_pos ⟨c36, n48⟩]
            rw [e]
            refine Rn.bipush (v := iI (-3)) d_BH_ball_51 (by decide +kernel) ?_
            exact Rn.iret d_BH_ball_53 rfl rfl ⟨rfl, hA, Off.rf⟩
      · rw [bad2 (by omega)]
        refine Rn.bipush (v := iI (-2)) d_BH_ball_31 (by decide +kernel) ?_
        exact Rn.iret d_BH_ball_33 rfl rfl ⟨rfl, hA, Off.rf⟩
  refine Rn.iload_n d_BH_ball_0 rfl ?_
  refine Rn.cSI d_BH_ball_1 s_BH_ball_BH_isBall g_237 g_238 ⟨rfl, rfl⟩ ⟨Nat.zero_le _, Nat.zero_le _⟩ (m_BH_isBall hb) rfl rfl (Nat.le_of_ble_eq_true rfl) (fun rr MM qq => ?_)
  obtain ⟨rfl, rfl⟩ := And.imp id Eq.symm qq; clear qq
  refine In.if_eq (tgt := 19) d_BH_ball_4 (by decide) fl_rg (fun c4 => ?_) (fun c4 => ?_)
  · rw [bad (fun q => fl_eq c4 q.1)]
    refine Rn.iconst (v := iI (-1)) d_BH_ball_19 rfl ?_
    exact Rn.iret d_BH_ball_20 rfl rfl ⟨rfl, hA, Off.rf⟩
  · have q1 := fl_ne c4
    refine Rn.iload_n d_BH_ball_7 rfl ?_
    refine Rn.iconst (v := iI (-1)) d_BH_ball_8 rfl ?_
    refine In.icmp_eq (tgt := 21) d_BH_ball_9 (by decide) ⟨by omega, by omega⟩ ⟨by omega, by omega⟩ (fun c9 => ?_) (fun c9 => ?_)
    · exact rest ⟨q1, Or.inl c9⟩
    · refine Rn.iload_n d_BH_ball_12 rfl ?_
      refine Rn.cSI d_BH_ball_13 s_BH_ball_BH_isLoop g_218 g_219 ⟨rfl, rfl⟩ ⟨Nat.zero_le _, Nat.zero_le _⟩ (m_BH_isLoop hl) rfl rfl (Nat.le_of_ble_eq_true rfl) (fun rr MM qq => ?_)
      obtain ⟨rfl, rfl⟩ := And.imp id Eq.symm qq; clear qq
      refine In.if_ne (tgt := 21) d_BH_ball_16 (by decide) fl_rg (fun c16 => ?_) (fun c16 => ?_)
      · exact rest ⟨q1, Or.inr (fl_ne c16)⟩
      · have n16 := fl_eq c16
        rw [bad (fun q => q.2.elim c9 n16)]
        refine Rn.iconst (v := iI (-1)) d_BH_ball_19 rfl ?_
        exact Rn.iret d_BH_ball_20 rfl rfl ⟨rfl, hA, Off.rf⟩
theorem m_BH_say {M : wM} {β : Nat → Int} {n : Nat} {σ : Nat → Int} {m : Nat} {τ : Nat → Int} {I J : wIm} {c : Int} (hG : M.2.2 = RG) (hA : clsAt M β n σ m τ I J) (hV : aLok β n σ m τ I J) (hc : -2147483648 ≤ c ∧ c < 2147483648) : EvI k_BH_say [.ref 0, .int (iI c)] SH M (fun r M' => r = iI (fSay n σ c).1 ∧ clsAt M' β (fSay n σ c).2.1 (fSay n σ c).2.2 m τ I J ∧ Off M M' 0 47) := by
  refine EvI.of 0 (by decide) (Nat.le_of_ble_eq_true rfl) rfl ?_
  have hn := hV.2.1.1
  refine Rn.iload_n d_BH_say_0 rfl ?_
  refine Rn.bipush (v := iI 33) d_BH_say_1 (by decide +kernel) ?_
  refine In.icmp_lt (tgt := 12) d_BH_say_3 (by decide) ⟨by omega, by omega⟩ ⟨by omega, by omega⟩ (fun c3 => ?_) (fun c3 => ?_)
  · have e : fSay n σ c = (-2, n, σ) := by unfold fSay; rw [if_neg (by omega)]
    rw [e]
    refine Rn.bipush (v := iI (-2)) d_BH_say_12 (by decide +kernel) ?_
    exact Rn.iret d_BH_say_14 rfl rfl ⟨rfl, hA, Off.rf⟩
  · refine Rn.iload_n d_BH_say_6 rfl ?_
    refine Rn.bipush (v := iI 126) d_BH_say_7 (by decide +kernel) ?_
    refine In.icmp_le (tgt := 15) d_BH_say_9 (by decide) ⟨by omega, by omega⟩ ⟨by omega, by omega⟩ (fun c9 => ?_) (fun c9 => ?_)
    · refine Rn.aload_n d_BH_say_15 rfl ?_
      refine Rn.getR d_BH_say_16 f_BH_pad g_188 z_BH (r_BH_pad (by assumption)) ?_
      refine Rn.cVI d_BH_say_19 s_BH_say_Pad_size g_264 g_265 g_266 ⟨rfl, rfl⟩ ⟨Nat.zero_le _, Nat.zero_le _⟩ (m_Pad_size hA.2.1) rfl rfl z_Pad c_Pad (Nat.le_of_ble_eq_true rfl) (fun rr MM qq => ?_)
      obtain ⟨rfl, rfl⟩ := And.imp id Eq.symm qq; clear qq
      refine Rn.bipush (v := iI 60) d_BH_say_22 (by decide +kernel) ?_
      refine In.icmp_lt (tgt := 30) d_BH_say_24 (by decide) ⟨by omega, by omega⟩ ⟨by omega, by omega⟩ (fun c24 => ?_) (fun c24 => ?_)
      · have e : fSay n σ c = (((n + 1 : Nat) : Int), n + 1, up σ n c) := by unfold fSay; rw [if_pos (by omega), if_pos (by omega)]
        rw [e]
        refine Rn.aload_n d_BH_say_30 rfl ?_
        refine Rn.getR d_BH_say_31 f_BH_pad g_188 z_BH (r_BH_pad (by assumption)) ?_
        refine Rn.iload_n d_BH_say_34 rfl ?_
        refine Rn.cVV d_BH_say_35 s_BH_say_Pad_add g_268 g_269 g_270 ⟨rfl, rfl⟩ ⟨Nat.zero_le _, Nat.zero_le _⟩ (m_Pad_add hG hA.2.1 (show n < 60 by omega)) rfl rfl z_Pad c_Pad (Nat.le_of_ble_eq_true rfl) (fun M1 qq => ?_)
        obtain ⟨hP, hO⟩ := qq
        have hG1 := hO.G hG
        refine Rn.aload_n d_BH_say_38 rfl ?_
        refine Rn.getR d_BH_say_39 f_BH_pad g_188 z_BH (r_BH_pad (by assumption)) ?_
        refine Rn.cVI d_BH_say_42 s_BH_say_Pad_size g_264 g_265 g_266 ⟨rfl, rfl⟩ ⟨Nat.zero_le _, Nat.zero_le _⟩ (m_Pad_size hP) rfl rfl z_Pad c_Pad (Nat.le_of_ble_eq_true rfl) (fun rr MM qq => ?_)
        obtain ⟨rfl, rfl⟩ := And.imp id Eq.symm qq; clear qq
        exact Rn.iret d_BH_say_45 rfl rfl ⟨rfl, hA.pad hP hO, hO.wide (by omega) (by omega)⟩
      · have e : fSay n σ c = (-4, n, σ) := by unfold fSay; rw [if_pos (by omega), if_neg (by omega)]
        rw [e]
        refine Rn.bipush (v := iI (-4)) d_BH_say_27 (by decide +kernel) ?_
        exact Rn.iret d_BH_say_29 rfl rfl ⟨rfl, hA, Off.rf⟩
    · have e : fSay n σ c = (-2, n, σ) := by unfold fSay; rw [if_neg (by omega)]
      rw [e]
      refine Rn.bipush (v := iI (-2)) d_BH_say_12 (by decide +kernel) ?_
      exact Rn.iret d_BH_say_14 rfl rfl ⟨rfl, hA, Off.rf⟩
theorem m_BH_wipe {M : wM} {β : Nat → Int} {n : Nat} {σ : Nat → Int} {m : Nat} {τ : Nat → Int} {I J : wIm} (hG : M.2.2 = RG) (hA : clsAt M β n σ m τ I J) : EvI k_BH_wipe [.ref 0] SH M (fun r M' => r = iI n ∧ clsAt M' β 0 σ m τ I J ∧ Off M M' 0 47) := by
  refine EvI.of 1 (by decide) (Nat.le_of_ble_eq_true rfl) rfl ?_
  refine Rn.aload_n d_BH_wipe_0 rfl ?_
  refine Rn.getR d_BH_wipe_1 f_BH_pad g_188 z_BH (r_BH_pad (by assumption)) ?_
  refine Rn.cVI d_BH_wipe_4 s_BH_wipe_Pad_size g_264 g_265 g_266 ⟨rfl, rfl⟩ ⟨Nat.zero_le _, Nat.zero_le _⟩ (m_Pad_size hA.2.1) rfl rfl z_Pad c_Pad (Nat.le_of_ble_eq_true rfl) (fun rr MM qq => ?_)
  obtain ⟨rfl, rfl⟩ := And.imp id Eq.symm qq; clear qq
  refine Rn.istore_n (lv1 := [_, _]) d_BH_wipe_7 (by decide) (w_pv rfl) rfl ?_
  refine Rn.aload_n d_BH_wipe_8 rfl ?_
  refine Rn.getR d_BH_wipe_9 f_BH_pad g_188 z_BH (r_BH_pad (by assumption)) ?_
  refine Rn.cVV d_BH_wipe_12 s_BH_wipe_Pad_clear g_276 g_277 g_278 ⟨rfl, rfl⟩ ⟨Nat.zero_le _, Nat.zero_le _⟩ (m_Pad_clear hA.2.1) rfl rfl z_Pad c_Pad (Nat.le_of_ble_eq_true rfl) (fun MM qq => ?_)
  obtain ⟨hP, hO⟩ := qq
  refine Rn.iload_n d_BH_wipe_15 rfl ?_
  exact Rn.iret d_BH_wipe_16 rfl rfl ⟨rfl, hA.pad hP hO, hO.wide (by omega) (by omega)⟩
theorem m_BH_fault {M : wM} {β : Nat → Int} {n : Nat} {σ : Nat → Int} {m : Nat} {τ : Nat → Int} {I J : wIm} (hG : M.2.2 = RG) (hA : clsAt M β n σ m τ I J) (hV : aLok β n σ m τ I J) : EvI k_BH_fault [.ref 0] SH M (fun r M' => r = iI (fltS σ n) ∧ clsAt M' β n σ m τ I J ∧ Off M M' 0 47) := by
  refine EvI.of 0 (by decide) (Nat.le_of_ble_eq_true rfl) rfl ?_
  refine Rn.aload_n d_BH_fault_0 rfl ?_
  refine Rn.getR d_BH_fault_1 f_BH_pad g_188 z_BH (r_BH_pad (by assumption)) ?_
  refine Rn.cVI d_BH_fault_4 s_BH_fault_Pad_firstWrong g_284 g_285 g_286 ⟨rfl, rfl⟩ ⟨Nat.zero_le _, Nat.zero_le _⟩ (m_Pad_firstWrong hG hA.2.1 hV.2.1) rfl rfl z_Pad c_Pad (Nat.le_of_ble_eq_true rfl) (fun rr MM qq => ?_)
  obtain ⟨rfl, rfl⟩ := And.imp id Eq.symm qq; clear qq
  exact Rn.iret d_BH_fault_7 rfl rfl ⟨rfl, hA, Off.rf⟩
theorem m_BH_judge {M : wM} {β : Nat → Int} {n : Nat} {σ : Nat → Int} {m : Nat} {τ : Nat → Int} {I J : wIm} {w : Int} (hG : M.2.2 = RG) (hA : clsAt M β n σ m τ I J) (hV : aLok β n σ m τ I J) (hw : -2147483648 ≤ w ∧ w < 2147483648) : EvI k_BH_judge [.ref 0, .int (iI w)] SH M (fun r M' => r = iI (fJudge β n σ w) ∧ clsAt M' β n σ m τ I J ∧ Off M M' 0 47) := by
  refine EvI.of 0 (by decide) (Nat.le_of_ble_eq_true rfl) rfl ?_
  have hfr := fltS_rg σ n
  have hn := hV.2.1.1
  refine Rn.iload_n d_BH_judge_0 rfl ?_
  refine In.if_lt (tgt := 9) d_BH_judge_1 (by decide) ⟨by omega, by omega⟩ (fun c1 => ?_) (fun c1 => ?_)
  · have e : fJudge β n σ w = -2 := by unfold fJudge; rw [if_neg (by omega)]
    rw [e]
    refine Rn.bipush (v := iI (-2)) d_BH_judge_9 (by decide +kernel) ?_
    exact Rn.iret d_BH_judge_11 rfl rfl ⟨rfl, hA, Off.rf⟩
  · refine Rn.iload_n d_BH_judge_4 rfl ?_
    refine Rn.iconst (v := iI 1) d_BH_judge_5 rfl ?_
    refine In.icmp_le (tgt := 12) d_BH_judge_6 (by decide) ⟨by omega, by omega⟩ ⟨by omega, by omega⟩ (fun c6 => ?_) (fun c6 => ?_)
    · refine Rn.aload_n d_BH_judge_12 rfl ?_
      refine Rn.getR d_BH_judge_13 f_BH_pad g_188 z_BH (r_BH_pad (by assumption)) ?_
      refine Rn.cVI d_BH_judge_16 s_BH_judge_Pad_firstWrong g_284 g_285 g_286 ⟨rfl, rfl⟩ ⟨Nat.zero_le _, Nat.zero_le _⟩ (m_Pad_firstWrong hG hA.2.1 hV.2.1) rfl rfl z_Pad c_Pad (Nat.le_of_ble_eq_true rfl) (fun rr MM qq => ?_)
      obtain ⟨rfl, rfl⟩ := And.imp id Eq.symm qq; clear qq
      refine Rn.bipush (v := iI (-6)) d_BH_judge_19 (by decide +kernel) ?_
      refine In.icmp_eq (tgt := 27) d_BH_judge_21 (by decide) ⟨by omega, by omega⟩ ⟨by omega, by omega⟩ (fun c21 => ?_) (fun c21 => ?_)
      · refine Rn.aload_n d_BH_judge_27 rfl ?_
        refine Rn.getR d_BH_judge_28 f_BH_telling g_189 z_BH (r_BH_telling (by assumption)) ?_
        refine Rn.aload_n d_BH_judge_31 rfl ?_
        refine Rn.getR d_BH_judge_32 f_BH_pad g_188 z_BH (r_BH_pad (by assumption)) ?_
        refine Rn.aload_n d_BH_judge_35 rfl ?_
        refine Rn.getR d_BH_judge_36 f_BH_hill g_186 z_BH (r_BH_hill (by assumption)) ?_
        refine Rn.cVI d_BH_judge_39 s_BH_judge_Telling_tell g_306 g_307 g_308 ⟨rfl, rfl⟩ ⟨Nat.zero_le _, Nat.zero_le _⟩ (m_Telling_tell i_BH_hill (by omega) hG hA.2.1 hV.2.1 hA.1 hV.1) rfl rfl z_Telling c_Telling (Nat.le_of_ble_eq_true rfl) (fun rr M1 qq => ?_)
        obtain ⟨rfl, hT, hO⟩ := qq
        have hG1 := hO.G hG
        have hT := hT c21
        refine In.if_eq (tgt := 48) d_BH_judge_42 (by decide) fl_rg (fun c42 => ?_) (fun c42 => ?_)
        · have n42 : ¬ (tellS σ n β).1 = 0 := fun q => fl_eq c42 ⟨c21, q⟩
          refine Rn.iload_n d_BH_judge_48 rfl ?_
          refine In.if_ne (tgt := 62) d_BH_judge_49 (by decide) ⟨by omega, by omega⟩ (fun c49 => ?_) (fun c49 => ?_)
          · have e : fJudge β n σ w = (tellS σ n β).1 := by unfold fJudge; rw [if_pos (by omega), if_pos c21, if_neg n42, if_neg c49]
            rw [e]
            refine Rn.aload_n d_BH_judge_62 rfl ?_
            refine Rn.getR d_BH_judge_63 f_BH_telling g_189 z_BH (r_BH_telling (by assumption)) ?_
            refine Rn.cVI d_BH_judge_66 s_BH_judge_Telling_why g_418 g_419 g_420 ⟨rfl, rfl⟩ ⟨Nat.zero_le _, Nat.zero_le _⟩ (m_Telling_why hT.2.2.1) rfl rfl z_Telling c_Telling (Nat.le_of_ble_eq_true rfl) (fun rr MM qq => ?_)
            obtain ⟨rfl, rfl⟩ := And.imp id Eq.symm qq; clear qq
            exact Rn.iret d_BH_judge_69 rfl rfl ⟨rfl, hA.off hO (by omega), hO.wide (by omega) (by omega)⟩
          · have e : fJudge β n σ w = (tellS σ n β).2.2.1 := by unfold fJudge; rw [if_pos (by omega), if_pos c21, if_neg n42, if_pos c49]
            rw [e]
            refine Rn.aload_n d_BH_judge_52 rfl ?_
            refine Rn.getR d_BH_judge_53 f_BH_telling g_189 z_BH (r_BH_telling (by assumption)) ?_
            refine Rn.cVI d_BH_judge_56 s_BH_judge_Telling_acts g_414 g_415 g_416 ⟨rfl, rfl⟩ ⟨Nat.zero_le _, Nat.zero_le _⟩ (m_Telling_acts hT.2.1) rfl rfl z_Telling c_Telling (Nat.le_of_ble_eq_true rfl) (fun rr MM qq => ?_)
            obtain ⟨rfl, rfl⟩ := And.imp id Eq.symm qq; clear qq
            refine Rn.goto (tgt := 69) d_BH_judge_59 (by decide) ?_
            exact Rn.iret d_BH_judge_69 rfl rfl ⟨rfl, hA.off hO (by omega), hO.wide (by omega) (by omega)⟩
        · have n42 := (fl_ne c42).2
          have e : fJudge β n σ w = -6 := by unfold fJudge; rw [if_pos (by omega), if_pos c21, if_pos n42]
          rw [e]
          refine Rn.bipush (v := iI (-6)) d_BH_judge_45 (by decide +kernel) ?_
          exact Rn.iret d_BH_judge_47 rfl rfl ⟨rfl, hA.off hO (by omega), hO.wide (by omega) (by omega)⟩
      · have e : fJudge β n σ w = -5 := by unfold fJudge; rw [if_pos (by omega), if_neg c21]
        rw [e]
        refine Rn.bipush (v := iI (-5)) d_BH_judge_24 (by decide +kernel) ?_
        exact Rn.iret d_BH_judge_26 rfl rfl ⟨rfl, hA, Off.rf⟩
    · have e : fJudge β n σ w = -2 := by unfold fJudge; rw [if_neg (by omega)]
      rw [e]
      refine Rn.bipush (v := iI (-2)) d_BH_judge_9 (by decide +kernel) ?_
      exact Rn.iret d_BH_judge_11 rfl rfl ⟨rfl, hA, Off.rf⟩
theorem m_BH_done {M : wM} {β : Nat → Int} {n : Nat} {σ : Nat → Int} {m : Nat} {τ : Nat → Int} {I J : wIm} {R : Int × (Nat → Int) × Nat} (hG : M.2.2 = RG) (hA : clsAt M β n σ m τ I J) (hV : aLok β n σ m τ I J) (hR1 : barS σ n β → R = (((tellS σ n β).2.2.1 : Int), (tellS σ n β).2.1, 0)) (hR2 : ¬ barS σ n β → R = (-5, β, n)) : EvI k_BH_done [.ref 0] SH M (fun r M' => r = iI R.1 ∧ clsAt M' R.2.1 R.2.2 σ m τ I J ∧ Off M M' 0 47) := by
  refine EvI.of 0 (by decide) (Nat.le_of_ble_eq_true rfl) rfl ?_
  refine Rn.aload_n d_BH_done_0 rfl ?_
  refine Rn.getR d_BH_done_1 f_BH_telling g_189 z_BH (r_BH_telling (by assumption)) ?_
  refine Rn.aload_n d_BH_done_4 rfl ?_
  refine Rn.getR d_BH_done_5 f_BH_pad g_188 z_BH (r_BH_pad (by assumption)) ?_
  refine Rn.aload_n d_BH_done_8 rfl ?_
  refine Rn.getR d_BH_done_9 f_BH_hill g_186 z_BH (r_BH_hill (by assumption)) ?_
  refine Rn.cVI d_BH_done_12 s_BH_done_Telling_tell g_306 g_307 g_308 ⟨rfl, rfl⟩ ⟨Nat.zero_le _, Nat.zero_le _⟩ (m_Telling_tell i_BH_hill (by omega) hG hA.2.1 hV.2.1 hA.1 hV.1) rfl rfl z_Telling c_Telling (Nat.le_of_ble_eq_true rfl) (fun rr M1 qq => ?_)
  obtain ⟨rfl, hT, hO⟩ := qq
  have hG1 := hO.G hG
  have hA1 := hA.off hO (by omega)
  refine In.if_ne (tgt := 21) d_BH_done_15 (by decide) fl_rg (fun c15 => ?_) (fun c15 => ?_)
  · have q := fl_ne c15
    rw [hR1 q]
    have hT := hT q.1
    refine Rn.aload_n d_BH_done_21 rfl ?_
    refine Rn.getR d_BH_done_22 f_BH_hill g_186 z_BH (r_BH_hill (by assumption)) ?_
    refine Rn.aload_n d_BH_done_25 rfl ?_
    refine Rn.getR d_BH_done_26 f_BH_telling g_189 z_BH (r_BH_telling (by assumption)) ?_
    refine Rn.cVR d_BH_done_29 s_BH_done_Telling_hill g_426 g_427 g_428 ⟨rfl, rfl⟩ ⟨Nat.zero_le _, Nat.zero_le _⟩ (m_Telling_hill hG1) rfl rfl z_Telling c_Telling (Nat.le_of_ble_eq_true rfl) (fun rr MM qq => ?_)
    obtain ⟨rfl, rfl⟩ := And.imp id Eq.symm qq; clear qq
    refine Rn.cVV d_BH_done_32 s_BH_done_Hill_copyFrom g_430 g_311 g_312 ⟨rfl, rfl⟩ ⟨Nat.zero_le _, Nat.zero_le _⟩ (m_Hill_copyFrom i_BH_hill i_Telling_hill (by omega) hG1 hT.1) rfl rfl (z_Hill (by first | assumption | exact i_Image_hill (by assumption) | exact i_BH_hill | exact i_Telling_hill | exact i_Year_hill)) c_Hill (Nat.le_of_ble_eq_true rfl) (fun M2 qq => ?_)
    obtain ⟨hB, hO2⟩ := qq
    have hG2 := hO2.G hG1
    have hA2 := hA1.hill hB hO2
    refine Rn.aload_n d_BH_done_35 rfl ?_
    refine Rn.getR d_BH_done_36 f_BH_pad g_188 z_BH (r_BH_pad (by assumption)) ?_
    refine Rn.cVV d_BH_done_39 s_BH_done_Pad_clear g_276 g_277 g_278 ⟨rfl, rfl⟩ ⟨Nat.zero_le _, Nat.zero_le _⟩ (m_Pad_clear hA2.2.1) rfl rfl z_Pad c_Pad (Nat.le_of_ble_eq_true rfl) (fun M3 qq => ?_)
    obtain ⟨hP, hO3⟩ := qq
    have hG3 := hO3.G hG2
    have e2 : M3.1 11 2 = iI (tellS σ n β).2.2.1 := by rw [hO3.1 _ (by omega), hO2.1 _ (by omega)]; exact hT.2.1
    refine Rn.aload_n d_BH_done_42 rfl ?_
    refine Rn.getR d_BH_done_43 f_BH_telling g_189 z_BH (r_BH_telling (by assumption)) ?_
    refine Rn.cVI d_BH_done_46 s_BH_done_Telling_acts g_414 g_415 g_416 ⟨rfl, rfl⟩ ⟨Nat.zero_le _, Nat.zero_le _⟩ (m_Telling_acts e2) rfl rfl z_Telling c_Telling (Nat.le_of_ble_eq_true rfl) (fun rr MM qq => ?_)
    obtain ⟨rfl, rfl⟩ := And.imp id Eq.symm qq; clear qq
    exact Rn.iret d_BH_done_49 rfl rfl ⟨rfl, hA2.pad hP hO3, (hO.wide (by omega) (by omega)).tr ((hO2.wide (by omega) (by omega)).tr (hO3.wide (by omega) (by omega)))⟩
  · rw [hR2 (fl_eq c15)]
    refine Rn.bipush (v := iI (-5)) d_BH_done_18 (by decide +kernel) ?_
    exact Rn.iret d_BH_done_20 rfl rfl ⟨rfl, hA1, hO.wide (by omega) (by omega)⟩
theorem m_BH_behind {M : wM} {β : Nat → Int} {n : Nat} {σ : Nat → Int} {m : Nat} {τ : Nat → Int} {I J : wIm} {b w V : Int} (hG : M.2.2 = RG) (hA : clsAt M β n σ m τ I J) (hV : aLok β n σ m τ I J) (hok2 : barS σ n β → hok (tellS σ n β).2.1) (hb : -2147483648 ≤ b ∧ b < 2147483648) (hw : -2147483648 ≤ w ∧ w < 2147483648)
    (v1 : ¬ blq b → V = -1) (v2 : blq b → ¬ (0 ≤ w ∧ w ≤ 2) → V = -2) (v3 : blq b → (0 ≤ w ∧ w ≤ 2) → ¬ barS σ n β → V = -5) (v4 : blq b → barS σ n β → w = 0 → V = (tellS σ n β).2.1 (12 + b.toNat)) (v5 : blq b → barS σ n β → w = 1 → V = (tellS σ n β).2.1 (18 + b.toNat)) (v6 : blq b → barS σ n β → w = 2 → V = if (bk (tellS σ n β).2.1).testBit b.toNat then 1 else 0) : EvI k_BH_behind [.ref 0, .int (iI b), .int (iI w)] SH M (fun r M' => r = iI V ∧ clsAt M' β n σ m τ I J ∧ Off M M' 0 47) := by
  refine EvI.of 0 (by decide) (Nat.le_of_ble_eq_true rfl) rfl ?_
  refine Rn.iload_n d_BH_behind_0 rfl ?_
  refine Rn.cSI d_BH_behind_1 s_BH_behind_BH_isBall g_237 g_238 ⟨rfl, rfl⟩ ⟨Nat.zero_le _, Nat.zero_le _⟩ (m_BH_isBall hb) rfl rfl (Nat.le_of_ble_eq_true rfl) (fun rr MM qq => ?_)
  obtain ⟨rfl, rfl⟩ := And.imp id Eq.symm qq; clear qq
  refine In.if_ne (tgt := 9) d_BH_behind_4 (by decide) fl_rg (fun c4 => ?_) (fun c4 => ?_)
  · have q1 := fl_ne c4
    refine Rn.iload_n d_BH_behind_9 rfl ?_
    refine In.if_lt (tgt := 18) d_BH_behind_10 (by decide) ⟨by omega, by omega⟩ (fun c10 => ?_) (fun c10 => ?_)
    · rw [v2 q1 (by omega)]
      refine Rn.bipush (v := iI (-2)) d_BH_behind_18 (by decide +kernel) ?_
      exact Rn.iret d_BH_behind_20 rfl rfl ⟨rfl, hA, Off.rf⟩
    · refine Rn.iload_n d_BH_behind_13 rfl ?_
      refine Rn.iconst (v := iI 2) d_BH_behind_14 rfl ?_
      refine In.icmp_le (tgt := 21) d_BH_behind_15 (by decide) ⟨by omega, by omega⟩ ⟨by omega, by omega⟩ (fun c15 => ?_) (fun c15 => ?_)
      · have q2 : 0 ≤ w ∧ w ≤ 2 := by omega
        refine Rn.aload_n d_BH_behind_21 rfl ?_
        refine Rn.getR d_BH_behind_22 f_BH_telling g_189 z_BH (r_BH_telling (by assumption)) ?_
        refine Rn.aload_n d_BH_behind_25 rfl ?_
        refine Rn.getR d_BH_behind_26 f_BH_pad g_188 z_BH (r_BH_pad (by assumption)) ?_
        refine Rn.aload_n d_BH_behind_29 rfl ?_
        refine Rn.getR d_BH_behind_30 f_BH_hill g_186 z_BH (r_BH_hill (by assumption)) ?_
        refine Rn.cVI d_BH_behind_33 s_BH_behind_Telling_tell g_306 g_307 g_308 ⟨rfl, rfl⟩ ⟨Nat.zero_le _, Nat.zero_le _⟩ (m_Telling_tell i_BH_hill (by omega) hG hA.2.1 hV.2.1 hA.1 hV.1) rfl rfl z_Telling c_Telling (Nat.le_of_ble_eq_true rfl) (fun rr M1 qq => ?_)
        obtain ⟨rfl, hT, hO⟩ := qq
        have hG1 := hO.G hG
        have hA1 := hA.off hO (by omega)
        refine In.if_ne (tgt := 42) d_BH_behind_36 (by decide) fl_rg (fun c36 => ?_) (fun c36 => ?_)
        · have q := fl_ne c36
          have hT := hT q.1
          have hk := hok2 q
          obtain ⟨b, rfl⟩ : ∃ x : Nat, b = x := ⟨b.toNat, by omega⟩
          have hb6 : b < 6 := by omega
          simp only [Int.toNat_natCast] at v4 v5 v6
          refine Rn.iload_n d_BH_behind_42 rfl ?_
          rcases (show w = 0 ∨ w = 1 ∨ w = 2 by omega) with e | e | e
          · rw [v4 q1 q e]
            subst e
            refine In.look (off := 25) (tgt := 68) d_BH_behind_43 ⟨by omega, by omega⟩ (by decide) (rfl) (by decide) ?_
            refine Rn.aload_n d_BH_behind_68 rfl ?_
            refine Rn.getR d_BH_behind_69 f_BH_telling g_189 z_BH (r_BH_telling (by assumption)) ?_
            refine Rn.cVR d_BH_behind_72 s_BH_behind_Telling_hill g_426 g_427 g_428 ⟨rfl, rfl⟩ ⟨Nat.zero_le _, Nat.zero_le _⟩ (m_Telling_hill hG1) rfl rfl z_Telling c_Telling (Nat.le_of_ble_eq_true rfl) (fun rr MM qq => ?_)
            obtain ⟨rfl, rfl⟩ := And.imp id Eq.symm qq; clear qq
            refine Rn.iload_n d_BH_behind_75 rfl ?_
            refine Rn.cVI d_BH_behind_76 s_BH_behind_Hill_loopOf g_255 g_245 g_246 ⟨rfl, rfl⟩ ⟨Nat.zero_le _, Nat.zero_le _⟩ (m_Hill_loopOf i_Telling_hill hG1 hT.1 hb6) rfl rfl (z_Hill (by first | assumption | exact i_Image_hill (by assumption) | exact i_BH_hill | exact i_Telling_hill | exact i_Year_hill)) c_Hill (Nat.le_of_ble_eq_true rfl) (fun rr MM qq => ?_)
            obtain ⟨rfl, rfl⟩ := And.imp id Eq.symm qq; clear qq
            exact Rn.iret d_BH_behind_79 rfl rfl ⟨rfl, hA1, hO.wide (by omega) (by omega)⟩
          · rw [v5 q1 q e]
            subst e
            refine In.look (off := 37) (tgt := 80) d_BH_behind_43 ⟨by omega, by omega⟩ (by decide) (rfl) (by decide) ?_
            refine Rn.aload_n d_BH_behind_80 rfl ?_
            refine Rn.getR d_BH_behind_81 f_BH_telling g_189 z_BH (r_BH_telling (by assumption)) ?_
            refine Rn.cVR d_BH_behind_84 s_BH_behind_Telling_hill g_426 g_427 g_428 ⟨rfl, rfl⟩ ⟨Nat.zero_le _, Nat.zero_le _⟩ (m_Telling_hill hG1) rfl rfl z_Telling c_Telling (Nat.le_of_ble_eq_true rfl) (fun rr MM qq => ?_)
            obtain ⟨rfl, rfl⟩ := And.imp id Eq.symm qq; clear qq
            refine Rn.iload_n d_BH_behind_87 rfl ?_
            refine Rn.cVI d_BH_behind_88 s_BH_behind_Hill_chipsOf g_435 g_373 g_374 ⟨rfl, rfl⟩ ⟨Nat.zero_le _, Nat.zero_le _⟩ (m_Hill_chipsOf i_Telling_hill hG1 hT.1 hb6) rfl rfl (z_Hill (by first | assumption | exact i_Image_hill (by assumption) | exact i_BH_hill | exact i_Telling_hill | exact i_Year_hill)) c_Hill (Nat.le_of_ble_eq_true rfl) (fun rr MM qq => ?_)
            obtain ⟨rfl, rfl⟩ := And.imp id Eq.symm qq; clear qq
            exact Rn.iret d_BH_behind_91 rfl rfl ⟨rfl, hA1, hO.wide (by omega) (by omega)⟩
          · rw [v6 q1 q e]
            subst e
            refine In.look (off := 49) (tgt := 92) d_BH_behind_43 ⟨by omega, by omega⟩ (by decide) (rfl) (by decide) ?_
            refine Rn.aload_n d_BH_behind_92 rfl ?_
            refine Rn.getR d_BH_behind_93 f_BH_telling g_189 z_BH (r_BH_telling (by assumption)) ?_
            refine Rn.cVR d_BH_behind_96 s_BH_behind_Telling_hill g_426 g_427 g_428 ⟨rfl, rfl⟩ ⟨Nat.zero_le _, Nat.zero_le _⟩ (m_Telling_hill hG1) rfl rfl z_Telling c_Telling (Nat.le_of_ble_eq_true rfl) (fun rr MM qq => ?_)
            obtain ⟨rfl, rfl⟩ := And.imp id Eq.symm qq; clear qq
            refine Rn.iload_n d_BH_behind_99 rfl ?_
            refine Rn.cVI d_BH_behind_100 s_BH_behind_Hill_isBroken g_436 g_349 g_350 ⟨rfl, rfl⟩ ⟨Nat.zero_le _, Nat.zero_le _⟩ (m_Hill_isBroken i_Telling_hill hG1 hT.1 hk hb6) rfl rfl (z_Hill (by first | assumption | exact i_Image_hill (by assumption) | exact i_BH_hill | exact i_Telling_hill | exact i_Year_hill)) c_Hill (Nat.le_of_ble_eq_true rfl) (fun rr MM qq => ?_)
            obtain ⟨rfl, rfl⟩ := And.imp id Eq.symm qq; clear qq
            refine In.if_eq (tgt := 110) d_BH_behind_103 (by decide) fl_rg (fun c103 => ?_) (fun c103 => ?_)
            · refine Rn.iconst (v := iI 0) d_BH_behind_110 rfl ?_
              exact Rn.iret d_BH_behind_111 rfl rfl ⟨by rw [if_neg (fl_eq c103)], hA1, hO.wide (by omega) (by omega)⟩
            · refine Rn.iconst (v := iI 1) d_BH_behind_106 rfl ?_
              refine Rn.goto (tgt := 111) d_BH_behind_107 (by decide) ?_
              exact Rn.iret d_BH_behind_111 rfl rfl ⟨by rw [if_pos (fl_ne c103)], hA1, hO.wide (by omega) (by omega)⟩
        · rw [v3 q1 q2 (fl_eq c36)]
          refine Rn.bipush (v := iI (-5)) d_BH_behind_39 (by decide +kernel) ?_
          exact Rn.iret d_BH_behind_41 rfl rfl ⟨rfl, hA1, hO.wide (by omega) (by omega)⟩
      · rw [v2 q1 (by omega)]
        refine Rn.bipush (v := iI (-2)) d_BH_behind_18 (by decide +kernel) ?_
        exact Rn.iret d_BH_behind_20 rfl rfl ⟨rfl, hA, Off.rf⟩
  · rw [v1 (fl_eq c4)]
    refine Rn.iconst (v := iI (-1)) d_BH_behind_7 rfl ?_
    exact Rn.iret d_BH_behind_8 rfl rfl ⟨rfl, hA, Off.rf⟩
theorem m_BH_then {M : wM} {β : Nat → Int} {n : Nat} {σ : Nat → Int} {m : Nat} {τ : Nat → Int} {I J : wIm} {w V : Int} (hG : M.2.2 = RG) (hA : clsAt M β n σ m τ I J) (hV : aLok β n σ m τ I J) (hok2 : barS σ n β → hok (tellS σ n β).2.1) (hw : -2147483648 ≤ w ∧ w < 2147483648)
    (v2 : ¬ (0 ≤ w ∧ w ≤ 5) → V = -2) (v3 : (0 ≤ w ∧ w ≤ 5) → ¬ barS σ n β → V = -5) (v4 : barS σ n β → w = 0 → V = hungS (tellS σ n β).2.1 6) (v5 : barS σ n β → w = 1 → V = (tellS σ n β).2.1 24) (v6 : barS σ n β → w = 2 → V = chipS (tellS σ n β).2.1 6 - chipS β 6) (v7 : barS σ n β → w = 3 → V = (tellS σ n β).2.1 25) (v8 : barS σ n β → w = 4 → V = (tellS σ n β).2.2.2.1) (v9 : barS σ n β → w = 5 → V = (tellS σ n β).2.2.2.2) : EvI k_BH_then [.ref 0, .int (iI w)] SH M (fun r M' => r = iI V ∧ clsAt M' β n σ m τ I J ∧ Off M M' 0 47) := by
  refine EvI.of 0 (by decide) (Nat.le_of_ble_eq_true rfl) rfl ?_
  refine Rn.iload_n d_BH_then_0 rfl ?_
  refine In.if_lt (tgt := 9) d_BH_then_1 (by decide) ⟨by omega, by omega⟩ (fun c1 => ?_) (fun c1 => ?_)
  · rw [v2 (by omega)]
    refine Rn.bipush (v := iI (-2)) d_BH_then_9 (by decide +kernel) ?_
    exact Rn.iret d_BH_then_11 rfl rfl ⟨rfl, hA, Off.rf⟩
  · refine Rn.iload_n d_BH_then_4 rfl ?_
    refine Rn.iconst (v := iI 5) d_BH_then_5 rfl ?_
    refine In.icmp_le (tgt := 12) d_BH_then_6 (by decide) ⟨by omega, by omega⟩ ⟨by omega, by omega⟩ (fun c6 => ?_) (fun c6 => ?_)
    · have q2 : 0 ≤ w ∧ w ≤ 5 := by omega
      refine Rn.aload_n d_BH_then_12 rfl ?_
      refine Rn.getR d_BH_then_13 f_BH_telling g_189 z_BH (r_BH_telling (by assumption)) ?_
      refine Rn.aload_n d_BH_then_16 rfl ?_
      refine Rn.getR d_BH_then_17 f_BH_pad g_188 z_BH (r_BH_pad (by assumption)) ?_
      refine Rn.aload_n d_BH_then_20 rfl ?_
      refine Rn.getR d_BH_then_21 f_BH_hill g_186 z_BH (r_BH_hill (by assumption)) ?_
      refine Rn.cVI d_BH_then_24 s_BH_then_Telling_tell g_306 g_307 g_308 ⟨rfl, rfl⟩ ⟨Nat.zero_le _, Nat.zero_le _⟩ (m_Telling_tell i_BH_hill (by omega) hG hA.2.1 hV.2.1 hA.1 hV.1) rfl rfl z_Telling c_Telling (Nat.le_of_ble_eq_true rfl) (fun rr M1 qq => ?_)
      obtain ⟨rfl, hT, hO⟩ := qq
      have hG1 := hO.G hG
      have hA1 := hA.off hO (by omega)
      refine In.if_ne (tgt := 33) d_BH_then_27 (by decide) fl_rg (fun c27 => ?_) (fun c27 => ?_)
      · have q := fl_ne c27
        have hT := hT q.1
        have hk := hok2 q
        refine Rn.iload_n d_BH_then_33 rfl ?_
        rcases (show w = 0 ∨ w = 1 ∨ w = 2 ∨ w = 3 ∨ w = 4 ∨ w = 5 by omega) with e | e | e | e | e | e
        · rw [v4 q e]
          subst e
          refine In.tabIn (off := 34) (tgt := 68) 0 d_BH_then_34 rfl (by decide) (by decide) rfl (by decide) ?_
          refine Rn.aload_n d_BH_then_68 rfl ?_
          refine Rn.getR d_BH_then_69 f_BH_telling g_189 z_BH (r_BH_telling (by assumption)) ?_
          refine Rn.cVR d_BH_then_72 s_BH_then_Telling_hill g_426 g_427 g_428 ⟨rfl, rfl⟩ ⟨Nat.zero_le _, Nat.zero_le _⟩ (m_Telling_hill hG1) rfl rfl z_Telling c_Telling (Nat.le_of_ble_eq_true rfl) (fun rr MM qq => ?_)
          obtain ⟨rfl, rfl⟩ := And.imp id Eq.symm qq; clear qq
          refine Rn.cVI d_BH_then_75 s_BH_then_Hill_hungLoops g_441 g_249 g_250 ⟨rfl, rfl⟩ ⟨Nat.zero_le _, Nat.zero_le _⟩ (m_Hill_hungLoops i_Telling_hill hG1 hT.1 hk.l) rfl rfl (z_Hill (by first | assumption | exact i_Image_hill (by assumption) | exact i_BH_hill | exact i_Telling_hill | exact i_Year_hill)) c_Hill (Nat.le_of_ble_eq_true rfl) (fun rr MM qq => ?_)
          obtain ⟨rfl, rfl⟩ := And.imp id Eq.symm qq; clear qq
          exact Rn.iret d_BH_then_78 rfl rfl ⟨rfl, hA1, hO.wide (by omega) (by omega)⟩
        · rw [v5 q e]
          subst e
          refine In.tabIn (off := 45) (tgt := 79) 1 d_BH_then_34 rfl (by decide) (by decide) rfl (by decide) ?_
          refine Rn.aload_n d_BH_then_79 rfl ?_
          refine Rn.getR d_BH_then_80 f_BH_telling g_189 z_BH (r_BH_telling (by assumption)) ?_
          refine Rn.cVR d_BH_then_83 s_BH_then_Telling_hill g_426 g_427 g_428 ⟨rfl, rfl⟩ ⟨Nat.zero_le _, Nat.zero_le _⟩ (m_Telling_hill hG1) rfl rfl z_Telling c_Telling (Nat.le_of_ble_eq_true rfl) (fun rr MM qq => ?_)
          obtain ⟨rfl, rfl⟩ := And.imp id Eq.symm qq; clear qq
          refine Rn.cVI d_BH_then_86 s_BH_then_Hill_brokenBalls g_442 g_365 g_366 ⟨rfl, rfl⟩ ⟨Nat.zero_le _, Nat.zero_le _⟩ (m_Hill_brokenBalls i_Telling_hill hG1 hT.1) rfl rfl (z_Hill (by first | assumption | exact i_Image_hill (by assumption) | exact i_BH_hill | exact i_Telling_hill | exact i_Year_hill)) c_Hill (Nat.le_of_ble_eq_true rfl) (fun rr MM qq => ?_)
          obtain ⟨rfl, rfl⟩ := And.imp id Eq.symm qq; clear qq
          exact Rn.iret d_BH_then_89 rfl rfl ⟨rfl, hA1, hO.wide (by omega) (by omega)⟩
        · rw [v6 q e]
          subst e
          refine In.tabIn (off := 56) (tgt := 90) 2 d_BH_then_34 rfl (by decide) (by decide) rfl (by decide) ?_
          refine Rn.aload_n d_BH_then_90 rfl ?_
          refine Rn.getR d_BH_then_91 f_BH_telling g_189 z_BH (r_BH_telling (by assumption)) ?_
          refine Rn.cVR d_BH_then_94 s_BH_then_Telling_hill g_426 g_427 g_428 ⟨rfl, rfl⟩ ⟨Nat.zero_le _, Nat.zero_le _⟩ (m_Telling_hill hG1) rfl rfl z_Telling c_Telling (Nat.le_of_ble_eq_true rfl) (fun rr MM qq => ?_)
          obtain ⟨rfl, rfl⟩ := And.imp id Eq.symm qq; clear qq
          refine Rn.cVI d_BH_then_97 s_BH_then_Hill_allChips g_443 g_444 g_445 ⟨rfl, rfl⟩ ⟨Nat.zero_le _, Nat.zero_le _⟩ (m_Hill_allChips i_Telling_hill hG1 hT.1) rfl rfl (z_Hill (by first | assumption | exact i_Image_hill (by assumption) | exact i_BH_hill | exact i_Telling_hill | exact i_Year_hill)) c_Hill (Nat.le_of_ble_eq_true rfl) (fun rr MM qq => ?_)
          obtain ⟨rfl, rfl⟩ := And.imp id Eq.symm qq; clear qq
          refine Rn.aload_n d_BH_then_100 rfl ?_
          refine Rn.getR d_BH_then_101 f_BH_hill g_186 z_BH (r_BH_hill (by assumption)) ?_
          refine Rn.cVI d_BH_then_104 s_BH_then_Hill_allChips g_443 g_444 g_445 ⟨rfl, rfl⟩ ⟨Nat.zero_le _, Nat.zero_le _⟩ (m_Hill_allChips i_BH_hill hG1 hA1.1) rfl rfl (z_Hill (by first | assumption | exact i_Image_hill (by assumption) | exact i_BH_hill | exact i_Telling_hill | exact i_Year_hill)) c_Hill (Nat.le_of_ble_eq_true rfl) (fun rr MM qq => ?_)
          obtain ⟨rfl, rfl⟩ := And.imp id Eq.symm qq; clear qq
          refine In.sub d_BH_then_107 ?_
          exact Rn.iret d_BH_then_108 rfl rfl ⟨rfl, hA1, hO.wide (by omega) (by omega)⟩
        · rw [v7 q e]
          subst e
          refine In.tabIn (off := 75) (tgt := 109) 3 d_BH_then_34 rfl (by decide) (by decide) rfl (by decide) ?_
          refine Rn.aload_n d_BH_then_109 rfl ?_
          refine Rn.getR d_BH_then_110 f_BH_telling g_189 z_BH (r_BH_telling (by assumption)) ?_
          refine Rn.cVR d_BH_then_113 s_BH_then_Telling_hill g_426 g_427 g_428 ⟨rfl, rfl⟩ ⟨Nat.zero_le _, Nat.zero_le _⟩ (m_Telling_hill hG1) rfl rfl z_Telling c_Telling (Nat.le_of_ble_eq_true rfl) (fun rr MM qq => ?_)
          obtain ⟨rfl, rfl⟩ := And.imp id Eq.symm qq; clear qq
          refine Rn.cVI d_BH_then_116 s_BH_then_Hill_winter g_447 g_448 g_449 ⟨rfl, rfl⟩ ⟨Nat.zero_le _, Nat.zero_le _⟩ (m_Hill_winter i_Telling_hill hG1 hT.1) rfl rfl (z_Hill (by first | assumption | exact i_Image_hill (by assumption) | exact i_BH_hill | exact i_Telling_hill | exact i_Year_hill)) c_Hill (Nat.le_of_ble_eq_true rfl) (fun rr MM qq => ?_)
          obtain ⟨rfl, rfl⟩ := And.imp id Eq.symm qq; clear qq
          exact Rn.iret d_BH_then_119 rfl rfl ⟨rfl, hA1, hO.wide (by omega) (by omega)⟩
        · rw [v8 q e]
          subst e
          refine In.tabIn (off := 86) (tgt := 120) 4 d_BH_then_34 rfl (by decide) (by decide) rfl (by decide) ?_
          refine Rn.aload_n d_BH_then_120 rfl ?_
          refine Rn.getR d_BH_then_121 f_BH_telling g_189 z_BH (r_BH_telling (by assumption)) ?_
          refine Rn.cVI d_BH_then_124 s_BH_then_Telling_actThatBroke g_451 g_452 g_453 ⟨rfl, rfl⟩ ⟨Nat.zero_le _, Nat.zero_le _⟩ (m_Telling_actThatBroke hT.2.2.2.1) rfl rfl z_Telling c_Telling (Nat.le_of_ble_eq_true rfl) (fun rr MM qq => ?_)
          obtain ⟨rfl, rfl⟩ := And.imp id Eq.symm qq; clear qq
          exact Rn.iret d_BH_then_127 rfl rfl ⟨rfl, hA1, hO.wide (by omega) (by omega)⟩
        · rw [v9 q e]
          subst e
          refine In.tabOut (tgt := 128) d_BH_then_34 ⟨by omega, by omega⟩ (by omega) (by decide) ?_
          refine Rn.aload_n d_BH_then_128 rfl ?_
          refine Rn.getR d_BH_then_129 f_BH_telling g_189 z_BH (r_BH_telling (by assumption)) ?_
          refine Rn.cVI d_BH_then_132 s_BH_then_Telling_ballThatBroke g_455 g_456 g_457 ⟨rfl, rfl⟩ ⟨Nat.zero_le _, Nat.zero_le _⟩ (m_Telling_ballThatBroke hT.2.2.2.2) rfl rfl z_Telling c_Telling (Nat.le_of_ble_eq_true rfl) (fun rr MM qq => ?_)
          obtain ⟨rfl, rfl⟩ := And.imp id Eq.symm qq; clear qq
          exact Rn.iret d_BH_then_135 rfl rfl ⟨rfl, hA1, hO.wide (by omega) (by omega)⟩
      · rw [v3 q2 (fl_eq c27)]
        refine Rn.bipush (v := iI (-5)) d_BH_then_30 (by decide +kernel) ?_
        exact Rn.iret d_BH_then_32 rfl rfl ⟨rfl, hA1, hO.wide (by omega) (by omega)⟩
    · rw [v2 (by omega)]
      refine Rn.bipush (v := iI (-2)) d_BH_then_9 (by decide +kernel) ?_
      exact Rn.iret d_BH_then_11 rfl rfl ⟨rfl, hA, Off.rf⟩
theorem m_BH_apart {M : wM} {β : Nat → Int} {n : Nat} {σ : Nat → Int} {m : Nat} {τ : Nat → Int} {I J : wIm} {a b V : Int} (hG : M.2.2 = RG) (hA : clsAt M β n σ m τ I J) (hV : aLok β n σ m τ I J) (ha : -2147483648 ≤ a ∧ a < 2147483648) (hb : -2147483648 ≤ b ∧ b < 2147483648)
    (v1 : ¬ (lpq a ∧ lpq b) → V = -1) (v2 : lpq a → lpq b → V = dist β a.toNat b.toNat) : EvI k_BH_apart [.ref 0, .int (iI a), .int (iI b)] SH M (fun r M' => r = iI V ∧ clsAt M' β n σ m τ I J ∧ Off M M' 0 47) := by
  refine EvI.of 0 (by decide) (Nat.le_of_ble_eq_true rfl) rfl ?_
  refine Rn.iload_n d_BH_apart_0 rfl ?_
  refine Rn.cSI d_BH_apart_1 s_BH_apart_BH_isLoop g_218 g_219 ⟨rfl, rfl⟩ ⟨Nat.zero_le _, Nat.zero_le _⟩ (m_BH_isLoop ha) rfl rfl (Nat.le_of_ble_eq_true rfl) (fun rr MM qq => ?_)
  obtain ⟨rfl, rfl⟩ := And.imp id Eq.symm qq; clear qq
  refine In.if_eq (tgt := 14) d_BH_apart_4 (by decide) fl_rg (fun c4 => ?_) (fun c4 => ?_)
  · rw [v1 (fun q => fl_eq c4 q.1)]
    refine Rn.iconst (v := iI (-1)) d_BH_apart_14 rfl ?_
    exact Rn.iret d_BH_apart_15 rfl rfl ⟨rfl, hA, Off.rf⟩
  · refine Rn.iload_n d_BH_apart_7 rfl ?_
    refine Rn.cSI d_BH_apart_8 s_BH_apart_BH_isLoop g_218 g_219 ⟨rfl, rfl⟩ ⟨Nat.zero_le _, Nat.zero_le _⟩ (m_BH_isLoop hb) rfl rfl (Nat.le_of_ble_eq_true rfl) (fun rr MM qq => ?_)
    obtain ⟨rfl, rfl⟩ := And.imp id Eq.symm qq; clear qq
    refine In.if_ne (tgt := 16) d_BH_apart_11 (by decide) fl_rg (fun c11 => ?_) (fun c11 => ?_)
    · have q1 := fl_ne c4
      have q2 := fl_ne c11
      rw [v2 q1 q2]
      obtain ⟨a, rfl⟩ : ∃ x : Nat, a = x := ⟨a.toNat, by omega⟩
      obtain ⟨b, rfl⟩ : ∃ x : Nat, b = x := ⟨b.toNat, by omega⟩
      refine Rn.aload_n d_BH_apart_16 rfl ?_
      refine Rn.getR d_BH_apart_17 f_BH_hill g_186 z_BH (r_BH_hill (by assumption)) ?_
      refine Rn.cVR d_BH_apart_20 s_BH_apart_Hill_tree g_221 g_222 g_223 ⟨rfl, rfl⟩ ⟨Nat.zero_le _, Nat.zero_le _⟩ (m_Hill_tree i_BH_hill hG) rfl rfl (z_Hill (by first | assumption | exact i_Image_hill (by assumption) | exact i_BH_hill | exact i_Telling_hill | exact i_Year_hill)) c_Hill (Nat.le_of_ble_eq_true rfl) (fun rr MM qq => ?_)
      obtain ⟨rfl, rfl⟩ := And.imp id Eq.symm qq; clear qq
      refine Rn.iload_n d_BH_apart_23 rfl ?_
      refine Rn.iload_n d_BH_apart_24 rfl ?_
      refine Rn.cVI d_BH_apart_25 s_BH_apart_Tree_distance g_463 g_386 g_387 ⟨rfl, rfl⟩ ⟨Nat.zero_le _, Nat.zero_le _⟩ (m_Tree_distance (i_Hill_tree i_BH_hill) hG hA.1.1 hV.1.t (show a < 12 by omega) (show b < 12 by omega)) rfl rfl (z_Tree (by first | assumption | exact i_Hill_tree (by assumption) | exact i_Hill_tree i_BH_hill)) c_Tree (Nat.le_of_ble_eq_true rfl) (fun rr MM qq => ?_)
      obtain ⟨rfl, rfl⟩ := And.imp id Eq.symm qq; clear qq
      exact Rn.iret d_BH_apart_28 rfl rfl ⟨rfl, hA, Off.rf⟩
    · rw [v1 (fun q => fl_eq c11 q.2)]
      refine Rn.iconst (v := iI (-1)) d_BH_apart_14 rfl ?_
      exact Rn.iret d_BH_apart_15 rfl rfl ⟨rfl, hA, Off.rf⟩
theorem m_BH_meets {M : wM} {β : Nat → Int} {n : Nat} {σ : Nat → Int} {m : Nat} {τ : Nat → Int} {I J : wIm} {a b V : Int} (hG : M.2.2 = RG) (hA : clsAt M β n σ m τ I J) (hV : aLok β n σ m τ I J) (ha : -2147483648 ≤ a ∧ a < 2147483648) (hb : -2147483648 ≤ b ∧ b < 2147483648)
    (v1 : ¬ (lpq a ∧ lpq b) → V = -1) (v2 : lpq a → lpq b → V = nth (fun k => (wayS β a.toNat b.toNat).testBit k) 12 0 0 0) : EvI k_BH_meets [.ref 0, .int (iI a), .int (iI b)] SH M (fun r M' => r = iI V ∧ clsAt M' β n σ m τ I J ∧ Off M M' 0 47) := by
  refine EvI.of 0 (by decide) (Nat.le_of_ble_eq_true rfl) rfl ?_
  refine Rn.iload_n d_BH_meets_0 rfl ?_
  refine Rn.cSI d_BH_meets_1 s_BH_meets_BH_isLoop g_218 g_219 ⟨rfl, rfl⟩ ⟨Nat.zero_le _, Nat.zero_le _⟩ (m_BH_isLoop ha) rfl rfl (Nat.le_of_ble_eq_true rfl) (fun rr MM qq => ?_)
  obtain ⟨rfl, rfl⟩ := And.imp id Eq.symm qq; clear qq
  refine In.if_eq (tgt := 14) d_BH_meets_4 (by decide) fl_rg (fun c4 => ?_) (fun c4 => ?_)
  · rw [v1 (fun q => fl_eq c4 q.1)]
    refine Rn.iconst (v := iI (-1)) d_BH_meets_14 rfl ?_
    exact Rn.iret d_BH_meets_15 rfl rfl ⟨rfl, hA, Off.rf⟩
  · refine Rn.iload_n d_BH_meets_7 rfl ?_
    refine Rn.cSI d_BH_meets_8 s_BH_meets_BH_isLoop g_218 g_219 ⟨rfl, rfl⟩ ⟨Nat.zero_le _, Nat.zero_le _⟩ (m_BH_isLoop hb) rfl rfl (Nat.le_of_ble_eq_true rfl) (fun rr MM qq => ?_)
    obtain ⟨rfl, rfl⟩ := And.imp id Eq.symm qq; clear qq
    refine In.if_ne (tgt := 16) d_BH_meets_11 (by decide) fl_rg (fun c11 => ?_) (fun c11 => ?_)
    · have q1 := fl_ne c4
      have q2 := fl_ne c11
      rw [v2 q1 q2]
      obtain ⟨a, rfl⟩ : ∃ x : Nat, a = x := ⟨a.toNat, by omega⟩
      obtain ⟨b, rfl⟩ : ∃ x : Nat, b = x := ⟨b.toNat, by omega⟩
      simp only [Int.toNat_natCast]
      have hwl := wayS_lt β a b
      refine Rn.aload_n d_BH_meets_16 rfl ?_
      refine Rn.getR d_BH_meets_17 f_BH_hill g_186 z_BH (r_BH_hill (by assumption)) ?_
      refine Rn.cVR d_BH_meets_20 s_BH_meets_Hill_tree g_221 g_222 g_223 ⟨rfl, rfl⟩ ⟨Nat.zero_le _, Nat.zero_le _⟩ (m_Hill_tree i_BH_hill hG) rfl rfl (z_Hill (by first | assumption | exact i_Image_hill (by assumption) | exact i_BH_hill | exact i_Telling_hill | exact i_Year_hill)) c_Hill (Nat.le_of_ble_eq_true rfl) (fun rr MM qq => ?_)
      obtain ⟨rfl, rfl⟩ := And.imp id Eq.symm qq; clear qq
      refine Rn.iload_n d_BH_meets_23 rfl ?_
      refine Rn.iload_n d_BH_meets_24 rfl ?_
      refine Rn.cVI d_BH_meets_25 s_BH_meets_Tree_way g_468 g_469 g_470 ⟨rfl, rfl⟩ ⟨Nat.zero_le _, Nat.zero_le _⟩ (m_Tree_way (i_Hill_tree i_BH_hill) hG hA.1.1 hV.1.t (show a < 12 by omega) (show b < 12 by omega)) rfl rfl (z_Tree (by first | assumption | exact i_Hill_tree (by assumption) | exact i_Hill_tree i_BH_hill)) c_Tree (Nat.le_of_ble_eq_true rfl) (fun rr MM qq => ?_)
      obtain ⟨rfl, rfl⟩ := And.imp id Eq.symm qq; clear qq
      refine Rn.iconst (v := iI 0) d_BH_meets_28 rfl ?_
      refine Rn.cSI d_BH_meets_29 s_BH_meets_BH_memberAt g_472 g_411 ⟨rfl, rfl⟩ ⟨Nat.zero_le _, Nat.zero_le _⟩ (m_BH_memberAt (show wayS β a b < 2147483648 by omega) (show -2147483648 ≤ (0 : Int) ∧ (0 : Int) < 2147483648 by omega)) rfl rfl (Nat.le_of_ble_eq_true rfl) (fun rr MM qq => ?_)
      obtain ⟨rfl, rfl⟩ := And.imp id Eq.symm qq; clear qq
      exact Rn.iret d_BH_meets_32 rfl rfl ⟨rfl, hA, Off.rf⟩
    · rw [v1 (fun q => fl_eq c11 q.2)]
      refine Rn.iconst (v := iI (-1)) d_BH_meets_14 rfl ?_
      exact Rn.iret d_BH_meets_15 rfl rfl ⟨rfl, hA, Off.rf⟩
theorem m_BH_sees {M : wM} {β : Nat → Int} {n : Nat} {σ : Nat → Int} {m : Nat} {τ : Nat → Int} {I J : wIm} {b V : Int} (hG : M.2.2 = RG) (hA : clsAt M β n σ m τ I J) (hV : aLok β n σ m τ I J) (hb : -2147483648 ≤ b ∧ b < 2147483648)
    (v1 : ¬ blq b → V = -1) (v2 : blq b → β (12 + b.toNat) = -6 → V = -3) (v3 : blq b → β (12 + b.toNat) ≠ -6 → V = setOf (seesP β b.toNat) 6) : EvI k_BH_sees [.ref 0, .int (iI b)] SH M (fun r M' => r = iI V ∧ clsAt M' β n σ m τ I J ∧ Off M M' 0 47) := by
  refine EvI.of 0 (by decide) (Nat.le_of_ble_eq_true rfl) rfl ?_
  refine Rn.iload_n d_BH_sees_0 rfl ?_
  refine Rn.cSI d_BH_sees_1 s_BH_sees_BH_isBall g_237 g_238 ⟨rfl, rfl⟩ ⟨Nat.zero_le _, Nat.zero_le _⟩ (m_BH_isBall hb) rfl rfl (Nat.le_of_ble_eq_true rfl) (fun rr MM qq => ?_)
  obtain ⟨rfl, rfl⟩ := And.imp id Eq.symm qq; clear qq
  refine In.if_ne (tgt := 9) d_BH_sees_4 (by decide) fl_rg (fun c4 => ?_) (fun c4 => ?_)
  · have q1 := fl_ne c4
    obtain ⟨b, rfl⟩ : ∃ x : Nat, b = x := ⟨b.toNat, by omega⟩
    simp only [Int.toNat_natCast] at v2 v3
    have hl := hV.1.l b (by omega)
    refine Rn.aload_n d_BH_sees_9 rfl ?_
    refine Rn.getR d_BH_sees_10 f_BH_hill g_186 z_BH (r_BH_hill (by assumption)) ?_
    refine Rn.iload_n d_BH_sees_13 rfl ?_
    refine Rn.cVI d_BH_sees_14 s_BH_sees_Hill_loopOf g_255 g_245 g_246 ⟨rfl, rfl⟩ ⟨Nat.zero_le _, Nat.zero_le _⟩ (m_Hill_loopOf i_BH_hill hG hA.1 (show b < 6 by omega)) rfl rfl (z_Hill (by first | assumption | exact i_Image_hill (by assumption) | exact i_BH_hill | exact i_Telling_hill | exact i_Year_hill)) c_Hill (Nat.le_of_ble_eq_true rfl) (fun rr MM qq => ?_)
    obtain ⟨rfl, rfl⟩ := And.imp id Eq.symm qq; clear qq
    refine Rn.bipush (v := iI (-6)) d_BH_sees_17 (by decide +kernel) ?_
    refine In.icmp_ne (tgt := 25) d_BH_sees_19 (by decide) ⟨by omega, by omega⟩ ⟨by omega, by omega⟩ (fun c19 => ?_) (fun c19 => ?_)
    · rw [v3 q1 c19]
      refine Rn.aload_n d_BH_sees_25 rfl ?_
      refine Rn.getR d_BH_sees_26 f_BH_hill g_186 z_BH (r_BH_hill (by assumption)) ?_
      refine Rn.iload_n d_BH_sees_29 rfl ?_
      refine Rn.cVI d_BH_sees_30 s_BH_sees_Hill_seenFrom g_477 g_478 g_479 ⟨rfl, rfl⟩ ⟨Nat.zero_le _, Nat.zero_le _⟩ (m_Hill_seenFrom i_BH_hill hG hA.1 hV.1 (show b < 6 by omega) c19) rfl rfl (z_Hill (by first | assumption | exact i_Image_hill (by assumption) | exact i_BH_hill | exact i_Telling_hill | exact i_Year_hill)) c_Hill (Nat.le_of_ble_eq_true rfl) (fun rr MM qq => ?_)
      obtain ⟨rfl, rfl⟩ := And.imp id Eq.symm qq; clear qq
      exact Rn.iret d_BH_sees_33 rfl rfl ⟨rfl, hA, Off.rf⟩
    · rw [v2 q1 c19]
      refine Rn.bipush (v := iI (-3)) d_BH_sees_22 (by decide +kernel) ?_
      exact Rn.iret d_BH_sees_24 rfl rfl ⟨rfl, hA, Off.rf⟩
  · rw [v1 (fl_eq c4)]
    refine Rn.iconst (v := iI (-1)) d_BH_sees_7 rfl ?_
    exact Rn.iret d_BH_sees_8 rfl rfl ⟨rfl, hA, Off.rf⟩
