/-! The reference's calls: meets, seen, forget, told, image, restore, year. -/
set_option maxRecDepth 20000
set_option maxHeartbeats 400000
theorem meeF_le {f : Nat → Int} (hf : tok f) : ∀ n a b, a < 12 → b < 12 → meeF f n a b ≤ a
  | 0, a, b, _, _ => Nat.le_refl _
  | n + 1, a, b, ha, hb => by
    simp only [meeF]
    by_cases e : a = b
    · rw [if_pos e]; exact Nat.le_refl _
    · rw [if_neg e]
      by_cases e2 : b < a
      · have hp := hf a (by omega) ha
        rw [if_pos e2]
        have := meeF_le hf n (f a).toNat b (by omega) hb
        omega
      · have hp := hf b (by omega) hb
        rw [if_neg e2]
        exact meeF_le hf n a (f b).toNat ha (by omega)
theorem meeF_le2 {f : Nat → Int} (hf : tok f) : ∀ n a b, a < 12 → b < 12 → a + b < n → meeF f n a b ≤ b
  | 0, a, b, _, _, _ => by omega
  | n + 1, a, b, ha, hb, hn => by
    simp only [meeF]
    by_cases e : a = b
    · rw [if_pos e]; omega
    · rw [if_neg e]
      by_cases e2 : b < a
      · have hp := hf a (by omega) ha
        rw [if_pos e2]
        exact meeF_le2 hf n (f a).toNat b (by omega) hb (by omega)
      · have hp := hf b (by omega) hb
        rw [if_neg e2]
        have := meeF_le2 hf n a (f b).toNat ha (by omega) (by omega)
        omega
theorem mee_way {f : Nat → Int} (hf : tok f) : ∀ n a b, a < 12 → b < 12 → a + b < n → dist f a (meeF f n a b) + dist f (meeF f n a b) b = dist f a b ∧ ∀ k, k < meeF f n a b → dist f a b < dist f a k + dist f k b
  | 0, a, b, _, _, h => by omega
  | n + 1, a, b, ha, hb, hn => by
    simp only [meeF]
    by_cases e : a = b
    · subst e
      rw [if_pos rfl, dist_self]
      refine ⟨rfl, fun k hk => ?_⟩
      have : dist f a k ≠ 0 := fun q => by have := dist_0 hf ha (by omega) q; omega
      omega
    · rw [if_neg e]
      by_cases e2 : b < a
      · have hp := hf a (by omega) ha
        rw [if_pos e2]
        obtain ⟨h1, h2⟩ := mee_way hf n (f a).toNat b (by omega) hb (by omega)
        have hl := meeF_le hf n (f a).toNat b (by omega) hb
        have d0 := dist_gt hf ha e2
        refine ⟨?_, fun k hk => ?_⟩
        · have d1 := dist_gt hf (b := meeF f n (f a).toNat b) ha (by omega)
          omega
        · have d1 := dist_gt hf (b := k) ha (by omega)
          have := h2 k hk
          omega
      · have hp := hf b (by omega) hb
        rw [if_neg e2]
        obtain ⟨h1, h2⟩ := mee_way hf n a (f b).toNat ha (by omega) (by omega)
        have hl := meeF_le2 hf n a (f b).toNat ha (by omega) (by omega)
        have d0 := dist_lt hf hb (show a < b by omega)
        refine ⟨?_, fun k hk => ?_⟩
        · have d1 := dist_lt hf (a := meeF f n a (f b).toNat) hb (by omega)
          omega
        · have d1 := dist_lt hf (a := k) hb (by omega)
          have := h2 k hk
          omega
theorem way_bit {f : Nat → Int} {a b k : Nat} (hk : k < 12) : (wayS f a b).testBit k = decide (dist f a k + dist f k b = dist f a b) := by
  unfold wayS; rw [setOf_bit]; simp [hk]
/-- the least of the way is where the two ways down meet -/
theorem mee_nth {f : Nat → Int} (hf : tok f) {a b : Nat} (ha : a < 12) (hb : b < 12) : nth (fun k => (wayS f a b).testBit k) 12 0 0 0 = meeF f 24 a b := by
  obtain ⟨h1, h2⟩ := mee_way hf 24 a b ha hb (by omega)
  have hl := meeF_le hf 24 a b ha hb
  refine nth_first 12 0 _ (by omega) (by omega) ?_ (fun k _ hk => ?_)
  · rw [way_bit (by omega)]; exact decide_eq_true h1
  · rw [way_bit (by omega)]; have := h2 k hk; exact decide_eq_false (by omega)
theorem m_Md_meets {M : wM} {β : Nat → Int} {n : Nat} {σ : Nat → Int} {m : Nat} {τ : Nat → Int} {I J : wIm} {a b V : Int} (hG : M.2.2 = RG) (hA : mdA M β n σ m τ I J) (hV : aLok β n σ m τ I J) (ha : -2147483648 ≤ a ∧ a < 2147483648) (hb : -2147483648 ≤ b ∧ b < 2147483648)
    (v1 : ¬ (lpq a ∧ lpq b) → V = -1) (v2 : lpq a → lpq b → V = nth (fun k => (wayS β a.toNat b.toNat).testBit k) 12 0 0 0) : EvI k_Md_meets [.ref 47, .int (iI a), .int (iI b)] SH M (fun r M' => r = iI V ∧ mdA M' β n σ m τ I J ∧ Ofm M M') := by
  refine EvI.of 0 (by decide) (Nat.le_of_ble_eq_true rfl) rfl ?_
  refine Rn.aload_n d_Md_meets_0 rfl ?_
  refine Rn.cVV d_Md_meets_1 s_Md_meets_Md_asNow g_715 g_717 gs_10 ⟨rfl, rfl⟩ ⟨Nat.zero_le _, Nat.zero_le _⟩ (m_Md_asNow hG hA.1) rfl rfl z_Md c_Md (Nat.le_of_ble_eq_true rfl) (fun M1 qq => ?_)
  obtain ⟨k1, n1, _, _, _⟩ := qq
  have hG1 := k1.G hG
  have hA1 := hA.kp k1
  refine Rn.iload_n d_Md_meets_4 rfl ?_
  refine Rn.iload_n d_Md_meets_5 rfl ?_
  refine Rn.cSI d_Md_meets_6 s_Md_meets_Md_areLoops g_804 g_805 ⟨rfl, rfl⟩ ⟨Nat.zero_le _, Nat.zero_le _⟩ (m_Md_areLoops ha hb) rfl rfl (Nat.le_of_ble_eq_true rfl) (fun rr MM qq => ?_)
  obtain ⟨rfl, rfl⟩ := And.imp id Eq.symm qq; clear qq
  refine In.if_eq (tgt := 21) d_Md_meets_9 (by decide) fl_rg (fun c9 => ?_) (fun c9 => ?_)
  · rw [v1 (fl_eq c9)]
    refine Rn.iconst (v := iI (-1)) d_Md_meets_21 rfl ?_
    exact Rn.iret d_Md_meets_22 rfl rfl ⟨rfl, hA1, k1.o⟩
  · have q := fl_ne c9
    obtain ⟨a, rfl⟩ : ∃ k : Nat, a = k := ⟨a.toNat, by omega⟩
    obtain ⟨b, rfl⟩ : ∃ k : Nat, b = k := ⟨b.toNat, by omega⟩
    have v2 := v2 q.1 q.2
    simp only [Int.toNat_natCast] at v2
    rw [v2, mee_nth hV.1.t (by omega) (by omega)]
    refine Rn.aload_n d_Md_meets_12 rfl ?_
    refine Rn.iload_n d_Md_meets_13 rfl ?_
    refine Rn.iload_n d_Md_meets_14 rfl ?_
    refine Rn.cVI d_Md_meets_15 s_Md_meets_Md_meetOf g_811 g_813 gs_22 ⟨rfl, rfl⟩ ⟨Nat.zero_le _, Nat.zero_le _⟩ (m_Md_meetOf hG1 n1 hV.1.t (show a < 12 by omega) (show b < 12 by omega)) rfl rfl z_Md c_Md (Nat.le_of_ble_eq_true rfl) (fun rr MM qq => ?_)
    obtain ⟨rfl, rfl⟩ := And.imp id Eq.symm qq; clear qq
    refine Rn.goto (tgt := 22) d_Md_meets_18 (by decide) ?_
    exact Rn.iret d_Md_meets_22 rfl rfl ⟨rfl, hA1, k1.o⟩
theorem m_Md_seen {M : wM} {β : Nat → Int} {n : Nat} {σ : Nat → Int} {m : Nat} {τ : Nat → Int} {I J : wIm} {l v : Int} {Rr : Int × Nat × (Nat → Int)} (hG : M.2.2 = RG) (hA : mdA M β n σ m τ I J) (hV : aLok β n σ m τ I J) (hl : -2147483648 ≤ l ∧ l < 2147483648) (hv : -2147483648 ≤ v ∧ v < 2147483648)
    (v1 : ¬ lpq l → Rr = (-1, m, τ)) (v2 : lpq l → ¬ (0 ≤ v ∧ v ≤ 11) → Rr = (-2, m, τ)) (v3 : lpq l → (0 ≤ v ∧ v ≤ 11) → m = 8 → Rr = (-4, m, τ)) (v4 : lpq l → (0 ≤ v ∧ v ≤ 11) → m < 8 → Rr = (((m + 1 : Nat) : Int), m + 1, up (up τ (2 * m) l) (2 * m + 1) v)) : EvI k_Md_seen [.ref 47, .int (iI l), .int (iI v)] SH M (fun r M' => r = iI Rr.1 ∧ mdA M' β n σ Rr.2.1 Rr.2.2 I J ∧ Ofm M M') := by
  refine EvI.of 0 (by decide) (Nat.le_of_ble_eq_true rfl) rfl ?_
  have hm := hV.2.2.1.1
  refine Rn.iload_n d_Md_seen_0 rfl ?_
  refine Rn.iconst (v := iI 0) d_Md_seen_1 rfl ?_
  refine Rn.bipush (v := iI 11) d_Md_seen_2 (by decide +kernel) ?_
  refine Rn.cSI d_Md_seen_4 s_Md_seen_Md_in g_708 g_709 ⟨rfl, rfl⟩ ⟨Nat.zero_le _, Nat.zero_le _⟩ (m_Md_in hl (by decide) (by decide)) rfl rfl (Nat.le_of_ble_eq_true rfl) (fun rr MM qq => ?_)
  obtain ⟨rfl, rfl⟩ := And.imp id Eq.symm qq; clear qq
  refine In.if_ne (tgt := 12) d_Md_seen_7 (by decide) fl_rg (fun c7 => ?_) (fun c7 => ?_)
  · have q := fl_ne c7
    have ql : lpq l := by omega
    refine Rn.iload_n d_Md_seen_12 rfl ?_
    refine Rn.iconst (v := iI 0) d_Md_seen_13 rfl ?_
    refine Rn.bipush (v := iI 11) d_Md_seen_14 (by decide +kernel) ?_
    refine Rn.cSI d_Md_seen_16 s_Md_seen_Md_in g_708 g_709 ⟨rfl, rfl⟩ ⟨Nat.zero_le _, Nat.zero_le _⟩ (m_Md_in hv (by decide) (by decide)) rfl rfl (Nat.le_of_ble_eq_true rfl) (fun rr MM qq => ?_)
    obtain ⟨rfl, rfl⟩ := And.imp id Eq.symm qq; clear qq
    refine In.if_ne (tgt := 25) d_Md_seen_19 (by decide) fl_rg (fun c19 => ?_) (fun c19 => ?_)
    · have q2 := fl_ne c19
      refine Rn.aload_n d_Md_seen_25 rfl ?_
      refine In.getI d_Md_seen_26 f_Md_sights g_652 z_Md hA.2.2.2.2.1 ?_
      refine Rn.bipush (v := iI 8) d_Md_seen_29 (by decide +kernel) ?_
      refine In.icmp_ne (tgt := 37) d_Md_seen_31 (by decide) ⟨by omega, by omega⟩ ⟨by omega, by omega⟩ (fun c31 => ?_) (fun c31 => ?_)
      · rw [v4 ql q2 (by omega)]
        refine Rn.aload_n d_Md_seen_37 rfl ?_
        refine Rn.getR d_Md_seen_38 f_Md_sight g_653 z_Md (r_Md_sight (by assumption)) ?_
        refine Rn.iconst (v := iI 2) d_Md_seen_41 rfl ?_
        refine Rn.aload_n d_Md_seen_42 rfl ?_
        refine In.getI d_Md_seen_43 f_Md_sights g_652 z_Md hA.2.2.2.2.1 ?_
        refine In.mul d_Md_seen_46 ?_
        refine Rn.iload_n d_Md_seen_47 rfl ?_
        refine In.ast d_Md_seen_48 z_Md_sight (show ((2 : Int) * m) = ((2 * m : Nat) : Int) by omega) (by omega) (by decide) ?_
        refine Rn.aload_n d_Md_seen_49 rfl ?_
        refine Rn.getR d_Md_seen_50 f_Md_sight g_653 z_Md (r_Md_sight (by assumption)) ?_
        refine Rn.iconst (v := iI 2) d_Md_seen_53 rfl ?_
        refine Rn.aload_n d_Md_seen_54 rfl ?_
        refine In.getI d_Md_seen_55 f_Md_sights g_652 z_Md (by rw [w_ui_off _ _ _ _ _ (by decide)]; exact hA.2.2.2.2.1) ?_
        refine In.mul d_Md_seen_58 ?_
        refine Rn.iconst (v := iI 1) d_Md_seen_59 rfl ?_
        refine In.add d_Md_seen_60 ?_
        refine Rn.iload_n d_Md_seen_61 rfl ?_
        refine In.ast d_Md_seen_62 z_Md_sight (show ((2 : Int) * m + 1) = ((2 * m + 1 : Nat) : Int) by omega) (by omega) (by decide) ?_
        refine Rn.aload_n d_Md_seen_63 rfl ?_
        refine Rn.dup d_Md_seen_64 rfl ?_
        refine In.getI d_Md_seen_65 f_Md_sights g_652 z_Md (by rw [w_ui_off _ _ _ _ _ (by decide), w_ui_off _ _ _ _ _ (by decide)]; exact hA.2.2.2.2.1) ?_
        refine Rn.iconst (v := iI 1) d_Md_seen_68 rfl ?_
        refine In.add d_Md_seen_69 ?_
        refine In.putI d_Md_seen_70 f_Md_sights g_652 z_Md ?_
        refine Rn.aload_n d_Md_seen_73 rfl ?_
        refine In.getI d_Md_seen_74 f_Md_sights g_652 z_Md (w_ui_at _ _ _ _) ?_
        have hS : ∀ i, i < 16 → (w_ui (w_ui (w_ui M 50 (2 * m) (iI l)) 50 (2 * m + 1) (iI v)) 47 2 (iI ((m : Int) + 1))).1 50 i = iI (up (up τ (2 * m) l) (2 * m + 1) v i) := fun i hi => by
          rw [w_ui_off _ _ _ _ _ (by decide), w_ui_if]
          by_cases e : i = 2 * m + 1
          · rw [if_pos ⟨rfl, e⟩, e, up_at]
          · rw [if_neg (by omega), up_ne _ _ _ _ e, w_ui_if]
            by_cases e2 : i = 2 * m
            · rw [if_pos ⟨rfl, e2⟩, e2, up_at]
            · rw [if_neg (by omega), up_ne _ _ _ _ e2]; exact hA.2.2.2.1 i hi
        exact Rn.iret d_Md_seen_77 rfl rfl ⟨rfl, hA.sg hS (w_ui_at _ _ _ _) (fun k h1 h2 => by rw [w_ui_off _ _ _ _ _ h2, w_ui_off _ _ _ _ _ h1, w_ui_off _ _ _ _ _ h1]) (by rw [w_ui_if, if_neg (by omega), w_ui_off _ _ _ _ _ (by decide), w_ui_off _ _ _ _ _ (by decide)]), ((Ofm.ui (by omega)).tr (Ofm.ui (by omega))).tr (Ofm.ui (by omega))⟩
      · rw [v3 ql q2 (by omega)]
        refine Rn.bipush (v := iI (-4)) d_Md_seen_34 (by decide +kernel) ?_
        exact Rn.iret d_Md_seen_36 rfl rfl ⟨rfl, hA, Ofm.rf⟩
    · have q2 := fl_eq c19
      rw [v2 ql q2]
      refine Rn.bipush (v := iI (-2)) d_Md_seen_22 (by decide +kernel) ?_
      exact Rn.iret d_Md_seen_24 rfl rfl ⟨rfl, hA, Ofm.rf⟩
  · have q := fl_eq c7
    rw [v1 (by omega)]
    refine Rn.iconst (v := iI (-1)) d_Md_seen_10 rfl ?_
    exact Rn.iret d_Md_seen_11 rfl rfl ⟨rfl, hA, Ofm.rf⟩
theorem m_Md_forget {M : wM} {β : Nat → Int} {n : Nat} {σ : Nat → Int} {m : Nat} {τ : Nat → Int} {I J : wIm} (hG : M.2.2 = RG) (hA : mdA M β n σ m τ I J) : EvI k_Md_forget [.ref 47] SH M (fun r M' => r = iI m ∧ mdA M' β n σ 0 τ I J ∧ Ofm M M') := by
  refine EvI.of 1 (by decide) (Nat.le_of_ble_eq_true rfl) rfl ?_
  refine Rn.aload_n d_Md_forget_0 rfl ?_
  refine In.getI d_Md_forget_1 f_Md_sights g_652 z_Md hA.2.2.2.2.1 ?_
  refine Rn.istore_n (lv1 := [_, _]) d_Md_forget_4 (by decide) (w_pv rfl) rfl ?_
  refine Rn.aload_n d_Md_forget_5 rfl ?_
  refine Rn.iconst (v := iI 0) d_Md_forget_6 rfl ?_
  refine In.putI d_Md_forget_7 f_Md_sights g_652 z_Md ?_
  refine Rn.iload_n d_Md_forget_10 rfl ?_
  exact Rn.iret d_Md_forget_11 rfl rfl ⟨rfl, hA.sg (fun i hi => by rw [w_ui_off _ _ _ _ _ (by decide)]; exact hA.2.2.2.1 i hi) (w_ui_at _ _ _ _) (fun k h1 h2 => by rw [w_ui_off _ _ _ _ _ h2]) (by rw [w_ui_if, if_neg (by omega)]), Ofm.ui (by omega)⟩
theorem m_Md_told {M : wM} {β : Nat → Int} {n : Nat} {σ : Nat → Int} {m : Nat} {τ : Nat → Int} {I J : wIm} {w : Int} (hG : M.2.2 = RG) (hA : mdA M β n σ m τ I J) (hV : aLok β n σ m τ I J) (hw : -2147483648 ≤ w ∧ w < 2147483648) : EvI k_Md_told [.ref 47, .int (iI w)] SH M (fun r M' => r = iI (toldS β n m w) ∧ mdA M' β n σ m τ I J ∧ Ofm M M') := by
  refine EvI.of 0 (by decide) (Nat.le_of_ble_eq_true rfl) rfl ?_
  refine Rn.aload_n d_Md_told_0 rfl ?_
  refine Rn.cVV d_Md_told_1 s_Md_told_Md_asNow g_715 g_717 gs_10 ⟨rfl, rfl⟩ ⟨Nat.zero_le _, Nat.zero_le _⟩ (m_Md_asNow hG hA.1) rfl rfl z_Md c_Md (Nat.le_of_ble_eq_true rfl) (fun M1 qq => ?_)
  obtain ⟨k1, n1, _, _, _⟩ := qq
  have hG1 := k1.G hG
  have hA1 := hA.kp k1
  refine Rn.iload_n d_Md_told_4 rfl ?_
  refine Rn.bipush (v := iI 40) d_Md_told_5 (by decide +kernel) ?_
  refine In.icmp_lt (tgt := 31) d_Md_told_7 (by decide) ⟨by omega, by omega⟩ ⟨by omega, by omega⟩ (fun c7 => ?_) (fun c7 => ?_)
  · refine Rn.iload_n d_Md_told_31 rfl ?_
    refine Rn.bipush (v := iI 30) d_Md_told_32 (by decide +kernel) ?_
    refine In.icmp_lt (tgt := 58) d_Md_told_34 (by decide) ⟨by omega, by omega⟩ ⟨by omega, by omega⟩ (fun c34 => ?_) (fun c34 => ?_)
    · refine Rn.iload_n d_Md_told_58 rfl ?_
      refine Rn.bipush (v := iI 10) d_Md_told_59 (by decide +kernel) ?_
      refine In.icmp_lt (tgt := 85) d_Md_told_61 (by decide) ⟨by omega, by omega⟩ ⟨by omega, by omega⟩ (fun c61 => ?_) (fun c61 => ?_)
      · refine Rn.iload_n d_Md_told_85 rfl ?_
        rcases (show w = 0 ∨ w = 1 ∨ w = 2 ∨ w = 3 ∨ w = 4 ∨ (w < 0 ∨ 4 < w) by omega) with e | e | e | e | e | e
        · have eq : toldS β n m w = n := by unfold toldS; rw [if_neg (by omega), if_neg (by omega), if_neg (by omega), if_pos e]
          rw [eq]
          subst e
          refine In.tabIn (off := 30) (tgt := 116) 0 d_Md_told_86 rfl (by decide) (by decide) rfl (by decide) ?_
          refine Rn.aload_n d_Md_told_116 rfl ?_
          refine In.getI d_Md_told_117 f_Md_signs g_654 z_Md hA1.2.2.1 ?_
          exact Rn.iret d_Md_told_120 rfl rfl ⟨rfl, hA1, k1.o⟩
        · have eq : toldS β n m w = hungS β 6 := by unfold toldS; rw [if_neg (by omega), if_neg (by omega), if_neg (by omega), if_neg (by omega), if_pos e]
          rw [eq]
          subst e
          refine In.tabIn (off := 35) (tgt := 121) 1 d_Md_told_86 rfl (by decide) (by decide) rfl (by decide) ?_
          refine Rn.aload_n d_Md_told_121 rfl ?_
          refine Rn.cVI d_Md_told_122 s_Md_told_Md_hanging g_762 g_764 gs_17 ⟨rfl, rfl⟩ ⟨Nat.zero_le _, Nat.zero_le _⟩ (m_Md_hanging hG1 n1 hV.1.l) rfl rfl z_Md c_Md (Nat.le_of_ble_eq_true rfl) (fun rr MM qq => ?_)
          obtain ⟨rfl, rfl⟩ := And.imp id Eq.symm qq; clear qq
          exact Rn.iret d_Md_told_125 rfl rfl ⟨rfl, hA1, k1.o⟩
        · have eq : toldS β n m w = β 24 := by unfold toldS; rw [if_neg (by omega), if_neg (by omega), if_neg (by omega), if_neg (by omega), if_neg (by omega), if_pos e]
          rw [eq]
          subst e
          refine In.tabIn (off := 40) (tgt := 126) 2 d_Md_told_86 rfl (by decide) (by decide) rfl (by decide) ?_
          refine Rn.aload_n d_Md_told_126 rfl ?_
          refine Rn.getR d_Md_told_127 f_Md_book g_650 z_Md (r_Md_book (by assumption)) ?_
          refine Rn.bipush (v := iI 22) d_Md_told_130 (by decide +kernel) ?_
          refine Rn.iload_n d_Md_told_132 rfl ?_
          refine In.add d_Md_told_133 ?_
          refine In.ald d_Md_told_134 z_Md_book (show ((22 : Int) + 2) = ((24 : Nat) : Int) by decide) (by decide) (by decide) (hA1.1 24 (by decide)) ?_
          exact Rn.iret d_Md_told_135 rfl rfl ⟨rfl, hA1, k1.o⟩
        · have eq : toldS β n m w = β 25 := by unfold toldS; rw [if_neg (by omega), if_neg (by omega), if_neg (by omega), if_neg (by omega), if_neg (by omega), if_neg (by omega), if_pos e]
          rw [eq]
          subst e
          refine In.tabIn (off := 40) (tgt := 126) 3 d_Md_told_86 rfl (by decide) (by decide) rfl (by decide) ?_
          refine Rn.aload_n d_Md_told_126 rfl ?_
          refine Rn.getR d_Md_told_127 f_Md_book g_650 z_Md (r_Md_book (by assumption)) ?_
          refine Rn.bipush (v := iI 22) d_Md_told_130 (by decide +kernel) ?_
          refine Rn.iload_n d_Md_told_132 rfl ?_
          refine In.add d_Md_told_133 ?_
          refine In.ald d_Md_told_134 z_Md_book (show ((22 : Int) + 3) = ((25 : Nat) : Int) by decide) (by decide) (by decide) (hA1.1 25 (by decide)) ?_
          exact Rn.iret d_Md_told_135 rfl rfl ⟨rfl, hA1, k1.o⟩
        · have eq : toldS β n m w = m := by unfold toldS; rw [if_neg (by omega), if_neg (by omega), if_neg (by omega), if_neg (by omega), if_neg (by omega), if_neg (by omega), if_neg (by omega), if_pos e]
          rw [eq]
          refine In.tabOut (tgt := 136) d_Md_told_86 ⟨by omega, by omega⟩ (by omega) (by decide) ?_
          refine Rn.iload_n d_Md_told_136 rfl ?_
          refine Rn.iconst (v := iI 4) d_Md_told_137 rfl ?_
          refine In.icmp_ne (tgt := 148) d_Md_told_138 (by decide) ⟨by omega, by omega⟩ ⟨by omega, by omega⟩ (fun c138 => ?_) (fun c138 => ?_)
          · omega
          · refine Rn.aload_n d_Md_told_141 rfl ?_
            refine In.getI d_Md_told_142 f_Md_sights g_652 z_Md hA1.2.2.2.2.1 ?_
            refine Rn.goto (tgt := 150) d_Md_told_145 (by decide) ?_
            exact Rn.iret d_Md_told_150 rfl rfl ⟨rfl, hA1, k1.o⟩
        · have eq : toldS β n m w = -2 := by
            unfold toldS
            rw [if_neg (by omega), if_neg (by omega), if_neg (by omega), if_neg (by omega), if_neg (by omega), if_neg (by omega), if_neg (by omega), if_neg (by omega)]
          rw [eq]
          refine In.tabOut (tgt := 136) d_Md_told_86 ⟨by omega, by omega⟩ (by omega) (by decide) ?_
          refine Rn.iload_n d_Md_told_136 rfl ?_
          refine Rn.iconst (v := iI 4) d_Md_told_137 rfl ?_
          refine In.icmp_ne (tgt := 148) d_Md_told_138 (by decide) ⟨by omega, by omega⟩ ⟨by omega, by omega⟩ (fun c138 => ?_) (fun c138 => ?_)
          · refine Rn.bipush (v := iI (-2)) d_Md_told_148 (by decide +kernel) ?_
            exact Rn.iret d_Md_told_150 rfl rfl ⟨rfl, hA1, k1.o⟩
          · omega
      · refine Rn.iload_n d_Md_told_64 rfl ?_
        refine Rn.bipush (v := iI 22) d_Md_told_65 (by decide +kernel) ?_
        refine In.icmp_ge (tgt := 82) d_Md_told_67 (by decide) ⟨by omega, by omega⟩ ⟨by omega, by omega⟩ (fun c67 => ?_) (fun c67 => ?_)
        · have eq : toldS β n m w = -2 := by unfold toldS; rw [if_neg (by omega), if_neg (by omega), if_pos (by omega), if_neg (by omega)]
          rw [eq]
          refine Rn.bipush (v := iI (-2)) d_Md_told_82 (by decide +kernel) ?_
          exact Rn.iret d_Md_told_84 rfl rfl ⟨rfl, hA1, k1.o⟩
        · obtain ⟨b, hb⟩ : ∃ b : Nat, w - 10 = b := ⟨(w - 10).toNat, by omega⟩
          have eq : toldS β n m w = β b := by unfold toldS; rw [if_neg (by omega), if_neg (by omega), if_pos (by omega), if_pos (by omega), hb]; rfl
          rw [eq]
          refine Rn.aload_n d_Md_told_70 rfl ?_
          refine Rn.getR d_Md_told_71 f_Md_book g_650 z_Md (r_Md_book (by assumption)) ?_
          refine Rn.iload_n d_Md_told_74 rfl ?_
          refine Rn.bipush (v := iI 10) d_Md_told_75 (by decide +kernel) ?_
          refine In.sub d_Md_told_77 ?_
          refine In.ald d_Md_told_78 z_Md_book hb (by omega) (by decide) (hA1.1 b (by omega)) ?_
          refine Rn.goto (tgt := 84) d_Md_told_79 (by decide) ?_
          exact Rn.iret d_Md_told_84 rfl rfl ⟨rfl, hA1, k1.o⟩
    · refine Rn.iload_n d_Md_told_37 rfl ?_
      refine Rn.bipush (v := iI 36) d_Md_told_38 (by decide +kernel) ?_
      refine In.icmp_ge (tgt := 55) d_Md_told_40 (by decide) ⟨by omega, by omega⟩ ⟨by omega, by omega⟩ (fun c40 => ?_) (fun c40 => ?_)
      · have eq : toldS β n m w = -2 := by unfold toldS; rw [if_neg (by omega), if_pos (by omega), if_neg (by omega)]
        rw [eq]
        refine Rn.bipush (v := iI (-2)) d_Md_told_55 (by decide +kernel) ?_
        exact Rn.iret d_Md_told_57 rfl rfl ⟨rfl, hA1, k1.o⟩
      · obtain ⟨b, hb⟩ : ∃ b : Nat, w - 18 = b := ⟨(w - 18).toNat, by omega⟩
        have eq : toldS β n m w = β b := by unfold toldS; rw [if_neg (by omega), if_pos (by omega), if_pos (by omega), hb]; rfl
        rw [eq]
        refine Rn.aload_n d_Md_told_43 rfl ?_
        refine Rn.getR d_Md_told_44 f_Md_book g_650 z_Md (r_Md_book (by assumption)) ?_
        refine Rn.iload_n d_Md_told_47 rfl ?_
        refine Rn.bipush (v := iI 18) d_Md_told_48 (by decide +kernel) ?_
        refine In.sub d_Md_told_50 ?_
        refine In.ald d_Md_told_51 z_Md_book hb (by omega) (by decide) (hA1.1 b (by omega)) ?_
        refine Rn.goto (tgt := 57) d_Md_told_52 (by decide) ?_
        exact Rn.iret d_Md_told_57 rfl rfl ⟨rfl, hA1, k1.o⟩
  · refine Rn.iload_n d_Md_told_10 rfl ?_
    refine Rn.bipush (v := iI 46) d_Md_told_11 (by decide +kernel) ?_
    refine In.icmp_ge (tgt := 28) d_Md_told_13 (by decide) ⟨by omega, by omega⟩ ⟨by omega, by omega⟩ (fun c13 => ?_) (fun c13 => ?_)
    · have eq : toldS β n m w = -2 := by unfold toldS; rw [if_pos (by omega), if_neg (by omega)]
      rw [eq]
      refine Rn.bipush (v := iI (-2)) d_Md_told_28 (by decide +kernel) ?_
      exact Rn.iret d_Md_told_30 rfl rfl ⟨rfl, hA1, k1.o⟩
    · obtain ⟨b, hb⟩ : ∃ b : Nat, w - 22 = b := ⟨(w - 22).toNat, by omega⟩
      have eq : toldS β n m w = β b := by unfold toldS; rw [if_pos (by omega), if_pos (by omega), hb]; rfl
      rw [eq]
      refine Rn.aload_n d_Md_told_16 rfl ?_
      refine Rn.getR d_Md_told_17 f_Md_book g_650 z_Md (r_Md_book (by assumption)) ?_
      refine Rn.iload_n d_Md_told_20 rfl ?_
      refine Rn.bipush (v := iI 22) d_Md_told_21 (by decide +kernel) ?_
      refine In.sub d_Md_told_23 ?_
      refine In.ald d_Md_told_24 z_Md_book hb (by omega) (by decide) (hA1.1 b (by omega)) ?_
      refine Rn.goto (tgt := 30) d_Md_told_25 (by decide) ?_
      exact Rn.iret d_Md_told_30 rfl rfl ⟨rfl, hA1, k1.o⟩
