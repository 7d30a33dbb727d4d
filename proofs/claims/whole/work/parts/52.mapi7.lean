/-! The reference's call tissue. -/
set_option maxRecDepth 20000
set_option maxHeartbeats 400000
theorem Kp.ul {M : wM} {k j : Nat} {x : Int64} : Kp M (w_ul M k j x) := ⟨fun _ _ => rfl, rfl, rfl, rfl⟩
/-- the table of choices, the first rows and of the next the first -/
def chA (M : wM) (n k : Nat) : Prop := ∀ a b, a < 41 → b < 41 → (a < n ∨ (a = n ∧ b < k)) → M.2.1 55 (41 * a + b) = jI (ch a b : Nat)
theorem m_Md_layChoices {M : wM} (hG : M.2.2 = RG) : EvV k_Md_layChoices [.ref 47] SH M (fun M' => Kp M M' ∧ chA M' 41 0) := by
  refine EvV.of 2 (by decide) (Nat.le_of_ble_eq_true rfl) rfl ?_
  refine Rn.iconst (v := iI 0) d_Md_layChoices_0 rfl ?_
  refine Rn.istore_n (lv1 := [_, _, _]) d_Md_layChoices_1 (by decide) (w_pv rfl) rfl ?_
  have loop : ∀ (d n : Nat) (Mc : wM) (x2 : Option Value), n + d = 41 → Kp M Mc → chA Mc n 0 → Rn k_Md_layChoices none (0, 0) 2 [some (.ref 47), some (.int (iI n)), x2] [] SH Mc (w_FV (0, 0) SH (fun M' => Kp M M' ∧ chA M' 41 0)) := by
    intro d
    induction d with
    | zero =>
      intro n Mc x2 h1 h2 h3
      have : n = 41 := by omega
      subst this
      refine Rn.iload_n d_Md_layChoices_2 rfl ?_
      refine Rn.bipush (v := iI 41) d_Md_layChoices_3 (by decide +kernel) ?_
      refine In.icmp_ge (tgt := 86) d_Md_layChoices_5 (by decide) ⟨by omega, by omega⟩ ⟨by omega, by omega⟩ (fun c5 => ?_) (fun c5 => ?_)
      · exact Rn.vret d_Md_layChoices_86 rfl ⟨h2, h3⟩
      · omega
    | succ d ih =>
      intro n Mc x2 h1 h2 h3
      have ih := ih (n + 1)
      have inner : ∀ (e k : Nat) (Me : wM), k + e = 41 → Kp M Me → chA Me n k → Rn k_Md_layChoices none (0, 0) 10 [some (.ref 47), some (.int (iI n)), some (.int (iI k))] [] SH Me (w_FV (0, 0) SH (fun M' => Kp M M' ∧ chA M' 41 0)) := by
        intro e
        induction e with
        | zero =>
          intro k Me g1 g2 g3
          have : k = 41 := by omega
          subst this
          refine Rn.iload_n d_Md_layChoices_10 rfl ?_
          refine Rn.bipush (v := iI 41) d_Md_layChoices_11 (by decide +kernel) ?_
          refine In.icmp_ge (tgt := 80) d_Md_layChoices_13 (by decide) ⟨by omega, by omega⟩ ⟨by omega, by omega⟩ (fun c13 => ?_) (fun c13 => ?_)
          · refine In.inc (lv1 := [_, _, _]) d_Md_layChoices_80 rfl (by decide) (w_pv rfl) rfl ?_
            refine Rn.goto (tgt := 2) d_Md_layChoices_83 (by decide) ?_
            exact ih _ _ (by omega) g2 (fun a b ha hb hab => g3 a b ha hb (by omega))
          · omega
        | succ e ihe =>
          intro k Me g1 g2 g3
          have hGe := g2.G hG
          have ihe := ihe (k + 1)
          have fin : ∀ v : Nat, v = ch n k → Rn k_Md_layChoices none (0, 0) 73 [some (.ref 47), some (.int (iI n)), some (.int (iI k))] [.long (jI v), .int (iI ((41 : Int) * n + k)), .ref 55] SH Me (w_FV (0, 0) SH (fun M' => Kp M M' ∧ chA M' 41 0)) := by
            intro v hv
            refine In.last d_Md_layChoices_73 z_Md_choices (show ((41 : Int) * n + k) = ((41 * n + k : Nat) : Int) by omega) (by omega) (by decide) ?_
            refine In.inc (lv1 := [_, _, _]) d_Md_layChoices_74 rfl (by decide) (w_pv rfl) rfl ?_
            refine Rn.goto (tgt := 10) d_Md_layChoices_77 (by decide) ?_
            refine ihe _ (by omega) (g2.tr Kp.ul) (fun a b ha hb hab => ?_)
            rw [w_ul_if]
            by_cases e : a = n ∧ b = k
            · rw [if_pos ⟨rfl, by omega⟩, e.1, e.2, hv]
            · rw [if_neg (by omega)]; exact g3 a b ha hb (by omega)
          refine Rn.iload_n d_Md_layChoices_10 rfl ?_
          refine Rn.bipush (v := iI 41) d_Md_layChoices_11 (by decide +kernel) ?_
          refine In.icmp_ge (tgt := 80) d_Md_layChoices_13 (by decide) ⟨by omega, by omega⟩ ⟨by omega, by omega⟩ (fun c13 => ?_) (fun c13 => ?_)
          · omega
          · refine Rn.aload_n d_Md_layChoices_16 rfl ?_
            refine Rn.getR d_Md_layChoices_17 f_Md_choices g_664 z_Md (r_Md_choices (by assumption)) ?_
            refine Rn.bipush (v := iI 41) d_Md_layChoices_20 (by decide +kernel) ?_
            refine Rn.iload_n d_Md_layChoices_22 rfl ?_
            refine In.mul d_Md_layChoices_23 ?_
            refine Rn.iload_n d_Md_layChoices_24 rfl ?_
            refine In.add d_Md_layChoices_25 ?_
            refine Rn.iload_n d_Md_layChoices_26 rfl ?_
            refine In.if_ne (tgt := 34) d_Md_layChoices_27 (by decide) ⟨by omega, by omega⟩ (fun c27 => ?_) (fun c27 => ?_)
            · refine Rn.iload_n d_Md_layChoices_34 rfl ?_
              refine In.if_ne (tgt := 42) d_Md_layChoices_35 (by decide) ⟨by omega, by omega⟩ (fun c35 => ?_) (fun c35 => ?_)
              · obtain ⟨n', rfl⟩ : ∃ n', n = n' + 1 := ⟨n - 1, by omega⟩
                obtain ⟨k', rfl⟩ : ∃ k', k = k' + 1 := ⟨k - 1, by omega⟩
                refine Rn.aload_n d_Md_layChoices_42 rfl ?_
                refine Rn.getR d_Md_layChoices_43 f_Md_choices g_664 z_Md (r_Md_choices (by assumption)) ?_
                refine Rn.bipush (v := iI 41) d_Md_layChoices_46 (by decide +kernel) ?_
                refine Rn.iload_n d_Md_layChoices_48 rfl ?_
                refine In.mul d_Md_layChoices_49 ?_
                refine Rn.bipush (v := iI 41) d_Md_layChoices_50 (by decide +kernel) ?_
                refine In.sub d_Md_layChoices_52 ?_
                refine Rn.iload_n d_Md_layChoices_53 rfl ?_
                refine In.add d_Md_layChoices_54 ?_
                refine In.lald d_Md_layChoices_55 z_Md_choices (show ((41 : Int) * (n' + 1 : Nat) - 41 + (k' + 1 : Nat)) = ((41 * n' + (k' + 1) : Nat) : Int) by omega) (by omega) (by decide) (g3 n' (k' + 1) (by omega) (by omega) (by omega)) ?_
                refine Rn.aload_n d_Md_layChoices_56 rfl ?_
                refine Rn.getR d_Md_layChoices_57 f_Md_choices g_664 z_Md (r_Md_choices (by assumption)) ?_
                refine Rn.bipush (v := iI 41) d_Md_layChoices_60 (by decide +kernel) ?_
                refine Rn.iload_n d_Md_layChoices_62 rfl ?_
                refine In.mul d_Md_layChoices_63 ?_
                refine Rn.bipush (v := iI 41) d_Md_layChoices_64 (by decide +kernel) ?_
                refine In.sub d_Md_layChoices_66 ?_
                refine Rn.iload_n d_Md_layChoices_67 rfl ?_
                refine In.add d_Md_layChoices_68 ?_
                refine Rn.iconst (v := iI 1) d_Md_layChoices_69 rfl ?_
                refine In.sub d_Md_layChoices_70 ?_
                refine In.lald d_Md_layChoices_71 z_Md_choices (show ((41 : Int) * (n' + 1 : Nat) - 41 + (k' + 1 : Nat) - 1) = ((41 * n' + k' : Nat) : Int) by omega) (by omega) (by decide) (g3 n' k' (by omega) (by omega) (by omega)) ?_
                refine In.ladd d_Md_layChoices_72 ?_
                have e : ((ch n' (k' + 1) : Nat) : Int) + (ch n' k' : Nat) = (ch (n' + 1) (k' + 1) : Nat) := by
                  have : ch (n' + 1) (k' + 1) = ch n' k' + ch n' (k' + 1) := rfl
                  rw [this]; omega
                rw [e]
                exact fin _ rfl
              · have hn : n = 0 := by omega
                subst hn
                refine Rn.lconst (v := jI 0) d_Md_layChoices_38 (by decide +kernel) ?_
                refine Rn.goto (tgt := 73) d_Md_layChoices_39 (by decide) ?_
                refine fin 0 ?_
                obtain ⟨k', rfl⟩ : ∃ k', k = k' + 1 := ⟨k - 1, by omega⟩
                rfl
            · have hk : k = 0 := by omega
              subst hk
              refine Rn.lconst (v := jI 1) d_Md_layChoices_30 (by decide +kernel) ?_
              refine Rn.goto (tgt := 73) d_Md_layChoices_31 (by decide) ?_
              exact fin 1 (ch_0 n).symm
      refine Rn.iload_n d_Md_layChoices_2 rfl ?_
      refine Rn.bipush (v := iI 41) d_Md_layChoices_3 (by decide +kernel) ?_
      refine In.icmp_ge (tgt := 86) d_Md_layChoices_5 (by decide) ⟨by omega, by omega⟩ ⟨by omega, by omega⟩ (fun c5 => ?_) (fun c5 => ?_)
      · omega
      · refine Rn.iconst (v := iI 0) d_Md_layChoices_8 rfl ?_
        refine Rn.istore_n (lv1 := [_, _, _]) d_Md_layChoices_9 (by decide) (w_pv rfl) rfl ?_
        exact inner 41 0 Mc rfl h2 h3
  exact loop 41 0 M _ rfl Kp.rf (fun a b ha hb hab => by omega)
theorem m_Md_lowest {M : wM} {u l : Nat} {part : Int} (hu : u < 4611686018427387904) (hl : l < 4611686018427387904) (hl0 : 0 < l) (hp : 0 ≤ part ∧ part ≤ 1) : EvL k_Md_lowest [.long (jI u), .long (jI l), .int (iI part)] SH M (fun r M' => r = jI (lowS u l part) ∧ M' = M) := by
  refine EvL.of 6 (by decide) (Nat.le_of_ble_eq_true rfl) rfl ?_
  have hg := Nat.gcd_pos_of_pos_right u hl0
  have hgl := Nat.gcd_le_right u hl0
  have e0 : part = 0 → lowS u l part = (u / Nat.gcd u l : Nat) := fun q => by unfold lowS; rw [if_pos q]
  have e1 : ¬ part = 0 → lowS u l part = (l / Nat.gcd u l : Nat) := fun q => by unfold lowS; rw [if_neg q]
  have loop : ∀ (d x y : Nat) (x9 x10 : Option Value), y ≤ d → x < 4611686018427387904 → y < 4611686018427387904 → Nat.gcd x y = Nat.gcd u l → Rn k_Md_lowest none (0, 0) 6 [some (.long (jI u)), none, some (.long (jI l)), none, some (.int (iI part)), some (.long (jI x)), none, some (.long (jI y)), none, x9, x10] [] SH M (w_FL (0, 0) SH (fun r M' => r = jI (lowS u l part) ∧ M' = M)) := by
    generalize Nat.gcd u l = G at *
    intro d
    induction d with
    | zero =>
      intro x y x9 x10 h1 h2 h3 h4
      have : y = 0 := by omega
      subst this
      rw [Nat.gcd_zero_right] at h4
      subst h4
      refine Rn.lload d_Md_lowest_6 rfl ?_
      refine Rn.lconst (v := jI 0) d_Md_lowest_8 (by decide +kernel) ?_
      refine In.lcmp d_Md_lowest_9 ⟨by decide, by decide⟩ ⟨by decide, by decide⟩ ?_
      rw [if_neg (by decide), if_pos (by decide)]
      refine In.if_eq (tgt := 31) d_Md_lowest_10 (by decide) ⟨by omega, by omega⟩ (fun c10 => ?_) (fun c10 => ?_)
      · refine Rn.iload d_Md_lowest_31 rfl ?_
        refine In.if_ne (tgt := 43) d_Md_lowest_33 (by decide) ⟨by omega, by omega⟩ (fun c33 => ?_) (fun c33 => ?_)
        · rw [e1 c33]
          refine Rn.lload_n d_Md_lowest_43 rfl ?_
          refine Rn.lload d_Md_lowest_44 rfl ?_
          refine In.ldiv d_Md_lowest_46 ⟨by omega, by omega⟩ ⟨by omega, by omega⟩ ?_
          exact Rn.lret d_Md_lowest_47 rfl ⟨rfl, rfl⟩
        · rw [e0 (by omega)]
          refine Rn.lload_n d_Md_lowest_36 rfl ?_
          refine Rn.lload d_Md_lowest_37 rfl ?_
          refine In.ldiv d_Md_lowest_39 ⟨by omega, by omega⟩ ⟨by omega, by omega⟩ ?_
          refine Rn.goto (tgt := 47) d_Md_lowest_40 (by decide) ?_
          exact Rn.lret d_Md_lowest_47 rfl ⟨rfl, rfl⟩
      · omega
    | succ d ih =>
      intro x y x9 x10 h1 h2 h3 h4
      by_cases z : y = 0
      · subst z
        exact ih x 0 _ _ (by omega) h2 h3 h4
      · have q1 := Nat.mod_lt x (show 0 < y by omega)
        refine Rn.lload d_Md_lowest_6 rfl ?_
        refine Rn.lconst (v := jI 0) d_Md_lowest_8 (by decide +kernel) ?_
        refine In.lcmp d_Md_lowest_9 ⟨by omega, by omega⟩ ⟨by decide, by decide⟩ ?_
        rw [if_pos (by omega)]
        refine In.if_eq (tgt := 31) d_Md_lowest_10 (by decide) ⟨by omega, by omega⟩ (fun c10 => ?_) (fun c10 => ?_)
        · omega
        · refine Rn.lload d_Md_lowest_13 rfl ?_
          refine Rn.lload d_Md_lowest_15 rfl ?_
          refine In.lrem d_Md_lowest_17 ⟨by omega, by omega⟩ ⟨by omega, by omega⟩ ?_
          refine Rn.lstore (lv1 := [_, _, _, _, _, _, _, _, _, _, _]) d_Md_lowest_18 (by decide) (w_pv rfl) rfl ?_
          refine Rn.lload d_Md_lowest_20 rfl ?_
          refine Rn.lstore (lv1 := [_, _, _, _, _, _, _, _, _, _, _]) d_Md_lowest_22 (by decide) (w_pv rfl) rfl ?_
          refine Rn.lload d_Md_lowest_24 rfl ?_
          refine Rn.lstore (lv1 := [_, _, _, _, _, _, _, _, _, _, _]) d_Md_lowest_26 (by decide) (w_pv rfl) rfl ?_
          refine Rn.goto (tgt := 6) d_Md_lowest_28 (by decide) ?_
          exact ih y (x % y) _ _ (by omega) h3 (by omega) (by rw [gcd_turn]; exact h4)
  refine Rn.lload_n d_Md_lowest_0 rfl ?_
  refine Rn.lstore (lv1 := [_, _, _, _, _, _, _, _, _, _, _]) d_Md_lowest_1 (by decide) (w_pv rfl) rfl ?_
  refine Rn.lload_n d_Md_lowest_3 rfl ?_
  refine Rn.lstore (lv1 := [_, _, _, _, _, _, _, _, _, _, _]) d_Md_lowest_4 (by decide) (w_pv rfl) rfl ?_
  exact loop l u l _ _ (Nat.le_refl _) hu hl rfl
theorem m_Md_tissue {M : wM} {β : Nat → Int} {n : Nat} {σ : Nat → Int} {m : Nat} {τ : Nat → Int} {I J : wIm} {a r k j w part V : Int} (hG : M.2.2 = RG) (hA : mdA M β n σ m τ I J) (hV : aLok β n σ m τ I J) (ha : -2147483648 ≤ a ∧ a < 2147483648) (hr : -2147483648 ≤ r ∧ r < 2147483648) (hk : -2147483648 ≤ k ∧ k < 2147483648) (hj : -2147483648 ≤ j ∧ j < 2147483648) (hw : -2147483648 ≤ w ∧ w < 2147483648) (hpt : -2147483648 ≤ part ∧ part < 2147483648)
    (v1 : ¬ tisQ a r k j w part → V = -1000000000000000002) (v2 : tisQ a r k j w part → w = 0 → V = lowS (hyN a.toNat r.toNat k.toNat j.toNat (k.toNat - j.toNat + 1)) (ch a.toNat k.toNat) part) (v3 : tisQ a r k j w part → w = 1 → V = lowS (k.toNat * r.toNat) (if a = 0 then 1 else a.toNat) part) : EvL k_Md_tissue [.ref 47, .int (iI a), .int (iI r), .int (iI k), .int (iI j), .int (iI w), .int (iI part)] SH M (fun v M' => v = jI V ∧ mdA M' β n σ m τ I J ∧ Ofm M M') := by
  refine EvL.of 3 (by decide) (Nat.le_of_ble_eq_true rfl) rfl ?_
  have bad : ¬ tisQ a r k j w part → Rn k_Md_tissue none (0, 0) 58 [some (.ref 47), some (.int (iI a)), some (.int (iI r)), some (.int (iI k)), some (.int (iI j)), some (.int (iI w)), some (.int (iI part)), none, none, none] [] SH M (w_FL (0, 0) SH (fun v M' => v = jI V ∧ mdA M' β n σ m τ I J ∧ Ofm M M')) := by
    intro q
    rw [v1 q]
    refine In.ldc2 (z := (-1000000000000000002)) d_Md_tissue_58 g_864 (by decide +kernel) ?_
    exact Rn.lret d_Md_tissue_61 rfl ⟨rfl, hA, Ofm.rf⟩
  unfold tisQ at *
  refine Rn.iload_n d_Md_tissue_0 rfl ?_
  refine Rn.iconst (v := iI 0) d_Md_tissue_1 rfl ?_
  refine Rn.bipush (v := iI 40) d_Md_tissue_2 (by decide +kernel) ?_
  refine Rn.cSI d_Md_tissue_4 s_Md_tissue_Md_in g_708 g_709 ⟨rfl, rfl⟩ ⟨Nat.zero_le _, Nat.zero_le _⟩ (m_Md_in ha (by decide) (by decide)) rfl rfl (Nat.le_of_ble_eq_true rfl) (fun rr MM qq => ?_)
  obtain ⟨rfl, rfl⟩ := And.imp id Eq.symm qq; clear qq
  refine In.if_eq (tgt := 58) d_Md_tissue_7 (by decide) fl_rg (fun c7 => ?_) (fun c7 => ?_)
  · have q1 := fl_eq c7
    exact bad (by omega)
  · have q1 := fl_ne c7
    refine Rn.iload_n d_Md_tissue_10 rfl ?_
    refine Rn.iconst (v := iI 0) d_Md_tissue_11 rfl ?_
    refine Rn.iload_n d_Md_tissue_12 rfl ?_
    refine Rn.cSI d_Md_tissue_13 s_Md_tissue_Md_in g_708 g_709 ⟨rfl, rfl⟩ ⟨Nat.zero_le _, Nat.zero_le _⟩ (m_Md_in hr (by decide) ha) rfl rfl (Nat.le_of_ble_eq_true rfl) (fun rr MM qq => ?_)
    obtain ⟨rfl, rfl⟩ := And.imp id Eq.symm qq; clear qq
    refine In.if_eq (tgt := 58) d_Md_tissue_16 (by decide) fl_rg (fun c16 => ?_) (fun c16 => ?_)
    · have q2 := fl_eq c16
      exact bad (by omega)
    · have q2 := fl_ne c16
      refine Rn.iload_n d_Md_tissue_19 rfl ?_
      refine Rn.iconst (v := iI 0) d_Md_tissue_20 rfl ?_
      refine Rn.iload_n d_Md_tissue_21 rfl ?_
      refine Rn.cSI d_Md_tissue_22 s_Md_tissue_Md_in g_708 g_709 ⟨rfl, rfl⟩ ⟨Nat.zero_le _, Nat.zero_le _⟩ (m_Md_in hk (by decide) ha) rfl rfl (Nat.le_of_ble_eq_true rfl) (fun rr MM qq => ?_)
      obtain ⟨rfl, rfl⟩ := And.imp id Eq.symm qq; clear qq
      refine In.if_eq (tgt := 58) d_Md_tissue_25 (by decide) fl_rg (fun c25 => ?_) (fun c25 => ?_)
      · have q3 := fl_eq c25
        exact bad (by omega)
      · have q3 := fl_ne c25
        refine Rn.iload d_Md_tissue_28 rfl ?_
        refine Rn.iconst (v := iI 0) d_Md_tissue_30 rfl ?_
        refine Rn.iload_n d_Md_tissue_31 rfl ?_
        refine Rn.cSI d_Md_tissue_32 s_Md_tissue_Md_in g_708 g_709 ⟨rfl, rfl⟩ ⟨Nat.zero_le _, Nat.zero_le _⟩ (m_Md_in hj (by decide) hk) rfl rfl (Nat.le_of_ble_eq_true rfl) (fun rr MM qq => ?_)
        obtain ⟨rfl, rfl⟩ := And.imp id Eq.symm qq; clear qq
        refine In.if_eq (tgt := 58) d_Md_tissue_35 (by decide) fl_rg (fun c35 => ?_) (fun c35 => ?_)
        · have q4 := fl_eq c35
          exact bad (by omega)
        · have q4 := fl_ne c35
          refine Rn.iload d_Md_tissue_38 rfl ?_
          refine Rn.iconst (v := iI 0) d_Md_tissue_40 rfl ?_
          refine Rn.iconst (v := iI 1) d_Md_tissue_41 rfl ?_
          refine Rn.cSI d_Md_tissue_42 s_Md_tissue_Md_in g_708 g_709 ⟨rfl, rfl⟩ ⟨Nat.zero_le _, Nat.zero_le _⟩ (m_Md_in hw (by decide) (by decide)) rfl rfl (Nat.le_of_ble_eq_true rfl) (fun rr MM qq => ?_)
          obtain ⟨rfl, rfl⟩ := And.imp id Eq.symm qq; clear qq
          refine In.if_eq (tgt := 58) d_Md_tissue_45 (by decide) fl_rg (fun c45 => ?_) (fun c45 => ?_)
          · have q5 := fl_eq c45
            exact bad (by omega)
          · have q5 := fl_ne c45
            refine Rn.iload d_Md_tissue_48 rfl ?_
            refine Rn.iconst (v := iI 0) d_Md_tissue_50 rfl ?_
            refine Rn.iconst (v := iI 1) d_Md_tissue_51 rfl ?_
            refine Rn.cSI d_Md_tissue_52 s_Md_tissue_Md_in g_708 g_709 ⟨rfl, rfl⟩ ⟨Nat.zero_le _, Nat.zero_le _⟩ (m_Md_in hpt (by decide) (by decide)) rfl rfl (Nat.le_of_ble_eq_true rfl) (fun rr MM qq => ?_)
            obtain ⟨rfl, rfl⟩ := And.imp id Eq.symm qq; clear qq
            refine In.if_ne (tgt := 62) d_Md_tissue_55 (by decide) fl_rg (fun c55 => ?_) (fun c55 => ?_)
            · have q6 := fl_ne c55
              have u2 := v2 ⟨q1, q2, q3, q4, q5, q6⟩
              have u3 := v3 ⟨q1, q2, q3, q4, q5, q6⟩
              clear bad v1 v2 v3
              obtain ⟨a, rfl⟩ : ∃ x : Nat, a = x := ⟨a.toNat, by omega⟩
              obtain ⟨r, rfl⟩ : ∃ x : Nat, r = x := ⟨r.toNat, by omega⟩
              obtain ⟨k, rfl⟩ : ∃ x : Nat, k = x := ⟨k.toNat, by omega⟩
              obtain ⟨j, rfl⟩ : ∃ x : Nat, j = x := ⟨j.toNat, by omega⟩
              simp only [Int.toNat_natCast] at u2 u3
              refine Rn.iload d_Md_tissue_62 rfl ?_
              refine Rn.iconst (v := iI 1) d_Md_tissue_64 rfl ?_
              refine In.icmp_ne (tgt := 89) d_Md_tissue_65 (by decide) ⟨by omega, by omega⟩ ⟨by omega, by omega⟩ (fun c65 => ?_) (fun c65 => ?_)
              · have hVe := u2 (show w = 0 by omega)
                refine Rn.aload_n d_Md_tissue_89 rfl ?_
                refine Rn.cVV d_Md_tissue_90 s_Md_tissue_Md_layChoices g_868 g_870 gs_25 ⟨rfl, rfl⟩ ⟨Nat.zero_le _, Nat.zero_le _⟩ (m_Md_layChoices hG) rfl rfl z_Md c_Md (Nat.le_of_ble_eq_true rfl) (fun M1 qq => ?_)
                obtain ⟨k1, hC⟩ := qq
                have hG1 := k1.G hG
                have hch : ∀ x y, x < 41 → y < 41 → M1.2.1 55 (41 * x + y) = jI (ch x y : Nat) := fun x y hx hy => hC x y hx hy (Or.inl hx)
                have loop : ∀ (d i : Nat), i + d = k - j + 1 → Rn k_Md_tissue none (0, 0) 100 [some (.ref 47), some (.int (iI a)), some (.int (iI r)), some (.int (iI k)), some (.int (iI j)), some (.int (iI w)), some (.int (iI part)), some (.long (jI (hyN a r k j i : Nat))), none, some (.int (iI (j + i : Nat)))] [] SH M1 (w_FL (0, 0) SH (fun v M' => v = jI V ∧ mdA M' β n σ m τ I J ∧ Ofm M M')) := by
                  intro d
                  induction d with
                  | zero =>
                    intro i h1
                    have : i = k - j + 1 := by omega
                    subst this
                    have b1 := hyN_le (n := a) (r := r) (k := k) (j := j) (by omega) (by omega) (k - j + 1)
                    have b2 := ch_le a k
                    have b22 : 2 ^ a ≤ 2 ^ 40 := Nat.pow_le_pow_right (by decide) (by omega)
                    have b3 := ch_pos a k (by omega)
                    have b4 : (k - j + 1) * 2 ^ 40 ≤ 41 * 2 ^ 40 := Nat.mul_le_mul (by omega) (Nat.le_refl _)
                    refine Rn.iload d_Md_tissue_100 rfl ?_
                    refine Rn.iload_n d_Md_tissue_102 rfl ?_
                    refine In.icmp_gt (tgt := 146) d_Md_tissue_103 (by decide) ⟨by omega, by omega⟩ ⟨by omega, by omega⟩ (fun c103 => ?_) (fun c103 => ?_)
                    · refine Rn.lload d_Md_tissue_146 rfl ?_
                      refine Rn.aload_n d_Md_tissue_148 rfl ?_
                      refine Rn.getR d_Md_tissue_149 f_Md_choices g_664 z_Md (r_Md_choices (by assumption)) ?_
                      refine Rn.bipush (v := iI 41) d_Md_tissue_152 (by decide +kernel) ?_
                      refine Rn.iload_n d_Md_tissue_154 rfl ?_
                      refine In.mul d_Md_tissue_155 ?_
                      refine Rn.iload_n d_Md_tissue_156 rfl ?_
                      refine In.add d_Md_tissue_157 ?_
                      refine In.lald d_Md_tissue_158 z_Md_choices (show ((41 : Int) * a + k) = ((41 * a + k : Nat) : Int) by omega) (by omega) (by decide) (hch a k (by omega) (by omega)) ?_
                      refine Rn.iload d_Md_tissue_159 rfl ?_
                      refine Rn.cSL d_Md_tissue_161 s_Md_tissue_Md_lowest g_865 g_866 ⟨rfl, rfl⟩ ⟨Nat.zero_le _, Nat.zero_le _⟩ (m_Md_lowest (show hyN a r k j (k - j + 1) < 4611686018427387904 by omega) (show ch a k < 4611686018427387904 by omega) b3 q6) rfl rfl (Nat.le_of_ble_eq_true rfl) (fun rr MM qq => ?_)
                      obtain ⟨rfl, rfl⟩ := And.imp id Eq.symm qq; clear qq
                      exact Rn.lret d_Md_tissue_164 rfl ⟨by rw [hVe], hA.kp k1, k1.o⟩
                    · omega
                  | succ d ih =>
                    intro i h1
                    have ih := ih (i + 1) (by omega)
                    have e3 : (hyN a r k j i : Int) + (ch r (j + i) : Int) * (ch (a - r) (k - (j + i)) : Int) = (hyN a r k j (i + 1) : Nat) := by simp only [hyN]; rw [Int.natCast_add, Int.natCast_mul]
                    rw [← e3] at ih
                    refine Rn.iload d_Md_tissue_100 rfl ?_
                    refine Rn.iload_n d_Md_tissue_102 rfl ?_
                    refine In.icmp_gt (tgt := 146) d_Md_tissue_103 (by decide) ⟨by omega, by omega⟩ ⟨by omega, by omega⟩ (fun c103 => ?_) (fun c103 => ?_)
                    · omega
                    · refine Rn.lload d_Md_tissue_106 rfl ?_
                      refine Rn.aload_n d_Md_tissue_108 rfl ?_
                      refine Rn.getR d_Md_tissue_109 f_Md_choices g_664 z_Md (r_Md_choices (by assumption)) ?_
                      refine Rn.bipush (v := iI 41) d_Md_tissue_112 (by decide +kernel) ?_
                      refine Rn.iload_n d_Md_tissue_114 rfl ?_
                      refine In.mul d_Md_tissue_115 ?_
                      refine Rn.iload d_Md_tissue_116 rfl ?_
                      refine In.add d_Md_tissue_118 ?_
                      refine In.lald d_Md_tissue_119 z_Md_choices (show ((41 : Int) * r + (j + i : Nat)) = ((41 * r + (j + i) : Nat) : Int) by omega) (by omega) (by decide) (hch r (j + i) (by omega) (by omega)) ?_
                      refine Rn.aload_n d_Md_tissue_120 rfl ?_
                      refine Rn.getR d_Md_tissue_121 f_Md_choices g_664 z_Md (r_Md_choices (by assumption)) ?_
                      refine Rn.bipush (v := iI 41) d_Md_tissue_124 (by decide +kernel) ?_
                      refine Rn.iload_n d_Md_tissue_126 rfl ?_
                      refine Rn.iload_n d_Md_tissue_127 rfl ?_
                      refine In.sub d_Md_tissue_128 ?_
                      refine In.mul d_Md_tissue_129 ?_
                      refine Rn.iload_n d_Md_tissue_130 rfl ?_
                      refine In.add d_Md_tissue_131 ?_
                      refine Rn.iload d_Md_tissue_132 rfl ?_
                      refine In.sub d_Md_tissue_134 ?_
                      refine In.lald d_Md_tissue_135 z_Md_choices (show ((41 : Int) * ((a : Int) - r) + k - (j + i : Nat)) = ((41 * (a - r) + (k - (j + i)) : Nat) : Int) by omega) (by omega) (by decide) (hch (a - r) (k - (j + i)) (by omega) (by omega)) ?_
                      refine In.lmul d_Md_tissue_136 ?_
                      refine In.ladd d_Md_tissue_137 ?_
                      refine Rn.lstore (lv1 := [_, _, _, _, _, _, _, _, _, _]) d_Md_tissue_138 (by decide) (w_pv rfl) rfl ?_
                      refine In.inc (lv1 := [_, _, _, _, _, _, _, _, _, _]) d_Md_tissue_140 rfl (by decide) (w_pv rfl) rfl ?_
                      refine Rn.goto (tgt := 100) d_Md_tissue_143 (by decide) ?_
                      exact ih
                refine Rn.lconst (v := jI 0) d_Md_tissue_93 (by decide +kernel) ?_
                refine Rn.lstore (lv1 := [_, _, _, _, _, _, _, _, _, _]) d_Md_tissue_94 (by decide) (w_pv rfl) rfl ?_
                refine Rn.iload d_Md_tissue_96 rfl ?_
                refine Rn.istore (lv1 := [_, _, _, _, _, _, _, _, _, _]) d_Md_tissue_98 (by decide) (w_pv rfl) rfl ?_
                exact loop (k - j + 1) 0 (by omega)
              · have hVe := u3 (show w = 1 by omega)
                have hkr : r * k ≤ 40 * 40 := Nat.mul_le_mul (by omega) (by omega)
                have fin : ∀ q1 : Nat, 0 < q1 → q1 ≤ 40 → q1 = (if (a : Int) = 0 then 1 else a) → Rn k_Md_tissue none (0, 0) 83 [some (.ref 47), some (.int (iI a)), some (.int (iI r)), some (.int (iI k)), some (.int (iI j)), some (.int (iI w)), some (.int (iI part)), none, none, none] [.long (jI q1), .long (jI ((r : Int) * k))] SH M (w_FL (0, 0) SH (fun v M' => v = jI V ∧ mdA M' β n σ m τ I J ∧ Ofm M M')) := by
                  intro q1 g1 g2 g3
                  rw [hVe, ← g3, Nat.mul_comm k r, ← Int.natCast_mul]
                  generalize r * k = R at hkr ⊢
                  refine Rn.iload d_Md_tissue_83 rfl ?_
                  refine Rn.cSL d_Md_tissue_85 s_Md_tissue_Md_lowest g_865 g_866 ⟨rfl, rfl⟩ ⟨Nat.zero_le _, Nat.zero_le _⟩ (m_Md_lowest (show R < 4611686018427387904 by omega) (show q1 < 4611686018427387904 by omega) g1 q6) rfl rfl (Nat.le_of_ble_eq_true rfl) (fun rr MM qq => ?_)
                  obtain ⟨rfl, rfl⟩ := And.imp id Eq.symm qq; clear qq
                  exact Rn.lret d_Md_tissue_88 rfl ⟨rfl, hA, Ofm.rf⟩
                refine Rn.iload_n d_Md_tissue_68 rfl ?_
                refine In.i2l d_Md_tissue_69 ⟨by omega, by omega⟩ ?_
                refine Rn.iload_n d_Md_tissue_70 rfl ?_
                refine In.i2l d_Md_tissue_71 ⟨by omega, by omega⟩ ?_
                refine In.lmul d_Md_tissue_72 ?_
                refine Rn.iload_n d_Md_tissue_73 rfl ?_
                refine In.if_ne (tgt := 81) d_Md_tissue_74 (by decide) ⟨by omega, by omega⟩ (fun c74 => ?_) (fun c74 => ?_)
                · refine Rn.iload_n d_Md_tissue_81 rfl ?_
                  refine In.i2l d_Md_tissue_82 ⟨by omega, by omega⟩ ?_
                  exact fin a (by omega) (by omega) (by rw [if_neg (by omega)])
                · refine Rn.lconst (v := jI 1) d_Md_tissue_77 (by decide +kernel) ?_
                  refine Rn.goto (tgt := 83) d_Md_tissue_78 (by decide) ?_
                  exact fin 1 (by omega) (by omega) (by rw [if_pos (by omega)])
            · have q6 := fl_eq c55
              exact bad (by omega)
