/-! The class and the reference, made. -/
set_option maxRecDepth 20000
set_option maxHeartbeats 400000
def lkL : List (Nat × Nat) → Nat → Option Nat
  | [], _ => none
  | (a, r) :: t, i => if i = a then some r else lkL t i
/-- on the way: of the cells from b on those to e are made, but of b itself the fields of a list alone -/
def St (M0 M : wM) (b e : Nat) (L : List (Nat × Nat)) : Prop := (∀ k, b < k → k < e → M.2.2 k = RG k) ∧ (∀ k, (k < b ∨ e ≤ k) → M.1 k = M0.1 k ∧ M.2.2 k = M0.2.2 k) ∧ M.2.2 b = lkL L
theorem St.start {M : wM} {b : Nat} (hr : M.2.2 b = fun _ => none) : St M M b (b + 1) [] := ⟨fun k h1 h2 => by omega, fun _ _ => ⟨rfl, rfl⟩, by rw [hr]; rfl⟩
theorem St.nx {M0 M M' : wM} {b e e' i r : Nat} {L : List (Nat × Nat)} (h : St M0 M b e L) (hm : Mkd (w_z M e) M' e e') (h1 : b < e) (h2 : e < e') : St M0 (w_ur M' b i (some r)) b e' ((i, r) :: L) := by
  obtain ⟨o1, o2, o3⟩ := hm.st h2
  refine ⟨fun k k1 k2 => ?_, fun k hk => ⟨?_, ?_⟩, ?_⟩
  · rw [ur, if_neg (by omega)]
    by_cases q : k < e
    · rw [o2 k (by omega)]; exact h.1 k k1 q
    · exact o3 k (by omega) k2
  · rw [w_ur_1]; exact (o1.1 k (by omega)).trans (h.2.1 k (by omega)).1
  · rw [ur, if_neg (by omega), o2 k (by omega)]; exact (h.2.1 k (by omega)).2
  · rw [ur, if_pos rfl, o2 b (by omega), h.2.2]; rfl
theorem St.ar {M0 M : wM} {b e i r : Nat} {L : List (Nat × Nat)} (h : St M0 M b e L) (h1 : b < e) (hR : RG e = fun _ => none) : St M0 (w_ur (w_z M e) b i (some r)) b (e + 1) ((i, r) :: L) := by
  refine ⟨fun k k1 k2 => ?_, fun k hk => ⟨?_, ?_⟩, ?_⟩
  · rw [ur, if_neg (by omega), zr]
    by_cases q : k = e
    · rw [if_pos q, q, hR]
    · rw [if_neg q]; exact h.1 k k1 (by omega)
  · rw [w_ur_1, zi, if_neg (by omega)]; exact (h.2.1 k (by omega)).1
  · rw [ur, if_neg (by omega), zr, if_neg (by omega)]; exact (h.2.1 k (by omega)).2
  · rw [ur, if_pos rfl, zr, if_neg (by omega), h.2.2]; rfl
theorem St.fin {M0 M : wM} {b e : Nat} {L : List (Nat × Nat)} (h : St M0 M b e L) (hL : lkL L = RG b) : Mkd M0 M b e := ⟨h.2.1, fun k h1 h2 => by
  by_cases q : k = b
  · rw [q, h.2.2, hL]
  · exact h.1 k (by omega) h2⟩
/-- cells of noughts -/
def Zr (M : wM) (b e : Nat) : Prop := ∀ k, b ≤ k → k < e → M.1 k = fun _ => 0
theorem Zr.ar {M : wM} {b e c i r : Nat} (h : Zr M b e) : Zr (w_ur (w_z M e) c i (some r)) b (e + 1) := fun k h1 h2 => by
  rw [w_ur_1, zi]
  by_cases q : k = e
  · rw [if_pos q]
  · rw [if_neg q]; exact h k h1 (by omega)
theorem m_BH_init {M : wM} (hr : M.2.2 0 = fun _ => none) : EvN k_BH_init 0 47 M (fun M' => Mkd M M' 0 47 ∧ clsAt M' be0 0 (fun _ => 0) 0 (fun _ => 0) im0 im0) := by
  have s0 := St.start hr
  refine Ev.of 0 (by decide) (Nat.le_of_ble_eq_true rfl) rfl ?_
  refine Rn.aload_n d_BH_init_0 rfl ?_
  refine Rn.objInit d_BH_init_1 g_21 g_22 g_23 (Nat.le_of_ble_eq_true rfl) (Nat.le_of_ble_eq_true rfl) ?_
  refine Rn.aload_n d_BH_init_4 rfl ?_
  refine Rn.mk d_BH_init_5 mk_Hill g_24 ⟨by decide, by decide⟩ (z_Hill (by first | assumption | exact i_Image_hill (by assumption) | exact i_BH_hill | exact i_Telling_hill | exact i_Year_hill)) (by omega) ⟨by repeat first | exact wi0 | refine wir (by omega) ?_ | refine wii ?_, by repeat first | exact wL0 | refine wLr (by omega) ?_ | refine wLi ?_ | refine wLn ?_⟩ ?_
  refine Rn.dup d_BH_init_8 rfl ?_
  refine Rn.callI rfl d_BH_init_9 s_BH_init_Hill_init g_26 g_27 rfl (m_Hill_init i_BH_hill (zr_at M 1)) rfl rfl (Nat.le_of_ble_eq_true rfl) ⟨by decide, by decide⟩ (Or.inl (by rw [tk_len (by omega)]; exact ⟨by repeat first | exact wi0 | refine wir (by omega) ?_ | refine wii ?_, by repeat first | exact wL0 | refine wLr (by omega) ?_ | refine wLi ?_ | refine wLn ?_⟩)) (fun vv ss M1 qq _ => ?_)
  obtain ⟨rfl, rfl, ⟨m1, hH⟩⟩ := qq
  have s1 := s0.nx (i := 0) (r := 1) m1 (by decide) (by decide)
  refine Rn.putR d_BH_init_12 f_BH_hill g_186 (tk_get z_BH (by omega)) rfl (fun _ => rfl) (fun _ => rfl) rfl rfl (by rw [tk_len (by omega)]; omega) ?_
  refine Rn.aload_n d_BH_init_15 rfl ?_
  refine Rn.mk d_BH_init_16 mk_Sights g_57 ⟨by decide, by decide⟩ (z_Sights (by first | assumption | exact i_Image_sights (by assumption) | exact i_BH_sights)) (by omega) ⟨by repeat first | exact wi0 | refine wir (by omega) ?_ | refine wii ?_, by repeat first | exact wL0 | refine wLr (by omega) ?_ | refine wLi ?_ | refine wLn ?_⟩ ?_
  refine Rn.dup d_BH_init_19 rfl ?_
  refine Rn.callIN rfl d_BH_init_20 s_BH_init_Sights_init (j := 0) (host := "BaubleHill") rfl g_60 rfl (m_Sights_init i_BH_sights (zr_at _ 6)) rfl rfl (Nat.le_of_ble_eq_true rfl) ⟨by decide, by decide⟩ (Or.inl (by rw [tk_len (by omega)]; exact ⟨by repeat first | exact wi0 | refine wir (by omega) ?_ | refine wii ?_, by repeat first | exact wL0 | refine wLr (by omega) ?_ | refine wLi ?_ | refine wLn ?_⟩)) (fun vv ss M2 qq _ => ?_)
  obtain ⟨rfl, rfl, ⟨m2, hS⟩⟩ := qq
  have s2 := s1.nx (i := 1) (r := 6) m2 (by decide) (by decide)
  obtain ⟨o2, _, _⟩ := m2.st (by decide)
  have hH : hillAt M2 1 be0 := hillAt.off (M := M1) (M' := (M2.1, M1.2)) hH ⟨o2.1, rfl⟩ (by omega)
  refine Rn.putR d_BH_init_23 f_BH_sights g_187 (tk_get z_BH (by omega)) rfl (fun _ => rfl) (fun _ => rfl) rfl rfl (by rw [tk_len (by omega)]; omega) ?_
  refine Rn.aload_n d_BH_init_26 rfl ?_
  refine Rn.mk d_BH_init_27 mk_Pad g_73 ⟨by decide, by decide⟩ z_Pad (by omega) ⟨by repeat first | exact wi0 | refine wir (by omega) ?_ | refine wii ?_, by repeat first | exact wL0 | refine wLr (by omega) ?_ | refine wLi ?_ | refine wLn ?_⟩ ?_
  refine Rn.dup d_BH_init_30 rfl ?_
  refine Rn.callIN rfl d_BH_init_31 s_BH_init_Pad_init (j := 1) (host := "BaubleHill") rfl g_76 rfl (m_Pad_init (zr_at _ 9)) rfl rfl (Nat.le_of_ble_eq_true rfl) ⟨by decide, by decide⟩ (Or.inl (by rw [tk_len (by omega)]; exact ⟨by repeat first | exact wi0 | refine wir (by omega) ?_ | refine wii ?_, by repeat first | exact wL0 | refine wLr (by omega) ?_ | refine wLi ?_ | refine wLn ?_⟩)) (fun vv ss M3 qq _ => ?_)
  obtain ⟨rfl, rfl, ⟨m3, hP⟩⟩ := qq
  have s3 := s2.nx (i := 2) (r := 9) m3 (by decide) (by decide)
  obtain ⟨o3, _, _⟩ := m3.st (by decide)
  have hH : hillAt M3 1 be0 := hillAt.off (M := M2) (M' := (M3.1, M2.2)) hH ⟨o3.1, rfl⟩ (by omega)
  have hS : sgAt M3 6 0 (fun _ => 0) := sgAt.off (M' := (M3.1, M2.2)) hS ⟨o3.1, rfl⟩ (by omega)
  refine Rn.putR d_BH_init_34 f_BH_pad g_188 (tk_get z_BH (by omega)) rfl (fun _ => rfl) (fun _ => rfl) rfl rfl (by rw [tk_len (by omega)]; omega) ?_
  refine Rn.aload_n d_BH_init_37 rfl ?_
  refine Rn.mk d_BH_init_38 mk_Telling g_86 ⟨by decide, by decide⟩ z_Telling (by omega) ⟨by repeat first | exact wi0 | refine wir (by omega) ?_ | refine wii ?_, by repeat first | exact wL0 | refine wLr (by omega) ?_ | refine wLi ?_ | refine wLn ?_⟩ ?_
  refine Rn.dup d_BH_init_41 rfl ?_
  refine Rn.callIN rfl d_BH_init_42 s_BH_init_Telling_init (j := 2) (host := "BaubleHill") rfl g_89 rfl (m_Telling_init (zr_at _ 11)) rfl rfl (Nat.le_of_ble_eq_true rfl) ⟨by decide, by decide⟩ (Or.inl (by rw [tk_len (by omega)]; exact ⟨by repeat first | exact wi0 | refine wir (by omega) ?_ | refine wii ?_, by repeat first | exact wL0 | refine wLr (by omega) ?_ | refine wLi ?_ | refine wLn ?_⟩)) (fun vv ss M4 qq _ => ?_)
  obtain ⟨rfl, rfl, m4⟩ := qq
  have s4 := s3.nx (i := 3) (r := 11) m4 (by decide) (by decide)
  obtain ⟨o4, _, _⟩ := m4.st (by decide)
  refine Rn.putR d_BH_init_45 f_BH_telling g_189 (tk_get z_BH (by omega)) rfl (fun _ => rfl) (fun _ => rfl) rfl rfl (by rw [tk_len (by omega)]; omega) ?_
  refine Rn.aload_n d_BH_init_48 rfl ?_
  refine Rn.mk d_BH_init_49 mk_Choice g_129 ⟨by decide, by decide⟩ z_Choice (by omega) ⟨by repeat first | exact wi0 | refine wir (by omega) ?_ | refine wii ?_, by repeat first | exact wL0 | refine wLr (by omega) ?_ | refine wLi ?_ | refine wLn ?_⟩ ?_
  refine Rn.dup d_BH_init_52 rfl ?_
  refine Rn.callIN rfl d_BH_init_53 s_BH_init_Choice_init (j := 4) (host := "BaubleHill") rfl g_132 rfl (m_Choice_init (zr_at _ 18)) rfl rfl (Nat.le_of_ble_eq_true rfl) ⟨by decide, by decide⟩ (Or.inl (by rw [tk_len (by omega)]; exact ⟨by repeat first | exact wi0 | refine wir (by omega) ?_ | refine wii ?_, by repeat first | exact wL0 | refine wLr (by omega) ?_ | refine wLi ?_ | refine wLn ?_⟩)) (fun vv ss M5 qq _ => ?_)
  obtain ⟨rfl, rfl, m5⟩ := qq
  have s5 := s4.nx (i := 4) (r := 18) m5 (by decide) (by decide)
  obtain ⟨o5, _, _⟩ := m5.st (by decide)
  refine Rn.putR d_BH_init_56 f_BH_choice g_190 (tk_get z_BH (by omega)) rfl (fun _ => rfl) (fun _ => rfl) rfl rfl (by rw [tk_len (by omega)]; omega) ?_
  refine Rn.aload_n d_BH_init_59 rfl ?_
  refine Rn.mk d_BH_init_60 mk_Cutting g_139 ⟨by decide, by decide⟩ z_Cutting (by omega) ⟨by repeat first | exact wi0 | refine wir (by omega) ?_ | refine wii ?_, by repeat first | exact wL0 | refine wLr (by omega) ?_ | refine wLi ?_ | refine wLn ?_⟩ ?_
  refine Rn.dup d_BH_init_63 rfl ?_
  refine Rn.callIN rfl d_BH_init_64 s_BH_init_Cutting_init (j := 5) (host := "BaubleHill") rfl g_142 rfl (m_Cutting_init (zr_at _ 20)) rfl rfl (Nat.le_of_ble_eq_true rfl) ⟨by decide, by decide⟩ (Or.inl (by rw [tk_len (by omega)]; exact ⟨by repeat first | exact wi0 | refine wir (by omega) ?_ | refine wii ?_, by repeat first | exact wL0 | refine wLr (by omega) ?_ | refine wLi ?_ | refine wLn ?_⟩)) (fun vv ss M6 qq _ => ?_)
  obtain ⟨rfl, rfl, m6⟩ := qq
  have s6 := s5.nx (i := 5) (r := 20) m6 (by decide) (by decide)
  obtain ⟨o6, _, _⟩ := m6.st (by decide)
  refine Rn.putR d_BH_init_67 f_BH_cutting g_191 (tk_get z_BH (by omega)) rfl (fun _ => rfl) (fun _ => rfl) rfl rfl (by rw [tk_len (by omega)]; omega) ?_
  refine Rn.aload_n d_BH_init_70 rfl ?_
  refine Rn.mk d_BH_init_71 mk_Year g_149 ⟨by decide, by decide⟩ z_Year (by omega) ⟨by repeat first | exact wi0 | refine wir (by omega) ?_ | refine wii ?_, by repeat first | exact wL0 | refine wLr (by omega) ?_ | refine wLi ?_ | refine wLn ?_⟩ ?_
  refine Rn.dup d_BH_init_74 rfl ?_
  refine Rn.callIN rfl d_BH_init_75 s_BH_init_Year_init (j := 6) (host := "BaubleHill") rfl g_152 rfl (m_Year_init (zr_at _ 22)) rfl rfl (Nat.le_of_ble_eq_true rfl) ⟨by decide, by decide⟩ (Or.inl (by rw [tk_len (by omega)]; exact ⟨by repeat first | exact wi0 | refine wir (by omega) ?_ | refine wii ?_, by repeat first | exact wL0 | refine wLr (by omega) ?_ | refine wLi ?_ | refine wLn ?_⟩)) (fun vv ss M7 qq _ => ?_)
  obtain ⟨rfl, rfl, m7⟩ := qq
  have s7 := s6.nx (i := 6) (r := 22) m7 (by decide) (by decide)
  obtain ⟨o7, _, _⟩ := m7.st (by decide)
  refine Rn.putR d_BH_init_78 f_BH_years g_192 (tk_get z_BH (by omega)) rfl (fun _ => rfl) (fun _ => rfl) rfl rfl (by rw [tk_len (by omega)]; omega) ?_
  refine Rn.aload_n d_BH_init_81 rfl ?_
  refine Rn.mk d_BH_init_82 mk_Image g_166 ⟨by decide, by decide⟩ (z_Image (by first | assumption | exact i_BH_firstImage | exact i_BH_secondImage)) (by omega) ⟨by repeat first | exact wi0 | refine wir (by omega) ?_ | refine wii ?_, by repeat first | exact wL0 | refine wLr (by omega) ?_ | refine wLi ?_ | refine wLn ?_⟩ ?_
  refine Rn.dup d_BH_init_85 rfl ?_
  refine Rn.callIN rfl d_BH_init_86 s_BH_init_Image_init (j := 8) (host := "BaubleHill") rfl g_169 rfl (m_Image_init i_BH_firstImage (zr_at _ 29)) rfl rfl (Nat.le_of_ble_eq_true rfl) ⟨by decide, by decide⟩ (Or.inl (by rw [tk_len (by omega)]; exact ⟨by repeat first | exact wi0 | refine wir (by omega) ?_ | refine wii ?_, by repeat first | exact wL0 | refine wLr (by omega) ?_ | refine wLi ?_ | refine wLn ?_⟩)) (fun vv ss M8 qq _ => ?_)
  obtain ⟨rfl, rfl, ⟨m8, hI⟩⟩ := qq
  have s8 := s7.nx (i := 7) (r := 29) m8 (by decide) (by decide)
  obtain ⟨o8, _, _⟩ := m8.st (by decide)
  refine Rn.putR d_BH_init_89 f_BH_firstImage g_193 (tk_get z_BH (by omega)) rfl (fun _ => rfl) (fun _ => rfl) rfl rfl (by rw [tk_len (by omega)]; omega) ?_
  refine Rn.aload_n d_BH_init_92 rfl ?_
  refine Rn.mk d_BH_init_93 mk_Image g_166 ⟨by decide, by decide⟩ (z_Image (by first | assumption | exact i_BH_firstImage | exact i_BH_secondImage)) (by omega) ⟨by repeat first | exact wi0 | refine wir (by omega) ?_ | refine wii ?_, by repeat first | exact wL0 | refine wLr (by omega) ?_ | refine wLi ?_ | refine wLn ?_⟩ ?_
  refine Rn.dup d_BH_init_96 rfl ?_
  refine Rn.callIN rfl d_BH_init_97 s_BH_init_Image_init (j := 8) (host := "BaubleHill") rfl g_169 rfl (m_Image_init i_BH_secondImage (zr_at _ 38)) rfl rfl (Nat.le_of_ble_eq_true rfl) ⟨by decide, by decide⟩ (Or.inl (by rw [tk_len (by omega)]; exact ⟨by repeat first | exact wi0 | refine wir (by omega) ?_ | refine wii ?_, by repeat first | exact wL0 | refine wLr (by omega) ?_ | refine wLi ?_ | refine wLn ?_⟩)) (fun vv ss M9 qq _ => ?_)
  obtain ⟨rfl, rfl, ⟨m9, hJ⟩⟩ := qq
  have s9 := s8.nx (i := 8) (r := 38) m9 (by decide) (by decide)
  obtain ⟨o9, _, _⟩ := m9.st (by decide)
  have lo : ∀ k, k < 11 → M9.1 k = M3.1 k := fun k hk => (o9.1 k (by omega)).trans ((o8.1 k (by omega)).trans ((o7.1 k (by omega)).trans ((o6.1 k (by omega)).trans ((o5.1 k (by omega)).trans (o4.1 k (by omega))))))
  have hI : imgAt M9 29 im0 := imgAt.off (M' := (M9.1, M8.2)) hI ⟨o9.1, rfl⟩ (by omega)
  have hH : hillAt M9 1 be0 := by
    obtain ⟨a1, a2, a3, a4, a5⟩ := hH
    exact ⟨fun k k1 k2 => by rw [lo _ (by omega)]; exact a1 k k1 k2, fun b hb => by rw [lo _ (by omega)]; exact a2 b hb, fun b hb => by rw [lo _ (by omega)]; exact a3 b hb, by rw [lo _ (by omega)]; exact a4, by rw [lo _ (by omega)]; exact a5⟩
  have hS : sgAt M9 6 0 (fun _ => 0) := ⟨fun i hi => by rw [lo _ (by omega)]; exact hS.1 i hi, fun i hi => by rw [lo _ (by omega)]; exact hS.2.1 i hi, by rw [lo _ (by omega)]; exact hS.2.2⟩
  have hP : padAt M9 0 (fun _ => 0) := ⟨fun i hi => by rw [lo _ (by omega)]; exact hP.1 i hi, by rw [lo _ (by omega)]; exact hP.2⟩
  refine Rn.putR d_BH_init_100 f_BH_secondImage g_194 (tk_get z_BH (by omega)) rfl (fun _ => rfl) (fun _ => rfl) rfl rfl (by rw [tk_len (by omega)]; omega) ?_
  exact Rn.nret (n' := 47) d_BH_init_103 rfl ⟨s9.fin (by funext i; rcases i with _ | _ | _ | _ | _ | _ | _ | _ | _ | i <;> rfl), hH, hP, hS, hI, hJ⟩ (by decide) (by decide)
theorem m_Md_init {M : wM} (hr : M.2.2 47 = fun _ => none) (hi : M.1 47 = fun _ => 0) : EvN k_Md_init 47 58 M (fun M' => Mkd M M' 47 58 ∧ mdA M' be0 0 (fun _ => 0) 0 (fun _ => 0) im0 im0) := by
  have s0 := St.start hr
  have z0 : Zr M 47 48 := fun k h1 h2 => by rw [show k = 47 by omega]; exact hi
  refine Ev.of 1 (by decide) (Nat.le_of_ble_eq_true rfl) rfl ?_
  refine Rn.aload_n d_Md_init_0 rfl ?_
  refine Rn.objInit d_Md_init_1 g_649 g_22 g_23 (Nat.le_of_ble_eq_true rfl) (Nat.le_of_ble_eq_true rfl) ?_
  refine Rn.aload_n d_Md_init_4 rfl ?_
  refine Rn.bipush (v := iI 26) d_Md_init_5 (by decide +kernel) ?_
  refine Rn.mkI d_Md_init_7 (by decide +kernel) (by decide +kernel) (by decide) ⟨by decide, by decide⟩ z_Md_book (by omega) ⟨by repeat first | exact wi0 | refine wir (by omega) ?_ | refine wii ?_, by repeat first | exact wL0 | refine wLr (by omega) ?_ | refine wLi ?_ | refine wLn ?_⟩ ?_
  refine Rn.putR d_Md_init_9 f_Md_book g_650 (tk_get z_Md (by omega)) rfl (fun _ => rfl) (fun _ => rfl) rfl rfl (by rw [tk_len (by omega)]; omega) ?_
  refine Rn.aload_n d_Md_init_12 rfl ?_
  refine Rn.bipush (v := iI 26) d_Md_init_13 (by decide +kernel) ?_
  refine Rn.mkI d_Md_init_15 (by decide +kernel) (by decide +kernel) (by decide) ⟨by decide, by decide⟩ z_Md_now (by omega) ⟨by repeat first | exact wi0 | refine wir (by omega) ?_ | refine wii ?_, by repeat first | exact wL0 | refine wLr (by omega) ?_ | refine wLi ?_ | refine wLn ?_⟩ ?_
  refine Rn.putR d_Md_init_17 f_Md_now g_651 (tk_get z_Md (by omega)) rfl (fun _ => rfl) (fun _ => rfl) rfl rfl (by rw [tk_len (by omega)]; omega) ?_
  refine Rn.aload_n d_Md_init_20 rfl ?_
  refine Rn.bipush (v := iI 16) d_Md_init_21 (by decide +kernel) ?_
  refine Rn.mkI d_Md_init_23 (by decide +kernel) (by decide +kernel) (by decide) ⟨by decide, by decide⟩ z_Md_sight (by omega) ⟨by repeat first | exact wi0 | refine wir (by omega) ?_ | refine wii ?_, by repeat first | exact wL0 | refine wLr (by omega) ?_ | refine wLi ?_ | refine wLn ?_⟩ ?_
  refine Rn.putR d_Md_init_25 f_Md_sight g_653 (tk_get z_Md (by omega)) rfl (fun _ => rfl) (fun _ => rfl) rfl rfl (by rw [tk_len (by omega)]; omega) ?_
  refine Rn.aload_n d_Md_init_28 rfl ?_
  refine Rn.bipush (v := iI 60) d_Md_init_29 (by decide +kernel) ?_
  refine Rn.mkI d_Md_init_31 (by decide +kernel) (by decide +kernel) (by decide) ⟨by decide, by decide⟩ z_Md_pad (by omega) ⟨by repeat first | exact wi0 | refine wir (by omega) ?_ | refine wii ?_, by repeat first | exact wL0 | refine wLr (by omega) ?_ | refine wLi ?_ | refine wLn ?_⟩ ?_
  refine Rn.putR d_Md_init_33 f_Md_pad g_655 (tk_get z_Md (by omega)) rfl (fun _ => rfl) (fun _ => rfl) rfl rfl (by rw [tk_len (by omega)]; omega) ?_
  refine Rn.aload_n d_Md_init_36 rfl ?_
  refine Rn.bipush (v := iI 6) d_Md_init_37 (by decide +kernel) ?_
  refine Rn.mkI d_Md_init_39 (by decide +kernel) (by decide +kernel) (by decide) ⟨by decide, by decide⟩ z_Md_more (by omega) ⟨by repeat first | exact wi0 | refine wir (by omega) ?_ | refine wii ?_, by repeat first | exact wL0 | refine wLr (by omega) ?_ | refine wLi ?_ | refine wLn ?_⟩ ?_
  refine Rn.putR d_Md_init_41 f_Md_more g_659 (tk_get z_Md (by omega)) rfl (fun _ => rfl) (fun _ => rfl) rfl rfl (by rw [tk_len (by omega)]; omega) ?_
  refine Rn.aload_n d_Md_init_44 rfl ?_
  refine Rn.bipush (v := iI 12) d_Md_init_45 (by decide +kernel) ?_
  refine Rn.mkI d_Md_init_47 (by decide +kernel) (by decide +kernel) (by decide) ⟨by decide, by decide⟩ z_Md_counts (by omega) ⟨by repeat first | exact wi0 | refine wir (by omega) ?_ | refine wii ?_, by repeat first | exact wL0 | refine wLr (by omega) ?_ | refine wLi ?_ | refine wLn ?_⟩ ?_
  refine Rn.putR d_Md_init_49 f_Md_counts g_662 (tk_get z_Md (by omega)) rfl (fun _ => rfl) (fun _ => rfl) rfl rfl (by rw [tk_len (by omega)]; omega) ?_
  refine Rn.aload_n d_Md_init_52 rfl ?_
  refine Rn.bipush (v := iI 12) d_Md_init_53 (by decide +kernel) ?_
  refine Rn.mkI d_Md_init_55 (by decide +kernel) (by decide +kernel) (by decide) ⟨by decide, by decide⟩ z_Md_worth (by omega) ⟨by repeat first | exact wi0 | refine wir (by omega) ?_ | refine wii ?_, by repeat first | exact wL0 | refine wLr (by omega) ?_ | refine wLi ?_ | refine wLn ?_⟩ ?_
  refine Rn.putR d_Md_init_57 f_Md_worth g_663 (tk_get z_Md (by omega)) rfl (fun _ => rfl) (fun _ => rfl) rfl rfl (by rw [tk_len (by omega)]; omega) ?_
  refine Rn.aload_n d_Md_init_60 rfl ?_
  refine Rn.sipush (v := iI 1681) d_Md_init_61 (by decide +kernel) ?_
  refine Rn.mkL d_Md_init_64 (by decide +kernel) (by decide +kernel) (by decide) ⟨by decide, by decide⟩ z_Md_choices (by omega) ⟨by repeat first | exact wi0 | refine wir (by omega) ?_ | refine wii ?_, by repeat first | exact wL0 | refine wLr (by omega) ?_ | refine wLi ?_ | refine wLn ?_⟩ ?_
  refine Rn.putR d_Md_init_66 f_Md_choices g_664 (tk_get z_Md (by omega)) rfl (fun _ => rfl) (fun _ => rfl) rfl rfl (by rw [tk_len (by omega)]; omega) ?_
  refine Rn.aload_n d_Md_init_69 rfl ?_
  refine Rn.bipush (v := iI 100) d_Md_init_70 (by decide +kernel) ?_
  refine Rn.mkI d_Md_init_72 (by decide +kernel) (by decide +kernel) (by decide) ⟨by decide, by decide⟩ z_Md_image (by omega) ⟨by repeat first | exact wi0 | refine wir (by omega) ?_ | refine wii ?_, by repeat first | exact wL0 | refine wLr (by omega) ?_ | refine wLi ?_ | refine wLn ?_⟩ ?_
  refine Rn.putR d_Md_init_74 f_Md_image g_665 (tk_get z_Md (by omega)) rfl (fun _ => rfl) (fun _ => rfl) rfl rfl (by rw [tk_len (by omega)]; omega) ?_
  refine Rn.aload_n d_Md_init_77 rfl ?_
  refine Rn.iconst (v := iI 2) d_Md_init_78 rfl ?_
  refine Rn.mkZ d_Md_init_79 (by decide +kernel) (by decide +kernel) (by decide) ⟨by decide, by decide⟩ z_Md_isKept (by omega) ⟨by repeat first | exact wi0 | refine wir (by omega) ?_ | refine wii ?_, by repeat first | exact wL0 | refine wLr (by omega) ?_ | refine wLi ?_ | refine wLn ?_⟩ ?_
  refine Rn.putR d_Md_init_81 f_Md_isKept g_666 (tk_get z_Md (by omega)) rfl (fun _ => rfl) (fun _ => rfl) rfl rfl (by rw [tk_len (by omega)]; omega) ?_
  refine Rn.iconst (v := iI 0) d_Md_init_84 rfl ?_
  refine Rn.istore_n (lv1 := [_, _]) d_Md_init_85 (by decide) (w_pv rfl) rfl ?_
  have loop2 : ∀ (d k : Nat) (Mc : wM), k + d = 6 → Mkd M Mc 47 58 → (∀ c, 47 ≤ c → c < 58 → c ≠ 48 → Mc.1 c = fun _ => 0) → (∀ j, j < 12 + k → Mc.1 48 j = iI (be0 j)) → (∀ j, 12 + k ≤ j → Mc.1 48 j = iI (if j < 18 then 0 else be0 j)) → Rn k_Md_init none (10, 1941) 120 [some (.ref 47), some (.int (iI k))] [] (SH.take 58) Mc (fun v sh' M' cs' => (v = none ∧ sh' = SH.take 58 ∧ Mkd M M' 47 58 ∧ mdA M' be0 0 (fun _ => 0) 0 (fun _ => 0) im0 im0) ∧ cs'.1 ≤ (k_Md_init).2.2.2.2.cells ∧ cs'.2 ≤ (k_Md_init).2.2.2.2.slots) := by
    intro d
    induction d with
    | zero =>
      intro k Mc h1 h2 h3 h4 h5
      refine Rn.iload_n d_Md_init_120 rfl ?_
      refine Rn.bipush (v := iI 6) d_Md_init_121 (by decide +kernel) ?_
      refine In.icmp_ge (tgt := 143) d_Md_init_123 (by decide) ⟨by omega, by omega⟩ ⟨by omega, by omega⟩ (fun c123 => ?_) (fun c123 => ?_)
      · refine Rn.nret d_Md_init_143 rfl ⟨h2, fun j hj => ?_, fun i hi => by rw [h3 51 (by decide) (by decide) (by decide)]; rfl, by rw [h3 47 (by decide) (by decide) (by decide)]; rfl, fun i hi => by rw [h3 50 (by decide) (by decide) (by decide)]; rfl, by rw [h3 47 (by decide) (by decide) (by decide)]; rfl, ⟨by rw [h3 57 (by decide) (by decide) (by decide)]; rfl, fun q => by exact absurd q (by decide)⟩, ⟨by rw [h3 57 (by decide) (by decide) (by decide)]; rfl, fun q => by exact absurd q (by decide)⟩⟩ (by decide) (by decide)
        by_cases q : j < 18
        · exact h4 j (by omega)
        · rw [h5 j (by omega), if_neg q]
      · omega
    | succ d ih =>
      intro k Mc h1 h2 h3 h4 h5
      have hg : Mc.2.2 47 0 = some 48 := by rw [h2.2 47 (by decide) (by decide)]; rfl
      refine Rn.iload_n d_Md_init_120 rfl ?_
      refine Rn.bipush (v := iI 6) d_Md_init_121 (by decide +kernel) ?_
      refine In.icmp_ge (tgt := 143) d_Md_init_123 (by decide) ⟨by omega, by omega⟩ ⟨by omega, by omega⟩ (fun c123 => ?_) (fun c123 => ?_)
      · omega
      · refine Rn.aload_n d_Md_init_126 rfl ?_
        refine Rn.getR d_Md_init_127 f_Md_book g_650 (tk_get z_Md (by omega)) hg ?_
        refine Rn.bipush (v := iI 12) d_Md_init_130 (by decide +kernel) ?_
        refine Rn.iload_n d_Md_init_132 rfl ?_
        refine In.add d_Md_init_133 ?_
        refine Rn.bipush (v := iI (-6)) d_Md_init_134 (by decide +kernel) ?_
        refine In.ast d_Md_init_136 (tk_get z_Md_book (by omega)) (show ((12 : Int) + k) = ((12 + k : Nat) : Int) by omega) (by omega) (by decide) ?_
        refine In.inc (lv1 := [_, _]) d_Md_init_137 rfl (by decide) (w_pv rfl) rfl ?_
        refine Rn.goto (tgt := 120) d_Md_init_140 (by decide) ?_
        refine ih (k + 1) _ (by omega) ⟨fun j hj => ⟨by rw [w_ui_off _ _ _ _ _ (by omega)]; exact (h2.1 j hj).1, (h2.1 j hj).2⟩, h2.2⟩ (fun c c1 c2 c3 => by rw [w_ui_off _ _ _ _ _ c3]; exact h3 c c1 c2 c3) (fun j hj => ?_) (fun j hj => ?_)
        · rw [w_ui_if]
          by_cases e : j = 12 + k
          · rw [if_pos ⟨rfl, e⟩]; unfold be0; rw [if_neg (by omega), if_neg (by omega), if_pos (by omega)]
          · rw [if_neg (by omega)]; exact h4 j (by omega)
        · rw [w_ui_if, if_neg (by omega)]; exact h5 j (by omega)
  have loop1 : ∀ (d k : Nat) (Mc : wM), k + d = 12 → Mkd M Mc 47 58 → (∀ c, 47 ≤ c → c < 58 → c ≠ 48 → Mc.1 c = fun _ => 0) → (∀ j, j < k → Mc.1 48 j = iI (be0 j)) → (∀ j, k ≤ j → Mc.1 48 j = iI 0) → Rn k_Md_init none (10, 1941) 86 [some (.ref 47), some (.int (iI k))] [] (SH.take 58) Mc (fun v sh' M' cs' => (v = none ∧ sh' = SH.take 58 ∧ Mkd M M' 47 58 ∧ mdA M' be0 0 (fun _ => 0) 0 (fun _ => 0) im0 im0) ∧ cs'.1 ≤ (k_Md_init).2.2.2.2.cells ∧ cs'.2 ≤ (k_Md_init).2.2.2.2.slots) := by
    intro d
    induction d with
    | zero =>
      intro k Mc h1 h2 h3 h4 h5
      refine Rn.iload_n d_Md_init_86 rfl ?_
      refine Rn.bipush (v := iI 12) d_Md_init_87 (by decide +kernel) ?_
      refine In.icmp_ge (tgt := 118) d_Md_init_89 (by decide) ⟨by omega, by omega⟩ ⟨by omega, by omega⟩ (fun c89 => ?_) (fun c89 => ?_)
      · refine Rn.iconst (v := iI 0) d_Md_init_118 rfl ?_
        refine Rn.istore_n (lv1 := [_, _]) d_Md_init_119 (by decide) (w_pv rfl) rfl ?_
        refine loop2 6 0 Mc rfl h2 h3 (fun j hj => h4 j (by omega)) (fun j hj => ?_)
        rw [h5 j (by omega)]
        by_cases q : j < 18
        · rw [if_pos q]
        · rw [if_neg q]; unfold be0; rw [if_neg (by omega), if_neg (by omega), if_neg q]
      · omega
    | succ d ih =>
      intro k Mc h1 h2 h3 h4 h5
      have hg : Mc.2.2 47 0 = some 48 := by rw [h2.2 47 (by decide) (by decide)]; rfl
      have fin : ∀ v : Int, v = be0 k → Rn k_Md_init none (10, 1941) 111 [some (.ref 47), some (.int (iI k))] [.int (iI v), .int (iI k), .ref 48] (SH.take 58) Mc (fun v sh' M' cs' => (v = none ∧ sh' = SH.take 58 ∧ Mkd M M' 47 58 ∧ mdA M' be0 0 (fun _ => 0) 0 (fun _ => 0) im0 im0) ∧ cs'.1 ≤ (k_Md_init).2.2.2.2.cells ∧ cs'.2 ≤ (k_Md_init).2.2.2.2.slots) := by
        intro v hv
        refine In.ast d_Md_init_111 (tk_get z_Md_book (by omega)) rfl (by omega) (by decide) ?_
        refine In.inc (lv1 := [_, _]) d_Md_init_112 rfl (by decide) (w_pv rfl) rfl ?_
        refine Rn.goto (tgt := 86) d_Md_init_115 (by decide) ?_
        refine ih (k + 1) _ (by omega) ⟨fun j hj => ⟨by rw [w_ui_off _ _ _ _ _ (by omega)]; exact (h2.1 j hj).1, (h2.1 j hj).2⟩, h2.2⟩ (fun c c1 c2 c3 => by rw [w_ui_off _ _ _ _ _ c3]; exact h3 c c1 c2 c3) (fun j hj => ?_) (fun j hj => ?_)
        · rw [w_ui_if]
          by_cases e : j = k
          · rw [if_pos ⟨rfl, e⟩, hv, e]
          · rw [if_neg (by omega)]; exact h4 j (by omega)
        · rw [w_ui_if, if_neg (by omega)]; exact h5 j (by omega)
      refine Rn.iload_n d_Md_init_86 rfl ?_
      refine Rn.bipush (v := iI 12) d_Md_init_87 (by decide +kernel) ?_
      refine In.icmp_ge (tgt := 118) d_Md_init_89 (by decide) ⟨by omega, by omega⟩ ⟨by omega, by omega⟩ (fun c89 => ?_) (fun c89 => ?_)
      · omega
      · refine Rn.aload_n d_Md_init_92 rfl ?_
        refine Rn.getR d_Md_init_93 f_Md_book g_650 (tk_get z_Md (by omega)) hg ?_
        refine Rn.iload_n d_Md_init_96 rfl ?_
        refine Rn.iload_n d_Md_init_97 rfl ?_
        refine In.if_ne (tgt := 106) d_Md_init_98 (by decide) ⟨by omega, by omega⟩ (fun c98 => ?_) (fun c98 => ?_)
        · refine Rn.iload_n d_Md_init_106 rfl ?_
          refine Rn.iconst (v := iI 1) d_Md_init_107 rfl ?_
          refine In.sub d_Md_init_108 ?_
          refine Rn.iconst (v := iI 2) d_Md_init_109 rfl ?_
          refine In.div d_Md_init_110 ⟨by omega, by omega⟩ ⟨by decide, by decide⟩ ?_
          exact fin _ (by unfold be0; rw [if_neg (by omega), if_pos (by omega)])
        · refine Rn.bipush (v := iI (-6)) d_Md_init_101 (by decide +kernel) ?_
          refine Rn.goto (tgt := 111) d_Md_init_103 (by decide) ?_
          exact fin _ (by unfold be0; rw [if_pos (by omega)])
  refine loop1 12 0 _ rfl (St.fin (L := [(16, 57), (15, 56), (14, 55), (13, 54), (12, 53), (9, 52), (5, 51), (3, 50), (1, 49), (0, 48)]) ?_ ?_) (fun c c1 c2 c3 => ?_) (fun j hj => by omega) (fun j hj => ?_)
  · exact ((((((((((s0.ar (by decide) rfl).ar (by decide) rfl).ar (by decide) rfl).ar (by decide) rfl).ar (by decide) rfl).ar (by decide) rfl).ar (by decide) rfl).ar (by decide) rfl).ar (by decide) rfl).ar (by decide) rfl)
  · funext i
    rcases i with _ | _ | _ | _ | _ | _ | _ | _ | _ | _ | _ | _ | _ | _ | _ | _ | _ | i <;> rfl
  · exact (z0.ar.ar.ar.ar.ar.ar.ar.ar.ar.ar) c c1 c2
  · exact congrFun ((z0.ar.ar.ar.ar.ar.ar.ar.ar.ar.ar) 48 (by decide) (by decide)) j
