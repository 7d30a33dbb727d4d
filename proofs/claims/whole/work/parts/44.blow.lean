/-! The reference's draught. -/
set_option maxRecDepth 20000
set_option maxHeartbeats 400000
theorem touch_le (g : Nat → Int) (far : Int) (b : Nat) : touchS g far b ≤ 12 := pc_le _
theorem mor_le (g : Nat → Int) (far : Int) (b n : Nat) : sm (morF g far b) n ≤ n := by
  have := sm_le (f := morF g far b) (c := 1) n (fun l _ => by unfold morF; split <;> omega)
  omega
theorem m_Md_blow {M : wM} {g : Nat → Int} {o p : Nat} (hG : M.2.2 = RG) (hN : nwA M g) (hV : hok g) (ho : 1 ≤ o ∧ o ≤ 9) : EvI k_Md_blow [.ref 47, .int (iI o)] SH M (fun r M' => r = iI (whyF g 2 o p) ∧ Act1 M M' g (actG g 2 o p)) := by
  refine EvI.of 3 (by decide) (Nat.le_of_ble_eq_true rfl) rfl ?_
  have hlt := hungS_lt hV.l 6 (Nat.le_refl _)
  have hpc := pc_le (hungS g 6)
  have w1 : 2 ≤ pc (hungS g 6) → whyF g 2 o p = 0 := fun q => by unfold whyF; rw [if_neg (by decide), if_neg (by decide), if_pos rfl, if_pos q]
  have w2 : ¬ 2 ≤ pc (hungS g 6) → whyF g 2 o p = 4 := fun q => by unfold whyF; rw [if_neg (by decide), if_neg (by decide), if_pos rfl, if_neg q]
  refine Rn.aload_n d_Md_blow_0 rfl ?_
  refine Rn.cVI d_Md_blow_1 s_Md_blow_Md_hanging g_762 g_764 gs_17 ⟨rfl, rfl⟩ ⟨Nat.zero_le _, Nat.zero_le _⟩ (m_Md_hanging hG hN hV.l) rfl rfl z_Md c_Md (Nat.le_of_ble_eq_true rfl) (fun rr MM qq => ?_)
  obtain ⟨rfl, rfl⟩ := And.imp id Eq.symm qq; clear qq
  refine Rn.cSI d_Md_blow_4 s_Md_blow_Md_bits g_766 g_767 ⟨rfl, rfl⟩ ⟨Nat.zero_le _, Nat.zero_le _⟩ (m_Md_bits (show hungS g 6 < 2147483648 by omega)) rfl rfl (Nat.le_of_ble_eq_true rfl) (fun rr MM qq => ?_)
  obtain ⟨rfl, rfl⟩ := And.imp id Eq.symm qq; clear qq
  refine Rn.iconst (v := iI 2) d_Md_blow_7 rfl ?_
  refine In.icmp_ge (tgt := 13) d_Md_blow_8 (by decide) ⟨by omega, by omega⟩ ⟨by omega, by omega⟩ (fun c8 => ?_) (fun c8 => ?_)
  · have w := w1 (by omega)
    have wa : actG g 2 o p = blowN g o 6 := by unfold actG; rw [if_pos w]; rfl
    rw [w, wa]
    generalize hQ : (fun (r : Int32) M' => r = iI 0 ∧ Act1 M M' g (blowN g o 6)) = Q
    obtain ⟨c0, hc0⟩ : ∃ c, M.1 47 6 = iI c := ⟨_, iI_of _⟩
    have loop2 : ∀ (d b : Nat) (Mc : wM) (x3 x4 : Option Value), b + d = 6 → Kp M Mc → nwA Mc (blowN g o b) → (∀ j, j < 6 → Mc.1 52 j = iI (sm (morF g o j) 6 : Nat)) → (∀ i, i ≠ 6 → Mc.1 47 i = M.1 47 i) → Mc.1 47 6 = iI (c0 + (chipS (blowN g o b) 6 - chipS g 6)) → Rn k_Md_blow none (0, 0) 131 [some (.ref 47), some (.int (iI o)), some (.int (iI b)), x3, x4] [] SH Mc (w_FI (0, 0) SH Q) := by
      intro d
      induction d with
      | zero =>
        intro b Mc x3 x4 h1 h2 h3 h4 h5 h6
        have : b = 6 := by omega
        subst this
        refine Rn.iload_n d_Md_blow_131 rfl ?_
        refine Rn.bipush (v := iI 6) d_Md_blow_132 (by decide +kernel) ?_
        refine In.icmp_ge (tgt := 255) d_Md_blow_134 (by decide) ⟨by omega, by omega⟩ ⟨by omega, by omega⟩ (fun c134 => ?_) (fun c134 => ?_)
        · refine Rn.iconst (v := iI 0) d_Md_blow_255 rfl ?_
          subst hQ
          exact Rn.iret d_Md_blow_256 rfl rfl ⟨rfl, h2, h3, h5, fun c hc => by rw [h6, ← iI_add, ← iI_add, ← hc0, hc]⟩
        · omega
      | succ d ih =>
        intro b Mc x3 x4 h1 h2 h3 h4 h5 h6
        have hGc := h2.G hG
        have hNk := blowN_ok hV o b (by omega)
        have n12 : blowN g o b (12 + b) = g (12 + b) := blowN_off b (by omega) (fun x hx => by omega) (by omega)
        have n18 : blowN g o b (18 + b) = g (18 + b) := blowN_off b (by omega) (fun x hx => by omega) (by omega)
        have b1 : g (12 + b) = -6 → blowN g o (b + 1) = blowN g o b := fun q => by simp only [blowN]; rw [if_pos q]
        have b2 : ¬ g (12 + b) = -6 → blowN g o (b + 1) = chipF (blowN g o b) b (touchS g o b : Nat) := fun q => by simp only [blowN]; rw [if_neg q]
        have hm := mor_le g o b 6
        have hm1 : g (12 + b) = -6 → sm (morF g o b) 6 = 0 := fun q => mor_none o q
        have hm2 : ¬ g (12 + b) = -6 → sm (morF g o b) 6 = touchS g o b := fun q => mor_touch hV (by omega) o q
        have hc := hV.c b (by omega)
        have hbl := hV.bl b (by omega)
        generalize hNN : blowN g o b = N at *
        have hbk := hok_bk hNk
        generalize hmm : sm (morF g o b) 6 = mm at *
        have h4b := h4 b (by omega)
        rw [hmm] at h4b
        have ih := ih (b + 1)
        generalize blowN g o (b + 1) = N1 at *
        have fin : ∀ v : Int, v = (if 9 < g (18 + b) + mm then 9 else g (18 + b) + mm) → Rn k_Md_blow none (0, 0) 179 [some (.ref 47), some (.int (iI o)), some (.int (iI b)), x3, x4] [.int (iI v)] SH Mc (w_FI (0, 0) SH Q) := by
          intro v hv
          have hcame : ∀ N2 : Nat → Int, (∀ x, x < 6 → x ≠ b → N2 (18 + x) = N (18 + x)) → N2 (18 + b) = v → c0 + (chipS N 6 - chipS g 6) + (v - g (18 + b)) = c0 + (chipS N2 6 - chipS g 6) := by
            intro N2 q1 q2
            rw [chipS_up q1 6 (Nat.le_refl _), if_pos (by omega), q2, n18]; omega
          refine Rn.istore_n (lv1 := [_, _, _, _, _]) d_Md_blow_179 (by decide) (w_pv rfl) rfl ?_
          refine Rn.aload_n d_Md_blow_180 rfl ?_
          refine Rn.dup d_Md_blow_181 rfl ?_
          refine In.getI d_Md_blow_182 f_Md_came g_656 z_Md h6 ?_
          refine Rn.iload_n d_Md_blow_185 rfl ?_
          refine Rn.aload_n d_Md_blow_186 rfl ?_
          refine Rn.getR d_Md_blow_187 f_Md_now g_651 z_Md (r_Md_now (by assumption)) ?_
          refine Rn.bipush (v := iI 18) d_Md_blow_190 (by decide +kernel) ?_
          refine Rn.iload_n d_Md_blow_192 rfl ?_
          refine In.add d_Md_blow_193 ?_
          refine In.ald d_Md_blow_194 z_Md_now (by omega) (by omega) (by decide) ((h3 (18 + b) (by omega)).trans (by rw [n18])) ?_
          refine In.sub d_Md_blow_195 ?_
          refine In.add d_Md_blow_196 ?_
          refine In.putI d_Md_blow_197 f_Md_came g_656 z_Md ?_
          refine Rn.aload_n d_Md_blow_200 rfl ?_
          refine Rn.getR d_Md_blow_201 f_Md_now g_651 z_Md (r_Md_now (by assumption)) ?_
          refine Rn.bipush (v := iI 18) d_Md_blow_204 (by decide +kernel) ?_
          refine Rn.iload_n d_Md_blow_206 rfl ?_
          refine In.add d_Md_blow_207 ?_
          refine Rn.iload_n d_Md_blow_208 rfl ?_
          refine In.ast d_Md_blow_209 z_Md_now (show ((18 : Int) + b) = ((18 + b : Nat) : Int) by omega) (by omega) (by decide) ?_
          refine Rn.aload_n d_Md_blow_210 rfl ?_
          refine Rn.getR d_Md_blow_211 f_Md_more g_659 z_Md (r_Md_more (by assumption)) ?_
          refine Rn.iload_n d_Md_blow_214 rfl ?_
          refine In.ald d_Md_blow_215 z_Md_more rfl (by omega) (by decide) (by rw [w_ui_off _ _ _ _ _ (by decide), w_ui_off _ _ _ _ _ (by decide)]; exact h4b) ?_
          have hK : Kp M (w_ui (w_ui Mc 47 6 (iI (c0 + (chipS N 6 - chipS g 6) + (v - g (18 + b))))) 49 (18 + b) (iI v)) := (h2.tr (Kp.fl (by omega))).tr (Kp.ui (by omega))
          have hNw : nwA (w_ui (w_ui Mc 47 6 (iI (c0 + (chipS N 6 - chipS g 6) + (v - g (18 + b))))) 49 (18 + b) (iI v)) (up N (18 + b) v) := (h3.ui (by decide)).up
          have h4' : ∀ j, j < 6 → (w_ui (w_ui Mc 47 6 (iI (c0 + (chipS N 6 - chipS g 6) + (v - g (18 + b))))) 49 (18 + b) (iI v)).1 52 j = iI (sm (morF g o j) 6 : Nat) := fun j hj => by
            rw [w_ui_off _ _ _ _ _ (by decide), w_ui_off _ _ _ _ _ (by decide)]; exact h4 j hj
          have h5' : ∀ i, i ≠ 6 → (w_ui (w_ui Mc 47 6 (iI (c0 + (chipS N 6 - chipS g 6) + (v - g (18 + b))))) 49 (18 + b) (iI v)).1 47 i = M.1 47 i := fun i hi => by
            rw [w_ui_off _ _ _ _ _ (by decide), w_ui_if, if_neg (by omega)]; exact h5 i hi
          have h6' : (w_ui (w_ui Mc 47 6 (iI (c0 + (chipS N 6 - chipS g 6) + (v - g (18 + b))))) 49 (18 + b) (iI v)).1 47 6 = iI (c0 + (chipS N 6 - chipS g 6) + (v - g (18 + b))) := by
            rw [w_ui_off _ _ _ _ _ (by decide), w_ui_if, if_pos ⟨rfl, rfl⟩]
          generalize (w_ui (w_ui Mc 47 6 (iI (c0 + (chipS N 6 - chipS g 6) + (v - g (18 + b))))) 49 (18 + b) (iI v)) = Md at *
          have hGd := hK.G hG
          have skip : ¬ (0 < mm ∧ v = 9) → Rn k_Md_blow none (0, 0) 249 [some (.ref 47), some (.int (iI o)), some (.int (iI b)), some (.int (iI v)), x4] [] SH Md (w_FI (0, 0) SH Q) := by
            intro hs
            refine In.inc (lv1 := [_, _, _, _, _]) d_Md_blow_249 rfl (by decide) (w_pv rfl) rfl ?_
            refine Rn.goto (tgt := 131) d_Md_blow_252 (by decide) ?_
            have e : ∀ k, N1 k = up N (18 + b) v k := by
              intro k
              by_cases q : g (12 + b) = -6
              · have := hm1 q
                rw [b1 q]
                by_cases e : k = 18 + b
                · subst e; rw [up_at, n18, hv, if_neg (by omega)]; omega
                · rw [up_ne _ _ _ _ e]
              · have := hm2 q
                have q9 : g (18 + b) ≠ 9 := fun e => q (hbl e)
                have hlt : g (18 + b) + mm < 9 := by
                  refine Decidable.byContradiction fun hge => hs ⟨by omega, ?_⟩
                  rw [hv]; split <;> omega
                rw [b2 q, chipF_same hNk (by omega) (by rw [n12]; exact q), n18, ← this, if_pos hlt, hv, if_neg (by omega)]
            refine ih _ _ _ (by omega) hK (hNw.cg (fun k _ => e k)) h4' h5' ?_
            rw [h6', hcame N1 (fun x _ hx => by rw [e, up_ne _ _ _ _ (by omega)]) (by rw [e, up_at])]
          refine In.if_le (tgt := 249) d_Md_blow_216 (by decide) ⟨by omega, by omega⟩ (fun c216 => ?_) (fun c216 => ?_)
          · exact skip (by omega)
          · refine Rn.iload_n d_Md_blow_219 rfl ?_
            refine Rn.bipush (v := iI 9) d_Md_blow_220 (by decide +kernel) ?_
            refine In.icmp_ne (tgt := 249) d_Md_blow_222 (by decide) ⟨by omega, by omega⟩ ⟨by omega, by omega⟩ (fun c222 => ?_) (fun c222 => ?_)
            · exact skip (by omega)
            · refine Rn.aload_n d_Md_blow_225 rfl ?_
              refine Rn.getR d_Md_blow_226 f_Md_now g_651 z_Md (r_Md_now (by assumption)) ?_
              refine Rn.bipush (v := iI 24) d_Md_blow_229 (by decide +kernel) ?_
              refine Rn.dup2 d_Md_blow_231 rfl rfl ?_
              refine In.ald d_Md_blow_232 z_Md_now rfl (by decide) (by decide) ((hNw 24 (by decide)).trans (by rw [up_ne _ _ _ _ (by omega), hbk.1])) ?_
              refine Rn.iconst (v := iI 1) d_Md_blow_233 rfl ?_
              refine Rn.iload_n d_Md_blow_234 rfl ?_
              refine In.shl rfl (by omega) d_Md_blow_235 ?_
              refine In.or rfl rfl d_Md_blow_236 ?_
              refine In.ast d_Md_blow_237 z_Md_now rfl (by decide) (by decide) ?_
              refine Rn.aload_n d_Md_blow_238 rfl ?_
              refine Rn.getR d_Md_blow_239 f_Md_now g_651 z_Md (r_Md_now (by assumption)) ?_
              refine Rn.bipush (v := iI 12) d_Md_blow_242 (by decide +kernel) ?_
              refine Rn.iload_n d_Md_blow_244 rfl ?_
              refine In.add d_Md_blow_245 ?_
              refine Rn.bipush (v := iI (-6)) d_Md_blow_246 (by decide +kernel) ?_
              refine In.ast d_Md_blow_248 z_Md_now (show ((12 : Int) + b) = ((12 + b : Nat) : Int) by omega) (by omega) (by decide) ?_
              refine In.inc (lv1 := [_, _, _, _, _]) d_Md_blow_249 rfl (by decide) (w_pv rfl) rfl ?_
              refine Rn.goto (tgt := 131) d_Md_blow_252 (by decide) ?_
              have q : ¬ g (12 + b) = -6 := fun q => by have := hm1 q; omega
              have := hm2 q
              have e : ∀ k, N1 k = up (up (up N (18 + b) v) 24 ((bk N ||| 2 ^ b : Nat) : Int)) (12 + b) (-6) k := by
                intro k
                have hge : ¬ g (18 + b) + mm < 9 := by
                  intro hlt
                  have : v = g (18 + b) + mm := by rw [hv, if_neg (by omega)]
                  omega
                rw [b2 q, chipF_same hNk (by omega) (by rw [n12]; exact q), n18, ← this, if_neg hge, c222]
              refine ih _ _ _ (by omega) ((hK.tr (Kp.ui (by omega))).tr (Kp.ui (by omega))) (hNw.up.up.cg (fun k _ => e k)) (fun j hj => by rw [w_ui_off _ _ _ _ _ (by decide), w_ui_off _ _ _ _ _ (by decide)]; exact h4' j hj) (fun i hi => by rw [w_ui_off _ _ _ _ _ (by decide), w_ui_off _ _ _ _ _ (by decide)]; exact h5' i hi) ?_
              rw [w_ui_off _ _ _ _ _ (by decide), w_ui_off _ _ _ _ _ (by decide), h6', hcame N1 (fun x _ hx => by rw [e, up_ne _ _ _ _ (by omega), up_ne _ _ _ _ (by omega), up_ne _ _ _ _ (by omega)]) (by rw [e, up_ne _ _ _ _ (by omega), up_ne _ _ _ _ (by omega), up_at])]
        refine Rn.iload_n d_Md_blow_131 rfl ?_
        refine Rn.bipush (v := iI 6) d_Md_blow_132 (by decide +kernel) ?_
        refine In.icmp_ge (tgt := 255) d_Md_blow_134 (by decide) ⟨by omega, by omega⟩ ⟨by omega, by omega⟩ (fun c134 => ?_) (fun c134 => ?_)
        · omega
        · refine Rn.aload_n d_Md_blow_137 rfl ?_
          refine Rn.getR d_Md_blow_138 f_Md_now g_651 z_Md (r_Md_now (by assumption)) ?_
          refine Rn.bipush (v := iI 18) d_Md_blow_141 (by decide +kernel) ?_
          refine Rn.iload_n d_Md_blow_143 rfl ?_
          refine In.add d_Md_blow_144 ?_
          refine In.ald d_Md_blow_145 z_Md_now (by omega) (by omega) (by decide) ((h3 (18 + b) (by omega)).trans (by rw [n18])) ?_
          refine Rn.aload_n d_Md_blow_146 rfl ?_
          refine Rn.getR d_Md_blow_147 f_Md_more g_659 z_Md (r_Md_more (by assumption)) ?_
          refine Rn.iload_n d_Md_blow_150 rfl ?_
          refine In.ald d_Md_blow_151 z_Md_more rfl (by omega) (by decide) h4b ?_
          refine In.add d_Md_blow_152 ?_
          refine Rn.bipush (v := iI 9) d_Md_blow_153 (by decide +kernel) ?_
          refine In.icmp_le (tgt := 163) d_Md_blow_155 (by decide) ⟨by omega, by omega⟩ ⟨by omega, by omega⟩ (fun c155 => ?_) (fun c155 => ?_)
          · refine Rn.aload_n d_Md_blow_163 rfl ?_
            refine Rn.getR d_Md_blow_164 f_Md_now g_651 z_Md (r_Md_now (by assumption)) ?_
            refine Rn.bipush (v := iI 18) d_Md_blow_167 (by decide +kernel) ?_
            refine Rn.iload_n d_Md_blow_169 rfl ?_
            refine In.add d_Md_blow_170 ?_
            refine In.ald d_Md_blow_171 z_Md_now (by omega) (by omega) (by decide) ((h3 (18 + b) (by omega)).trans (by rw [n18])) ?_
            refine Rn.aload_n d_Md_blow_172 rfl ?_
            refine Rn.getR d_Md_blow_173 f_Md_more g_659 z_Md (r_Md_more (by assumption)) ?_
            refine Rn.iload_n d_Md_blow_176 rfl ?_
            refine In.ald d_Md_blow_177 z_Md_more rfl (by omega) (by decide) h4b ?_
            refine In.add d_Md_blow_178 ?_
            exact fin _ (by rw [if_neg (by omega)])
          · refine Rn.bipush (v := iI 9) d_Md_blow_158 (by decide +kernel) ?_
            refine Rn.goto (tgt := 179) d_Md_blow_160 (by decide) ?_
            exact fin _ (by rw [if_pos (by omega)])
    have loop1 : ∀ (d b : Nat) (Mc : wM) (x3 x4 : Option Value), b + d = 6 → Kp M Mc → nwA Mc g → Mc.1 47 = M.1 47 → (∀ j, j < b → Mc.1 52 j = iI (sm (morF g o j) 6 : Nat)) → Rn k_Md_blow none (0, 0) 15 [some (.ref 47), some (.int (iI o)), some (.int (iI b)), x3, x4] [] SH Mc (w_FI (0, 0) SH Q) := by
      intro d
      induction d with
      | zero =>
        intro b Mc x3 x4 h1 h2 h3 h4 h5
        have : b = 6 := by omega
        subst this
        refine Rn.iload_n d_Md_blow_15 rfl ?_
        refine Rn.bipush (v := iI 6) d_Md_blow_16 (by decide +kernel) ?_
        refine In.icmp_ge (tgt := 129) d_Md_blow_18 (by decide) ⟨by omega, by omega⟩ ⟨by omega, by omega⟩ (fun c18 => ?_) (fun c18 => ?_)
        · refine Rn.iconst (v := iI 0) d_Md_blow_129 rfl ?_
          refine Rn.istore_n (lv1 := [_, _, _, _, _]) d_Md_blow_130 (by decide) (w_pv rfl) rfl ?_
          exact loop2 6 0 _ _ _ rfl h2 h3 h5 (fun i _ => by rw [h4]) (by rw [h4, hc0]; congr 1; simp only [blowN]; omega)
        · omega
      | succ d ih =>
        intro b Mc x3 x4 h1 h2 h3 h4 h5
        have hGc := h2.G hG
        have hlb := hV.l b (by omega)
        refine Rn.iload_n d_Md_blow_15 rfl ?_
        refine Rn.bipush (v := iI 6) d_Md_blow_16 (by decide +kernel) ?_
        refine In.icmp_ge (tgt := 129) d_Md_blow_18 (by decide) ⟨by omega, by omega⟩ ⟨by omega, by omega⟩ (fun c18 => ?_) (fun c18 => ?_)
        · omega
        · refine Rn.aload_n d_Md_blow_21 rfl ?_
          refine Rn.getR d_Md_blow_22 f_Md_more g_659 z_Md (r_Md_more (by assumption)) ?_
          refine Rn.iload_n d_Md_blow_25 rfl ?_
          refine Rn.iconst (v := iI 0) d_Md_blow_26 rfl ?_
          refine In.ast d_Md_blow_27 z_Md_more rfl (by omega) (by decide) ?_
          refine Rn.iconst (v := iI 0) d_Md_blow_28 rfl ?_
          refine Rn.istore_n (lv1 := [_, _, _, _, _]) d_Md_blow_29 (by decide) (w_pv rfl) rfl ?_
          have inner : ∀ (e x : Nat) (Me : wM) (y4 : Option Value), x + e = 6 → Kp M Me → nwA Me g → Me.1 47 = M.1 47 → (∀ j, j < b → Me.1 52 j = iI (sm (morF g o j) 6 : Nat)) → Me.1 52 b = iI (sm (morF g o b) x : Nat) → Rn k_Md_blow none (0, 0) 30 [some (.ref 47), some (.int (iI o)), some (.int (iI b)), some (.int (iI x)), y4] [] SH Me (w_FI (0, 0) SH Q) := by
            intro e
            induction e with
            | zero =>
              intro x Me y4 k1 k2 k3 k4 k5 k6
              have : x = 6 := by omega
              subst this
              refine Rn.iload_n d_Md_blow_30 rfl ?_
              refine Rn.bipush (v := iI 6) d_Md_blow_31 (by decide +kernel) ?_
              refine In.icmp_ge (tgt := 123) d_Md_blow_33 (by decide) ⟨by omega, by omega⟩ ⟨by omega, by omega⟩ (fun c33 => ?_) (fun c33 => ?_)
              · refine In.inc (lv1 := [_, _, _, _, _]) d_Md_blow_123 rfl (by decide) (w_pv rfl) rfl ?_
                refine Rn.goto (tgt := 15) d_Md_blow_126 (by decide) ?_
                refine ih (b + 1) Me _ _ (by omega) k2 k3 k4 (fun j hj => ?_)
                by_cases ej : j = b
                · subst ej; exact k6
                · exact k5 j (by omega)
              · omega
            | succ e ihe =>
              intro x Me y4 k1 k2 k3 k4 k5 k6
              have hGe := k2.G hG
              have hlx := hV.l x (by omega)
              have ihe := ihe (x + 1)
              have es : ((sm (morF g o b) (x + 1) : Nat) : Int) = (sm (morF g o b) x : Nat) + (morF g o b x : Nat) := by rw [sm_s]; omega
              have fin : ∀ (v : Nat) (z4 : Option Value), morF g o b x = v → Rn k_Md_blow none (0, 0) 115 [some (.ref 47), some (.int (iI o)), some (.int (iI b)), some (.int (iI x)), z4] [.int (iI v), .int (iI (sm (morF g o b) x : Nat)), .int (iI b), .ref 52] SH Me (w_FI (0, 0) SH Q) := by
                intro v z4 hv
                rw [hv] at es
                refine In.add d_Md_blow_115 ?_
                refine In.ast d_Md_blow_116 z_Md_more rfl (by omega) (by decide) ?_
                refine In.inc (lv1 := [_, _, _, _, _]) d_Md_blow_117 rfl (by decide) (w_pv rfl) rfl ?_
                refine Rn.goto (tgt := 30) d_Md_blow_120 (by decide) ?_
                refine ihe _ _ (by omega) (k2.tr (Kp.ui (by omega))) (k3.ui (by decide)) (by rw [w_ui_off _ _ _ _ _ (by decide)]; exact k4) (fun j hj => by rw [w_ui_if, if_neg (by omega)]; exact k5 j hj) ?_
                rw [w_ui_if, if_pos ⟨rfl, rfl⟩, es]
              have none0 : morF g o b x = 0 → Rn k_Md_blow none (0, 0) 69 [some (.ref 47), some (.int (iI o)), some (.int (iI b)), some (.int (iI x)), y4] [] SH Me (w_FI (0, 0) SH Q) := by
                intro hv
                refine Rn.iconst (v := iI 0) d_Md_blow_69 rfl ?_
                refine Rn.istore (lv1 := [_, _, _, _, _]) d_Md_blow_70 (by decide) (w_pv rfl) rfl ?_
                refine Rn.aload_n d_Md_blow_72 rfl ?_
                refine Rn.getR d_Md_blow_73 f_Md_more g_659 z_Md (r_Md_more (by assumption)) ?_
                refine Rn.iload_n d_Md_blow_76 rfl ?_
                refine Rn.dup2 d_Md_blow_77 rfl rfl ?_
                refine In.ald d_Md_blow_78 z_Md_more rfl (by omega) (by decide) k6 ?_
                refine Rn.iload d_Md_blow_79 rfl ?_
                refine In.if_eq (tgt := 114) d_Md_blow_81 (by decide) ⟨by omega, by omega⟩ (fun c81 => ?_) (fun c81 => ?_)
                · refine Rn.iconst (v := iI 0) d_Md_blow_114 rfl ?_
                  exact fin 0 _ hv
                · omega
              refine Rn.iload_n d_Md_blow_30 rfl ?_
              refine Rn.bipush (v := iI 6) d_Md_blow_31 (by decide +kernel) ?_
              refine In.icmp_ge (tgt := 123) d_Md_blow_33 (by decide) ⟨by omega, by omega⟩ ⟨by omega, by omega⟩ (fun c33 => ?_) (fun c33 => ?_)
              · omega
              · refine Rn.iload_n d_Md_blow_36 rfl ?_
                refine Rn.iload_n d_Md_blow_37 rfl ?_
                refine In.icmp_eq (tgt := 69) d_Md_blow_38 (by decide) ⟨by omega, by omega⟩ ⟨by omega, by omega⟩ (fun c38 => ?_) (fun c38 => ?_)
                · exact none0 (by unfold morF; rw [if_neg (by omega)])
                · refine Rn.aload_n d_Md_blow_41 rfl ?_
                  refine Rn.getR d_Md_blow_42 f_Md_now g_651 z_Md (r_Md_now (by assumption)) ?_
                  refine Rn.bipush (v := iI 12) d_Md_blow_45 (by decide +kernel) ?_
                  refine Rn.iload_n d_Md_blow_47 rfl ?_
                  refine In.add d_Md_blow_48 ?_
                  refine In.ald d_Md_blow_49 z_Md_now (by omega) (by omega) (by decide) (k3 (12 + b) (by omega)) ?_
                  refine In.if_lt (tgt := 69) d_Md_blow_50 (by decide) ⟨by omega, by omega⟩ (fun c50 => ?_) (fun c50 => ?_)
                  · exact none0 (by unfold morF; rw [if_neg (by omega)])
                  · refine Rn.aload_n d_Md_blow_53 rfl ?_
                    refine Rn.getR d_Md_blow_54 f_Md_now g_651 z_Md (r_Md_now (by assumption)) ?_
                    refine Rn.bipush (v := iI 12) d_Md_blow_57 (by decide +kernel) ?_
                    refine Rn.iload_n d_Md_blow_59 rfl ?_
                    refine In.add d_Md_blow_60 ?_
                    refine In.ald d_Md_blow_61 z_Md_now (by omega) (by omega) (by decide) (k3 (12 + x) (by omega)) ?_
                    refine In.if_lt (tgt := 69) d_Md_blow_62 (by decide) ⟨by omega, by omega⟩ (fun c62 => ?_) (fun c62 => ?_)
                    · exact none0 (by unfold morF; rw [if_neg (by omega)])
                    · obtain ⟨u, hu⟩ : ∃ u : Nat, g (12 + b) = u := ⟨(g (12 + b)).toNat, by omega⟩
                      obtain ⟨w, hw⟩ : ∃ u : Nat, g (12 + x) = u := ⟨(g (12 + x)).toNat, by omega⟩
                      have hd := dist_22 hV.t (show u < 12 by omega) (show w < 12 by omega)
                      have m1 : dist g u w ≤ o → morF g o b x = 1 := fun q => by
                        unfold morF; rw [hu, hw, if_pos ⟨by omega, by simp only [Int.toNat_natCast]; omega⟩]
                      have m0 : ¬ dist g u w ≤ o → morF g o b x = 0 := fun q => by
                        unfold morF; rw [hu, hw, if_neg (fun k => q (by have := k.2; simp only [Int.toNat_natCast] at this; omega))]
                      refine Rn.iconst (v := iI 1) d_Md_blow_65 rfl ?_
                      refine Rn.goto (tgt := 70) d_Md_blow_66 (by decide) ?_
                      refine Rn.istore (lv1 := [_, _, _, _, _]) d_Md_blow_70 (by decide) (w_pv rfl) rfl ?_
                      refine Rn.aload_n d_Md_blow_72 rfl ?_
                      refine Rn.getR d_Md_blow_73 f_Md_more g_659 z_Md (r_Md_more (by assumption)) ?_
                      refine Rn.iload_n d_Md_blow_76 rfl ?_
                      refine Rn.dup2 d_Md_blow_77 rfl rfl ?_
                      refine In.ald d_Md_blow_78 z_Md_more rfl (by omega) (by decide) k6 ?_
                      refine Rn.iload d_Md_blow_79 rfl ?_
                      refine In.if_eq (tgt := 114) d_Md_blow_81 (by decide) ⟨by omega, by omega⟩ (fun c81 => ?_) (fun c81 => ?_)
                      · omega
                      · refine Rn.aload_n d_Md_blow_84 rfl ?_
                        refine Rn.aload_n d_Md_blow_85 rfl ?_
                        refine Rn.getR d_Md_blow_86 f_Md_now g_651 z_Md (r_Md_now (by assumption)) ?_
                        refine Rn.bipush (v := iI 12) d_Md_blow_89 (by decide +kernel) ?_
                        refine Rn.iload_n d_Md_blow_91 rfl ?_
                        refine In.add d_Md_blow_92 ?_
                        refine In.ald d_Md_blow_93 z_Md_now (by omega) (by omega) (by decide) ((k3 (12 + b) (by omega)).trans (by rw [hu])) ?_
                        refine Rn.aload_n d_Md_blow_94 rfl ?_
                        refine Rn.getR d_Md_blow_95 f_Md_now g_651 z_Md (r_Md_now (by assumption)) ?_
                        refine Rn.bipush (v := iI 12) d_Md_blow_98 (by decide +kernel) ?_
                        refine Rn.iload_n d_Md_blow_100 rfl ?_
                        refine In.add d_Md_blow_101 ?_
                        refine In.ald d_Md_blow_102 z_Md_now (by omega) (by omega) (by decide) ((k3 (12 + x) (by omega)).trans (by rw [hw])) ?_
                        refine Rn.cVI d_Md_blow_103 s_Md_blow_Md_apartOf g_769 g_771 gs_18 ⟨rfl, rfl⟩ ⟨Nat.zero_le _, Nat.zero_le _⟩ (m_Md_apartOf hGe k3 hV.t (show u < 12 by omega) (show w < 12 by omega)) rfl rfl z_Md c_Md (Nat.le_of_ble_eq_true rfl) (fun rr MM qq => ?_)
                        obtain ⟨rfl, rfl⟩ := And.imp id Eq.symm qq; clear qq
                        refine Rn.iload_n d_Md_blow_106 rfl ?_
                        refine In.icmp_gt (tgt := 114) d_Md_blow_107 (by decide) ⟨by omega, by omega⟩ ⟨by omega, by omega⟩ (fun c107 => ?_) (fun c107 => ?_)
                        · refine Rn.iconst (v := iI 0) d_Md_blow_114 rfl ?_
                          exact fin 0 _ (m0 (by omega))
                        · refine Rn.iconst (v := iI 1) d_Md_blow_110 rfl ?_
                          refine Rn.goto (tgt := 115) d_Md_blow_111 (by decide) ?_
                          exact fin 1 _ (m1 (by omega))
          refine inner 6 0 _ _ rfl (h2.tr (Kp.ui (by omega))) (h3.ui (by decide)) (by rw [w_ui_off _ _ _ _ _ (by decide)]; exact h4) (fun j hj => by rw [w_ui_if, if_neg (by omega)]; exact h5 j hj) (by rw [w_ui_if, if_pos ⟨rfl, rfl⟩]; rfl)
    refine Rn.iconst (v := iI 0) d_Md_blow_13 rfl ?_
    refine Rn.istore_n (lv1 := [_, _, _, _, _]) d_Md_blow_14 (by decide) (w_pv rfl) rfl ?_
    exact loop1 6 0 M _ _ rfl Kp.rf hN rfl (fun j hj => by omega)
  · have w := w2 (by omega)
    have wa : actG g 2 o p = g := by unfold actG; rw [if_neg (by omega)]
    rw [w, wa]
    refine Rn.iconst (v := iI 4) d_Md_blow_11 rfl ?_
    exact Rn.iret d_Md_blow_12 rfl rfl ⟨rfl, Act1.rf hN⟩
