/-! The law, case by case. -/
set_option maxRecDepth 20000
set_option maxHeartbeats 400000
/-- both hold the same, in order -/
def INV (M : wM) : Prop := M.2.2 = RG ∧ ∃ β n σ m τ I J, clsAt M β n σ m τ I J ∧ mdA M β n σ m τ I J ∧ aLok β n σ m τ I J
theorem jI_of (x : Int64) : x = jI x.toInt := (Int64.ofInt_toInt x).symm
theorem jI_rg (x : Int64) : -9223372036854775808 ≤ x.toInt ∧ x.toInt < 9223372036854775808 := ⟨x.le_toInt, x.toInt_lt⟩
theorem law_0 {L b0 k : Nat} {xs : Nat → Int32} {M : wM} {Q : Option Value → wSh → wM → Nat × Nat → Prop} (hL : L ≤ 448) (hk : k + 7 ≤ L) (hI : INV M) (cont : ∀ M', INV M' → Rn k_Law_law (some (L, xs, b0)) (58, 2282) 846 [some (.ref w_scr), some (.ref 0), some (.ref 47), some (.int (iI k))] [] SH M' Q) : Rn k_Law_law (some (L, xs, b0)) (58, 2282) 148 [some (.ref w_scr), some (.ref 0), some (.ref 47), some (.int (iI k))] [] SH M Q := by
  obtain ⟨hG, β, n, σ, m, τ, I, J, hA, hB, hV⟩ := hI
  refine Rn.aload_n d_Law_law_148 rfl ?_
  refine Rn.aload_n d_Law_law_149 rfl ?_
  refine Rn.iload_n d_Law_law_150 rfl ?_
  refine Rn.iconst (v := iI 1) d_Law_law_151 rfl ?_
  refine In.add d_Law_law_152 ?_
  refine In.sld rfl d_Law_law_153 (show ((k : Int) + 1) = ((k + 1 : Nat) : Int) by omega) (by omega) (by omega) ?_
  refine Rn.aload_n d_Law_law_154 rfl ?_
  refine Rn.iload_n d_Law_law_155 rfl ?_
  refine Rn.iconst (v := iI 2) d_Law_law_156 rfl ?_
  refine In.add d_Law_law_157 ?_
  refine In.sld rfl d_Law_law_158 (show ((k : Int) + 2) = ((k + 2 : Nat) : Int) by omega) (by omega) (by omega) ?_
  refine Rn.cVI d_Law_law_159 s_Law_law_BH_branch g_214 g_215 g_216 ⟨rfl, rfl⟩ ⟨by decide, by decide⟩ (m_BH_branch (l := (xs (k + 1)).toInt) (p := (xs (k + 2)).toInt) hG hA hV (iI_rg _) (iI_rg _) ) rfl rfl z_BH c_BH (Nat.le_of_ble_eq_true rfl) (fun r1 M1 q1 => ?_)
  obtain ⟨e1, hA1, hO1⟩ := q1
  have hG1 := hO1.G hG
  have hB1 := hB.cl hO1
  refine Rn.aload_n d_Law_law_162 rfl ?_
  refine Rn.aload_n d_Law_law_163 rfl ?_
  refine Rn.iload_n d_Law_law_164 rfl ?_
  refine Rn.iconst (v := iI 1) d_Law_law_165 rfl ?_
  refine In.add d_Law_law_166 ?_
  refine In.sld rfl d_Law_law_167 (show ((k : Int) + 1) = ((k + 1 : Nat) : Int) by omega) (by omega) (by omega) ?_
  refine Rn.aload_n d_Law_law_168 rfl ?_
  refine Rn.iload_n d_Law_law_169 rfl ?_
  refine Rn.iconst (v := iI 2) d_Law_law_170 rfl ?_
  refine In.add d_Law_law_171 ?_
  refine In.sld rfl d_Law_law_172 (show ((k : Int) + 2) = ((k + 2 : Nat) : Int) by omega) (by omega) (by omega) ?_
  refine Rn.cVI d_Law_law_173 s_Law_law_Md_branch g_704 g_705 g_706 ⟨rfl, rfl⟩ ⟨by decide, by decide⟩ (m_Md_branch (l := (xs (k + 1)).toInt) (p := (xs (k + 2)).toInt) hG1 hB1 hV (iI_rg _) (iI_rg _) ) rfl rfl z_Md c_Md (Nat.le_of_ble_eq_true rfl) (fun r2 M2 q2 => ?_)
  obtain ⟨e2, hB2, hO2⟩ := q2
  have hA2 := hA1.md hO2
  have hG2 := hO2.G hG1
  rw [show r2 = r1 from e2.trans e1.symm]
  rw [iI_of r1]
  refine In.icmp_eq (tgt := 846) d_Law_law_176 (by decide) (iI_rg r1) (iI_rg r1) (fun c176 => ?_) (fun c176 => ?_)
  · exact cont _ ⟨hG2, _, _, _, _, _, _, _, hA2, hB2, ⟨ok_branch hV.1 _ _, hV.2⟩⟩
  · exact absurd rfl c176
theorem law_1 {L b0 k : Nat} {xs : Nat → Int32} {M : wM} {Q : Option Value → wSh → wM → Nat × Nat → Prop} (hL : L ≤ 448) (hk : k + 7 ≤ L) (hI : INV M) (cont : ∀ M', INV M' → Rn k_Law_law (some (L, xs, b0)) (58, 2282) 846 [some (.ref w_scr), some (.ref 0), some (.ref 47), some (.int (iI k))] [] SH M' Q) : Rn k_Law_law (some (L, xs, b0)) (58, 2282) 181 [some (.ref w_scr), some (.ref 0), some (.ref 47), some (.int (iI k))] [] SH M Q := by
  obtain ⟨hG, β, n, σ, m, τ, I, J, hA, hB, hV⟩ := hI
  refine Rn.aload_n d_Law_law_181 rfl ?_
  refine Rn.aload_n d_Law_law_182 rfl ?_
  refine Rn.iload_n d_Law_law_183 rfl ?_
  refine Rn.iconst (v := iI 1) d_Law_law_184 rfl ?_
  refine In.add d_Law_law_185 ?_
  refine In.sld rfl d_Law_law_186 (show ((k : Int) + 1) = ((k + 1 : Nat) : Int) by omega) (by omega) (by omega) ?_
  refine Rn.aload_n d_Law_law_187 rfl ?_
  refine Rn.iload_n d_Law_law_188 rfl ?_
  refine Rn.iconst (v := iI 2) d_Law_law_189 rfl ?_
  refine In.add d_Law_law_190 ?_
  refine In.sld rfl d_Law_law_191 (show ((k : Int) + 2) = ((k + 2 : Nat) : Int) by omega) (by omega) (by omega) ?_
  refine Rn.aload_n d_Law_law_192 rfl ?_
  refine Rn.iload_n d_Law_law_193 rfl ?_
  refine Rn.iconst (v := iI 3) d_Law_law_194 rfl ?_
  refine In.add d_Law_law_195 ?_
  refine In.sld rfl d_Law_law_196 (show ((k : Int) + 3) = ((k + 3 : Nat) : Int) by omega) (by omega) (by omega) ?_
  refine Rn.cVI d_Law_law_197 s_Law_law_BH_ball g_233 g_234 g_235 ⟨rfl, rfl⟩ ⟨by decide, by decide⟩ (m_BH_ball (b := (xs (k + 1)).toInt) (l := (xs (k + 2)).toInt) (c := (xs (k + 3)).toInt) hG hA hV (iI_rg _) (iI_rg _) (iI_rg _) ) rfl rfl z_BH c_BH (Nat.le_of_ble_eq_true rfl) (fun r1 M1 q1 => ?_)
  obtain ⟨e1, hA1, hO1⟩ := q1
  have hG1 := hO1.G hG
  have hB1 := hB.cl hO1
  refine Rn.aload_n d_Law_law_200 rfl ?_
  refine Rn.aload_n d_Law_law_201 rfl ?_
  refine Rn.iload_n d_Law_law_202 rfl ?_
  refine Rn.iconst (v := iI 1) d_Law_law_203 rfl ?_
  refine In.add d_Law_law_204 ?_
  refine In.sld rfl d_Law_law_205 (show ((k : Int) + 1) = ((k + 1 : Nat) : Int) by omega) (by omega) (by omega) ?_
  refine Rn.aload_n d_Law_law_206 rfl ?_
  refine Rn.iload_n d_Law_law_207 rfl ?_
  refine Rn.iconst (v := iI 2) d_Law_law_208 rfl ?_
  refine In.add d_Law_law_209 ?_
  refine In.sld rfl d_Law_law_210 (show ((k : Int) + 2) = ((k + 2 : Nat) : Int) by omega) (by omega) (by omega) ?_
  refine Rn.aload_n d_Law_law_211 rfl ?_
  refine Rn.iload_n d_Law_law_212 rfl ?_
  refine Rn.iconst (v := iI 3) d_Law_law_213 rfl ?_
  refine In.add d_Law_law_214 ?_
  refine In.sld rfl d_Law_law_215 (show ((k : Int) + 3) = ((k + 3 : Nat) : Int) by omega) (by omega) (by omega) ?_
  refine Rn.cVI d_Law_law_216 s_Law_law_Md_ball g_711 g_712 g_713 ⟨rfl, rfl⟩ ⟨by decide, by decide⟩ (m_Md_ball (b := (xs (k + 1)).toInt) (l := (xs (k + 2)).toInt) (c := (xs (k + 3)).toInt) hG1 hB1 hV (iI_rg _) (iI_rg _) (iI_rg _) ) rfl rfl z_Md c_Md (Nat.le_of_ble_eq_true rfl) (fun r2 M2 q2 => ?_)
  obtain ⟨e2, hB2, hO2⟩ := q2
  have hA2 := hA1.md hO2
  have hG2 := hO2.G hG1
  rw [show r2 = r1 from e2.trans e1.symm]
  rw [iI_of r1]
  refine In.icmp_eq (tgt := 846) d_Law_law_219 (by decide) (iI_rg r1) (iI_rg r1) (fun c219 => ?_) (fun c219 => ?_)
  · exact cont _ ⟨hG2, _, _, _, _, _, _, _, hA2, hB2, ⟨ok_ball hV.1 _ _ _, hV.2⟩⟩
  · exact absurd rfl c219
theorem law_2 {L b0 k : Nat} {xs : Nat → Int32} {M : wM} {Q : Option Value → wSh → wM → Nat × Nat → Prop} (hL : L ≤ 448) (hk : k + 7 ≤ L) (hI : INV M) (cont : ∀ M', INV M' → Rn k_Law_law (some (L, xs, b0)) (58, 2282) 846 [some (.ref w_scr), some (.ref 0), some (.ref 47), some (.int (iI k))] [] SH M' Q) : Rn k_Law_law (some (L, xs, b0)) (58, 2282) 224 [some (.ref w_scr), some (.ref 0), some (.ref 47), some (.int (iI k))] [] SH M Q := by
  obtain ⟨hG, β, n, σ, m, τ, I, J, hA, hB, hV⟩ := hI
  refine Rn.aload_n d_Law_law_224 rfl ?_
  refine Rn.aload_n d_Law_law_225 rfl ?_
  refine Rn.iload_n d_Law_law_226 rfl ?_
  refine Rn.iconst (v := iI 1) d_Law_law_227 rfl ?_
  refine In.add d_Law_law_228 ?_
  refine In.sld rfl d_Law_law_229 (show ((k : Int) + 1) = ((k + 1 : Nat) : Int) by omega) (by omega) (by omega) ?_
  refine Rn.cVI d_Law_law_230 s_Law_law_BH_say g_260 g_261 g_262 ⟨rfl, rfl⟩ ⟨by decide, by decide⟩ (m_BH_say (c := (xs (k + 1)).toInt) hG hA hV (iI_rg _) ) rfl rfl z_BH c_BH (Nat.le_of_ble_eq_true rfl) (fun r1 M1 q1 => ?_)
  obtain ⟨e1, hA1, hO1⟩ := q1
  have hG1 := hO1.G hG
  have hB1 := hB.cl hO1
  refine Rn.aload_n d_Law_law_233 rfl ?_
  refine Rn.aload_n d_Law_law_234 rfl ?_
  refine Rn.iload_n d_Law_law_235 rfl ?_
  refine Rn.iconst (v := iI 1) d_Law_law_236 rfl ?_
  refine In.add d_Law_law_237 ?_
  refine In.sld rfl d_Law_law_238 (show ((k : Int) + 1) = ((k + 1 : Nat) : Int) by omega) (by omega) (by omega) ?_
  refine Rn.cVI d_Law_law_239 s_Law_law_Md_say g_723 g_724 g_725 ⟨rfl, rfl⟩ ⟨by decide, by decide⟩ (m_Md_say (c := (xs (k + 1)).toInt) hG1 hB1 hV (iI_rg _) ) rfl rfl z_Md c_Md (Nat.le_of_ble_eq_true rfl) (fun r2 M2 q2 => ?_)
  obtain ⟨e2, hB2, hO2⟩ := q2
  have hA2 := hA1.md hO2
  have hG2 := hO2.G hG1
  rw [show r2 = r1 from e2.trans e1.symm]
  rw [iI_of r1]
  refine In.icmp_eq (tgt := 846) d_Law_law_242 (by decide) (iI_rg r1) (iI_rg r1) (fun c242 => ?_) (fun c242 => ?_)
  · exact cont _ ⟨hG2, _, _, _, _, _, _, _, hA2, hB2, ⟨hV.1, ok_say hV.2.1 _, hV.2.2⟩⟩
  · exact absurd rfl c242
theorem law_3 {L b0 k : Nat} {xs : Nat → Int32} {M : wM} {Q : Option Value → wSh → wM → Nat × Nat → Prop} (hL : L ≤ 448) (hk : k + 7 ≤ L) (hI : INV M) (cont : ∀ M', INV M' → Rn k_Law_law (some (L, xs, b0)) (58, 2282) 846 [some (.ref w_scr), some (.ref 0), some (.ref 47), some (.int (iI k))] [] SH M' Q) : Rn k_Law_law (some (L, xs, b0)) (58, 2282) 247 [some (.ref w_scr), some (.ref 0), some (.ref 47), some (.int (iI k))] [] SH M Q := by
  obtain ⟨hG, β, n, σ, m, τ, I, J, hA, hB, hV⟩ := hI
  refine Rn.aload_n d_Law_law_247 rfl ?_
  refine Rn.cVI d_Law_law_248 s_Law_law_BH_wipe g_272 g_273 g_274 ⟨rfl, rfl⟩ ⟨by decide, by decide⟩ (m_BH_wipe  hG hA ) rfl rfl z_BH c_BH (Nat.le_of_ble_eq_true rfl) (fun r1 M1 q1 => ?_)
  obtain ⟨e1, hA1, hO1⟩ := q1
  have hG1 := hO1.G hG
  have hB1 := hB.cl hO1
  refine Rn.aload_n d_Law_law_251 rfl ?_
  refine Rn.cVI d_Law_law_252 s_Law_law_Md_wipe g_727 g_728 g_729 ⟨rfl, rfl⟩ ⟨by decide, by decide⟩ (m_Md_wipe  hG1 hB1 ) rfl rfl z_Md c_Md (Nat.le_of_ble_eq_true rfl) (fun r2 M2 q2 => ?_)
  obtain ⟨e2, hB2, hO2⟩ := q2
  have hA2 := hA1.md hO2
  have hG2 := hO2.G hG1
  rw [show r2 = r1 from e2.trans e1.symm]
  rw [iI_of r1]
  refine In.icmp_eq (tgt := 846) d_Law_law_255 (by decide) (iI_rg r1) (iI_rg r1) (fun c255 => ?_) (fun c255 => ?_)
  · exact cont _ ⟨hG2, _, _, _, _, _, _, _, hA2, hB2, ⟨hV.1, ⟨Nat.zero_le _, hV.2.1.2⟩, hV.2.2⟩⟩
  · exact absurd rfl c255
theorem law_4 {L b0 k : Nat} {xs : Nat → Int32} {M : wM} {Q : Option Value → wSh → wM → Nat × Nat → Prop} (hL : L ≤ 448) (hk : k + 7 ≤ L) (hI : INV M) (cont : ∀ M', INV M' → Rn k_Law_law (some (L, xs, b0)) (58, 2282) 846 [some (.ref w_scr), some (.ref 0), some (.ref 47), some (.int (iI k))] [] SH M' Q) : Rn k_Law_law (some (L, xs, b0)) (58, 2282) 260 [some (.ref w_scr), some (.ref 0), some (.ref 47), some (.int (iI k))] [] SH M Q := by
  obtain ⟨hG, β, n, σ, m, τ, I, J, hA, hB, hV⟩ := hI
  refine Rn.aload_n d_Law_law_260 rfl ?_
  refine Rn.cVI d_Law_law_261 s_Law_law_BH_fault g_280 g_281 g_282 ⟨rfl, rfl⟩ ⟨by decide, by decide⟩ (m_BH_fault  hG hA hV ) rfl rfl z_BH c_BH (Nat.le_of_ble_eq_true rfl) (fun r1 M1 q1 => ?_)
  obtain ⟨e1, hA1, hO1⟩ := q1
  have hG1 := hO1.G hG
  have hB1 := hB.cl hO1
  refine Rn.aload_n d_Law_law_264 rfl ?_
  refine Rn.cVI d_Law_law_265 s_Law_law_Md_fault g_731 g_732 g_733 ⟨rfl, rfl⟩ ⟨by decide, by decide⟩ (m_Md_fault  hG1 hB1 hV ) rfl rfl z_Md c_Md (Nat.le_of_ble_eq_true rfl) (fun r2 M2 q2 => ?_)
  obtain ⟨e2, hB2, hO2⟩ := q2
  have hA2 := hA1.md hO2
  have hG2 := hO2.G hG1
  rw [show r2 = r1 from e2.trans e1.symm]
  rw [iI_of r1]
  refine In.icmp_eq (tgt := 846) d_Law_law_268 (by decide) (iI_rg r1) (iI_rg r1) (fun c268 => ?_) (fun c268 => ?_)
  · exact cont _ ⟨hG2, _, _, _, _, _, _, _, hA2, hB2, hV⟩
  · exact absurd rfl c268
theorem law_5 {L b0 k : Nat} {xs : Nat → Int32} {M : wM} {Q : Option Value → wSh → wM → Nat × Nat → Prop} (hL : L ≤ 448) (hk : k + 7 ≤ L) (hI : INV M) (cont : ∀ M', INV M' → Rn k_Law_law (some (L, xs, b0)) (58, 2282) 846 [some (.ref w_scr), some (.ref 0), some (.ref 47), some (.int (iI k))] [] SH M' Q) : Rn k_Law_law (some (L, xs, b0)) (58, 2282) 273 [some (.ref w_scr), some (.ref 0), some (.ref 47), some (.int (iI k))] [] SH M Q := by
  obtain ⟨hG, β, n, σ, m, τ, I, J, hA, hB, hV⟩ := hI
  refine Rn.aload_n d_Law_law_273 rfl ?_
  refine Rn.aload_n d_Law_law_274 rfl ?_
  refine Rn.iload_n d_Law_law_275 rfl ?_
  refine Rn.iconst (v := iI 1) d_Law_law_276 rfl ?_
  refine In.add d_Law_law_277 ?_
  refine In.sld rfl d_Law_law_278 (show ((k : Int) + 1) = ((k + 1 : Nat) : Int) by omega) (by omega) (by omega) ?_
  refine Rn.cVI d_Law_law_279 s_Law_law_BH_judge g_302 g_303 g_304 ⟨rfl, rfl⟩ ⟨by decide, by decide⟩ (m_BH_judge (w := (xs (k + 1)).toInt) hG hA hV (iI_rg _) ) rfl rfl z_BH c_BH (Nat.le_of_ble_eq_true rfl) (fun r1 M1 q1 => ?_)
  obtain ⟨e1, hA1, hO1⟩ := q1
  have hG1 := hO1.G hG
  have hB1 := hB.cl hO1
  refine Rn.aload_n d_Law_law_282 rfl ?_
  refine Rn.aload_n d_Law_law_283 rfl ?_
  refine Rn.iload_n d_Law_law_284 rfl ?_
  refine Rn.iconst (v := iI 1) d_Law_law_285 rfl ?_
  refine In.add d_Law_law_286 ?_
  refine In.sld rfl d_Law_law_287 (show ((k : Int) + 1) = ((k + 1 : Nat) : Int) by omega) (by omega) (by omega) ?_
  refine Rn.cVI d_Law_law_288 s_Law_law_Md_judge g_742 g_743 g_744 ⟨rfl, rfl⟩ ⟨by decide, by decide⟩ (m_Md_judge (w := (xs (k + 1)).toInt) hG1 hB1 hV (iI_rg _) ) rfl rfl z_Md c_Md (Nat.le_of_ble_eq_true rfl) (fun r2 M2 q2 => ?_)
  obtain ⟨e2, hB2, hO2⟩ := q2
  have hA2 := hA1.md hO2
  have hG2 := hO2.G hG1
  rw [show r2 = r1 from e2.trans e1.symm]
  rw [iI_of r1]
  refine In.icmp_eq (tgt := 846) d_Law_law_291 (by decide) (iI_rg r1) (iI_rg r1) (fun c291 => ?_) (fun c291 => ?_)
  · exact cont _ ⟨hG2, _, _, _, _, _, _, _, hA2, hB2, hV⟩
  · exact absurd rfl c291
theorem law_6 {L b0 k : Nat} {xs : Nat → Int32} {M : wM} {Q : Option Value → wSh → wM → Nat × Nat → Prop} (hL : L ≤ 448) (hk : k + 7 ≤ L) (hI : INV M) (cont : ∀ M', INV M' → Rn k_Law_law (some (L, xs, b0)) (58, 2282) 846 [some (.ref w_scr), some (.ref 0), some (.ref 47), some (.int (iI k))] [] SH M' Q) : Rn k_Law_law (some (L, xs, b0)) (58, 2282) 296 [some (.ref w_scr), some (.ref 0), some (.ref 47), some (.int (iI k))] [] SH M Q := by
  obtain ⟨hG, β, n, σ, m, τ, I, J, hA, hB, hV⟩ := hI
  obtain ⟨R, v1, v2⟩ := ex_done (β := β) (n := n) (σ := σ) (m := m) (τ := τ) (I := I) (J := J) 
  have okR : aLok R.2.1 R.2.2 σ m τ I J := by
    by_cases z : barS σ n β
    · rw [v1 z]; exact ⟨ok_tell hV.1 z.1, ⟨Nat.zero_le _, hV.2.1.2⟩, hV.2.2⟩
    · rw [v2 z]; exact hV
  refine Rn.aload_n d_Law_law_296 rfl ?_
  refine Rn.cVI d_Law_law_297 s_Law_law_BH_done g_422 g_423 g_424 ⟨rfl, rfl⟩ ⟨by decide, by decide⟩ (m_BH_done  hG hA hV v1 v2) rfl rfl z_BH c_BH (Nat.le_of_ble_eq_true rfl) (fun r1 M1 q1 => ?_)
  obtain ⟨e1, hA1, hO1⟩ := q1
  have hG1 := hO1.G hG
  have hB1 := hB.cl hO1
  refine Rn.aload_n d_Law_law_300 rfl ?_
  refine Rn.cVI d_Law_law_301 s_Law_law_Md_done g_784 g_785 g_786 ⟨rfl, rfl⟩ ⟨by decide, by decide⟩ (m_Md_done  hG1 hB1 hV v1 v2) rfl rfl z_Md c_Md (Nat.le_of_ble_eq_true rfl) (fun r2 M2 q2 => ?_)
  obtain ⟨e2, hB2, hO2⟩ := q2
  have hA2 := hA1.md hO2
  have hG2 := hO2.G hG1
  rw [show r2 = r1 from e2.trans e1.symm]
  rw [iI_of r1]
  refine In.icmp_eq (tgt := 846) d_Law_law_304 (by decide) (iI_rg r1) (iI_rg r1) (fun c304 => ?_) (fun c304 => ?_)
  · exact cont _ ⟨hG2, _, _, _, _, _, _, _, hA2, hB2, okR⟩
  · exact absurd rfl c304
theorem law_7 {L b0 k : Nat} {xs : Nat → Int32} {M : wM} {Q : Option Value → wSh → wM → Nat × Nat → Prop} (hL : L ≤ 448) (hk : k + 7 ≤ L) (hI : INV M) (cont : ∀ M', INV M' → Rn k_Law_law (some (L, xs, b0)) (58, 2282) 846 [some (.ref w_scr), some (.ref 0), some (.ref 47), some (.int (iI k))] [] SH M' Q) : Rn k_Law_law (some (L, xs, b0)) (58, 2282) 309 [some (.ref w_scr), some (.ref 0), some (.ref 47), some (.int (iI k))] [] SH M Q := by
  obtain ⟨hG, β, n, σ, m, τ, I, J, hA, hB, hV⟩ := hI
  obtain ⟨V, v1, v2, v3, v4, v5, v6⟩ := ex_behind (β := β) (n := n) (σ := σ) (m := m) (τ := τ) (I := I) (J := J) (b := (xs (k + 1)).toInt) (w := (xs (k + 2)).toInt)
  have hok2 : barS σ n β → hok (tellS σ n β).2.1 := fun z => ok_tell hV.1 z.1
  refine Rn.aload_n d_Law_law_309 rfl ?_
  refine Rn.aload_n d_Law_law_310 rfl ?_
  refine Rn.iload_n d_Law_law_311 rfl ?_
  refine Rn.iconst (v := iI 1) d_Law_law_312 rfl ?_
  refine In.add d_Law_law_313 ?_
  refine In.sld rfl d_Law_law_314 (show ((k : Int) + 1) = ((k + 1 : Nat) : Int) by omega) (by omega) (by omega) ?_
  refine Rn.aload_n d_Law_law_315 rfl ?_
  refine Rn.iload_n d_Law_law_316 rfl ?_
  refine Rn.iconst (v := iI 2) d_Law_law_317 rfl ?_
  refine In.add d_Law_law_318 ?_
  refine In.sld rfl d_Law_law_319 (show ((k : Int) + 2) = ((k + 2 : Nat) : Int) by omega) (by omega) (by omega) ?_
  refine Rn.cVI d_Law_law_320 s_Law_law_BH_behind g_431 g_432 g_433 ⟨rfl, rfl⟩ ⟨by decide, by decide⟩ (m_BH_behind (b := (xs (k + 1)).toInt) (w := (xs (k + 2)).toInt) hG hA hV hok2 (iI_rg _) (iI_rg _) v1 v2 v3 v4 v5 v6) rfl rfl z_BH c_BH (Nat.le_of_ble_eq_true rfl) (fun r1 M1 q1 => ?_)
  obtain ⟨e1, hA1, hO1⟩ := q1
  have hG1 := hO1.G hG
  have hB1 := hB.cl hO1
  refine Rn.aload_n d_Law_law_323 rfl ?_
  refine Rn.aload_n d_Law_law_324 rfl ?_
  refine Rn.iload_n d_Law_law_325 rfl ?_
  refine Rn.iconst (v := iI 1) d_Law_law_326 rfl ?_
  refine In.add d_Law_law_327 ?_
  refine In.sld rfl d_Law_law_328 (show ((k : Int) + 1) = ((k + 1 : Nat) : Int) by omega) (by omega) (by omega) ?_
  refine Rn.aload_n d_Law_law_329 rfl ?_
  refine Rn.iload_n d_Law_law_330 rfl ?_
  refine Rn.iconst (v := iI 2) d_Law_law_331 rfl ?_
  refine In.add d_Law_law_332 ?_
  refine In.sld rfl d_Law_law_333 (show ((k : Int) + 2) = ((k + 2 : Nat) : Int) by omega) (by omega) (by omega) ?_
  refine Rn.cVI d_Law_law_334 s_Law_law_Md_behind g_792 g_793 g_794 ⟨rfl, rfl⟩ ⟨by decide, by decide⟩ (m_Md_behind (b := (xs (k + 1)).toInt) (w := (xs (k + 2)).toInt) hG1 hB1 hV hok2 (iI_rg _) (iI_rg _) v1 v2 v3 v4 v5 v6) rfl rfl z_Md c_Md (Nat.le_of_ble_eq_true rfl) (fun r2 M2 q2 => ?_)
  obtain ⟨e2, hB2, hO2⟩ := q2
  have hA2 := hA1.md hO2
  have hG2 := hO2.G hG1
  rw [show r2 = r1 from e2.trans e1.symm]
  rw [iI_of r1]
  refine In.icmp_eq (tgt := 846) d_Law_law_337 (by decide) (iI_rg r1) (iI_rg r1) (fun c337 => ?_) (fun c337 => ?_)
  · exact cont _ ⟨hG2, _, _, _, _, _, _, _, hA2, hB2, hV⟩
  · exact absurd rfl c337
theorem law_8 {L b0 k : Nat} {xs : Nat → Int32} {M : wM} {Q : Option Value → wSh → wM → Nat × Nat → Prop} (hL : L ≤ 448) (hk : k + 7 ≤ L) (hI : INV M) (cont : ∀ M', INV M' → Rn k_Law_law (some (L, xs, b0)) (58, 2282) 846 [some (.ref w_scr), some (.ref 0), some (.ref 47), some (.int (iI k))] [] SH M' Q) : Rn k_Law_law (some (L, xs, b0)) (58, 2282) 342 [some (.ref w_scr), some (.ref 0), some (.ref 47), some (.int (iI k))] [] SH M Q := by
  obtain ⟨hG, β, n, σ, m, τ, I, J, hA, hB, hV⟩ := hI
  obtain ⟨V, v1, v2, v3, v4, v5, v6, v7, v8⟩ := ex_then (β := β) (n := n) (σ := σ) (m := m) (τ := τ) (I := I) (J := J) (w := (xs (k + 1)).toInt)
  have hok2 : barS σ n β → hok (tellS σ n β).2.1 := fun z => ok_tell hV.1 z.1
  refine Rn.aload_n d_Law_law_342 rfl ?_
  refine Rn.aload_n d_Law_law_343 rfl ?_
  refine Rn.iload_n d_Law_law_344 rfl ?_
  refine Rn.iconst (v := iI 1) d_Law_law_345 rfl ?_
  refine In.add d_Law_law_346 ?_
  refine In.sld rfl d_Law_law_347 (show ((k : Int) + 1) = ((k + 1 : Nat) : Int) by omega) (by omega) (by omega) ?_
  refine Rn.cVI d_Law_law_348 s_Law_law_BH_then g_437 g_438 g_439 ⟨rfl, rfl⟩ ⟨by decide, by decide⟩ (m_BH_then (w := (xs (k + 1)).toInt) hG hA hV hok2 (iI_rg _) v1 v2 v3 v4 v5 v6 v7 v8) rfl rfl z_BH c_BH (Nat.le_of_ble_eq_true rfl) (fun r1 M1 q1 => ?_)
  obtain ⟨e1, hA1, hO1⟩ := q1
  have hG1 := hO1.G hG
  have hB1 := hB.cl hO1
  refine Rn.aload_n d_Law_law_351 rfl ?_
  refine Rn.aload_n d_Law_law_352 rfl ?_
  refine Rn.iload_n d_Law_law_353 rfl ?_
  refine Rn.iconst (v := iI 1) d_Law_law_354 rfl ?_
  refine In.add d_Law_law_355 ?_
  refine In.sld rfl d_Law_law_356 (show ((k : Int) + 1) = ((k + 1 : Nat) : Int) by omega) (by omega) (by omega) ?_
  refine Rn.cVI d_Law_law_357 s_Law_law_Md_then g_796 g_797 g_798 ⟨rfl, rfl⟩ ⟨by decide, by decide⟩ (m_Md_then (w := (xs (k + 1)).toInt) hG1 hB1 hV hok2 (iI_rg _) v1 v2 v3 v4 v5 v6 v7 v8) rfl rfl z_Md c_Md (Nat.le_of_ble_eq_true rfl) (fun r2 M2 q2 => ?_)
  obtain ⟨e2, hB2, hO2⟩ := q2
  have hA2 := hA1.md hO2
  have hG2 := hO2.G hG1
  rw [show r2 = r1 from e2.trans e1.symm]
  rw [iI_of r1]
  refine In.icmp_eq (tgt := 846) d_Law_law_360 (by decide) (iI_rg r1) (iI_rg r1) (fun c360 => ?_) (fun c360 => ?_)
  · exact cont _ ⟨hG2, _, _, _, _, _, _, _, hA2, hB2, hV⟩
  · exact absurd rfl c360
theorem law_9 {L b0 k : Nat} {xs : Nat → Int32} {M : wM} {Q : Option Value → wSh → wM → Nat × Nat → Prop} (hL : L ≤ 448) (hk : k + 7 ≤ L) (hI : INV M) (cont : ∀ M', INV M' → Rn k_Law_law (some (L, xs, b0)) (58, 2282) 846 [some (.ref w_scr), some (.ref 0), some (.ref 47), some (.int (iI k))] [] SH M' Q) : Rn k_Law_law (some (L, xs, b0)) (58, 2282) 365 [some (.ref w_scr), some (.ref 0), some (.ref 47), some (.int (iI k))] [] SH M Q := by
  obtain ⟨hG, β, n, σ, m, τ, I, J, hA, hB, hV⟩ := hI
  obtain ⟨V, v1, v2⟩ := ex_apart (β := β) (n := n) (σ := σ) (m := m) (τ := τ) (I := I) (J := J) (a := (xs (k + 1)).toInt) (b := (xs (k + 2)).toInt)
  refine Rn.aload_n d_Law_law_365 rfl ?_
  refine Rn.aload_n d_Law_law_366 rfl ?_
  refine Rn.iload_n d_Law_law_367 rfl ?_
  refine Rn.iconst (v := iI 1) d_Law_law_368 rfl ?_
  refine In.add d_Law_law_369 ?_
  refine In.sld rfl d_Law_law_370 (show ((k : Int) + 1) = ((k + 1 : Nat) : Int) by omega) (by omega) (by omega) ?_
  refine Rn.aload_n d_Law_law_371 rfl ?_
  refine Rn.iload_n d_Law_law_372 rfl ?_
  refine Rn.iconst (v := iI 2) d_Law_law_373 rfl ?_
  refine In.add d_Law_law_374 ?_
  refine In.sld rfl d_Law_law_375 (show ((k : Int) + 2) = ((k + 2 : Nat) : Int) by omega) (by omega) (by omega) ?_
  refine Rn.cVI d_Law_law_376 s_Law_law_BH_apart g_459 g_460 g_461 ⟨rfl, rfl⟩ ⟨by decide, by decide⟩ (m_BH_apart (a := (xs (k + 1)).toInt) (b := (xs (k + 2)).toInt) hG hA hV (iI_rg _) (iI_rg _) v1 v2) rfl rfl z_BH c_BH (Nat.le_of_ble_eq_true rfl) (fun r1 M1 q1 => ?_)
  obtain ⟨e1, hA1, hO1⟩ := q1
  have hG1 := hO1.G hG
  have hB1 := hB.cl hO1
  refine Rn.aload_n d_Law_law_379 rfl ?_
  refine Rn.aload_n d_Law_law_380 rfl ?_
  refine Rn.iload_n d_Law_law_381 rfl ?_
  refine Rn.iconst (v := iI 1) d_Law_law_382 rfl ?_
  refine In.add d_Law_law_383 ?_
  refine In.sld rfl d_Law_law_384 (show ((k : Int) + 1) = ((k + 1 : Nat) : Int) by omega) (by omega) (by omega) ?_
  refine Rn.aload_n d_Law_law_385 rfl ?_
  refine Rn.iload_n d_Law_law_386 rfl ?_
  refine Rn.iconst (v := iI 2) d_Law_law_387 rfl ?_
  refine In.add d_Law_law_388 ?_
  refine In.sld rfl d_Law_law_389 (show ((k : Int) + 2) = ((k + 2 : Nat) : Int) by omega) (by omega) (by omega) ?_
  refine Rn.cVI d_Law_law_390 s_Law_law_Md_apart g_800 g_801 g_802 ⟨rfl, rfl⟩ ⟨by decide, by decide⟩ (m_Md_apart (a := (xs (k + 1)).toInt) (b := (xs (k + 2)).toInt) hG1 hB1 hV (iI_rg _) (iI_rg _) v1 v2) rfl rfl z_Md c_Md (Nat.le_of_ble_eq_true rfl) (fun r2 M2 q2 => ?_)
  obtain ⟨e2, hB2, hO2⟩ := q2
  have hA2 := hA1.md hO2
  have hG2 := hO2.G hG1
  rw [show r2 = r1 from e2.trans e1.symm]
  rw [iI_of r1]
  refine In.icmp_eq (tgt := 846) d_Law_law_393 (by decide) (iI_rg r1) (iI_rg r1) (fun c393 => ?_) (fun c393 => ?_)
  · exact cont _ ⟨hG2, _, _, _, _, _, _, _, hA2, hB2, hV⟩
  · exact absurd rfl c393
theorem law_10 {L b0 k : Nat} {xs : Nat → Int32} {M : wM} {Q : Option Value → wSh → wM → Nat × Nat → Prop} (hL : L ≤ 448) (hk : k + 7 ≤ L) (hI : INV M) (cont : ∀ M', INV M' → Rn k_Law_law (some (L, xs, b0)) (58, 2282) 846 [some (.ref w_scr), some (.ref 0), some (.ref 47), some (.int (iI k))] [] SH M' Q) : Rn k_Law_law (some (L, xs, b0)) (58, 2282) 398 [some (.ref w_scr), some (.ref 0), some (.ref 47), some (.int (iI k))] [] SH M Q := by
  obtain ⟨hG, β, n, σ, m, τ, I, J, hA, hB, hV⟩ := hI
  obtain ⟨V, v1, v2⟩ := ex_meets (β := β) (n := n) (σ := σ) (m := m) (τ := τ) (I := I) (J := J) (a := (xs (k + 1)).toInt) (b := (xs (k + 2)).toInt)
  refine Rn.aload_n d_Law_law_398 rfl ?_
  refine Rn.aload_n d_Law_law_399 rfl ?_
  refine Rn.iload_n d_Law_law_400 rfl ?_
  refine Rn.iconst (v := iI 1) d_Law_law_401 rfl ?_
  refine In.add d_Law_law_402 ?_
  refine In.sld rfl d_Law_law_403 (show ((k : Int) + 1) = ((k + 1 : Nat) : Int) by omega) (by omega) (by omega) ?_
  refine Rn.aload_n d_Law_law_404 rfl ?_
  refine Rn.iload_n d_Law_law_405 rfl ?_
  refine Rn.iconst (v := iI 2) d_Law_law_406 rfl ?_
  refine In.add d_Law_law_407 ?_
  refine In.sld rfl d_Law_law_408 (show ((k : Int) + 2) = ((k + 2 : Nat) : Int) by omega) (by omega) (by omega) ?_
  refine Rn.cVI d_Law_law_409 s_Law_law_BH_meets g_464 g_465 g_466 ⟨rfl, rfl⟩ ⟨by decide, by decide⟩ (m_BH_meets (a := (xs (k + 1)).toInt) (b := (xs (k + 2)).toInt) hG hA hV (iI_rg _) (iI_rg _) v1 v2) rfl rfl z_BH c_BH (Nat.le_of_ble_eq_true rfl) (fun r1 M1 q1 => ?_)
  obtain ⟨e1, hA1, hO1⟩ := q1
  have hG1 := hO1.G hG
  have hB1 := hB.cl hO1
  refine Rn.aload_n d_Law_law_412 rfl ?_
  refine Rn.aload_n d_Law_law_413 rfl ?_
  refine Rn.iload_n d_Law_law_414 rfl ?_
  refine Rn.iconst (v := iI 1) d_Law_law_415 rfl ?_
  refine In.add d_Law_law_416 ?_
  refine In.sld rfl d_Law_law_417 (show ((k : Int) + 1) = ((k + 1 : Nat) : Int) by omega) (by omega) (by omega) ?_
  refine Rn.aload_n d_Law_law_418 rfl ?_
  refine Rn.iload_n d_Law_law_419 rfl ?_
  refine Rn.iconst (v := iI 2) d_Law_law_420 rfl ?_
  refine In.add d_Law_law_421 ?_
  refine In.sld rfl d_Law_law_422 (show ((k : Int) + 2) = ((k + 2 : Nat) : Int) by omega) (by omega) (by omega) ?_
  refine Rn.cVI d_Law_law_423 s_Law_law_Md_meets g_807 g_808 g_809 ⟨rfl, rfl⟩ ⟨by decide, by decide⟩ (m_Md_meets (a := (xs (k + 1)).toInt) (b := (xs (k + 2)).toInt) hG1 hB1 hV (iI_rg _) (iI_rg _) v1 v2) rfl rfl z_Md c_Md (Nat.le_of_ble_eq_true rfl) (fun r2 M2 q2 => ?_)
  obtain ⟨e2, hB2, hO2⟩ := q2
  have hA2 := hA1.md hO2
  have hG2 := hO2.G hG1
  rw [show r2 = r1 from e2.trans e1.symm]
  rw [iI_of r1]
  refine In.icmp_eq (tgt := 846) d_Law_law_426 (by decide) (iI_rg r1) (iI_rg r1) (fun c426 => ?_) (fun c426 => ?_)
  · exact cont _ ⟨hG2, _, _, _, _, _, _, _, hA2, hB2, hV⟩
  · exact absurd rfl c426
theorem law_11 {L b0 k : Nat} {xs : Nat → Int32} {M : wM} {Q : Option Value → wSh → wM → Nat × Nat → Prop} (hL : L ≤ 448) (hk : k + 7 ≤ L) (hI : INV M) (cont : ∀ M', INV M' → Rn k_Law_law (some (L, xs, b0)) (58, 2282) 846 [some (.ref w_scr), some (.ref 0), some (.ref 47), some (.int (iI k))] [] SH M' Q) : Rn k_Law_law (some (L, xs, b0)) (58, 2282) 431 [some (.ref w_scr), some (.ref 0), some (.ref 47), some (.int (iI k))] [] SH M Q := by
  obtain ⟨hG, β, n, σ, m, τ, I, J, hA, hB, hV⟩ := hI
  obtain ⟨V, v1, v2, v3⟩ := ex_sees (β := β) (n := n) (σ := σ) (m := m) (τ := τ) (I := I) (J := J) (b := (xs (k + 1)).toInt)
  refine Rn.aload_n d_Law_law_431 rfl ?_
  refine Rn.aload_n d_Law_law_432 rfl ?_
  refine Rn.iload_n d_Law_law_433 rfl ?_
  refine Rn.iconst (v := iI 1) d_Law_law_434 rfl ?_
  refine In.add d_Law_law_435 ?_
  refine In.sld rfl d_Law_law_436 (show ((k : Int) + 1) = ((k + 1 : Nat) : Int) by omega) (by omega) (by omega) ?_
  refine Rn.cVI d_Law_law_437 s_Law_law_BH_sees g_473 g_474 g_475 ⟨rfl, rfl⟩ ⟨by decide, by decide⟩ (m_BH_sees (b := (xs (k + 1)).toInt) hG hA hV (iI_rg _) v1 v2 v3) rfl rfl z_BH c_BH (Nat.le_of_ble_eq_true rfl) (fun r1 M1 q1 => ?_)
  obtain ⟨e1, hA1, hO1⟩ := q1
  have hG1 := hO1.G hG
  have hB1 := hB.cl hO1
  refine Rn.aload_n d_Law_law_440 rfl ?_
  refine Rn.aload_n d_Law_law_441 rfl ?_
  refine Rn.iload_n d_Law_law_442 rfl ?_
  refine Rn.iconst (v := iI 1) d_Law_law_443 rfl ?_
  refine In.add d_Law_law_444 ?_
  refine In.sld rfl d_Law_law_445 (show ((k : Int) + 1) = ((k + 1 : Nat) : Int) by omega) (by omega) (by omega) ?_
  refine Rn.cVI d_Law_law_446 s_Law_law_Md_sees g_815 g_816 g_817 ⟨rfl, rfl⟩ ⟨by decide, by decide⟩ (m_Md_sees (b := (xs (k + 1)).toInt) hG1 hB1 hV (iI_rg _) v1 v2 v3) rfl rfl z_Md c_Md (Nat.le_of_ble_eq_true rfl) (fun r2 M2 q2 => ?_)
  obtain ⟨e2, hB2, hO2⟩ := q2
  have hA2 := hA1.md hO2
  have hG2 := hO2.G hG1
  rw [show r2 = r1 from e2.trans e1.symm]
  rw [iI_of r1]
  refine In.icmp_eq (tgt := 846) d_Law_law_449 (by decide) (iI_rg r1) (iI_rg r1) (fun c449 => ?_) (fun c449 => ?_)
  · exact cont _ ⟨hG2, _, _, _, _, _, _, _, hA2, hB2, hV⟩
  · exact absurd rfl c449
theorem law_12 {L b0 k : Nat} {xs : Nat → Int32} {M : wM} {Q : Option Value → wSh → wM → Nat × Nat → Prop} (hL : L ≤ 448) (hk : k + 7 ≤ L) (hI : INV M) (cont : ∀ M', INV M' → Rn k_Law_law (some (L, xs, b0)) (58, 2282) 846 [some (.ref w_scr), some (.ref 0), some (.ref 47), some (.int (iI k))] [] SH M' Q) : Rn k_Law_law (some (L, xs, b0)) (58, 2282) 454 [some (.ref w_scr), some (.ref 0), some (.ref 47), some (.int (iI k))] [] SH M Q := by
  obtain ⟨hG, β, n, σ, m, τ, I, J, hA, hB, hV⟩ := hI
  obtain ⟨V, v1, v2, v3, v4⟩ := ex_near (β := β) (n := n) (σ := σ) (m := m) (τ := τ) (I := I) (J := J) (w := (xs (k + 1)).toInt)
  refine Rn.aload_n d_Law_law_454 rfl ?_
  refine Rn.aload_n d_Law_law_455 rfl ?_
  refine Rn.iload_n d_Law_law_456 rfl ?_
  refine Rn.iconst (v := iI 1) d_Law_law_457 rfl ?_
  refine In.add d_Law_law_458 ?_
  refine In.sld rfl d_Law_law_459 (show ((k : Int) + 1) = ((k + 1 : Nat) : Int) by omega) (by omega) (by omega) ?_
  refine Rn.cVI d_Law_law_460 s_Law_law_BH_near g_482 g_483 g_484 ⟨rfl, rfl⟩ ⟨by decide, by decide⟩ (m_BH_near (w := (xs (k + 1)).toInt) hG hA hV (iI_rg _) v1 v2 v3 v4) rfl rfl z_BH c_BH (Nat.le_of_ble_eq_true rfl) (fun r1 M1 q1 => ?_)
  obtain ⟨e1, hA1, hO1⟩ := q1
  have hG1 := hO1.G hG
  have hB1 := hB.cl hO1
  refine Rn.aload_n d_Law_law_463 rfl ?_
  refine Rn.aload_n d_Law_law_464 rfl ?_
  refine Rn.iload_n d_Law_law_465 rfl ?_
  refine Rn.iconst (v := iI 1) d_Law_law_466 rfl ?_
  refine In.add d_Law_law_467 ?_
  refine In.sld rfl d_Law_law_468 (show ((k : Int) + 1) = ((k + 1 : Nat) : Int) by omega) (by omega) (by omega) ?_
  refine Rn.cVI d_Law_law_469 s_Law_law_Md_near g_819 g_820 g_821 ⟨rfl, rfl⟩ ⟨by decide, by decide⟩ (m_Md_near (w := (xs (k + 1)).toInt) hG1 hB1 hV (iI_rg _) v1 v2 v3 v4) rfl rfl z_Md c_Md (Nat.le_of_ble_eq_true rfl) (fun r2 M2 q2 => ?_)
  obtain ⟨e2, hB2, hO2⟩ := q2
  have hA2 := hA1.md hO2
  have hG2 := hO2.G hG1
  rw [show r2 = r1 from e2.trans e1.symm]
  rw [iI_of r1]
  refine In.icmp_eq (tgt := 846) d_Law_law_472 (by decide) (iI_rg r1) (iI_rg r1) (fun c472 => ?_) (fun c472 => ?_)
  · exact cont _ ⟨hG2, _, _, _, _, _, _, _, hA2, hB2, hV⟩
  · exact absurd rfl c472
theorem law_13 {L b0 k : Nat} {xs : Nat → Int32} {M : wM} {Q : Option Value → wSh → wM → Nat × Nat → Prop} (hL : L ≤ 448) (hk : k + 7 ≤ L) (hI : INV M) (cont : ∀ M', INV M' → Rn k_Law_law (some (L, xs, b0)) (58, 2282) 846 [some (.ref w_scr), some (.ref 0), some (.ref 47), some (.int (iI k))] [] SH M' Q) : Rn k_Law_law (some (L, xs, b0)) (58, 2282) 477 [some (.ref w_scr), some (.ref 0), some (.ref 47), some (.int (iI k))] [] SH M Q := by
  obtain ⟨hG, β, n, σ, m, τ, I, J, hA, hB, hV⟩ := hI
  obtain ⟨P, hP⟩ : ∃ P : Nat → Bool, ∀ s, P s = true ↔ standS β (xs (k + 1)).toInt s := by
    classical
    exact ⟨fun s => decide (standS β (xs (k + 1)).toInt s), fun s => decide_eq_true_iff⟩
  obtain ⟨V, v1, v2, v3⟩ := ex_room (β := β) (n := n) (σ := σ) (m := m) (τ := τ) (I := I) (J := J) (x := (xs (k + 1)).toInt) (w := (xs (k + 2)).toInt) (P := P)
  refine Rn.aload_n d_Law_law_477 rfl ?_
  refine Rn.aload_n d_Law_law_478 rfl ?_
  refine Rn.iload_n d_Law_law_479 rfl ?_
  refine Rn.iconst (v := iI 1) d_Law_law_480 rfl ?_
  refine In.add d_Law_law_481 ?_
  refine In.sld rfl d_Law_law_482 (show ((k : Int) + 1) = ((k + 1 : Nat) : Int) by omega) (by omega) (by omega) ?_
  refine Rn.aload_n d_Law_law_483 rfl ?_
  refine Rn.iload_n d_Law_law_484 rfl ?_
  refine Rn.iconst (v := iI 2) d_Law_law_485 rfl ?_
  refine In.add d_Law_law_486 ?_
  refine In.sld rfl d_Law_law_487 (show ((k : Int) + 2) = ((k + 2 : Nat) : Int) by omega) (by omega) (by omega) ?_
  refine Rn.cVI d_Law_law_488 s_Law_law_BH_room g_491 g_492 g_493 ⟨rfl, rfl⟩ ⟨by decide, by decide⟩ (m_BH_room (x := (xs (k + 1)).toInt) (w := (xs (k + 2)).toInt) hG hA hV (iI_rg _) (iI_rg _) hP v1 v2 v3) rfl rfl z_BH c_BH (Nat.le_of_ble_eq_true rfl) (fun r1 M1 q1 => ?_)
  obtain ⟨e1, hA1, hO1⟩ := q1
  have hG1 := hO1.G hG
  have hB1 := hB.cl hO1
  refine Rn.aload_n d_Law_law_491 rfl ?_
  refine Rn.aload_n d_Law_law_492 rfl ?_
  refine Rn.iload_n d_Law_law_493 rfl ?_
  refine Rn.iconst (v := iI 1) d_Law_law_494 rfl ?_
  refine In.add d_Law_law_495 ?_
  refine In.sld rfl d_Law_law_496 (show ((k : Int) + 1) = ((k + 1 : Nat) : Int) by omega) (by omega) (by omega) ?_
  refine Rn.aload_n d_Law_law_497 rfl ?_
  refine Rn.iload_n d_Law_law_498 rfl ?_
  refine Rn.iconst (v := iI 2) d_Law_law_499 rfl ?_
  refine In.add d_Law_law_500 ?_
  refine In.sld rfl d_Law_law_501 (show ((k : Int) + 2) = ((k + 2 : Nat) : Int) by omega) (by omega) (by omega) ?_
  refine Rn.cVI d_Law_law_502 s_Law_law_Md_room g_824 g_825 g_826 ⟨rfl, rfl⟩ ⟨by decide, by decide⟩ (m_Md_room (x := (xs (k + 1)).toInt) (w := (xs (k + 2)).toInt) hG1 hB1 hV (iI_rg _) (iI_rg _) hP v1 v2 v3) rfl rfl z_Md c_Md (Nat.le_of_ble_eq_true rfl) (fun r2 M2 q2 => ?_)
  obtain ⟨e2, hB2, hO2⟩ := q2
  have hA2 := hA1.md hO2
  have hG2 := hO2.G hG1
  rw [show r2 = r1 from e2.trans e1.symm]
  rw [iI_of r1]
  refine In.icmp_eq (tgt := 846) d_Law_law_505 (by decide) (iI_rg r1) (iI_rg r1) (fun c505 => ?_) (fun c505 => ?_)
  · exact cont _ ⟨hG2, _, _, _, _, _, _, _, hA2, hB2, hV⟩
  · exact absurd rfl c505
theorem law_14 {L b0 k : Nat} {xs : Nat → Int32} {M : wM} {Q : Option Value → wSh → wM → Nat × Nat → Prop} (hL : L ≤ 448) (hk : k + 7 ≤ L) (hI : INV M) (cont : ∀ M', INV M' → Rn k_Law_law (some (L, xs, b0)) (58, 2282) 846 [some (.ref w_scr), some (.ref 0), some (.ref 47), some (.int (iI k))] [] SH M' Q) : Rn k_Law_law (some (L, xs, b0)) (58, 2282) 510 [some (.ref w_scr), some (.ref 0), some (.ref 47), some (.int (iI k))] [] SH M Q := by
  obtain ⟨hG, β, n, σ, m, τ, I, J, hA, hB, hV⟩ := hI
  obtain ⟨P, hP⟩ : ∃ P : Nat → Bool, ∀ s, P s = true ↔ litN β (xs (k + 1)).toInt s 12 = 4095 := by
    classical
    exact ⟨fun s => decide (litN β (xs (k + 1)).toInt s 12 = 4095), fun s => decide_eq_true_iff⟩
  obtain ⟨V, v1, v2, v3⟩ := ex_candles (β := β) (n := n) (σ := σ) (m := m) (τ := τ) (I := I) (J := J) (x := (xs (k + 1)).toInt) (w := (xs (k + 2)).toInt) (P := P)
  refine Rn.aload_n d_Law_law_510 rfl ?_
  refine Rn.aload_n d_Law_law_511 rfl ?_
  refine Rn.iload_n d_Law_law_512 rfl ?_
  refine Rn.iconst (v := iI 1) d_Law_law_513 rfl ?_
  refine In.add d_Law_law_514 ?_
  refine In.sld rfl d_Law_law_515 (show ((k : Int) + 1) = ((k + 1 : Nat) : Int) by omega) (by omega) (by omega) ?_
  refine Rn.aload_n d_Law_law_516 rfl ?_
  refine Rn.iload_n d_Law_law_517 rfl ?_
  refine Rn.iconst (v := iI 2) d_Law_law_518 rfl ?_
  refine In.add d_Law_law_519 ?_
  refine In.sld rfl d_Law_law_520 (show ((k : Int) + 2) = ((k + 2 : Nat) : Int) by omega) (by omega) (by omega) ?_
  refine Rn.cVI d_Law_law_521 s_Law_law_BH_candles g_511 g_512 g_513 ⟨rfl, rfl⟩ ⟨by decide, by decide⟩ (m_BH_candles (x := (xs (k + 1)).toInt) (w := (xs (k + 2)).toInt) hG hA hV (iI_rg _) (iI_rg _) hP v1 v2 v3) rfl rfl z_BH c_BH (Nat.le_of_ble_eq_true rfl) (fun r1 M1 q1 => ?_)
  obtain ⟨e1, hA1, hO1⟩ := q1
  have hG1 := hO1.G hG
  have hB1 := hB.cl hO1
  refine Rn.aload_n d_Law_law_524 rfl ?_
  refine Rn.aload_n d_Law_law_525 rfl ?_
  refine Rn.iload_n d_Law_law_526 rfl ?_
  refine Rn.iconst (v := iI 1) d_Law_law_527 rfl ?_
  refine In.add d_Law_law_528 ?_
  refine In.sld rfl d_Law_law_529 (show ((k : Int) + 1) = ((k + 1 : Nat) : Int) by omega) (by omega) (by omega) ?_
  refine Rn.aload_n d_Law_law_530 rfl ?_
  refine Rn.iload_n d_Law_law_531 rfl ?_
  refine Rn.iconst (v := iI 2) d_Law_law_532 rfl ?_
  refine In.add d_Law_law_533 ?_
  refine In.sld rfl d_Law_law_534 (show ((k : Int) + 2) = ((k + 2 : Nat) : Int) by omega) (by omega) (by omega) ?_
  refine Rn.cVI d_Law_law_535 s_Law_law_Md_candles g_828 g_829 g_830 ⟨rfl, rfl⟩ ⟨by decide, by decide⟩ (m_Md_candles (x := (xs (k + 1)).toInt) (w := (xs (k + 2)).toInt) hG1 hB1 hV (iI_rg _) (iI_rg _) hP v1 v2 v3) rfl rfl z_Md c_Md (Nat.le_of_ble_eq_true rfl) (fun r2 M2 q2 => ?_)
  obtain ⟨e2, hB2, hO2⟩ := q2
  have hA2 := hA1.md hO2
  have hG2 := hO2.G hG1
  rw [show r2 = r1 from e2.trans e1.symm]
  rw [iI_of r1]
  refine In.icmp_eq (tgt := 846) d_Law_law_538 (by decide) (iI_rg r1) (iI_rg r1) (fun c538 => ?_) (fun c538 => ?_)
  · exact cont _ ⟨hG2, _, _, _, _, _, _, _, hA2, hB2, hV⟩
  · exact absurd rfl c538
theorem law_15 {L b0 k : Nat} {xs : Nat → Int32} {M : wM} {Q : Option Value → wSh → wM → Nat × Nat → Prop} (hL : L ≤ 448) (hk : k + 7 ≤ L) (hI : INV M) (cont : ∀ M', INV M' → Rn k_Law_law (some (L, xs, b0)) (58, 2282) 846 [some (.ref w_scr), some (.ref 0), some (.ref 47), some (.int (iI k))] [] SH M' Q) : Rn k_Law_law (some (L, xs, b0)) (58, 2282) 543 [some (.ref w_scr), some (.ref 0), some (.ref 47), some (.int (iI k))] [] SH M Q := by
  obtain ⟨hG, β, n, σ, m, τ, I, J, hA, hB, hV⟩ := hI
  obtain ⟨Rr, v1, v2, v3, v4⟩ := ex_seen (β := β) (n := n) (σ := σ) (m := m) (τ := τ) (I := I) (J := J) (l := (xs (k + 1)).toInt) (v := (xs (k + 2)).toInt) hV.2.2.1.1
  have okR : aLok β n σ Rr.2.1 Rr.2.2 I J := by
    by_cases c0 : lpq (xs (k + 1)).toInt
    · by_cases c1 : 0 ≤ (xs (k + 2)).toInt ∧ (xs (k + 2)).toInt ≤ 11
      · by_cases c2 : m = 8
        · rw [v3 c0 c1 c2]; exact hV
        · have hm := hV.2.2.1.1
          rw [v4 c0 c1 (by omega)]; exact ⟨hV.1, hV.2.1, ok_seen hV.2.2.1 (by omega) c0 c1, hV.2.2.2⟩
      · rw [v2 c0 c1]; exact hV
    · rw [v1 c0]; exact hV
  refine Rn.aload_n d_Law_law_543 rfl ?_
  refine Rn.aload_n d_Law_law_544 rfl ?_
  refine Rn.iload_n d_Law_law_545 rfl ?_
  refine Rn.iconst (v := iI 1) d_Law_law_546 rfl ?_
  refine In.add d_Law_law_547 ?_
  refine In.sld rfl d_Law_law_548 (show ((k : Int) + 1) = ((k + 1 : Nat) : Int) by omega) (by omega) (by omega) ?_
  refine Rn.aload_n d_Law_law_549 rfl ?_
  refine Rn.iload_n d_Law_law_550 rfl ?_
  refine Rn.iconst (v := iI 2) d_Law_law_551 rfl ?_
  refine In.add d_Law_law_552 ?_
  refine In.sld rfl d_Law_law_553 (show ((k : Int) + 2) = ((k + 2 : Nat) : Int) by omega) (by omega) (by omega) ?_
  refine Rn.cVI d_Law_law_554 s_Law_law_BH_seen g_523 g_524 g_525 ⟨rfl, rfl⟩ ⟨by decide, by decide⟩ (m_BH_seen (l := (xs (k + 1)).toInt) (v := (xs (k + 2)).toInt) hG hA hV (iI_rg _) (iI_rg _) v1 v2 v3 v4) rfl rfl z_BH c_BH (Nat.le_of_ble_eq_true rfl) (fun r1 M1 q1 => ?_)
  obtain ⟨e1, hA1, hO1⟩ := q1
  have hG1 := hO1.G hG
  have hB1 := hB.cl hO1
  refine Rn.aload_n d_Law_law_557 rfl ?_
  refine Rn.aload_n d_Law_law_558 rfl ?_
  refine Rn.iload_n d_Law_law_559 rfl ?_
  refine Rn.iconst (v := iI 1) d_Law_law_560 rfl ?_
  refine In.add d_Law_law_561 ?_
  refine In.sld rfl d_Law_law_562 (show ((k : Int) + 1) = ((k + 1 : Nat) : Int) by omega) (by omega) (by omega) ?_
  refine Rn.aload_n d_Law_law_563 rfl ?_
  refine Rn.iload_n d_Law_law_564 rfl ?_
  refine Rn.iconst (v := iI 2) d_Law_law_565 rfl ?_
  refine In.add d_Law_law_566 ?_
  refine In.sld rfl d_Law_law_567 (show ((k : Int) + 2) = ((k + 2 : Nat) : Int) by omega) (by omega) (by omega) ?_
  refine Rn.cVI d_Law_law_568 s_Law_law_Md_seen g_832 g_833 g_834 ⟨rfl, rfl⟩ ⟨by decide, by decide⟩ (m_Md_seen (l := (xs (k + 1)).toInt) (v := (xs (k + 2)).toInt) hG1 hB1 hV (iI_rg _) (iI_rg _) v1 v2 v3 v4) rfl rfl z_Md c_Md (Nat.le_of_ble_eq_true rfl) (fun r2 M2 q2 => ?_)
  obtain ⟨e2, hB2, hO2⟩ := q2
  have hA2 := hA1.md hO2
  have hG2 := hO2.G hG1
  rw [show r2 = r1 from e2.trans e1.symm]
  rw [iI_of r1]
  refine In.icmp_eq (tgt := 846) d_Law_law_571 (by decide) (iI_rg r1) (iI_rg r1) (fun c571 => ?_) (fun c571 => ?_)
  · exact cont _ ⟨hG2, _, _, _, _, _, _, _, hA2, hB2, okR⟩
  · exact absurd rfl c571
theorem law_16 {L b0 k : Nat} {xs : Nat → Int32} {M : wM} {Q : Option Value → wSh → wM → Nat × Nat → Prop} (hL : L ≤ 448) (hk : k + 7 ≤ L) (hI : INV M) (cont : ∀ M', INV M' → Rn k_Law_law (some (L, xs, b0)) (58, 2282) 846 [some (.ref w_scr), some (.ref 0), some (.ref 47), some (.int (iI k))] [] SH M' Q) : Rn k_Law_law (some (L, xs, b0)) (58, 2282) 576 [some (.ref w_scr), some (.ref 0), some (.ref 47), some (.int (iI k))] [] SH M Q := by
  obtain ⟨hG, β, n, σ, m, τ, I, J, hA, hB, hV⟩ := hI
  refine Rn.aload_n d_Law_law_576 rfl ?_
  refine Rn.cVI d_Law_law_577 s_Law_law_BH_forget g_535 g_536 g_537 ⟨rfl, rfl⟩ ⟨by decide, by decide⟩ (m_BH_forget  hG hA ) rfl rfl z_BH c_BH (Nat.le_of_ble_eq_true rfl) (fun r1 M1 q1 => ?_)
  obtain ⟨e1, hA1, hO1⟩ := q1
  have hG1 := hO1.G hG
  have hB1 := hB.cl hO1
  refine Rn.aload_n d_Law_law_580 rfl ?_
  refine Rn.cVI d_Law_law_581 s_Law_law_Md_forget g_836 g_837 g_838 ⟨rfl, rfl⟩ ⟨by decide, by decide⟩ (m_Md_forget  hG1 hB1 ) rfl rfl z_Md c_Md (Nat.le_of_ble_eq_true rfl) (fun r2 M2 q2 => ?_)
  obtain ⟨e2, hB2, hO2⟩ := q2
  have hA2 := hA1.md hO2
  have hG2 := hO2.G hG1
  rw [show r2 = r1 from e2.trans e1.symm]
  rw [iI_of r1]
  refine In.icmp_eq (tgt := 846) d_Law_law_584 (by decide) (iI_rg r1) (iI_rg r1) (fun c584 => ?_) (fun c584 => ?_)
  · exact cont _ ⟨hG2, _, _, _, _, _, _, _, hA2, hB2, ⟨hV.1, hV.2.1, ⟨Nat.zero_le _, hV.2.2.1.2⟩, hV.2.2.2⟩⟩
  · exact absurd rfl c584
theorem law_17 {L b0 k : Nat} {xs : Nat → Int32} {M : wM} {Q : Option Value → wSh → wM → Nat × Nat → Prop} (hL : L ≤ 448) (hk : k + 7 ≤ L) (hI : INV M) (cont : ∀ M', INV M' → Rn k_Law_law (some (L, xs, b0)) (58, 2282) 846 [some (.ref w_scr), some (.ref 0), some (.ref 47), some (.int (iI k))] [] SH M' Q) : Rn k_Law_law (some (L, xs, b0)) (58, 2282) 589 [some (.ref w_scr), some (.ref 0), some (.ref 47), some (.int (iI k))] [] SH M Q := by
  obtain ⟨hG, β, n, σ, m, τ, I, J, hA, hB, hV⟩ := hI
  obtain ⟨V, v1, v2⟩ := ex_where (β := β) (n := n) (σ := σ) (m := m) (τ := τ) (I := I) (J := J) (i := (xs (k + 1)).toInt)
  refine Rn.aload_n d_Law_law_589 rfl ?_
  refine Rn.aload_n d_Law_law_590 rfl ?_
  refine Rn.iload_n d_Law_law_591 rfl ?_
  refine Rn.iconst (v := iI 1) d_Law_law_592 rfl ?_
  refine In.add d_Law_law_593 ?_
  refine In.sld rfl d_Law_law_594 (show ((k : Int) + 1) = ((k + 1 : Nat) : Int) by omega) (by omega) (by omega) ?_
  refine Rn.cVI d_Law_law_595 s_Law_law_BH_where g_543 g_544 g_545 ⟨rfl, rfl⟩ ⟨by decide, by decide⟩ (m_BH_where (i := (xs (k + 1)).toInt) hG hA hV (iI_rg _) v1 v2) rfl rfl z_BH c_BH (Nat.le_of_ble_eq_true rfl) (fun r1 M1 q1 => ?_)
  obtain ⟨e1, hA1, hO1⟩ := q1
  have hG1 := hO1.G hG
  have hB1 := hB.cl hO1
  refine Rn.aload_n d_Law_law_598 rfl ?_
  refine Rn.aload_n d_Law_law_599 rfl ?_
  refine Rn.iload_n d_Law_law_600 rfl ?_
  refine Rn.iconst (v := iI 1) d_Law_law_601 rfl ?_
  refine In.add d_Law_law_602 ?_
  refine In.sld rfl d_Law_law_603 (show ((k : Int) + 1) = ((k + 1 : Nat) : Int) by omega) (by omega) (by omega) ?_
  refine Rn.cVI d_Law_law_604 s_Law_law_Md_where g_840 g_841 g_842 ⟨rfl, rfl⟩ ⟨by decide, by decide⟩ (m_Md_where (i := (xs (k + 1)).toInt) hG1 hB1 hV (iI_rg _) v1 v2) rfl rfl z_Md c_Md (Nat.le_of_ble_eq_true rfl) (fun r2 M2 q2 => ?_)
  obtain ⟨e2, hB2, hO2⟩ := q2
  have hA2 := hA1.md hO2
  have hG2 := hO2.G hG1
  rw [show r2 = r1 from e2.trans e1.symm]
  rw [iI_of r1]
  refine In.icmp_eq (tgt := 846) d_Law_law_607 (by decide) (iI_rg r1) (iI_rg r1) (fun c607 => ?_) (fun c607 => ?_)
  · exact cont _ ⟨hG2, _, _, _, _, _, _, _, hA2, hB2, hV⟩
  · exact absurd rfl c607
theorem law_18 {L b0 k : Nat} {xs : Nat → Int32} {M : wM} {Q : Option Value → wSh → wM → Nat × Nat → Prop} (hL : L ≤ 448) (hk : k + 7 ≤ L) (hI : INV M) (cont : ∀ M', INV M' → Rn k_Law_law (some (L, xs, b0)) (58, 2282) 846 [some (.ref w_scr), some (.ref 0), some (.ref 47), some (.int (iI k))] [] SH M' Q) : Rn k_Law_law (some (L, xs, b0)) (58, 2282) 612 [some (.ref w_scr), some (.ref 0), some (.ref 47), some (.int (iI k))] [] SH M Q := by
  obtain ⟨hG, β, n, σ, m, τ, I, J, hA, hB, hV⟩ := hI
  obtain ⟨V, v1, v2, v3, v4⟩ := ex_ask (β := β) (n := n) (σ := σ) (m := m) (τ := τ) (I := I) (J := J) (w := (xs (k + 1)).toInt)
  refine Rn.aload_n d_Law_law_612 rfl ?_
  refine Rn.aload_n d_Law_law_613 rfl ?_
  refine Rn.iload_n d_Law_law_614 rfl ?_
  refine Rn.iconst (v := iI 1) d_Law_law_615 rfl ?_
  refine In.add d_Law_law_616 ?_
  refine In.sld rfl d_Law_law_617 (show ((k : Int) + 1) = ((k + 1 : Nat) : Int) by omega) (by omega) (by omega) ?_
  refine Rn.cVI d_Law_law_618 s_Law_law_BH_ask g_552 g_553 g_554 ⟨rfl, rfl⟩ ⟨by decide, by decide⟩ (m_BH_ask (w := (xs (k + 1)).toInt) hG hA hV (iI_rg _) v1 v2 v3 v4) rfl rfl z_BH c_BH (Nat.le_of_ble_eq_true rfl) (fun r1 M1 q1 => ?_)
  obtain ⟨e1, hA1, hO1⟩ := q1
  have hG1 := hO1.G hG
  have hB1 := hB.cl hO1
  refine Rn.aload_n d_Law_law_621 rfl ?_
  refine Rn.aload_n d_Law_law_622 rfl ?_
  refine Rn.iload_n d_Law_law_623 rfl ?_
  refine Rn.iconst (v := iI 1) d_Law_law_624 rfl ?_
  refine In.add d_Law_law_625 ?_
  refine In.sld rfl d_Law_law_626 (show ((k : Int) + 1) = ((k + 1 : Nat) : Int) by omega) (by omega) (by omega) ?_
  refine Rn.cVI d_Law_law_627 s_Law_law_Md_ask g_848 g_849 g_850 ⟨rfl, rfl⟩ ⟨by decide, by decide⟩ (m_Md_ask (w := (xs (k + 1)).toInt) hG1 hB1 hV (iI_rg _) v1 v2 v3 v4) rfl rfl z_Md c_Md (Nat.le_of_ble_eq_true rfl) (fun r2 M2 q2 => ?_)
  obtain ⟨e2, hB2, hO2⟩ := q2
  have hA2 := hA1.md hO2
  have hG2 := hO2.G hG1
  rw [show r2 = r1 from e2.trans e1.symm]
  rw [iI_of r1]
  refine In.icmp_eq (tgt := 846) d_Law_law_630 (by decide) (iI_rg r1) (iI_rg r1) (fun c630 => ?_) (fun c630 => ?_)
  · exact cont _ ⟨hG2, _, _, _, _, _, _, _, hA2, hB2, hV⟩
  · exact absurd rfl c630
theorem law_19 {L b0 k : Nat} {xs : Nat → Int32} {M : wM} {Q : Option Value → wSh → wM → Nat × Nat → Prop} (hL : L ≤ 448) (hk : k + 7 ≤ L) (hI : INV M) (cont : ∀ M', INV M' → Rn k_Law_law (some (L, xs, b0)) (58, 2282) 846 [some (.ref w_scr), some (.ref 0), some (.ref 47), some (.int (iI k))] [] SH M' Q) : Rn k_Law_law (some (L, xs, b0)) (58, 2282) 635 [some (.ref w_scr), some (.ref 0), some (.ref 47), some (.int (iI k))] [] SH M Q := by
  obtain ⟨hG, β, n, σ, m, τ, I, J, hA, hB, hV⟩ := hI
  obtain ⟨V, v1, v2, v3, v4⟩ := ex_cut (β := β) (n := n) (σ := σ) (m := m) (τ := τ) (I := I) (J := J) (w := (xs (k + 1)).toInt)
  refine Rn.aload_n d_Law_law_635 rfl ?_
  refine Rn.aload_n d_Law_law_636 rfl ?_
  refine Rn.iload_n d_Law_law_637 rfl ?_
  refine Rn.iconst (v := iI 1) d_Law_law_638 rfl ?_
  refine In.add d_Law_law_639 ?_
  refine In.sld rfl d_Law_law_640 (show ((k : Int) + 1) = ((k + 1 : Nat) : Int) by omega) (by omega) (by omega) ?_
  refine Rn.cVI d_Law_law_641 s_Law_law_BH_cut g_562 g_563 g_564 ⟨rfl, rfl⟩ ⟨by decide, by decide⟩ (m_BH_cut (w := (xs (k + 1)).toInt) hG hA hV (iI_rg _) v1 v2 v3 v4) rfl rfl z_BH c_BH (Nat.le_of_ble_eq_true rfl) (fun r1 M1 q1 => ?_)
  obtain ⟨e1, hA1, hO1⟩ := q1
  have hG1 := hO1.G hG
  have hB1 := hB.cl hO1
  refine Rn.aload_n d_Law_law_644 rfl ?_
  refine Rn.aload_n d_Law_law_645 rfl ?_
  refine Rn.iload_n d_Law_law_646 rfl ?_
  refine Rn.iconst (v := iI 1) d_Law_law_647 rfl ?_
  refine In.add d_Law_law_648 ?_
  refine In.sld rfl d_Law_law_649 (show ((k : Int) + 1) = ((k + 1 : Nat) : Int) by omega) (by omega) (by omega) ?_
  refine Rn.cVI d_Law_law_650 s_Law_law_Md_cut g_852 g_853 g_854 ⟨rfl, rfl⟩ ⟨by decide, by decide⟩ (m_Md_cut (w := (xs (k + 1)).toInt) hG1 hB1 hV (iI_rg _) v1 v2 v3 v4) rfl rfl z_Md c_Md (Nat.le_of_ble_eq_true rfl) (fun r2 M2 q2 => ?_)
  obtain ⟨e2, hB2, hO2⟩ := q2
  have hA2 := hA1.md hO2
  have hG2 := hO2.G hG1
  rw [show r2 = r1 from e2.trans e1.symm]
  rw [iI_of r1]
  refine In.icmp_eq (tgt := 846) d_Law_law_653 (by decide) (iI_rg r1) (iI_rg r1) (fun c653 => ?_) (fun c653 => ?_)
  · exact cont _ ⟨hG2, _, _, _, _, _, _, _, hA2, hB2, hV⟩
  · exact absurd rfl c653
theorem law_20 {L b0 k : Nat} {xs : Nat → Int32} {M : wM} {Q : Option Value → wSh → wM → Nat × Nat → Prop} (hL : L ≤ 448) (hk : k + 7 ≤ L) (hI : INV M) (cont : ∀ M', INV M' → Rn k_Law_law (some (L, xs, b0)) (58, 2282) 846 [some (.ref w_scr), some (.ref 0), some (.ref 47), some (.int (iI k))] [] SH M' Q) : Rn k_Law_law (some (L, xs, b0)) (58, 2282) 658 [some (.ref w_scr), some (.ref 0), some (.ref 47), some (.int (iI k))] [] SH M Q := by
  obtain ⟨hG, β, n, σ, m, τ, I, J, hA, hB, hV⟩ := hI
  obtain ⟨V, v1, v2, v3⟩ := ex_tissue (β := β) (n := n) (σ := σ) (m := m) (τ := τ) (I := I) (J := J) (a := (xs (k + 1)).toInt) (r := (xs (k + 2)).toInt) (k := (xs (k + 3)).toInt) (j := (xs (k + 4)).toInt) (w := (xs (k + 5)).toInt) (part := (xs (k + 6)).toInt)
  refine Rn.aload_n d_Law_law_658 rfl ?_
  refine Rn.aload_n d_Law_law_659 rfl ?_
  refine Rn.iload_n d_Law_law_660 rfl ?_
  refine Rn.iconst (v := iI 1) d_Law_law_661 rfl ?_
  refine In.add d_Law_law_662 ?_
  refine In.sld rfl d_Law_law_663 (show ((k : Int) + 1) = ((k + 1 : Nat) : Int) by omega) (by omega) (by omega) ?_
  refine Rn.aload_n d_Law_law_664 rfl ?_
  refine Rn.iload_n d_Law_law_665 rfl ?_
  refine Rn.iconst (v := iI 2) d_Law_law_666 rfl ?_
  refine In.add d_Law_law_667 ?_
  refine In.sld rfl d_Law_law_668 (show ((k : Int) + 2) = ((k + 2 : Nat) : Int) by omega) (by omega) (by omega) ?_
  refine Rn.aload_n d_Law_law_669 rfl ?_
  refine Rn.iload_n d_Law_law_670 rfl ?_
  refine Rn.iconst (v := iI 3) d_Law_law_671 rfl ?_
  refine In.add d_Law_law_672 ?_
  refine In.sld rfl d_Law_law_673 (show ((k : Int) + 3) = ((k + 3 : Nat) : Int) by omega) (by omega) (by omega) ?_
  refine Rn.aload_n d_Law_law_674 rfl ?_
  refine Rn.iload_n d_Law_law_675 rfl ?_
  refine Rn.iconst (v := iI 4) d_Law_law_676 rfl ?_
  refine In.add d_Law_law_677 ?_
  refine In.sld rfl d_Law_law_678 (show ((k : Int) + 4) = ((k + 4 : Nat) : Int) by omega) (by omega) (by omega) ?_
  refine Rn.aload_n d_Law_law_679 rfl ?_
  refine Rn.iload_n d_Law_law_680 rfl ?_
  refine Rn.iconst (v := iI 5) d_Law_law_681 rfl ?_
  refine In.add d_Law_law_682 ?_
  refine In.sld rfl d_Law_law_683 (show ((k : Int) + 5) = ((k + 5 : Nat) : Int) by omega) (by omega) (by omega) ?_
  refine Rn.aload_n d_Law_law_684 rfl ?_
  refine Rn.iload_n d_Law_law_685 rfl ?_
  refine Rn.bipush (v := iI 6) d_Law_law_686 (by decide +kernel) ?_
  refine In.add d_Law_law_688 ?_
  refine In.sld rfl d_Law_law_689 (show ((k : Int) + 6) = ((k + 6 : Nat) : Int) by omega) (by omega) (by omega) ?_
  refine Rn.cVL d_Law_law_690 s_Law_law_BH_tissue g_571 g_572 g_573 ⟨rfl, rfl⟩ ⟨by decide, by decide⟩ (m_BH_tissue (a := (xs (k + 1)).toInt) (r := (xs (k + 2)).toInt) (k := (xs (k + 3)).toInt) (j := (xs (k + 4)).toInt) (w := (xs (k + 5)).toInt) (part := (xs (k + 6)).toInt) hG hA hV (iI_rg _) (iI_rg _) (iI_rg _) (iI_rg _) (iI_rg _) (iI_rg _) v1 v2 v3) rfl rfl z_BH c_BH (Nat.le_of_ble_eq_true rfl) (fun r1 M1 q1 => ?_)
  obtain ⟨e1, hA1, hO1⟩ := q1
  have hG1 := hO1.G hG
  have hB1 := hB.cl hO1
  refine Rn.aload_n d_Law_law_693 rfl ?_
  refine Rn.aload_n d_Law_law_694 rfl ?_
  refine Rn.iload_n d_Law_law_695 rfl ?_
  refine Rn.iconst (v := iI 1) d_Law_law_696 rfl ?_
  refine In.add d_Law_law_697 ?_
  refine In.sld rfl d_Law_law_698 (show ((k : Int) + 1) = ((k + 1 : Nat) : Int) by omega) (by omega) (by omega) ?_
  refine Rn.aload_n d_Law_law_699 rfl ?_
  refine Rn.iload_n d_Law_law_700 rfl ?_
  refine Rn.iconst (v := iI 2) d_Law_law_701 rfl ?_
  refine In.add d_Law_law_702 ?_
  refine In.sld rfl d_Law_law_703 (show ((k : Int) + 2) = ((k + 2 : Nat) : Int) by omega) (by omega) (by omega) ?_
  refine Rn.aload_n d_Law_law_704 rfl ?_
  refine Rn.iload_n d_Law_law_705 rfl ?_
  refine Rn.iconst (v := iI 3) d_Law_law_706 rfl ?_
  refine In.add d_Law_law_707 ?_
  refine In.sld rfl d_Law_law_708 (show ((k : Int) + 3) = ((k + 3 : Nat) : Int) by omega) (by omega) (by omega) ?_
  refine Rn.aload_n d_Law_law_709 rfl ?_
  refine Rn.iload_n d_Law_law_710 rfl ?_
  refine Rn.iconst (v := iI 4) d_Law_law_711 rfl ?_
  refine In.add d_Law_law_712 ?_
  refine In.sld rfl d_Law_law_713 (show ((k : Int) + 4) = ((k + 4 : Nat) : Int) by omega) (by omega) (by omega) ?_
  refine Rn.aload_n d_Law_law_714 rfl ?_
  refine Rn.iload_n d_Law_law_715 rfl ?_
  refine Rn.iconst (v := iI 5) d_Law_law_716 rfl ?_
  refine In.add d_Law_law_717 ?_
  refine In.sld rfl d_Law_law_718 (show ((k : Int) + 5) = ((k + 5 : Nat) : Int) by omega) (by omega) (by omega) ?_
  refine Rn.aload_n d_Law_law_719 rfl ?_
  refine Rn.iload_n d_Law_law_720 rfl ?_
  refine Rn.bipush (v := iI 6) d_Law_law_721 (by decide +kernel) ?_
  refine In.add d_Law_law_723 ?_
  refine In.sld rfl d_Law_law_724 (show ((k : Int) + 6) = ((k + 6 : Nat) : Int) by omega) (by omega) (by omega) ?_
  refine Rn.cVL d_Law_law_725 s_Law_law_Md_tissue g_860 g_861 g_862 ⟨rfl, rfl⟩ ⟨by decide, by decide⟩ (m_Md_tissue (a := (xs (k + 1)).toInt) (r := (xs (k + 2)).toInt) (k := (xs (k + 3)).toInt) (j := (xs (k + 4)).toInt) (w := (xs (k + 5)).toInt) (part := (xs (k + 6)).toInt) hG1 hB1 hV (iI_rg _) (iI_rg _) (iI_rg _) (iI_rg _) (iI_rg _) (iI_rg _) v1 v2 v3) rfl rfl z_Md c_Md (Nat.le_of_ble_eq_true rfl) (fun r2 M2 q2 => ?_)
  obtain ⟨e2, hB2, hO2⟩ := q2
  have hA2 := hA1.md hO2
  have hG2 := hO2.G hG1
  rw [show r2 = r1 from e2.trans e1.symm]
  rw [jI_of r1]
  refine In.lcmp d_Law_law_728 (jI_rg r1) (jI_rg r1) ?_
  rw [if_neg (Int.lt_irrefl _), if_pos rfl]
  refine In.if_eq (tgt := 846) d_Law_law_729 (by decide) ⟨by omega, by omega⟩ (fun c729 => ?_) (fun c729 => ?_)
  · exact cont _ ⟨hG2, _, _, _, _, _, _, _, hA2, hB2, hV⟩
  · exact absurd rfl c729
theorem law_21 {L b0 k : Nat} {xs : Nat → Int32} {M : wM} {Q : Option Value → wSh → wM → Nat × Nat → Prop} (hL : L ≤ 448) (hk : k + 7 ≤ L) (hI : INV M) (cont : ∀ M', INV M' → Rn k_Law_law (some (L, xs, b0)) (58, 2282) 846 [some (.ref w_scr), some (.ref 0), some (.ref 47), some (.int (iI k))] [] SH M' Q) : Rn k_Law_law (some (L, xs, b0)) (58, 2282) 734 [some (.ref w_scr), some (.ref 0), some (.ref 47), some (.int (iI k))] [] SH M Q := by
  obtain ⟨hG, β, n, σ, m, τ, I, J, hA, hB, hV⟩ := hI
  obtain ⟨V, v1, v2, v3, v4⟩ := ex_year (β := β) (n := n) (σ := σ) (m := m) (τ := τ) (I := I) (J := J) (x := (xs (k + 1)).toInt) (d := (xs (k + 2)).toInt) (w := (xs (k + 3)).toInt)
  refine Rn.aload_n d_Law_law_734 rfl ?_
  refine Rn.aload_n d_Law_law_735 rfl ?_
  refine Rn.iload_n d_Law_law_736 rfl ?_
  refine Rn.iconst (v := iI 1) d_Law_law_737 rfl ?_
  refine In.add d_Law_law_738 ?_
  refine In.sld rfl d_Law_law_739 (show ((k : Int) + 1) = ((k + 1 : Nat) : Int) by omega) (by omega) (by omega) ?_
  refine Rn.aload_n d_Law_law_740 rfl ?_
  refine Rn.iload_n d_Law_law_741 rfl ?_
  refine Rn.iconst (v := iI 2) d_Law_law_742 rfl ?_
  refine In.add d_Law_law_743 ?_
  refine In.sld rfl d_Law_law_744 (show ((k : Int) + 2) = ((k + 2 : Nat) : Int) by omega) (by omega) (by omega) ?_
  refine Rn.aload_n d_Law_law_745 rfl ?_
  refine Rn.iload_n d_Law_law_746 rfl ?_
  refine Rn.iconst (v := iI 3) d_Law_law_747 rfl ?_
  refine In.add d_Law_law_748 ?_
  refine In.sld rfl d_Law_law_749 (show ((k : Int) + 3) = ((k + 3 : Nat) : Int) by omega) (by omega) (by omega) ?_
  refine Rn.cVI d_Law_law_750 s_Law_law_BH_year g_593 g_594 g_595 ⟨rfl, rfl⟩ ⟨by decide, by decide⟩ (m_BH_year (x := (xs (k + 1)).toInt) (d := (xs (k + 2)).toInt) (w := (xs (k + 3)).toInt) hG hA hV (iI_rg _) (iI_rg _) (iI_rg _) v1 v2 v3 v4) rfl rfl z_BH c_BH (Nat.le_of_ble_eq_true rfl) (fun r1 M1 q1 => ?_)
  obtain ⟨e1, hA1, hO1⟩ := q1
  have hG1 := hO1.G hG
  have hB1 := hB.cl hO1
  refine Rn.aload_n d_Law_law_753 rfl ?_
  refine Rn.aload_n d_Law_law_754 rfl ?_
  refine Rn.iload_n d_Law_law_755 rfl ?_
  refine Rn.iconst (v := iI 1) d_Law_law_756 rfl ?_
  refine In.add d_Law_law_757 ?_
  refine In.sld rfl d_Law_law_758 (show ((k : Int) + 1) = ((k + 1 : Nat) : Int) by omega) (by omega) (by omega) ?_
  refine Rn.aload_n d_Law_law_759 rfl ?_
  refine Rn.iload_n d_Law_law_760 rfl ?_
  refine Rn.iconst (v := iI 2) d_Law_law_761 rfl ?_
  refine In.add d_Law_law_762 ?_
  refine In.sld rfl d_Law_law_763 (show ((k : Int) + 2) = ((k + 2 : Nat) : Int) by omega) (by omega) (by omega) ?_
  refine Rn.aload_n d_Law_law_764 rfl ?_
  refine Rn.iload_n d_Law_law_765 rfl ?_
  refine Rn.iconst (v := iI 3) d_Law_law_766 rfl ?_
  refine In.add d_Law_law_767 ?_
  refine In.sld rfl d_Law_law_768 (show ((k : Int) + 3) = ((k + 3 : Nat) : Int) by omega) (by omega) (by omega) ?_
  refine Rn.cVI d_Law_law_769 s_Law_law_Md_year g_872 g_873 g_874 ⟨rfl, rfl⟩ ⟨by decide, by decide⟩ (m_Md_year (x := (xs (k + 1)).toInt) (d := (xs (k + 2)).toInt) (w := (xs (k + 3)).toInt) hG1 hB1 hV (iI_rg _) (iI_rg _) (iI_rg _) v1 v2 v3 v4) rfl rfl z_Md c_Md (Nat.le_of_ble_eq_true rfl) (fun r2 M2 q2 => ?_)
  obtain ⟨e2, hB2, hO2⟩ := q2
  have hA2 := hA1.md hO2
  have hG2 := hO2.G hG1
  rw [show r2 = r1 from e2.trans e1.symm]
  rw [iI_of r1]
  refine In.icmp_eq (tgt := 846) d_Law_law_772 (by decide) (iI_rg r1) (iI_rg r1) (fun c772 => ?_) (fun c772 => ?_)
  · exact cont _ ⟨hG2, _, _, _, _, _, _, _, hA2, hB2, hV⟩
  · exact absurd rfl c772
theorem law_22 {L b0 k : Nat} {xs : Nat → Int32} {M : wM} {Q : Option Value → wSh → wM → Nat × Nat → Prop} (hL : L ≤ 448) (hk : k + 7 ≤ L) (hI : INV M) (cont : ∀ M', INV M' → Rn k_Law_law (some (L, xs, b0)) (58, 2282) 846 [some (.ref w_scr), some (.ref 0), some (.ref 47), some (.int (iI k))] [] SH M' Q) : Rn k_Law_law (some (L, xs, b0)) (58, 2282) 777 [some (.ref w_scr), some (.ref 0), some (.ref 47), some (.int (iI k))] [] SH M Q := by
  obtain ⟨hG, β, n, σ, m, τ, I, J, hA, hB, hV⟩ := hI
  obtain ⟨Rr, v1, v2, v3⟩ := ex_image (β := β) (n := n) (σ := σ) (m := m) (τ := τ) (I := I) (J := J) (w := (xs (k + 1)).toInt)
  have okR : aLok β n σ m τ Rr.2.1 Rr.2.2 := by
    by_cases c0 : 0 ≤ (xs (k + 1)).toInt ∧ (xs (k + 1)).toInt ≤ 1
    · by_cases c1 : (xs (k + 1)).toInt = 0
      · rw [v2 c1]; exact ⟨hV.1, hV.2.1, hV.2.2.1, ⟨hV.1, hV.2.2.1⟩, hV.2.2.2.2⟩
      · rw [v3 (by omega)]; exact ⟨hV.1, hV.2.1, hV.2.2.1, hV.2.2.2.1, ⟨hV.1, hV.2.2.1⟩⟩
    · rw [v1 c0]; exact hV
  refine Rn.aload_n d_Law_law_777 rfl ?_
  refine Rn.aload_n d_Law_law_778 rfl ?_
  refine Rn.iload_n d_Law_law_779 rfl ?_
  refine Rn.iconst (v := iI 1) d_Law_law_780 rfl ?_
  refine In.add d_Law_law_781 ?_
  refine In.sld rfl d_Law_law_782 (show ((k : Int) + 1) = ((k + 1 : Nat) : Int) by omega) (by omega) (by omega) ?_
  refine Rn.cVI d_Law_law_783 s_Law_law_BH_image g_610 g_611 g_612 ⟨rfl, rfl⟩ ⟨by decide, by decide⟩ (m_BH_image (w := (xs (k + 1)).toInt) hG hA hV (iI_rg _) v1 v2 v3) rfl rfl z_BH c_BH (Nat.le_of_ble_eq_true rfl) (fun r1 M1 q1 => ?_)
  obtain ⟨e1, hA1, hO1⟩ := q1
  have hG1 := hO1.G hG
  have hB1 := hB.cl hO1
  refine Rn.aload_n d_Law_law_786 rfl ?_
  refine Rn.aload_n d_Law_law_787 rfl ?_
  refine Rn.iload_n d_Law_law_788 rfl ?_
  refine Rn.iconst (v := iI 1) d_Law_law_789 rfl ?_
  refine In.add d_Law_law_790 ?_
  refine In.sld rfl d_Law_law_791 (show ((k : Int) + 1) = ((k + 1 : Nat) : Int) by omega) (by omega) (by omega) ?_
  refine Rn.cVI d_Law_law_792 s_Law_law_Md_image g_877 g_878 g_879 ⟨rfl, rfl⟩ ⟨by decide, by decide⟩ (m_Md_image (w := (xs (k + 1)).toInt) hG1 hB1 hV (iI_rg _) v1 v2 v3) rfl rfl z_Md c_Md (Nat.le_of_ble_eq_true rfl) (fun r2 M2 q2 => ?_)
  obtain ⟨e2, hB2, hO2⟩ := q2
  have hA2 := hA1.md hO2
  have hG2 := hO2.G hG1
  rw [show r2 = r1 from e2.trans e1.symm]
  rw [iI_of r1]
  refine In.icmp_eq (tgt := 846) d_Law_law_795 (by decide) (iI_rg r1) (iI_rg r1) (fun c795 => ?_) (fun c795 => ?_)
  · exact cont _ ⟨hG2, _, _, _, _, _, _, _, hA2, hB2, okR⟩
  · exact absurd rfl c795
theorem law_23 {L b0 k : Nat} {xs : Nat → Int32} {M : wM} {Q : Option Value → wSh → wM → Nat × Nat → Prop} (hL : L ≤ 448) (hk : k + 7 ≤ L) (hI : INV M) (cont : ∀ M', INV M' → Rn k_Law_law (some (L, xs, b0)) (58, 2282) 846 [some (.ref w_scr), some (.ref 0), some (.ref 47), some (.int (iI k))] [] SH M' Q) : Rn k_Law_law (some (L, xs, b0)) (58, 2282) 800 [some (.ref w_scr), some (.ref 0), some (.ref 47), some (.int (iI k))] [] SH M Q := by
  obtain ⟨hG, β, n, σ, m, τ, I, J, hA, hB, hV⟩ := hI
  obtain ⟨Rr, v1, v2, v3, v4, v5⟩ := ex_restore (β := β) (n := n) (σ := σ) (m := m) (τ := τ) (I := I) (J := J) (w := (xs (k + 1)).toInt)
  have okR : aLok Rr.2.1 n σ Rr.2.2.1 Rr.2.2.2 I J := by
    by_cases c0 : 0 ≤ (xs (k + 1)).toInt ∧ (xs (k + 1)).toInt ≤ 1
    · by_cases c1 : (xs (k + 1)).toInt = 0
      · by_cases c2 : I.1 = false
        · rw [v2 c1 c2]; exact hV
        · rw [v4 c1 (by simpa using c2)]; exact ⟨hV.2.2.2.1.1, hV.2.1, hV.2.2.2.1.2, hV.2.2.2⟩
      · by_cases c2 : J.1 = false
        · rw [v3 (by omega) c2]; exact hV
        · rw [v5 (by omega) (by simpa using c2)]; exact ⟨hV.2.2.2.2.1, hV.2.1, hV.2.2.2.2.2, hV.2.2.2⟩
    · rw [v1 c0]; exact hV
  refine Rn.aload_n d_Law_law_800 rfl ?_
  refine Rn.aload_n d_Law_law_801 rfl ?_
  refine Rn.iload_n d_Law_law_802 rfl ?_
  refine Rn.iconst (v := iI 1) d_Law_law_803 rfl ?_
  refine In.add d_Law_law_804 ?_
  refine In.sld rfl d_Law_law_805 (show ((k : Int) + 1) = ((k + 1 : Nat) : Int) by omega) (by omega) (by omega) ?_
  refine Rn.cVI d_Law_law_806 s_Law_law_BH_restore g_628 g_629 g_630 ⟨rfl, rfl⟩ ⟨by decide, by decide⟩ (m_BH_restore (w := (xs (k + 1)).toInt) hG hA hV (iI_rg _) v1 v2 v3 v4 v5) rfl rfl z_BH c_BH (Nat.le_of_ble_eq_true rfl) (fun r1 M1 q1 => ?_)
  obtain ⟨e1, hA1, hO1⟩ := q1
  have hG1 := hO1.G hG
  have hB1 := hB.cl hO1
  refine Rn.aload_n d_Law_law_809 rfl ?_
  refine Rn.aload_n d_Law_law_810 rfl ?_
  refine Rn.iload_n d_Law_law_811 rfl ?_
  refine Rn.iconst (v := iI 1) d_Law_law_812 rfl ?_
  refine In.add d_Law_law_813 ?_
  refine In.sld rfl d_Law_law_814 (show ((k : Int) + 1) = ((k + 1 : Nat) : Int) by omega) (by omega) (by omega) ?_
  refine Rn.cVI d_Law_law_815 s_Law_law_Md_restore g_881 g_882 g_883 ⟨rfl, rfl⟩ ⟨by decide, by decide⟩ (m_Md_restore (w := (xs (k + 1)).toInt) hG1 hB1 hV (iI_rg _) v1 v2 v3 v4 v5) rfl rfl z_Md c_Md (Nat.le_of_ble_eq_true rfl) (fun r2 M2 q2 => ?_)
  obtain ⟨e2, hB2, hO2⟩ := q2
  have hA2 := hA1.md hO2
  have hG2 := hO2.G hG1
  rw [show r2 = r1 from e2.trans e1.symm]
  rw [iI_of r1]
  refine In.icmp_eq (tgt := 846) d_Law_law_818 (by decide) (iI_rg r1) (iI_rg r1) (fun c818 => ?_) (fun c818 => ?_)
  · exact cont _ ⟨hG2, _, _, _, _, _, _, _, hA2, hB2, okR⟩
  · exact absurd rfl c818
theorem law_24 {L b0 k : Nat} {xs : Nat → Int32} {M : wM} {Q : Option Value → wSh → wM → Nat × Nat → Prop} (hL : L ≤ 448) (hk : k + 7 ≤ L) (hI : INV M) (cont : ∀ M', INV M' → Rn k_Law_law (some (L, xs, b0)) (58, 2282) 846 [some (.ref w_scr), some (.ref 0), some (.ref 47), some (.int (iI k))] [] SH M' Q) : Rn k_Law_law (some (L, xs, b0)) (58, 2282) 823 [some (.ref w_scr), some (.ref 0), some (.ref 47), some (.int (iI k))] [] SH M Q := by
  obtain ⟨hG, β, n, σ, m, τ, I, J, hA, hB, hV⟩ := hI
  refine Rn.aload_n d_Law_law_823 rfl ?_
  refine Rn.aload_n d_Law_law_824 rfl ?_
  refine Rn.iload_n d_Law_law_825 rfl ?_
  refine Rn.iconst (v := iI 1) d_Law_law_826 rfl ?_
  refine In.add d_Law_law_827 ?_
  refine In.sld rfl d_Law_law_828 (show ((k : Int) + 1) = ((k + 1 : Nat) : Int) by omega) (by omega) (by omega) ?_
  refine Rn.cVI d_Law_law_829 s_Law_law_BH_told g_640 g_641 g_642 ⟨rfl, rfl⟩ ⟨by decide, by decide⟩ (m_BH_told (w := (xs (k + 1)).toInt) hG hA hV (iI_rg _) ) rfl rfl z_BH c_BH (Nat.le_of_ble_eq_true rfl) (fun r1 M1 q1 => ?_)
  obtain ⟨e1, hA1, hO1⟩ := q1
  have hG1 := hO1.G hG
  have hB1 := hB.cl hO1
  refine Rn.aload_n d_Law_law_832 rfl ?_
  refine Rn.aload_n d_Law_law_833 rfl ?_
  refine Rn.iload_n d_Law_law_834 rfl ?_
  refine Rn.iconst (v := iI 1) d_Law_law_835 rfl ?_
  refine In.add d_Law_law_836 ?_
  refine In.sld rfl d_Law_law_837 (show ((k : Int) + 1) = ((k + 1 : Nat) : Int) by omega) (by omega) (by omega) ?_
  refine Rn.cVI d_Law_law_838 s_Law_law_Md_told g_885 g_886 g_887 ⟨rfl, rfl⟩ ⟨by decide, by decide⟩ (m_Md_told (w := (xs (k + 1)).toInt) hG1 hB1 hV (iI_rg _) ) rfl rfl z_Md c_Md (Nat.le_of_ble_eq_true rfl) (fun r2 M2 q2 => ?_)
  obtain ⟨e2, hB2, hO2⟩ := q2
  have hA2 := hA1.md hO2
  have hG2 := hO2.G hG1
  rw [show r2 = r1 from e2.trans e1.symm]
  rw [iI_of r1]
  refine In.icmp_eq (tgt := 846) d_Law_law_841 (by decide) (iI_rg r1) (iI_rg r1) (fun c841 => ?_) (fun c841 => ?_)
  · exact cont _ ⟨hG2, _, _, _, _, _, _, _, hA2, hB2, hV⟩
  · exact absurd rfl c841
