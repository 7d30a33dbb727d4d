/-! Contracts of methods that make nothing, by the kind of answer. -/
def w_0 (K : wK) : Prop := K.2.2.2.2.cells = 0 ∧ K.2.2.2.2.slots = 0
def w_QI (sh : wSh) (Q : Int32 → wM → Prop) : Option Value → wSh → wM → Prop := fun v sh' M' => sh' = sh ∧ ∃ r : Int32, v = some (.int r) ∧ Q r M'
def w_FI (cs : Nat × Nat) (sh : wSh) (Q : Int32 → wM → Prop) : Option Value → wSh → wM → Nat × Nat → Prop := fun v sh' M' cs' => cs' = cs ∧ w_QI sh Q v sh' M'
def EvI (K : wK) (As : List Value) (sh : wSh) (M : wM) (Q : Int32 → wM → Prop) : Prop := Ev K As sh M (w_QI sh Q)
theorem EvI.mono {K : wK} {As : List Value} {sh : wSh} {M : wM} {Q Q' : Int32 → wM → Prop} (k : EvI K As sh M Q') (h : ∀ r M', Q' r M' → Q r M') : EvI K As sh M Q := Ev.mono (fun v sh' M' hq => ⟨hq.1, hq.2.choose, hq.2.choose_spec.1, h _ _ hq.2.choose_spec.2⟩) k
theorem EvI.of {K : wK} {As : List Value} {sh : wSh} {M : wM} {Q : Int32 → wM → Prop} {lv : List (Option Value)} (k0 : Nat) (hy : plainName K.1.cls = true) (hn : (lg_sl As).length ≤ K.2.2.1) (hlv : w_lv As ++ List.replicate k0 none = lv)
    (body : Rn K none (0, 0) 0 lv [] sh M (w_FI (0, 0) sh Q)) : EvI K As sh M Q :=
  Ev.of k0 hy hn hlv (body.mono (fun v sh' M' cs' hq => ⟨hq.2, by rw [hq.1]; exact Nat.zero_le _, by rw [hq.1]; exact Nat.zero_le _⟩))
def w_QL (sh : wSh) (Q : Int64 → wM → Prop) : Option Value → wSh → wM → Prop := fun v sh' M' => sh' = sh ∧ ∃ r : Int64, v = some (.long r) ∧ Q r M'
def w_FL (cs : Nat × Nat) (sh : wSh) (Q : Int64 → wM → Prop) : Option Value → wSh → wM → Nat × Nat → Prop := fun v sh' M' cs' => cs' = cs ∧ w_QL sh Q v sh' M'
def EvL (K : wK) (As : List Value) (sh : wSh) (M : wM) (Q : Int64 → wM → Prop) : Prop := Ev K As sh M (w_QL sh Q)
theorem EvL.mono {K : wK} {As : List Value} {sh : wSh} {M : wM} {Q Q' : Int64 → wM → Prop} (k : EvL K As sh M Q') (h : ∀ r M', Q' r M' → Q r M') : EvL K As sh M Q := Ev.mono (fun v sh' M' hq => ⟨hq.1, hq.2.choose, hq.2.choose_spec.1, h _ _ hq.2.choose_spec.2⟩) k
theorem EvL.of {K : wK} {As : List Value} {sh : wSh} {M : wM} {Q : Int64 → wM → Prop} {lv : List (Option Value)} (k0 : Nat) (hy : plainName K.1.cls = true) (hn : (lg_sl As).length ≤ K.2.2.1) (hlv : w_lv As ++ List.replicate k0 none = lv)
    (body : Rn K none (0, 0) 0 lv [] sh M (w_FL (0, 0) sh Q)) : EvL K As sh M Q :=
  Ev.of k0 hy hn hlv (body.mono (fun v sh' M' cs' hq => ⟨hq.2, by rw [hq.1]; exact Nat.zero_le _, by rw [hq.1]; exact Nat.zero_le _⟩))
def w_QR (sh : wSh) (Q : Nat → wM → Prop) : Option Value → wSh → wM → Prop := fun v sh' M' => sh' = sh ∧ ∃ r : Nat, v = some (.ref r) ∧ Q r M'
def w_FR (cs : Nat × Nat) (sh : wSh) (Q : Nat → wM → Prop) : Option Value → wSh → wM → Nat × Nat → Prop := fun v sh' M' cs' => cs' = cs ∧ w_QR sh Q v sh' M'
def EvR (K : wK) (As : List Value) (sh : wSh) (M : wM) (Q : Nat → wM → Prop) : Prop := Ev K As sh M (w_QR sh Q)
theorem EvR.mono {K : wK} {As : List Value} {sh : wSh} {M : wM} {Q Q' : Nat → wM → Prop} (k : EvR K As sh M Q') (h : ∀ r M', Q' r M' → Q r M') : EvR K As sh M Q := Ev.mono (fun v sh' M' hq => ⟨hq.1, hq.2.choose, hq.2.choose_spec.1, h _ _ hq.2.choose_spec.2⟩) k
theorem EvR.of {K : wK} {As : List Value} {sh : wSh} {M : wM} {Q : Nat → wM → Prop} {lv : List (Option Value)} (k0 : Nat) (hy : plainName K.1.cls = true) (hn : (lg_sl As).length ≤ K.2.2.1) (hlv : w_lv As ++ List.replicate k0 none = lv)
    (body : Rn K none (0, 0) 0 lv [] sh M (w_FR (0, 0) sh Q)) : EvR K As sh M Q :=
  Ev.of k0 hy hn hlv (body.mono (fun v sh' M' cs' hq => ⟨hq.2, by rw [hq.1]; exact Nat.zero_le _, by rw [hq.1]; exact Nat.zero_le _⟩))
def w_QV (sh : wSh) (Q : wM → Prop) : Option Value → wSh → wM → Prop := fun v sh' M' => sh' = sh ∧ v = none ∧ Q M'
def w_FV (cs : Nat × Nat) (sh : wSh) (Q : wM → Prop) : Option Value → wSh → wM → Nat × Nat → Prop := fun v sh' M' cs' => cs' = cs ∧ w_QV sh Q v sh' M'
def EvV (K : wK) (As : List Value) (sh : wSh) (M : wM) (Q : wM → Prop) : Prop := Ev K As sh M (w_QV sh Q)
theorem EvV.mono {K : wK} {As : List Value} {sh : wSh} {M : wM} {Q Q' : wM → Prop} (k : EvV K As sh M Q') (h : ∀ M', Q' M' → Q M') : EvV K As sh M Q := Ev.mono (fun v sh' M' hq => ⟨hq.1, hq.2.1, h _ hq.2.2⟩) k
theorem EvV.of {K : wK} {As : List Value} {sh : wSh} {M : wM} {Q : wM → Prop} {lv : List (Option Value)} (k0 : Nat) (hy : plainName K.1.cls = true) (hn : (lg_sl As).length ≤ K.2.2.1) (hlv : w_lv As ++ List.replicate k0 none = lv)
    (body : Rn K none (0, 0) 0 lv [] sh M (w_FV (0, 0) sh Q)) : EvV K As sh M Q :=
  Ev.of k0 hy hn hlv (body.mono (fun v sh' M' cs' hq => ⟨hq.2, by rw [hq.1]; exact Nat.zero_le _, by rw [hq.1]; exact Nat.zero_le _⟩))
section RN2
variable {K K' : wK} {sx : Option (Nat × (Nat → Int32) × Nat)} {cs : Nat × Nat} {pc : Nat} {lv : List (Option Value)} {st rest As : List Value} {sh : wSh} {M : wM} {Q : Option Value → wSh → wM → Nat × Nat → Prop} {Q' : Option Value → wSh → wM → Prop} {index n b ci z : Nat}
theorem Rn.iret {x : Int32} {ty : FieldType} {Q : Int32 → wM → Prop} (hd : decode K.2.1 pc = .ok (.ireturn, 1)) (hr : K.2.2.2.1 = some ty) (hn : narrow ty (.int x) = .int x) (hq : Q x M) : Rn K sx cs pc lv [.int x] sh M (w_FI cs sh Q) :=
  Rn.ret (v := some (.int x)) ⟨hd, ty, hr, hn⟩ rfl ⟨rfl, rfl, x, rfl, hq⟩
theorem Rn.lret {x : Int64} {Q : Int64 → wM → Prop} (hd : decode K.2.1 pc = .ok (.lreturn, 1)) (hr : K.2.2.2.1 = some .long) (hq : Q x M) : Rn K sx cs pc lv [.long x] sh M (w_FL cs sh Q) :=
  Rn.ret (v := some (.long x)) ⟨hd, hr⟩ rfl ⟨rfl, rfl, x, rfl, hq⟩
theorem Rn.aret {x : Nat} {nm : String} {Q : Nat → wM → Prop} (hd : decode K.2.1 pc = .ok (.areturn, 1)) (hr : K.2.2.2.1 = some (.object nm)) (hq : Q x M) : Rn K sx cs pc lv [.ref x] sh M (w_FR cs sh Q) :=
  Rn.ret (v := some (.ref x)) ⟨hd, nm, hr⟩ rfl ⟨rfl, rfl, x, rfl, hq⟩
theorem Rn.vret {Q : wM → Prop} (hd : decode K.2.1 pc = .ok (.return_, 1)) (hr : K.2.2.2.1 = none) (hq : Q M) : Rn K sx cs pc lv [] sh M (w_FV cs sh Q) :=
  Rn.ret (v := none) ⟨hd, hr⟩ rfl ⟨rfl, rfl, rfl, hq⟩
theorem w_cs0 (h : w_0 K') (hc : cs.1 ≤ K.2.2.2.2.cells ∧ cs.2 ≤ K.2.2.2.2.slots) : cs.1 + K'.2.2.2.2.cells ≤ K.2.2.2.2.cells ∧ cs.2 + K'.2.2.2.2.slots ≤ K.2.2.2.2.slots := by rw [h.1, h.2]; exact hc
theorem w_cs1 (h : w_0 K') : (cs.1 + K'.2.2.2.2.cells, cs.2 + K'.2.2.2.2.slots) = cs := by rw [h.1, h.2]; rfl
/-- a class of vwCl by its number -/
def w_cls (ci : Nat) (C : String) : Prop := ∃ T N, vwCl[ci]? = some (C, T, N) ∧ ci ≠ 12 ∧ ci ≠ 13 ∧ ci ≠ 14
theorem Rn.cVI {Q1 : Int32 → wM → Prop} (hd : decode K.2.1 pc = .ok (.invokevirtual index, 3)) (hs : w_site K K' n) (hl : Cond.methodLink K.1.cls index K'.1 ∈ lw_g) (hi : Cond.instanceMethod K'.1 ∈ lw_g) (hse : Cond.selects K'.1.cls K'.1 K'.1 ∈ lw_g) (h0 : w_0 K') (hcc : cs.1 ≤ K.2.2.2.2.cells ∧ cs.2 ≤ K.2.2.2.2.slots) (hE' : EvI K' (.ref b :: As) sh M Q1) (hst : st = As.reverse ++ .ref b :: rest) (hn : As.length = n) (hsh : sh[b]? = some (ci, z)) (hci : w_cls ci K'.1.cls) (hW : (rest.map fun v => v.category).sum ≤ 8)
    (k : ∀ (r : Int32) (M' : wM), Q1 r M' → Rn K sx cs (pc + 3) lv (.int r :: rest) sh M' Q) : Rn K sx cs pc lv st sh M Q := by
  refine Rn.callV hd hs hl hi hse hE' hst hn hsh hci hW (w_cs0 h0 hcc) (Or.inr (fun v sh' M' h => by rw [h.1])) (fun v sh' M' hq _ => ?_)
  obtain ⟨rfl, r, rfl, hq⟩ := hq
  have h := k r M' hq
  rw [w_cs1 h0]
  exact h
theorem Rn.cVL {Q1 : Int64 → wM → Prop} (hd : decode K.2.1 pc = .ok (.invokevirtual index, 3)) (hs : w_site K K' n) (hl : Cond.methodLink K.1.cls index K'.1 ∈ lw_g) (hi : Cond.instanceMethod K'.1 ∈ lw_g) (hse : Cond.selects K'.1.cls K'.1 K'.1 ∈ lw_g) (h0 : w_0 K') (hcc : cs.1 ≤ K.2.2.2.2.cells ∧ cs.2 ≤ K.2.2.2.2.slots) (hE' : EvL K' (.ref b :: As) sh M Q1) (hst : st = As.reverse ++ .ref b :: rest) (hn : As.length = n) (hsh : sh[b]? = some (ci, z)) (hci : w_cls ci K'.1.cls) (hW : (rest.map fun v => v.category).sum ≤ 8)
    (k : ∀ (r : Int64) (M' : wM), Q1 r M' → Rn K sx cs (pc + 3) lv (.long r :: rest) sh M' Q) : Rn K sx cs pc lv st sh M Q := by
  refine Rn.callV hd hs hl hi hse hE' hst hn hsh hci hW (w_cs0 h0 hcc) (Or.inr (fun v sh' M' h => by rw [h.1])) (fun v sh' M' hq _ => ?_)
  obtain ⟨rfl, r, rfl, hq⟩ := hq
  have h := k r M' hq
  rw [w_cs1 h0]
  exact h
theorem Rn.cVR {Q1 : Nat → wM → Prop} (hd : decode K.2.1 pc = .ok (.invokevirtual index, 3)) (hs : w_site K K' n) (hl : Cond.methodLink K.1.cls index K'.1 ∈ lw_g) (hi : Cond.instanceMethod K'.1 ∈ lw_g) (hse : Cond.selects K'.1.cls K'.1 K'.1 ∈ lw_g) (h0 : w_0 K') (hcc : cs.1 ≤ K.2.2.2.2.cells ∧ cs.2 ≤ K.2.2.2.2.slots) (hE' : EvR K' (.ref b :: As) sh M Q1) (hst : st = As.reverse ++ .ref b :: rest) (hn : As.length = n) (hsh : sh[b]? = some (ci, z)) (hci : w_cls ci K'.1.cls) (hW : (rest.map fun v => v.category).sum ≤ 8)
    (k : ∀ (r : Nat) (M' : wM), Q1 r M' → Rn K sx cs (pc + 3) lv (.ref r :: rest) sh M' Q) : Rn K sx cs pc lv st sh M Q := by
  refine Rn.callV hd hs hl hi hse hE' hst hn hsh hci hW (w_cs0 h0 hcc) (Or.inr (fun v sh' M' h => by rw [h.1])) (fun v sh' M' hq _ => ?_)
  obtain ⟨rfl, r, rfl, hq⟩ := hq
  have h := k r M' hq
  rw [w_cs1 h0]
  exact h
theorem Rn.cVV {Q1 : wM → Prop} (hd : decode K.2.1 pc = .ok (.invokevirtual index, 3)) (hs : w_site K K' n) (hl : Cond.methodLink K.1.cls index K'.1 ∈ lw_g) (hi : Cond.instanceMethod K'.1 ∈ lw_g) (hse : Cond.selects K'.1.cls K'.1 K'.1 ∈ lw_g) (h0 : w_0 K') (hcc : cs.1 ≤ K.2.2.2.2.cells ∧ cs.2 ≤ K.2.2.2.2.slots) (hE' : EvV K' (.ref b :: As) sh M Q1) (hst : st = As.reverse ++ .ref b :: rest) (hn : As.length = n) (hsh : sh[b]? = some (ci, z)) (hci : w_cls ci K'.1.cls) (hW : (rest.map fun v => v.category).sum ≤ 8)
    (k : ∀ M', Q1 M' → Rn K sx cs (pc + 3) lv rest sh M' Q) : Rn K sx cs pc lv st sh M Q := by
  refine Rn.callV hd hs hl hi hse hE' hst hn hsh hci hW (w_cs0 h0 hcc) (Or.inr (fun v sh' M' h => by rw [h.1])) (fun v sh' M' hq _ => ?_)
  obtain ⟨rfl, rfl, hq⟩ := hq
  have h := k M' hq
  rw [w_cs1 h0]
  exact h
theorem Rn.cVNI {Q1 : Int32 → wM → Prop} (hd : decode K.2.1 pc = .ok (.invokevirtual index, 3)) (hs : w_site K K' n) {host : String} {j : Nat} (hl : w_nest[j]? = some (K.1.cls, index, K'.1, host)) (hi : Cond.instanceMethod K'.1 ∈ lw_g) (hse : Cond.selects K'.1.cls K'.1 K'.1 ∈ lw_g) (h0 : w_0 K') (hcc : cs.1 ≤ K.2.2.2.2.cells ∧ cs.2 ≤ K.2.2.2.2.slots) (hE' : EvI K' (.ref b :: As) sh M Q1) (hst : st = As.reverse ++ .ref b :: rest) (hn : As.length = n) (hsh : sh[b]? = some (ci, z)) (hci : w_cls ci K'.1.cls) (hW : (rest.map fun v => v.category).sum ≤ 8)
    (k : ∀ (r : Int32) (M' : wM), Q1 r M' → Rn K sx cs (pc + 3) lv (.int r :: rest) sh M' Q) : Rn K sx cs pc lv st sh M Q := by
  refine Rn.callVN hd hs hl hi hse hE' hst hn hsh hci hW (w_cs0 h0 hcc) (Or.inr (fun v sh' M' h => by rw [h.1])) (fun v sh' M' hq _ => ?_)
  obtain ⟨rfl, r, rfl, hq⟩ := hq
  have h := k r M' hq
  rw [w_cs1 h0]
  exact h
theorem Rn.cVNL {Q1 : Int64 → wM → Prop} (hd : decode K.2.1 pc = .ok (.invokevirtual index, 3)) (hs : w_site K K' n) {host : String} {j : Nat} (hl : w_nest[j]? = some (K.1.cls, index, K'.1, host)) (hi : Cond.instanceMethod K'.1 ∈ lw_g) (hse : Cond.selects K'.1.cls K'.1 K'.1 ∈ lw_g) (h0 : w_0 K') (hcc : cs.1 ≤ K.2.2.2.2.cells ∧ cs.2 ≤ K.2.2.2.2.slots) (hE' : EvL K' (.ref b :: As) sh M Q1) (hst : st = As.reverse ++ .ref b :: rest) (hn : As.length = n) (hsh : sh[b]? = some (ci, z)) (hci : w_cls ci K'.1.cls) (hW : (rest.map fun v => v.category).sum ≤ 8)
    (k : ∀ (r : Int64) (M' : wM), Q1 r M' → Rn K sx cs (pc + 3) lv (.long r :: rest) sh M' Q) : Rn K sx cs pc lv st sh M Q := by
  refine Rn.callVN hd hs hl hi hse hE' hst hn hsh hci hW (w_cs0 h0 hcc) (Or.inr (fun v sh' M' h => by rw [h.1])) (fun v sh' M' hq _ => ?_)
  obtain ⟨rfl, r, rfl, hq⟩ := hq
  have h := k r M' hq
  rw [w_cs1 h0]
  exact h
theorem Rn.cVNR {Q1 : Nat → wM → Prop} (hd : decode K.2.1 pc = .ok (.invokevirtual index, 3)) (hs : w_site K K' n) {host : String} {j : Nat} (hl : w_nest[j]? = some (K.1.cls, index, K'.1, host)) (hi : Cond.instanceMethod K'.1 ∈ lw_g) (hse : Cond.selects K'.1.cls K'.1 K'.1 ∈ lw_g) (h0 : w_0 K') (hcc : cs.1 ≤ K.2.2.2.2.cells ∧ cs.2 ≤ K.2.2.2.2.slots) (hE' : EvR K' (.ref b :: As) sh M Q1) (hst : st = As.reverse ++ .ref b :: rest) (hn : As.length = n) (hsh : sh[b]? = some (ci, z)) (hci : w_cls ci K'.1.cls) (hW : (rest.map fun v => v.category).sum ≤ 8)
    (k : ∀ (r : Nat) (M' : wM), Q1 r M' → Rn K sx cs (pc + 3) lv (.ref r :: rest) sh M' Q) : Rn K sx cs pc lv st sh M Q := by
  refine Rn.callVN hd hs hl hi hse hE' hst hn hsh hci hW (w_cs0 h0 hcc) (Or.inr (fun v sh' M' h => by rw [h.1])) (fun v sh' M' hq _ => ?_)
  obtain ⟨rfl, r, rfl, hq⟩ := hq
  have h := k r M' hq
  rw [w_cs1 h0]
  exact h
theorem Rn.cVNV {Q1 : wM → Prop} (hd : decode K.2.1 pc = .ok (.invokevirtual index, 3)) (hs : w_site K K' n) {host : String} {j : Nat} (hl : w_nest[j]? = some (K.1.cls, index, K'.1, host)) (hi : Cond.instanceMethod K'.1 ∈ lw_g) (hse : Cond.selects K'.1.cls K'.1 K'.1 ∈ lw_g) (h0 : w_0 K') (hcc : cs.1 ≤ K.2.2.2.2.cells ∧ cs.2 ≤ K.2.2.2.2.slots) (hE' : EvV K' (.ref b :: As) sh M Q1) (hst : st = As.reverse ++ .ref b :: rest) (hn : As.length = n) (hsh : sh[b]? = some (ci, z)) (hci : w_cls ci K'.1.cls) (hW : (rest.map fun v => v.category).sum ≤ 8)
    (k : ∀ M', Q1 M' → Rn K sx cs (pc + 3) lv rest sh M' Q) : Rn K sx cs pc lv st sh M Q := by
  refine Rn.callVN hd hs hl hi hse hE' hst hn hsh hci hW (w_cs0 h0 hcc) (Or.inr (fun v sh' M' h => by rw [h.1])) (fun v sh' M' hq _ => ?_)
  obtain ⟨rfl, rfl, hq⟩ := hq
  have h := k M' hq
  rw [w_cs1 h0]
  exact h
theorem Rn.cSI {Q1 : Int32 → wM → Prop} (hd : decode K.2.1 pc = .ok (.invokestatic index, 3)) (hs : w_site K K' n) (hl : Cond.methodLink K.1.cls index K'.1 ∈ lw_g) (hi : Cond.static K'.1 ∈ lw_g) (h0 : w_0 K') (hcc : cs.1 ≤ K.2.2.2.2.cells ∧ cs.2 ≤ K.2.2.2.2.slots) (hE' : EvI K' As sh M Q1) (hst : st = As.reverse ++ rest) (hn : As.length = n) (hW : (rest.map fun v => v.category).sum ≤ 8)
    (k : ∀ (r : Int32) (M' : wM), Q1 r M' → Rn K sx cs (pc + 3) lv (.int r :: rest) sh M' Q) : Rn K sx cs pc lv st sh M Q := by
  refine Rn.callS hd hs hl hi hE' hst hn hW (w_cs0 h0 hcc) (Or.inr (fun v sh' M' h => by rw [h.1])) (fun v sh' M' hq _ => ?_)
  obtain ⟨rfl, r, rfl, hq⟩ := hq
  have h := k r M' hq
  rw [w_cs1 h0]
  exact h
theorem Rn.cSL {Q1 : Int64 → wM → Prop} (hd : decode K.2.1 pc = .ok (.invokestatic index, 3)) (hs : w_site K K' n) (hl : Cond.methodLink K.1.cls index K'.1 ∈ lw_g) (hi : Cond.static K'.1 ∈ lw_g) (h0 : w_0 K') (hcc : cs.1 ≤ K.2.2.2.2.cells ∧ cs.2 ≤ K.2.2.2.2.slots) (hE' : EvL K' As sh M Q1) (hst : st = As.reverse ++ rest) (hn : As.length = n) (hW : (rest.map fun v => v.category).sum ≤ 8)
    (k : ∀ (r : Int64) (M' : wM), Q1 r M' → Rn K sx cs (pc + 3) lv (.long r :: rest) sh M' Q) : Rn K sx cs pc lv st sh M Q := by
  refine Rn.callS hd hs hl hi hE' hst hn hW (w_cs0 h0 hcc) (Or.inr (fun v sh' M' h => by rw [h.1])) (fun v sh' M' hq _ => ?_)
  obtain ⟨rfl, r, rfl, hq⟩ := hq
  have h := k r M' hq
  rw [w_cs1 h0]
  exact h
theorem Rn.cSR {Q1 : Nat → wM → Prop} (hd : decode K.2.1 pc = .ok (.invokestatic index, 3)) (hs : w_site K K' n) (hl : Cond.methodLink K.1.cls index K'.1 ∈ lw_g) (hi : Cond.static K'.1 ∈ lw_g) (h0 : w_0 K') (hcc : cs.1 ≤ K.2.2.2.2.cells ∧ cs.2 ≤ K.2.2.2.2.slots) (hE' : EvR K' As sh M Q1) (hst : st = As.reverse ++ rest) (hn : As.length = n) (hW : (rest.map fun v => v.category).sum ≤ 8)
    (k : ∀ (r : Nat) (M' : wM), Q1 r M' → Rn K sx cs (pc + 3) lv (.ref r :: rest) sh M' Q) : Rn K sx cs pc lv st sh M Q := by
  refine Rn.callS hd hs hl hi hE' hst hn hW (w_cs0 h0 hcc) (Or.inr (fun v sh' M' h => by rw [h.1])) (fun v sh' M' hq _ => ?_)
  obtain ⟨rfl, r, rfl, hq⟩ := hq
  have h := k r M' hq
  rw [w_cs1 h0]
  exact h
theorem Rn.cSV {Q1 : wM → Prop} (hd : decode K.2.1 pc = .ok (.invokestatic index, 3)) (hs : w_site K K' n) (hl : Cond.methodLink K.1.cls index K'.1 ∈ lw_g) (hi : Cond.static K'.1 ∈ lw_g) (h0 : w_0 K') (hcc : cs.1 ≤ K.2.2.2.2.cells ∧ cs.2 ≤ K.2.2.2.2.slots) (hE' : EvV K' As sh M Q1) (hst : st = As.reverse ++ rest) (hn : As.length = n) (hW : (rest.map fun v => v.category).sum ≤ 8)
    (k : ∀ M', Q1 M' → Rn K sx cs (pc + 3) lv rest sh M' Q) : Rn K sx cs pc lv st sh M Q := by
  refine Rn.callS hd hs hl hi hE' hst hn hW (w_cs0 h0 hcc) (Or.inr (fun v sh' M' h => by rw [h.1])) (fun v sh' M' hq _ => ?_)
  obtain ⟨rfl, rfl, hq⟩ := hq
  have h := k M' hq
  rw [w_cs1 h0]
  exact h
theorem Rn.cSNI {Q1 : Int32 → wM → Prop} (hd : decode K.2.1 pc = .ok (.invokestatic index, 3)) (hs : w_site K K' n) {host : String} {j : Nat} (hl : w_nest[j]? = some (K.1.cls, index, K'.1, host)) (hi : Cond.static K'.1 ∈ lw_g) (h0 : w_0 K') (hcc : cs.1 ≤ K.2.2.2.2.cells ∧ cs.2 ≤ K.2.2.2.2.slots) (hE' : EvI K' As sh M Q1) (hst : st = As.reverse ++ rest) (hn : As.length = n) (hW : (rest.map fun v => v.category).sum ≤ 8)
    (k : ∀ (r : Int32) (M' : wM), Q1 r M' → Rn K sx cs (pc + 3) lv (.int r :: rest) sh M' Q) : Rn K sx cs pc lv st sh M Q := by
  refine Rn.callSN hd hs hl hi hE' hst hn hW (w_cs0 h0 hcc) (Or.inr (fun v sh' M' h => by rw [h.1])) (fun v sh' M' hq _ => ?_)
  obtain ⟨rfl, r, rfl, hq⟩ := hq
  have h := k r M' hq
  rw [w_cs1 h0]
  exact h
theorem Rn.cSNL {Q1 : Int64 → wM → Prop} (hd : decode K.2.1 pc = .ok (.invokestatic index, 3)) (hs : w_site K K' n) {host : String} {j : Nat} (hl : w_nest[j]? = some (K.1.cls, index, K'.1, host)) (hi : Cond.static K'.1 ∈ lw_g) (h0 : w_0 K') (hcc : cs.1 ≤ K.2.2.2.2.cells ∧ cs.2 ≤ K.2.2.2.2.slots) (hE' : EvL K' As sh M Q1) (hst : st = As.reverse ++ rest) (hn : As.length = n) (hW : (rest.map fun v => v.category).sum ≤ 8)
    (k : ∀ (r : Int64) (M' : wM), Q1 r M' → Rn K sx cs (pc + 3) lv (.long r :: rest) sh M' Q) : Rn K sx cs pc lv st sh M Q := by
  refine Rn.callSN hd hs hl hi hE' hst hn hW (w_cs0 h0 hcc) (Or.inr (fun v sh' M' h => by rw [h.1])) (fun v sh' M' hq _ => ?_)
  obtain ⟨rfl, r, rfl, hq⟩ := hq
  have h := k r M' hq
  rw [w_cs1 h0]
  exact h
theorem Rn.cSNR {Q1 : Nat → wM → Prop} (hd : decode K.2.1 pc = .ok (.invokestatic index, 3)) (hs : w_site K K' n) {host : String} {j : Nat} (hl : w_nest[j]? = some (K.1.cls, index, K'.1, host)) (hi : Cond.static K'.1 ∈ lw_g) (h0 : w_0 K') (hcc : cs.1 ≤ K.2.2.2.2.cells ∧ cs.2 ≤ K.2.2.2.2.slots) (hE' : EvR K' As sh M Q1) (hst : st = As.reverse ++ rest) (hn : As.length = n) (hW : (rest.map fun v => v.category).sum ≤ 8)
    (k : ∀ (r : Nat) (M' : wM), Q1 r M' → Rn K sx cs (pc + 3) lv (.ref r :: rest) sh M' Q) : Rn K sx cs pc lv st sh M Q := by
  refine Rn.callSN hd hs hl hi hE' hst hn hW (w_cs0 h0 hcc) (Or.inr (fun v sh' M' h => by rw [h.1])) (fun v sh' M' hq _ => ?_)
  obtain ⟨rfl, r, rfl, hq⟩ := hq
  have h := k r M' hq
  rw [w_cs1 h0]
  exact h
theorem Rn.cSNV {Q1 : wM → Prop} (hd : decode K.2.1 pc = .ok (.invokestatic index, 3)) (hs : w_site K K' n) {host : String} {j : Nat} (hl : w_nest[j]? = some (K.1.cls, index, K'.1, host)) (hi : Cond.static K'.1 ∈ lw_g) (h0 : w_0 K') (hcc : cs.1 ≤ K.2.2.2.2.cells ∧ cs.2 ≤ K.2.2.2.2.slots) (hE' : EvV K' As sh M Q1) (hst : st = As.reverse ++ rest) (hn : As.length = n) (hW : (rest.map fun v => v.category).sum ≤ 8)
    (k : ∀ M', Q1 M' → Rn K sx cs (pc + 3) lv rest sh M' Q) : Rn K sx cs pc lv st sh M Q := by
  refine Rn.callSN hd hs hl hi hE' hst hn hW (w_cs0 h0 hcc) (Or.inr (fun v sh' M' h => by rw [h.1])) (fun v sh' M' hq _ => ?_)
  obtain ⟨rfl, rfl, hq⟩ := hq
  have h := k M' hq
  rw [w_cs1 h0]
  exact h
/-! Object's constructor, and what is made -/
theorem Rn.objInit (hd : decode K.2.1 pc = .ok (.invokespecial index, 3)) (hl : Cond.methodLink K.1.cls index Lib.objectInit ∈ lw_g) (hi : Cond.instanceMethod Lib.objectInit ∈ lw_g) (hc : Cond.code Lib.objectInit ⟨#[0xb1]⟩ 1 none ∈ lw_g) (hf : 1 ≤ K.2.2.2.2.frames) (hlo : (st.map fun v => v.category).sum + 12 ≤ K.2.2.2.2.locals)
    (k : Rn K sx cs (pc + 3) lv st sh M Q) : Rn K sx cs pc lv (.ref b :: st) sh M Q := by
  intro p l e s m args below meth c A D3 D Qf ad H locs ls hC hS hE
  have hts := hC.2.2.2.2.1
  refine W.objInit (g := F0 m pc ls ((Value.ref b :: st).map (w_cv ad))) hC.1 hC.2.1 hC.2.2.2.1 (hts _ hl) (hts _ hi) (hts _ hc) rfl (by show ls.size = _; rw [hS.2.2.2.1.1]; exact hC.2.2.1.symm) rfl hd hf ?_ (k p l e s m args below meth c A D3 D Qf ad H locs ls hC hS hE)
  show 2 * 0 + _ + 12 ≤ _
  rw [List.map_map]
  have : ((fun v : Value => v.category) ∘ w_cv ad) = fun v => v.category := funext (fun v => w_cv_cat ad v)
  rw [this]; omega
theorem w_up_lt {ad : Nat → Nat} {n q : Nat} : ∀ k, k < n → va_up ad n q k = ad k := fun k hk => by simp [va_up, Nat.ne_of_lt hk]
/-- a memory with one cell more: as it was, but there -/
def w_new (M M' : wM) (n : Nat) : Prop := ∀ j, j ≠ n → M'.1 j = M.1 j ∧ M'.2.1 j = M.2.1 j ∧ M'.2.2 j = M.2.2 j
/-- a fresh cell, all zero -/
def w_z (M : wM) (n : Nat) : wM := (va_up M.1 n (fun _ => 0), va_up M.2.1 n (fun _ => 0), va_up M.2.2 n (fun _ => none))
theorem w_z_new (M : wM) (n : Nat) : w_new M (w_z M n) n := fun j hj => ⟨by simp [w_z, va_up, hj], by simp [w_z, va_up, hj], by simp [w_z, va_up, hj]⟩
theorem w_z_1 (M : wM) (n i : Nat) : (w_z M n).1 n i = 0 := by simp [w_z, va_up]
theorem w_z_1r (M : wM) (n : Nat) : (w_z M n).1 n = fun _ => 0 := by simp [w_z, va_up]
theorem w_z_21r (M : wM) (n : Nat) : (w_z M n).2.1 n = fun _ => 0 := by simp [w_z, va_up]
theorem w_z_22 (M : wM) (n i : Nat) : (w_z M n).2.2 n i = none := by simp [w_z, va_up]
theorem w_z_wf {sh : wSh} {M : wM} {s : Nat × Nat} (h : w_wf sh M) : w_wf (sh ++ [s]) (w_z M sh.length) := by
  intro k i j hj
  by_cases hk : k = sh.length
  · subst hk; rw [w_z_22] at hj; cases hj
  · rw [(w_z_new M sh.length k hk).2.2] at hj
    have := h k i j hj
    simp; omega
/-- the start of a made object's fields -/
def w_fz : List Bool → List Value
  | [] => []
  | true :: t => .null :: w_fz t
  | false :: t => .int 0 :: w_fz t
theorem w_fz_ok (ad : Nat → Nat) (M : wM) (n : Nat) : ∀ (t : List Bool) (i : Nat), w_fs ad (w_z M n) n i t = w_fz t
  | [], _ => rfl
  | true :: t, i => by simp [w_fs, w_fz, w_z_22, va_rf, w_fz_ok ad M n t (i + 1)]
  | false :: t, i => by simp [w_fs, w_fz, w_z_1, w_fz_ok ad M n t (i + 1)]
/-- what 'new' needs of a class -/
def w_mk (ci : Nat) (C : String) (N : Nat) : Prop := ∃ (T : u_T) (ty : Nat → FieldType), vwCl[ci]? = some (C, T, N) ∧ (∀ w ∈ u_ws C T N, w ∈ lw_g) ∧ (∀ k, k < N → parseFieldDescriptor (T k).2.2.1 = some (ty k)) ∧ (∀ j, j < N → defaultValue (ty j) = vp_V (w_fz (w_fk ci)) j) ∧ ci ≠ 12 ∧ ci ≠ 13 ∧ ci ≠ 14 ∧ Cond.instantiable C N ∈ lw_g ∧ Cond.initialized C ∈ lw_g
theorem Rn.new {C : String} {N : Nat} (hd : decode K.2.1 pc = .ok (.new index, 3)) (hm : w_mk ci C N) (hl : Cond.classLink K.1.cls index C ∈ lw_g) (hcc : cs.1 + 1 ≤ K.2.2.2.2.cells ∧ cs.2 + N ≤ K.2.2.2.2.slots) (hlen : sh.length < w_scr) (hok : w_in sh.length st ∧ w_inL sh.length lv)
    (k : Rn K sx (cs.1 + 1, cs.2 + N) (pc + 3) lv (.ref sh.length :: st) (sh ++ [(ci, 0)]) (w_z M sh.length) Q) : Rn K sx cs pc lv st sh M Q := by
  intro p l e s m args below meth c A D3 D Qf ad H locs ls hC hS hE
  obtain ⟨T, ty, h1, h2, h3, h4, h5, h6, h7, h8, h9⟩ := hm
  have hts := hC.2.2.2.2.1
  refine va_new (ci := ci) (fs := w_fz (w_fk ci)) (C := C) (T := T) (N := N) hC.1 hC.2.1 hts h2 ty h3 hC.2.2.2.1 (hts _ hl) (hts _ h8) (hts _ h9) hC.2.2.2.2.2.1 hS.1 hS.2.1 hS.2.2.1 hC.2.2.2.2.2.2.1 h1 h4 hcc.1 hcc.2 hd (fun q H1 hP hD hSS => ?_)
  have hx : w_X ad sh (va_up ad sh.length q) (sh ++ [(ci, 0)]) := ⟨w_up_lt, by simp [va_up]; intro h; omega, by simp, fun h => by simp at h⟩
  rw [w_push (s := (ci, 0)) (M' := w_z M sh.length) hS.2.2.2.2.2.1 (fun j hj => w_z_new M sh.length j (Nat.ne_of_lt hj)) (by rw [w_cellO h5 h6 h7, w_fz_ok])] at hP hD
  have h := k p l e s m args below meth c A D3 D Qf (va_up ad sh.length q) H1 locs ls hC ⟨hP, hD, hSS, hS.2.2.2.1.mv hok.2 hx.1 hx.2.1, hcc, w_z_wf hS.2.2.2.2.2.1, by
    have h3 := hS.2.2.2.2.2.2
    cases sx with
    | none => trivial
    | some q => exact hx.2.1.trans h3⟩ (hE.mv hx)
  have e1 : List.map (w_cv (va_up ad sh.length q)) (.ref sh.length :: st) = .ref q :: st.map (w_cv ad) := by
    rw [List.map_cons, hok.1.map hx.1 hx.2.1]; simp [w_cv, va_up]
  rw [e1] at h
  exact h
theorem w_ra {s : State} {D : va_G} {tys : List (ClassId × FieldType)} {i j : Nat} {a b : ClassId} {ty : FieldType} (hK : va_K D vwCl tys s) (h1 : tys[i]? = some (a, ty)) (h2 : tys[j]? = some (b, ty)) (ht : ty = .int ∨ ty = .long ∨ ty = .boolean) : a = b := by
  have e1 := (hK.2 i _ h1).2
  have e2 := (hK.2 j _ h2).2
  rcases ht with rfl | rfl | rfl <;> exact Option.some.inj (e1.symm.trans e2)
theorem Rn.newI {x : Int32} {z : Nat} (hd : decode K.2.1 pc = .ok (.newarray .int, 2)) (hn : ¬ x < 0) (hz : x.toNatClampNeg = z) (hzb : z ≤ 10000) (hcc : cs.1 + 1 ≤ K.2.2.2.2.cells ∧ cs.2 + z ≤ K.2.2.2.2.slots) (hlen : sh.length < w_scr) (hok : w_in sh.length st ∧ w_inL sh.length lv)
    (k : Rn K sx (cs.1 + 1, cs.2 + z) (pc + 2) lv (.ref sh.length :: st) (sh ++ [(12, z)]) (w_z M sh.length) Q) : Rn K sx cs pc lv (.int x :: st) sh M Q := by
  intro p l e s m args below meth c A D3 D Qf ad H locs ls hC hS hE
  have hts := hC.2.2.2.2.1
  refine va_newa (atype := .int) (ty := .int) (N' := z) (a0 := (z, .inl (fun _ => 0))) hC.1 hC.2.1 (hts _ g_40) rfl hC.2.2.2.2.2.1 hS.1 hS.2.1 hS.2.2.1 hC.2.2.2.2.2.2.1 (fun cA => rfl) hn hz (by show z * 4 ≤ _; omega) hcc.1 hcc.2 hd (fun q cA H1 hK hP hD hSS => ?_)
  have ec : cA = D3.1 := w_ra (i := 3) (j := 0) hK rfl rfl (Or.inl rfl)
  subst ec
  have hx : w_X ad sh (va_up ad sh.length q) (sh ++ [(12, z)]) := ⟨w_up_lt, by simp [va_up]; intro h; omega, by simp, fun h => by simp at h⟩
  rw [w_push (s := (12, z)) (M' := w_z M sh.length) hS.2.2.2.2.2.1 (fun j hj => w_z_new M sh.length j (Nat.ne_of_lt hj)) (by rw [w_cellI, w_z_1r])] at hP hD
  have h := k p l e s m args below meth c A D3 D Qf (va_up ad sh.length q) H1 locs ls hC ⟨hP, hD, hSS, hS.2.2.2.1.mv hok.2 hx.1 hx.2.1, hcc, w_z_wf hS.2.2.2.2.2.1, by
    have h3 := hS.2.2.2.2.2.2
    cases sx with
    | none => trivial
    | some q => exact hx.2.1.trans h3⟩ (hE.mv hx)
  have e1 : List.map (w_cv (va_up ad sh.length q)) (.ref sh.length :: st) = .ref q :: st.map (w_cv ad) := by
    rw [List.map_cons, hok.1.map hx.1 hx.2.1]; simp [w_cv, va_up]
  rw [e1] at h
  exact h
theorem Rn.newL {x : Int32} {z : Nat} (hd : decode K.2.1 pc = .ok (.newarray .long, 2)) (hn : ¬ x < 0) (hz : x.toNatClampNeg = z) (hzb : z ≤ 10000) (hcc : cs.1 + 1 ≤ K.2.2.2.2.cells ∧ cs.2 + z ≤ K.2.2.2.2.slots) (hlen : sh.length < w_scr) (hok : w_in sh.length st ∧ w_inL sh.length lv)
    (k : Rn K sx (cs.1 + 1, cs.2 + z) (pc + 2) lv (.ref sh.length :: st) (sh ++ [(13, z)]) (w_z M sh.length) Q) : Rn K sx cs pc lv (.int x :: st) sh M Q := by
  intro p l e s m args below meth c A D3 D Qf ad H locs ls hC hS hE
  have hts := hC.2.2.2.2.1
  refine va_newa (atype := .long) (ty := .long) (N' := z) (a0 := (z, .inr (.inl (fun _ => 0)))) hC.1 hC.2.1 (hts _ g_702) rfl hC.2.2.2.2.2.1 hS.1 hS.2.1 hS.2.2.1 hC.2.2.2.2.2.2.1 (fun cA => rfl) hn hz (by show z * 8 ≤ _; omega) hcc.1 hcc.2 hd (fun q cA H1 hK hP hD hSS => ?_)
  have ec : cA = D3.2.1 := w_ra (i := 3) (j := 1) hK rfl rfl (Or.inr (Or.inl rfl))
  subst ec
  have hx : w_X ad sh (va_up ad sh.length q) (sh ++ [(13, z)]) := ⟨w_up_lt, by simp [va_up]; intro h; omega, by simp, fun h => by simp at h⟩
  rw [w_push (s := (13, z)) (M' := w_z M sh.length) hS.2.2.2.2.2.1 (fun j hj => w_z_new M sh.length j (Nat.ne_of_lt hj)) (by rw [w_cellJ, w_z_21r])] at hP hD
  have h := k p l e s m args below meth c A D3 D Qf (va_up ad sh.length q) H1 locs ls hC ⟨hP, hD, hSS, hS.2.2.2.1.mv hok.2 hx.1 hx.2.1, hcc, w_z_wf hS.2.2.2.2.2.1, by
    have h3 := hS.2.2.2.2.2.2
    cases sx with
    | none => trivial
    | some q => exact hx.2.1.trans h3⟩ (hE.mv hx)
  have e1 : List.map (w_cv (va_up ad sh.length q)) (.ref sh.length :: st) = .ref q :: st.map (w_cv ad) := by
    rw [List.map_cons, hok.1.map hx.1 hx.2.1]; simp [w_cv, va_up]
  rw [e1] at h
  exact h
theorem Rn.newZ {x : Int32} {z : Nat} (hd : decode K.2.1 pc = .ok (.newarray .boolean, 2)) (hn : ¬ x < 0) (hz : x.toNatClampNeg = z) (hzb : z ≤ 10000) (hcc : cs.1 + 1 ≤ K.2.2.2.2.cells ∧ cs.2 + z ≤ K.2.2.2.2.slots) (hlen : sh.length < w_scr) (hok : w_in sh.length st ∧ w_inL sh.length lv)
    (k : Rn K sx (cs.1 + 1, cs.2 + z) (pc + 2) lv (.ref sh.length :: st) (sh ++ [(14, z)]) (w_z M sh.length) Q) : Rn K sx cs pc lv (.int x :: st) sh M Q := by
  intro p l e s m args below meth c A D3 D Qf ad H locs ls hC hS hE
  have hts := hC.2.2.2.2.1
  refine va_newa (atype := .boolean) (ty := .boolean) (N' := z) (a0 := (z, .inl (fun _ => 0))) hC.1 hC.2.1 (hts _ g_703) rfl hC.2.2.2.2.2.1 hS.1 hS.2.1 hS.2.2.1 hC.2.2.2.2.2.2.1 (fun cA => rfl) hn hz (by show z * 1 ≤ _; omega) hcc.1 hcc.2 hd (fun q cA H1 hK hP hD hSS => ?_)
  have ec : cA = D3.2.2 := w_ra (i := 3) (j := 2) hK rfl rfl (Or.inr (Or.inr rfl))
  subst ec
  have hx : w_X ad sh (va_up ad sh.length q) (sh ++ [(14, z)]) := ⟨w_up_lt, by simp [va_up]; intro h; omega, by simp, fun h => by simp at h⟩
  rw [w_push (s := (14, z)) (M' := w_z M sh.length) hS.2.2.2.2.2.1 (fun j hj => w_z_new M sh.length j (Nat.ne_of_lt hj)) (by rw [w_cellZ, w_z_1r])] at hP hD
  have h := k p l e s m args below meth c A D3 D Qf (va_up ad sh.length q) H1 locs ls hC ⟨hP, hD, hSS, hS.2.2.2.1.mv hok.2 hx.1 hx.2.1, hcc, w_z_wf hS.2.2.2.2.2.1, by
    have h3 := hS.2.2.2.2.2.2
    cases sx with
    | none => trivial
    | some q => exact hx.2.1.trans h3⟩ (hE.mv hx)
  have e1 : List.map (w_cv (va_up ad sh.length q)) (.ref sh.length :: st) = .ref q :: st.map (w_cv ad) := by
    rw [List.map_cons, hok.1.map hx.1 hx.2.1]; simp [w_cv, va_up]
  rw [e1] at h
  exact h
theorem Rn.max {x y : Int32} (hd : decode K.2.1 pc = .ok (.invokestatic index, 3)) (hl : Cond.methodLink K.1.cls index Lib.Math.max.name ∈ lw_g) (hst : Cond.static Lib.Math.max.name ∈ lw_g) (hini : Cond.initialized "java/lang/Math" ∈ lw_g) (hcd : Cond.code Lib.Math.max.name Lib.Math.max.code 2 (some .int) ∈ lw_g) (hf : 1 ≤ K.2.2.2.2.frames) (hlo : (st.map fun v => v.category).sum + 13 ≤ K.2.2.2.2.locals)
    (k : Rn K sx cs (pc + 3) lv (.int (if x < y then y else x) :: st) sh M Q) : Rn K sx cs pc lv (.int y :: .int x :: st) sh M Q := by
  intro p l e s m args below meth c A D3 D Qf ad H locs ls hC hS hE
  have hts := hC.2.2.2.2.1
  refine va_mmax hC.1 hC.2.1 (by rw [hC.2.2.1, hS.2.2.2.1.1]) hC.2.2.2.1 (hts _ hl) (hts _ hst) (hts _ hini) (hts _ hcd) hf ?_ hS.2.2.2.2.1.1 hS.2.2.2.2.1.2 hd (k p l e s m args below meth c A D3 D Qf ad H locs ls hC hS hE)
  rw [List.map_map]
  have : ((fun v : Value => v.category) ∘ w_cv ad) = fun v => v.category := funext (fun v => w_cv_cat ad v)
  rw [this]; exact hlo
theorem Rn.min {x y : Int32} (hd : decode K.2.1 pc = .ok (.invokestatic index, 3)) (hl : Cond.methodLink K.1.cls index Lib.Math.min.name ∈ lw_g) (hst : Cond.static Lib.Math.min.name ∈ lw_g) (hini : Cond.initialized "java/lang/Math" ∈ lw_g) (hcd : Cond.code Lib.Math.min.name Lib.Math.min.code 2 (some .int) ∈ lw_g) (hf : 1 ≤ K.2.2.2.2.frames) (hlo : (st.map fun v => v.category).sum + 13 ≤ K.2.2.2.2.locals)
    (k : Rn K sx cs (pc + 3) lv (.int (if y < x then y else x) :: st) sh M Q) : Rn K sx cs pc lv (.int y :: .int x :: st) sh M Q := by
  intro p l e s m args below meth c A D3 D Qf ad H locs ls hC hS hE
  have hts := hC.2.2.2.2.1
  refine va_mmin hC.1 hC.2.1 (by rw [hC.2.2.1, hS.2.2.2.1.1]) hC.2.2.2.1 (hts _ hl) (hts _ hst) (hts _ hini) (hts _ hcd) hf ?_ hS.2.2.2.2.1.1 hS.2.2.2.2.1.2 hd (k p l e s m args below meth c A D3 D Qf ad H locs ls hC hS hE)
  rw [List.map_map]
  have : ((fun v : Value => v.category) ∘ w_cv ad) = fun v => v.category := funext (fun v => w_cv_cat ad v)
  rw [this]; exact hlo
theorem Rn.maxL {x y : Int64} (hd : decode K.2.1 pc = .ok (.invokestatic index, 3)) (hl : Cond.methodLink K.1.cls index Lib.MathLoose.max_long.x ∈ lw_g) (hst : Cond.static Lib.MathLoose.max_long.x ∈ lw_g) (hini : Cond.initialized "java/lang/Math" ∈ lw_g) (hcd : Cond.code Lib.MathLoose.max_long.x Lib.MathLoose.max_long.code 4 (some .long) ∈ lw_g) (hf : 1 ≤ K.2.2.2.2.frames) (hlo : (st.map fun v => v.category).sum + 15 ≤ K.2.2.2.2.locals)
    (k : Rn K sx cs (pc + 3) lv (.long (if y < x then x else y) :: st) sh M Q) : Rn K sx cs pc lv (.long y :: .long x :: st) sh M Q := by
  intro p l e s m args below meth c A D3 D Qf ad H locs ls hC hS hE
  have hts := hC.2.2.2.2.1
  refine va_mmax_long hC.1 hC.2.1 (by rw [hC.2.2.1, hS.2.2.2.1.1]) hC.2.2.2.1 (hts _ hl) (hts _ hst) (hts _ hini) (hts _ hcd) hf ?_ hS.2.2.2.2.1.1 hS.2.2.2.2.1.2 hd (k p l e s m args below meth c A D3 D Qf ad H locs ls hC hS hE)
  rw [List.map_map]
  have : ((fun v : Value => v.category) ∘ w_cv ad) = fun v => v.category := funext (fun v => w_cv_cat ad v)
  rw [this]; exact hlo
end RN2
