/-! Every answer is there. -/
set_option maxRecDepth 20000
set_option maxHeartbeats 400000
theorem ex_done {β : Nat → Int} {n : Nat} {σ : Nat → Int} {m : Nat} {τ : Nat → Int} {I J : wIm} : ∃ R : Int × (Nat → Int) × Nat, (barS σ n β → R = (((tellS σ n β).2.2.1 : Int), (tellS σ n β).2.1, 0)) ∧ (¬ barS σ n β → R = (-5, β, n)) := by
  by_cases c0 : barS σ n β
  · refine ⟨(((tellS σ n β).2.2.1 : Int), (tellS σ n β).2.1, 0), ?_, ?_⟩ <;> (intros; first | omega | rfl | (exfalso; simp_all; done) | (exfalso; simp_all; omega))
  · refine ⟨(-5, β, n), ?_, ?_⟩ <;> (intros; first | omega | rfl | (exfalso; simp_all; done) | (exfalso; simp_all; omega))
theorem ex_behind {β : Nat → Int} {n : Nat} {σ : Nat → Int} {m : Nat} {τ : Nat → Int} {I J : wIm} {b w : Int} : ∃ V : Int, (¬ blq b → V = -1) ∧ (blq b → ¬ (0 ≤ w ∧ w ≤ 2) → V = -2) ∧ (blq b → (0 ≤ w ∧ w ≤ 2) → ¬ barS σ n β → V = -5) ∧ (blq b → barS σ n β → w = 0 → V = (tellS σ n β).2.1 (12 + b.toNat)) ∧ (blq b → barS σ n β → w = 1 → V = (tellS σ n β).2.1 (18 + b.toNat)) ∧ (blq b → barS σ n β → w = 2 → V = if (bk (tellS σ n β).2.1).testBit b.toNat then 1 else 0) := by
  by_cases c0 : blq b
  · by_cases c1 : 0 ≤ w ∧ w ≤ 2
    · by_cases c2 : barS σ n β
      · by_cases c3 : w = 0
        · refine ⟨(tellS σ n β).2.1 (12 + b.toNat), ?_, ?_, ?_, ?_, ?_, ?_⟩ <;> (intros; first | omega | rfl | (exfalso; simp_all; done) | (exfalso; simp_all; omega))
        · by_cases c4 : w = 1
          · refine ⟨(tellS σ n β).2.1 (18 + b.toNat), ?_, ?_, ?_, ?_, ?_, ?_⟩ <;> (intros; first | omega | rfl | (exfalso; simp_all; done) | (exfalso; simp_all; omega))
          · refine ⟨(if (bk (tellS σ n β).2.1).testBit b.toNat then 1 else 0), ?_, ?_, ?_, ?_, ?_, ?_⟩ <;> (intros; first | omega | rfl | (exfalso; simp_all; done) | (exfalso; simp_all; omega))
      · refine ⟨-5, ?_, ?_, ?_, ?_, ?_, ?_⟩ <;> (intros; first | omega | rfl | (exfalso; simp_all; done) | (exfalso; simp_all; omega))
    · refine ⟨-2, ?_, ?_, ?_, ?_, ?_, ?_⟩ <;> (intros; first | omega | rfl | (exfalso; simp_all; done) | (exfalso; simp_all; omega))
  · refine ⟨-1, ?_, ?_, ?_, ?_, ?_, ?_⟩ <;> (intros; first | omega | rfl | (exfalso; simp_all; done) | (exfalso; simp_all; omega))
theorem ex_then {β : Nat → Int} {n : Nat} {σ : Nat → Int} {m : Nat} {τ : Nat → Int} {I J : wIm} {w : Int} : ∃ V : Int, (¬ (0 ≤ w ∧ w ≤ 5) → V = -2) ∧ ((0 ≤ w ∧ w ≤ 5) → ¬ barS σ n β → V = -5) ∧ (barS σ n β → w = 0 → V = hungS (tellS σ n β).2.1 6) ∧ (barS σ n β → w = 1 → V = (tellS σ n β).2.1 24) ∧ (barS σ n β → w = 2 → V = chipS (tellS σ n β).2.1 6 - chipS β 6) ∧ (barS σ n β → w = 3 → V = (tellS σ n β).2.1 25) ∧ (barS σ n β → w = 4 → V = (tellS σ n β).2.2.2.1) ∧ (barS σ n β → w = 5 → V = (tellS σ n β).2.2.2.2) := by
  by_cases c0 : 0 ≤ w ∧ w ≤ 5
  · by_cases c1 : barS σ n β
    · by_cases c2 : w = 0
      · refine ⟨hungS (tellS σ n β).2.1 6, ?_, ?_, ?_, ?_, ?_, ?_, ?_, ?_⟩ <;> (intros; first | omega | rfl | (exfalso; simp_all; done) | (exfalso; simp_all; omega))
      · by_cases c3 : w = 1
        · refine ⟨(tellS σ n β).2.1 24, ?_, ?_, ?_, ?_, ?_, ?_, ?_, ?_⟩ <;> (intros; first | omega | rfl | (exfalso; simp_all; done) | (exfalso; simp_all; omega))
        · by_cases c4 : w = 2
          · refine ⟨chipS (tellS σ n β).2.1 6 - chipS β 6, ?_, ?_, ?_, ?_, ?_, ?_, ?_, ?_⟩ <;> (intros; first | omega | rfl | (exfalso; simp_all; done) | (exfalso; simp_all; omega))
          · by_cases c5 : w = 3
            · refine ⟨(tellS σ n β).2.1 25, ?_, ?_, ?_, ?_, ?_, ?_, ?_, ?_⟩ <;> (intros; first | omega | rfl | (exfalso; simp_all; done) | (exfalso; simp_all; omega))
            · by_cases c6 : w = 4
              · refine ⟨(tellS σ n β).2.2.2.1, ?_, ?_, ?_, ?_, ?_, ?_, ?_, ?_⟩ <;> (intros; first | omega | rfl | (exfalso; simp_all; done) | (exfalso; simp_all; omega))
              · refine ⟨(tellS σ n β).2.2.2.2, ?_, ?_, ?_, ?_, ?_, ?_, ?_, ?_⟩ <;> (intros; first | omega | rfl | (exfalso; simp_all; done) | (exfalso; simp_all; omega))
    · refine ⟨-5, ?_, ?_, ?_, ?_, ?_, ?_, ?_, ?_⟩ <;> (intros; first | omega | rfl | (exfalso; simp_all; done) | (exfalso; simp_all; omega))
  · refine ⟨-2, ?_, ?_, ?_, ?_, ?_, ?_, ?_, ?_⟩ <;> (intros; first | omega | rfl | (exfalso; simp_all; done) | (exfalso; simp_all; omega))
theorem ex_apart {β : Nat → Int} {n : Nat} {σ : Nat → Int} {m : Nat} {τ : Nat → Int} {I J : wIm} {a b : Int} : ∃ V : Int, (¬ (lpq a ∧ lpq b) → V = -1) ∧ (lpq a → lpq b → V = dist β a.toNat b.toNat) := by
  by_cases c0 : lpq a ∧ lpq b
  · refine ⟨dist β a.toNat b.toNat, ?_, ?_⟩ <;> (intros; first | omega | rfl | (exfalso; simp_all; done) | (exfalso; simp_all; omega))
  · refine ⟨-1, ?_, ?_⟩ <;> (intros; first | omega | rfl | (exfalso; simp_all; done) | (exfalso; simp_all; omega))
theorem ex_meets {β : Nat → Int} {n : Nat} {σ : Nat → Int} {m : Nat} {τ : Nat → Int} {I J : wIm} {a b : Int} : ∃ V : Int, (¬ (lpq a ∧ lpq b) → V = -1) ∧ (lpq a → lpq b → V = nth (fun k => (wayS β a.toNat b.toNat).testBit k) 12 0 0 0) := by
  by_cases c0 : lpq a ∧ lpq b
  · refine ⟨nth (fun k => (wayS β a.toNat b.toNat).testBit k) 12 0 0 0, ?_, ?_⟩ <;> (intros; first | omega | rfl | (exfalso; simp_all; done) | (exfalso; simp_all; omega))
  · refine ⟨-1, ?_, ?_⟩ <;> (intros; first | omega | rfl | (exfalso; simp_all; done) | (exfalso; simp_all; omega))
theorem ex_sees {β : Nat → Int} {n : Nat} {σ : Nat → Int} {m : Nat} {τ : Nat → Int} {I J : wIm} {b : Int} : ∃ V : Int, (¬ blq b → V = -1) ∧ (blq b → β (12 + b.toNat) = -6 → V = -3) ∧ (blq b → β (12 + b.toNat) ≠ -6 → V = setOf (seesP β b.toNat) 6) := by
  by_cases c0 : blq b
  · by_cases c1 : β (12 + b.toNat) = -6
    · refine ⟨-3, ?_, ?_, ?_⟩ <;> (intros; first | omega | rfl | (exfalso; simp_all; done) | (exfalso; simp_all; omega))
    · refine ⟨setOf (seesP β b.toNat) 6, ?_, ?_, ?_⟩ <;> (intros; first | omega | rfl | (exfalso; simp_all; done) | (exfalso; simp_all; omega))
  · refine ⟨-1, ?_, ?_, ?_⟩ <;> (intros; first | omega | rfl | (exfalso; simp_all; done) | (exfalso; simp_all; omega))
theorem ex_near {β : Nat → Int} {n : Nat} {σ : Nat → Int} {m : Nat} {τ : Nat → Int} {I J : wIm} {w : Int} : ∃ V : Int, (¬ (0 ≤ w ∧ w ≤ 3) → V = -2) ∧ ((0 ≤ w ∧ w ≤ 3) → hungS β 6 = 0 → V = -6) ∧ ((0 ≤ w ∧ w ≤ 3) → hungS β 6 ≠ 0 → w = 0 ∨ w = 2 → V = (fNear β (hungS β 6) (decide (2 ≤ w)) 11).1) ∧ ((0 ≤ w ∧ w ≤ 3) → hungS β 6 ≠ 0 → ¬ (w = 0 ∨ w = 2) → V = (fNear β (hungS β 6) (decide (2 ≤ w)) 11).2) := by
  by_cases c0 : 0 ≤ w ∧ w ≤ 3
  · by_cases c1 : hungS β 6 = 0
    · refine ⟨-6, ?_, ?_, ?_, ?_⟩ <;> (intros; first | omega | rfl | (exfalso; simp_all; done) | (exfalso; simp_all; omega))
    · by_cases c2 : w = 0 ∨ w = 2
      · refine ⟨(fNear β (hungS β 6) (decide (2 ≤ w)) 11).1, ?_, ?_, ?_, ?_⟩ <;> (intros; first | omega | rfl | (exfalso; simp_all; done) | (exfalso; simp_all; omega))
      · refine ⟨(fNear β (hungS β 6) (decide (2 ≤ w)) 11).2, ?_, ?_, ?_, ?_⟩ <;> (intros; first | omega | rfl | (exfalso; simp_all; done) | (exfalso; simp_all; omega))
  · refine ⟨-2, ?_, ?_, ?_, ?_⟩ <;> (intros; first | omega | rfl | (exfalso; simp_all; done) | (exfalso; simp_all; omega))
theorem ex_room {β : Nat → Int} {n : Nat} {σ : Nat → Int} {m : Nat} {τ : Nat → Int} {I J : wIm} {P : Nat → Bool} {x w : Int} : ∃ V : Int, (¬ ((0 ≤ x ∧ x ≤ 11) ∧ (0 ≤ w ∧ w ≤ 1)) → V = -2) ∧ ((0 ≤ x ∧ x ≤ 11) → w = 0 → V = pc (moN P 4095)) ∧ ((0 ≤ x ∧ x ≤ 11) → w = 1 → V = moN P 4095) := by
  by_cases c0 : (0 ≤ x ∧ x ≤ 11) ∧ (0 ≤ w ∧ w ≤ 1)
  · by_cases c1 : w = 0
    · refine ⟨pc (moN P 4095), ?_, ?_, ?_⟩ <;> (intros; first | omega | rfl | (exfalso; simp_all; done) | (exfalso; simp_all; omega))
    · refine ⟨moN P 4095, ?_, ?_, ?_⟩ <;> (intros; first | omega | rfl | (exfalso; simp_all; done) | (exfalso; simp_all; omega))
  · refine ⟨-2, ?_, ?_, ?_⟩ <;> (intros; first | omega | rfl | (exfalso; simp_all; done) | (exfalso; simp_all; omega))
theorem ex_candles {β : Nat → Int} {n : Nat} {σ : Nat → Int} {m : Nat} {τ : Nat → Int} {I J : wIm} {P : Nat → Bool} {x w : Int} : ∃ V : Int, (¬ ((0 ≤ x ∧ x ≤ 11) ∧ (0 ≤ w ∧ w ≤ 1)) → V = -2) ∧ ((0 ≤ x ∧ x ≤ 11) → w = 0 → V = pc (feN P 4094)) ∧ ((0 ≤ x ∧ x ≤ 11) → w = 1 → V = feN P 4094) := by
  by_cases c0 : (0 ≤ x ∧ x ≤ 11) ∧ (0 ≤ w ∧ w ≤ 1)
  · by_cases c1 : w = 0
    · refine ⟨pc (feN P 4094), ?_, ?_, ?_⟩ <;> (intros; first | omega | rfl | (exfalso; simp_all; done) | (exfalso; simp_all; omega))
    · refine ⟨feN P 4094, ?_, ?_, ?_⟩ <;> (intros; first | omega | rfl | (exfalso; simp_all; done) | (exfalso; simp_all; omega))
  · refine ⟨-2, ?_, ?_, ?_⟩ <;> (intros; first | omega | rfl | (exfalso; simp_all; done) | (exfalso; simp_all; omega))
theorem ex_seen {β : Nat → Int} {n : Nat} {σ : Nat → Int} {m : Nat} {τ : Nat → Int} {I J : wIm} {l v : Int} (hm : m ≤ 8) : ∃ Rr : Int × Nat × (Nat → Int), (¬ lpq l → Rr = (-1, m, τ)) ∧ (lpq l → ¬ (0 ≤ v ∧ v ≤ 11) → Rr = (-2, m, τ)) ∧ (lpq l → (0 ≤ v ∧ v ≤ 11) → m = 8 → Rr = (-4, m, τ)) ∧ (lpq l → (0 ≤ v ∧ v ≤ 11) → m < 8 → Rr = (((m + 1 : Nat) : Int), m + 1, up (up τ (2 * m) l) (2 * m + 1) v)) := by
  by_cases c0 : lpq l
  · by_cases c1 : 0 ≤ v ∧ v ≤ 11
    · by_cases c2 : m = 8
      · refine ⟨(-4, m, τ), ?_, ?_, ?_, ?_⟩ <;> (intros; first | omega | rfl | (exfalso; simp_all; done) | (exfalso; simp_all; omega))
      · refine ⟨(((m + 1 : Nat) : Int), m + 1, up (up τ (2 * m) l) (2 * m + 1) v), ?_, ?_, ?_, ?_⟩ <;> (intros; first | omega | rfl | (exfalso; simp_all; done) | (exfalso; simp_all; omega))
    · refine ⟨(-2, m, τ), ?_, ?_, ?_, ?_⟩ <;> (intros; first | omega | rfl | (exfalso; simp_all; done) | (exfalso; simp_all; omega))
  · refine ⟨(-1, m, τ), ?_, ?_, ?_, ?_⟩ <;> (intros; first | omega | rfl | (exfalso; simp_all; done) | (exfalso; simp_all; omega))
theorem ex_where {β : Nat → Int} {n : Nat} {σ : Nat → Int} {m : Nat} {τ : Nat → Int} {I J : wIm} {i : Int} : ∃ V : Int, (i = -1 → V = pc (fitN β τ m)) ∧ (i ≠ -1 → V = nth (fun k => (fitN β τ m).testBit k) 12 0 0 i) := by
  by_cases c0 : i = -1
  · refine ⟨pc (fitN β τ m), ?_, ?_⟩ <;> (intros; first | omega | rfl | (exfalso; simp_all; done) | (exfalso; simp_all; omega))
  · refine ⟨nth (fun k => (fitN β τ m).testBit k) 12 0 0 i, ?_, ?_⟩ <;> (intros; first | omega | rfl | (exfalso; simp_all; done) | (exfalso; simp_all; omega))
theorem ex_ask {β : Nat → Int} {n : Nat} {σ : Nat → Int} {m : Nat} {τ : Nat → Int} {I J : wIm} {w : Int} : ∃ V : Int, (¬ (0 ≤ w ∧ w ≤ 1) → V = -2) ∧ ((0 ≤ w ∧ w ≤ 1) → fitN β τ m = 0 → V = -6) ∧ (fitN β τ m ≠ 0 → w = 0 → V = (fAskN β (fitN β τ m) 11).1) ∧ (fitN β τ m ≠ 0 → w = 1 → V = (fAskN β (fitN β τ m) 11).2) := by
  by_cases c0 : 0 ≤ w ∧ w ≤ 1
  · by_cases c1 : fitN β τ m = 0
    · refine ⟨-6, ?_, ?_, ?_, ?_⟩ <;> (intros; first | omega | rfl | (exfalso; simp_all; done) | (exfalso; simp_all; omega))
    · by_cases c2 : w = 0
      · refine ⟨(fAskN β (fitN β τ m) 11).1, ?_, ?_, ?_, ?_⟩ <;> (intros; first | omega | rfl | (exfalso; simp_all; done) | (exfalso; simp_all; omega))
      · refine ⟨(fAskN β (fitN β τ m) 11).2, ?_, ?_, ?_, ?_⟩ <;> (intros; first | omega | rfl | (exfalso; simp_all; done) | (exfalso; simp_all; omega))
  · refine ⟨-2, ?_, ?_, ?_, ?_⟩ <;> (intros; first | omega | rfl | (exfalso; simp_all; done) | (exfalso; simp_all; omega))
theorem ex_cut {β : Nat → Int} {n : Nat} {σ : Nat → Int} {m : Nat} {τ : Nat → Int} {I J : wIm} {w : Int} : ∃ V : Int, (¬ (0 ≤ w ∧ w ≤ 1) → V = -2) ∧ (w = 0 → woF β 0 11 0 ≠ 0 → V = 1) ∧ (w = 0 → woF β 0 11 0 = 0 → V = 0) ∧ (w = 1 → V = fCutN β 11 1) := by
  by_cases c0 : 0 ≤ w ∧ w ≤ 1
  · by_cases c1 : w = 0
    · by_cases c2 : woF β 0 11 0 = 0
      · refine ⟨0, ?_, ?_, ?_, ?_⟩ <;> (intros; first | omega | rfl | (exfalso; simp_all; done) | (exfalso; simp_all; omega))
      · refine ⟨1, ?_, ?_, ?_, ?_⟩ <;> (intros; first | omega | rfl | (exfalso; simp_all; done) | (exfalso; simp_all; omega))
    · refine ⟨fCutN β 11 1, ?_, ?_, ?_, ?_⟩ <;> (intros; first | omega | rfl | (exfalso; simp_all; done) | (exfalso; simp_all; omega))
  · refine ⟨-2, ?_, ?_, ?_, ?_⟩ <;> (intros; first | omega | rfl | (exfalso; simp_all; done) | (exfalso; simp_all; omega))
theorem ex_tissue {β : Nat → Int} {n : Nat} {σ : Nat → Int} {m : Nat} {τ : Nat → Int} {I J : wIm} {a r k j w part : Int} : ∃ V : Int, (¬ tisQ a r k j w part → V = -1000000000000000002) ∧ (tisQ a r k j w part → w = 0 → V = lowS (hyN a.toNat r.toNat k.toNat j.toNat (k.toNat - j.toNat + 1)) (ch a.toNat k.toNat) part) ∧ (tisQ a r k j w part → w = 1 → V = lowS (k.toNat * r.toNat) (if a = 0 then 1 else a.toNat) part) := by
  unfold tisQ
  by_cases c0 : (0 ≤ a ∧ a ≤ 40) ∧ (0 ≤ r ∧ r ≤ a) ∧ (0 ≤ k ∧ k ≤ a) ∧ (0 ≤ j ∧ j ≤ k) ∧ (0 ≤ w ∧ w ≤ 1) ∧ (0 ≤ part ∧ part ≤ 1)
  · by_cases c1 : w = 0
    · refine ⟨lowS (hyN a.toNat r.toNat k.toNat j.toNat (k.toNat - j.toNat + 1)) (ch a.toNat k.toNat) part, ?_, ?_, ?_⟩ <;> (intros; first | omega | rfl | (exfalso; simp_all; done) | (exfalso; simp_all; omega))
    · refine ⟨lowS (k.toNat * r.toNat) (if a = 0 then 1 else a.toNat) part, ?_, ?_, ?_⟩ <;> (intros; first | omega | rfl | (exfalso; simp_all; done) | (exfalso; simp_all; omega))
  · refine ⟨-1000000000000000002, ?_, ?_, ?_⟩ <;> (intros; first | omega | rfl | (exfalso; simp_all; done) | (exfalso; simp_all; omega))
theorem ex_year {β : Nat → Int} {n : Nat} {σ : Nat → Int} {m : Nat} {τ : Nat → Int} {I J : wIm} {x d w : Int} : ∃ V : Int, (¬ ((0 ≤ x ∧ x ≤ 9999) ∧ (1 ≤ d ∧ d ≤ 99) ∧ (0 ≤ w ∧ w ≤ 2)) → V = -2) ∧ (((0 ≤ x ∧ x ≤ 9999) ∧ (1 ≤ d ∧ d ≤ 99)) → w = 0 → V = pc (hungS (yrF d.toNat β x.toNat) 6)) ∧ (((0 ≤ x ∧ x ≤ 9999) ∧ (1 ≤ d ∧ d ≤ 99)) → w = 1 → V = chipS (yrF d.toNat β x.toNat) 6) ∧ (((0 ≤ x ∧ x ≤ 9999) ∧ (1 ≤ d ∧ d ≤ 99)) → w = 2 → V = pc (bk (yrF d.toNat β x.toNat))) := by
  by_cases c0 : (0 ≤ x ∧ x ≤ 9999) ∧ (1 ≤ d ∧ d ≤ 99) ∧ (0 ≤ w ∧ w ≤ 2)
  · by_cases c1 : w = 0
    · refine ⟨pc (hungS (yrF d.toNat β x.toNat) 6), ?_, ?_, ?_, ?_⟩ <;> (intros; first | omega | rfl | (exfalso; simp_all; done) | (exfalso; simp_all; omega))
    · by_cases c2 : w = 1
      · refine ⟨chipS (yrF d.toNat β x.toNat) 6, ?_, ?_, ?_, ?_⟩ <;> (intros; first | omega | rfl | (exfalso; simp_all; done) | (exfalso; simp_all; omega))
      · refine ⟨pc (bk (yrF d.toNat β x.toNat)), ?_, ?_, ?_, ?_⟩ <;> (intros; first | omega | rfl | (exfalso; simp_all; done) | (exfalso; simp_all; omega))
  · refine ⟨-2, ?_, ?_, ?_, ?_⟩ <;> (intros; first | omega | rfl | (exfalso; simp_all; done) | (exfalso; simp_all; omega))
theorem ex_image {β : Nat → Int} {n : Nat} {σ : Nat → Int} {m : Nat} {τ : Nat → Int} {I J : wIm} {w : Int} : ∃ Rr : Int × wIm × wIm, (¬ (0 ≤ w ∧ w ≤ 1) → Rr = (-2, I, J)) ∧ (w = 0 → Rr = (1, (true, β, m, τ), J)) ∧ (w = 1 → Rr = (1, I, (true, β, m, τ))) := by
  by_cases c0 : 0 ≤ w ∧ w ≤ 1
  · by_cases c1 : w = 0
    · refine ⟨(1, (true, β, m, τ), J), ?_, ?_, ?_⟩ <;> (intros; first | omega | rfl | (exfalso; simp_all; done) | (exfalso; simp_all; omega))
    · refine ⟨(1, I, (true, β, m, τ)), ?_, ?_, ?_⟩ <;> (intros; first | omega | rfl | (exfalso; simp_all; done) | (exfalso; simp_all; omega))
  · refine ⟨(-2, I, J), ?_, ?_, ?_⟩ <;> (intros; first | omega | rfl | (exfalso; simp_all; done) | (exfalso; simp_all; omega))
theorem ex_restore {β : Nat → Int} {n : Nat} {σ : Nat → Int} {m : Nat} {τ : Nat → Int} {I J : wIm} {w : Int} : ∃ Rr : Int × (Nat → Int) × Nat × (Nat → Int), (¬ (0 ≤ w ∧ w ≤ 1) → Rr = (-2, β, m, τ)) ∧ (w = 0 → I.1 = false → Rr = (-3, β, m, τ)) ∧ (w = 1 → J.1 = false → Rr = (-3, β, m, τ)) ∧ (w = 0 → I.1 = true → Rr = (1, I.2)) ∧ (w = 1 → J.1 = true → Rr = (1, J.2)) := by
  by_cases c0 : 0 ≤ w ∧ w ≤ 1
  · by_cases c1 : w = 0
    · by_cases c2 : I.1 = false
      · refine ⟨(-3, β, m, τ), ?_, ?_, ?_, ?_, ?_⟩ <;> (intros; first | omega | rfl | (exfalso; simp_all; done) | (exfalso; simp_all; omega))
      · refine ⟨(1, I.2), ?_, ?_, ?_, ?_, ?_⟩ <;> (intros; first | omega | rfl | (exfalso; simp_all; done) | (exfalso; simp_all; omega))
    · by_cases c2 : J.1 = false
      · refine ⟨(-3, β, m, τ), ?_, ?_, ?_, ?_, ?_⟩ <;> (intros; first | omega | rfl | (exfalso; simp_all; done) | (exfalso; simp_all; omega))
      · refine ⟨(1, J.2), ?_, ?_, ?_, ?_, ?_⟩ <;> (intros; first | omega | rfl | (exfalso; simp_all; done) | (exfalso; simp_all; omega))
  · refine ⟨(-2, β, m, τ), ?_, ?_, ?_, ?_, ?_⟩ <;> (intros; first | omega | rfl | (exfalso; simp_all; done) | (exfalso; simp_all; omega))
