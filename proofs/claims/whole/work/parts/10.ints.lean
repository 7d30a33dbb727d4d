/-! Numbers: an int is written iI z, a long jI z, z an Int. -/
def iI (z : Int) : Int32 := Int32.ofInt z
def jI (z : Int) : Int64 := Int64.ofInt z
theorem iI_toInt {a : Int} (h : -2147483648 ≤ a ∧ a < 2147483648) : (iI a).toInt = a := Int32.toInt_ofInt_of_le h.1 h.2
theorem iI_of (x : Int32) : x = iI x.toInt := (Int32.ofInt_toInt x).symm
theorem iI_rg (x : Int32) : -2147483648 ≤ x.toInt ∧ x.toInt < 2147483648 := ⟨x.le_toInt, x.toInt_lt⟩
theorem iI_nI (n : Nat) : nI n = iI n := Int32.ofInt_eq_ofNat.symm
theorem iI_clamp {k : Nat} (h : k < 2147483648) : (iI k).toNatClampNeg = k := by rw [← iI_nI]; exact nI_clamp h
theorem iI_add (a b : Int) : iI a + iI b = iI (a + b) := (Int32.ofInt_add a b).symm
theorem iI_sub (a b : Int) : iI a - iI b = iI (a - b) := (Int32.ofInt_sub a b).symm
theorem iI_mul (a b : Int) : iI a * iI b = iI (a * b) := (Int32.ofInt_mul a b).symm
theorem iI_eq {a b : Int} (ha : -2147483648 ≤ a ∧ a < 2147483648) (hb : -2147483648 ≤ b ∧ b < 2147483648) : iI a = iI b ↔ a = b := by
  rw [← Int32.toInt_inj, iI_toInt ha, iI_toInt hb]
theorem iI_lt {a b : Int} (ha : -2147483648 ≤ a ∧ a < 2147483648) (hb : -2147483648 ≤ b ∧ b < 2147483648) : iI a < iI b ↔ a < b := by
  rw [Int32.lt_iff_toInt_lt, iI_toInt ha, iI_toInt hb]
theorem iI_le {a b : Int} (ha : -2147483648 ≤ a ∧ a < 2147483648) (hb : -2147483648 ≤ b ∧ b < 2147483648) : iI a ≤ iI b ↔ a ≤ b := by
  rw [Int32.le_iff_toInt_le, iI_toInt ha, iI_toInt hb]
theorem iI_0 : (0 : Int32) = iI 0 := by decide +kernel
theorem iI_div {a b : Int} (ha : 0 ≤ a ∧ a < 2147483648) (hb : 0 < b ∧ b < 2147483648) : iI a / iI b = iI (a / b) := by
  have h1 : a / b ≤ a := Int.ediv_le_self b ha.1
  have h2 : 0 ≤ a / b := Int.ediv_nonneg ha.1 (Int.le_of_lt hb.1)
  rw [← Int32.toInt_inj, Int32.toInt_div, iI_toInt ⟨by omega, ha.2⟩, iI_toInt ⟨by omega, hb.2⟩, iI_toInt ⟨by omega, by omega⟩, Int.tdiv_eq_ediv_of_nonneg ha.1]
  exact Int.bmod_eq_of_le (by omega) (by omega)
theorem iI_rem {a b : Int} (ha : 0 ≤ a ∧ a < 2147483648) (hb : 0 < b ∧ b < 2147483648) : iI a - iI a / iI b * iI b = iI (a % b) := by
  rw [iI_div ha hb, iI_mul, iI_sub, Int.emod_def, Int.mul_comm]
theorem iI_and (a b : Nat) : iI a &&& iI b = iI ((a &&& b : Nat) : Int) := by
  rw [← iI_nI, ← iI_nI, ← iI_nI]
  exact Int32.toBitVec_inj.1 (BitVec.ofNat_and).symm
theorem iI_or (a b : Nat) : iI a ||| iI b = iI ((a ||| b : Nat) : Int) := by
  rw [← iI_nI, ← iI_nI, ← iI_nI]
  exact Int32.toBitVec_inj.1 (BitVec.ofNat_or).symm
theorem iI_xor (a b : Nat) : iI a ^^^ iI b = iI ((a ^^^ b : Nat) : Int) := by
  rw [← iI_nI, ← iI_nI, ← iI_nI]
  exact Int32.toBitVec_inj.1 (BitVec.ofNat_xor).symm
theorem iI_shl : ∀ k : Nat, k < 31 → iI 1 <<< (iI k &&& 31) = iI ((2 ^ k : Nat) : Int) := by decide +kernel
theorem iI_31 : ∀ k : Nat, k < 31 → (iI k &&& 31).toBitVec.smod 32 = BitVec.ofNat 32 k := by decide +kernel
theorem iI_shr {a k : Nat} (ha : a < 2147483648) (hk : k < 31) : iI a >>> (iI k &&& 31) = iI ((a / 2 ^ k : Nat) : Int) := by
  have h3 : a / 2 ^ k < 2147483648 := Nat.lt_of_le_of_lt (Nat.div_le_self _ _) ha
  rw [← Int32.toInt_inj, iI_toInt ⟨Int.le_trans (by decide) (Int.natCast_nonneg _), Int.ofNat_lt.mpr h3⟩, ← Int32.toInt_toBitVec, Int32.toBitVec_shiftRight]
  rw [show (iI k &&& 31).toBitVec.smod 32 = BitVec.ofNat 32 k from iI_31 k hk]
  rw [BitVec.sshiftRight_eq', BitVec.toInt_sshiftRight, Int32.toInt_toBitVec, iI_toInt ⟨by omega, by omega⟩]
  rw [BitVec.toNat_ofNat, Nat.mod_eq_of_lt (by omega), Int.shiftRight_eq_div_pow]
  norm_cast
theorem iI_bit {a k : Nat} (ha : a < 2147483648) (hk : k < 31) : (iI a >>> (iI k &&& 31)) &&& iI 1 = iI (if a.testBit k then 1 else 0) := by
  rw [iI_shr ha hk, show (1 : Int) = ((1 : Nat) : Int) from rfl, iI_and, Nat.and_one_is_mod, Nat.testBit_eq_decide_div_mod_eq]
  rcases Nat.mod_two_eq_zero_or_one (a / 2 ^ k) with h | h <;> simp [h]
theorem jI_toInt {a : Int} (h : -9223372036854775808 ≤ a ∧ a < 9223372036854775808) : (jI a).toInt = a := Int64.toInt_ofInt_of_le h.1 h.2
theorem jI_add (a b : Int) : jI a + jI b = jI (a + b) := (Int64.ofInt_add a b).symm
theorem jI_mul (a b : Int) : jI a * jI b = jI (a * b) := (Int64.ofInt_mul a b).symm
theorem jI_sub (a b : Int) : jI a - jI b = jI (a - b) := (Int64.ofInt_sub a b).symm
theorem jI_lt {a b : Int} (ha : -9223372036854775808 ≤ a ∧ a < 9223372036854775808) (hb : -9223372036854775808 ≤ b ∧ b < 9223372036854775808) : jI a < jI b ↔ a < b := by
  rw [Int64.lt_iff_toInt_lt, jI_toInt ha, jI_toInt hb]
theorem jI_eq {a b : Int} (ha : -9223372036854775808 ≤ a ∧ a < 9223372036854775808) (hb : -9223372036854775808 ≤ b ∧ b < 9223372036854775808) : jI a = jI b ↔ a = b := by
  rw [← Int64.toInt_inj, jI_toInt ha, jI_toInt hb]
theorem jI_div {a b : Int} (ha : 0 ≤ a ∧ a < 9223372036854775808) (hb : 0 < b ∧ b < 9223372036854775808) : jI a / jI b = jI (a / b) := by
  have h1 : a / b ≤ a := Int.ediv_le_self b ha.1
  have h2 : 0 ≤ a / b := Int.ediv_nonneg ha.1 (Int.le_of_lt hb.1)
  rw [← Int64.toInt_inj, Int64.toInt_div, jI_toInt ⟨by omega, ha.2⟩, jI_toInt ⟨by omega, hb.2⟩, jI_toInt ⟨by omega, by omega⟩, Int.tdiv_eq_ediv_of_nonneg ha.1]
  exact Int.bmod_eq_of_le (by omega) (by omega)
theorem jI_rem {a b : Int} (ha : 0 ≤ a ∧ a < 9223372036854775808) (hb : 0 < b ∧ b < 9223372036854775808) : jI a - jI a / jI b * jI b = jI (a % b) := by
  rw [jI_div ha hb, jI_mul, jI_sub, Int.emod_def, Int.mul_comm]
theorem iI_long {a : Int} (h : -2147483648 ≤ a ∧ a < 2147483648) : (iI a).toInt64 = jI a := by
  rw [← Int64.toInt_inj, Int32.toInt_toInt64, iI_toInt h, jI_toInt ⟨by omega, by omega⟩]
theorem jI_cmp {a b : Int} (ha : -9223372036854775808 ≤ a ∧ a < 9223372036854775808) (hb : -9223372036854775808 ≤ b ∧ b < 9223372036854775808) : lg_cmp (jI a) (jI b) = iI (if b < a then 1 else if a = b then 0 else -1) := by
  unfold lg_cmp
  simp only [jI_lt hb ha, jI_eq ha hb]
  by_cases h1 : b < a
  · rw [if_pos h1, if_pos h1]; decide +kernel
  · rw [if_neg h1, if_neg h1]
    by_cases h2 : a = b
    · rw [if_pos h2, if_pos h2]; decide +kernel
    · rw [if_neg h2, if_neg h2]; decide +kernel
section RI
variable {K : wK} {sx : Option (Nat × (Nat → Int32) × Nat)} {cs : Nat × Nat} {pc : Nat} {lv : List (Option Value)} {st : List Value} {sh : wSh} {M : wM} {Q : Option Value → wSh → wM → Nat × Nat → Prop}
theorem In.add {a b : Int} (hd : decode K.2.1 pc = .ok (.iadd, 1)) (k : Rn K sx cs (pc + 1) lv (.int (iI (a + b)) :: st) sh M Q) : Rn K sx cs pc lv (.int (iI b) :: .int (iI a) :: st) sh M Q := Rn.iadd hd (by rw [iI_add]; exact k)
theorem In.sub {a b : Int} (hd : decode K.2.1 pc = .ok (.isub, 1)) (k : Rn K sx cs (pc + 1) lv (.int (iI (a - b)) :: st) sh M Q) : Rn K sx cs pc lv (.int (iI b) :: .int (iI a) :: st) sh M Q := Rn.isub hd (by rw [iI_sub]; exact k)
theorem In.mul {a b : Int} (hd : decode K.2.1 pc = .ok (.imul, 1)) (k : Rn K sx cs (pc + 1) lv (.int (iI (a * b)) :: st) sh M Q) : Rn K sx cs pc lv (.int (iI b) :: .int (iI a) :: st) sh M Q := Rn.imul hd (by rw [iI_mul]; exact k)
theorem In.div {a b : Int} (hd : decode K.2.1 pc = .ok (.idiv, 1)) (ha : 0 ≤ a ∧ a < 2147483648) (hb : 0 < b ∧ b < 2147483648) (k : Rn K sx cs (pc + 1) lv (.int (iI (a / b)) :: st) sh M Q) : Rn K sx cs pc lv (.int (iI b) :: .int (iI a) :: st) sh M Q := Rn.idiv hd (by rw [iI_0, iI_eq ⟨by omega, hb.2⟩ ⟨by decide, by decide⟩]; omega) (by rw [iI_div ha hb]; exact k)
theorem In.rem {a b : Int} (hd : decode K.2.1 pc = .ok (.irem, 1)) (ha : 0 ≤ a ∧ a < 2147483648) (hb : 0 < b ∧ b < 2147483648) (k : Rn K sx cs (pc + 1) lv (.int (iI (a % b)) :: st) sh M Q) : Rn K sx cs pc lv (.int (iI b) :: .int (iI a) :: st) sh M Q := Rn.irem hd (by rw [iI_0, iI_eq ⟨by omega, hb.2⟩ ⟨by decide, by decide⟩]; omega) (by rw [iI_rem ha hb]; exact k)
theorem In.inc {i : Nat} {n a : Int} {lv1 : List (Option Value)} (hd : decode K.2.1 pc = .ok (.iinc i n, 3)) (hx : lv[i]? = some (some (.int (iI a)))) (hn : i < K.2.2.1) (hp : i = 0 ∨ ∀ x, lv[i - 1]? = some x → w_n2 x = true) (he : lv.set i (some (.int (iI (a + n)))) = lv1) (k : Rn K sx cs (pc + 3) lv1 st sh M Q) : Rn K sx cs pc lv st sh M Q := Rn.iinc hd hx (iI_add a n) hn hp he k
theorem In.and {a b : Int} {x y : Nat} (ha : a = x) (hb : b = y) (hd : decode K.2.1 pc = .ok (.iand, 1)) (k : Rn K sx cs (pc + 1) lv (.int (iI ((x &&& y : Nat) : Int)) :: st) sh M Q) : Rn K sx cs pc lv (.int (iI b) :: .int (iI a) :: st) sh M Q := by
  subst ha; subst hb; exact Rn.iand hd (by rw [iI_and]; exact k)
theorem In.or {a b : Int} {x y : Nat} (ha : a = x) (hb : b = y) (hd : decode K.2.1 pc = .ok (.ior, 1)) (k : Rn K sx cs (pc + 1) lv (.int (iI ((x ||| y : Nat) : Int)) :: st) sh M Q) : Rn K sx cs pc lv (.int (iI b) :: .int (iI a) :: st) sh M Q := by
  subst ha; subst hb; exact Rn.ior hd (by rw [iI_or]; exact k)
theorem In.xor {a b : Int} {x y : Nat} (ha : a = x) (hb : b = y) (hd : decode K.2.1 pc = .ok (.ixor, 1)) (k : Rn K sx cs (pc + 1) lv (.int (iI ((x ^^^ y : Nat) : Int)) :: st) sh M Q) : Rn K sx cs pc lv (.int (iI b) :: .int (iI a) :: st) sh M Q := by
  subst ha; subst hb; exact Rn.ixor hd (by rw [iI_xor]; exact k)
theorem In.shl {b : Int} {y : Nat} (hb : b = y) (hy : y < 31) (hd : decode K.2.1 pc = .ok (.ishl, 1)) (k : Rn K sx cs (pc + 1) lv (.int (iI ((2 ^ y : Nat) : Int)) :: st) sh M Q) : Rn K sx cs pc lv (.int (iI b) :: .int (iI 1) :: st) sh M Q := by
  subst hb; exact Rn.ishl hd (by rw [iI_shl y hy]; exact k)
theorem In.shr {a b : Int} {x y : Nat} (ha : a = x) (hb : b = y) (hx : x < 2147483648) (hy : y < 31) (hd : decode K.2.1 pc = .ok (.ishr, 1)) (k : Rn K sx cs (pc + 1) lv (.int (iI ((x / 2 ^ y : Nat) : Int)) :: st) sh M Q) : Rn K sx cs pc lv (.int (iI b) :: .int (iI a) :: st) sh M Q := by
  subst ha; subst hb; exact Rn.ishr hd (by rw [iI_shr hx hy]; exact k)
theorem In.alen {b z t : Nat} (hd : decode K.2.1 pc = .ok (.arraylength, 1)) (hsh : sh[b]? = some (t, z)) (ht : t = 12 ∨ t = 13 ∨ t = 14) (k : Rn K sx cs (pc + 1) lv (.int (iI z) :: st) sh M Q) : Rn K sx cs pc lv (.ref b :: st) sh M Q := Rn.alen hd hsh ht (by rw [iI_nI]; exact k)
theorem In.vin {i : Int} {k z : Nat} (hi : i = k) (hk : k < z) (hz : z < 2147483648) : vp_in (iI i) z := by
  subst hi; rw [← iI_nI]; exact vp_in_nI hk hz
theorem In.ald {b z k : Nat} {i v : Int} (hd : decode K.2.1 pc = .ok (.iaload, 1)) (hsh : sh[b]? = some (12, z)) (hi : i = k) (hk : k < z) (hz : z < 2147483648) (hv : M.1 b k = iI v) (kk : Rn K sx cs (pc + 1) lv (.int (iI v) :: st) sh M Q) : Rn K sx cs pc lv (.int (iI i) :: .ref b :: st) sh M Q :=
  Rn.iald hd hsh (In.vin hi hk hz) (by rw [hi, iI_clamp (by omega), hv]; exact kk)
theorem In.zald {b z k : Nat} {i v : Int} (hd : decode K.2.1 pc = .ok (.baload, 1)) (hsh : sh[b]? = some (14, z)) (hi : i = k) (hk : k < z) (hz : z < 2147483648) (hv : M.1 b k = iI v) (kk : Rn K sx cs (pc + 1) lv (.int (iI v) :: st) sh M Q) : Rn K sx cs pc lv (.int (iI i) :: .ref b :: st) sh M Q :=
  Rn.zald hd hsh (In.vin hi hk hz) (by rw [hi, iI_clamp (by omega), hv]; exact kk)
theorem In.lald {b z k : Nat} {i v : Int} (hd : decode K.2.1 pc = .ok (.laload, 1)) (hsh : sh[b]? = some (13, z)) (hi : i = k) (hk : k < z) (hz : z < 2147483648) (hv : M.2.1 b k = jI v) (kk : Rn K sx cs (pc + 1) lv (.long (jI v) :: st) sh M Q) : Rn K sx cs pc lv (.int (iI i) :: .ref b :: st) sh M Q :=
  Rn.lald hd hsh (In.vin hi hk hz) (by rw [hi, iI_clamp (by omega), hv]; exact kk)
theorem In.ast {b z k : Nat} {i x : Int} (hd : decode K.2.1 pc = .ok (.iastore, 1)) (hsh : sh[b]? = some (12, z)) (hi : i = k) (hk : k < z) (hz : z < 2147483648) (kk : Rn K sx cs (pc + 1) lv st sh (w_ui M b k (iI x)) Q) : Rn K sx cs pc lv (.int (iI x) :: .int (iI i) :: .ref b :: st) sh M Q :=
  Rn.iast hd hsh (In.vin hi hk hz) (by rw [hi, iI_clamp (by omega)]; exact kk)
theorem In.last {b z k : Nat} {i x : Int} (hd : decode K.2.1 pc = .ok (.lastore, 1)) (hsh : sh[b]? = some (13, z)) (hi : i = k) (hk : k < z) (hz : z < 2147483648) (kk : Rn K sx cs (pc + 1) lv st sh (w_ul M b k (jI x)) Q) : Rn K sx cs pc lv (.long (jI x) :: .int (iI i) :: .ref b :: st) sh M Q :=
  Rn.last hd hsh (In.vin hi hk hz) (by rw [hi, iI_clamp (by omega)]; exact kk)
theorem In.zast1 {b z k : Nat} {i : Int} (hd : decode K.2.1 pc = .ok (.bastore, 1)) (hsh : sh[b]? = some (14, z)) (hi : i = k) (hk : k < z) (hz : z < 2147483648) (kk : Rn K sx cs (pc + 1) lv st sh (w_ui M b k (iI 1)) Q) : Rn K sx cs pc lv (.int (iI 1) :: .int (iI i) :: .ref b :: st) sh M Q :=
  Rn.zast (y := iI 1) hd hsh (In.vin hi hk hz) (by decide +kernel) (by rw [hi, iI_clamp (by omega)]; exact kk)
theorem In.getI {index b ci i z : Nat} {v : Int} {C nm ds : String} {fin : Bool} (hd : decode K.2.1 pc = .ok (.getfield index, 3)) (hf : w_fld ci i C nm ds fin false) (hw : Cond.fieldLink K.1.cls index C nm ds ∈ lw_g) (hsh : sh[b]? = some (ci, z)) (hv : M.1 b i = iI v) (k : Rn K sx cs (pc + 3) lv (.int (iI v) :: st) sh M Q) : Rn K sx cs pc lv (.ref b :: st) sh M Q := Rn.getI hd hf hw hsh (by rw [hv]; exact k)
theorem In.putI {index b ci i z : Nat} {C nm : String} {x : Int} (hd : decode K.2.1 pc = .ok (.putfield index, 3)) (hf : w_fld ci i C nm "I" false false) (hw : Cond.fieldLink K.1.cls index C nm "I" ∈ lw_g) (hsh : sh[b]? = some (ci, z)) (k : Rn K sx cs (pc + 3) lv st sh (w_ui M b i (iI x)) Q) : Rn K sx cs pc lv (.int (iI x) :: .ref b :: st) sh M Q := Rn.putI (ty0 := .int) hd hf hw hsh (by decide +kernel) rfl rfl k
theorem In.putZ0 {index b ci i z : Nat} {C nm : String} (hd : decode K.2.1 pc = .ok (.putfield index, 3)) (hf : w_fld ci i C nm "Z" false false) (hw : Cond.fieldLink K.1.cls index C nm "Z" ∈ lw_g) (hsh : sh[b]? = some (ci, z)) (k : Rn K sx cs (pc + 3) lv st sh (w_ui M b i (iI 0)) Q) : Rn K sx cs pc lv (.int (iI 0) :: .ref b :: st) sh M Q := Rn.putI (ty0 := .boolean) hd hf hw hsh (by decide +kernel) (by decide +kernel) (by decide +kernel) k
theorem In.putZ1 {index b ci i z : Nat} {C nm : String} (hd : decode K.2.1 pc = .ok (.putfield index, 3)) (hf : w_fld ci i C nm "Z" false false) (hw : Cond.fieldLink K.1.cls index C nm "Z" ∈ lw_g) (hsh : sh[b]? = some (ci, z)) (k : Rn K sx cs (pc + 3) lv st sh (w_ui M b i (iI 1)) Q) : Rn K sx cs pc lv (.int (iI 1) :: .ref b :: st) sh M Q := Rn.putI (ty0 := .boolean) hd hf hw hsh (by decide +kernel) (by decide +kernel) (by decide +kernel) k
theorem In.max {index : Nat} {a b : Int} (ha : -2147483648 ≤ a ∧ a < 2147483648) (hb : -2147483648 ≤ b ∧ b < 2147483648) (hd : decode K.2.1 pc = .ok (.invokestatic index, 3)) (hl : Cond.methodLink K.1.cls index Lib.Math.max.name ∈ lw_g) (hst : Cond.static Lib.Math.max.name ∈ lw_g) (hini : Cond.initialized "java/lang/Math" ∈ lw_g) (hcd : Cond.code Lib.Math.max.name Lib.Math.max.code 2 (some .int) ∈ lw_g) (hf : 1 ≤ K.2.2.2.2.frames) (hlo : (st.map fun v => v.category).sum + 13 ≤ K.2.2.2.2.locals) (k : Rn K sx cs (pc + 3) lv (.int (iI (if a < b then b else a)) :: st) sh M Q) : Rn K sx cs pc lv (.int (iI b) :: .int (iI a) :: st) sh M Q :=
  Rn.max hd hl hst hini hcd hf hlo (by
    have e : (if iI a < iI b then iI b else iI a) = iI (if a < b then b else a) := by
      simp only [iI_lt ha hb]; split <;> rfl
    rw [e]; exact k)
theorem In.min {index : Nat} {a b : Int} (ha : -2147483648 ≤ a ∧ a < 2147483648) (hb : -2147483648 ≤ b ∧ b < 2147483648) (hd : decode K.2.1 pc = .ok (.invokestatic index, 3)) (hl : Cond.methodLink K.1.cls index Lib.Math.min.name ∈ lw_g) (hst : Cond.static Lib.Math.min.name ∈ lw_g) (hini : Cond.initialized "java/lang/Math" ∈ lw_g) (hcd : Cond.code Lib.Math.min.name Lib.Math.min.code 2 (some .int) ∈ lw_g) (hf : 1 ≤ K.2.2.2.2.frames) (hlo : (st.map fun v => v.category).sum + 13 ≤ K.2.2.2.2.locals) (k : Rn K sx cs (pc + 3) lv (.int (iI (if b < a then b else a)) :: st) sh M Q) : Rn K sx cs pc lv (.int (iI b) :: .int (iI a) :: st) sh M Q :=
  Rn.min hd hl hst hini hcd hf hlo (by
    have e : (if iI b < iI a then iI b else iI a) = iI (if b < a then b else a) := by
      simp only [iI_lt hb ha]; split <;> rfl
    rw [e]; exact k)
theorem In.maxL {index : Nat} {a b : Int} (ha : -9223372036854775808 ≤ a ∧ a < 9223372036854775808) (hb : -9223372036854775808 ≤ b ∧ b < 9223372036854775808) (hd : decode K.2.1 pc = .ok (.invokestatic index, 3)) (hl : Cond.methodLink K.1.cls index Lib.MathLoose.max_long.x ∈ lw_g) (hst : Cond.static Lib.MathLoose.max_long.x ∈ lw_g) (hini : Cond.initialized "java/lang/Math" ∈ lw_g) (hcd : Cond.code Lib.MathLoose.max_long.x Lib.MathLoose.max_long.code 4 (some .long) ∈ lw_g) (hf : 1 ≤ K.2.2.2.2.frames) (hlo : (st.map fun v => v.category).sum + 15 ≤ K.2.2.2.2.locals) (k : Rn K sx cs (pc + 3) lv (.long (jI (if b < a then a else b)) :: st) sh M Q) : Rn K sx cs pc lv (.long (jI b) :: .long (jI a) :: st) sh M Q :=
  Rn.maxL hd hl hst hini hcd hf hlo (by
    have e : (if jI b < jI a then jI a else jI b) = jI (if b < a then a else b) := by
      simp only [jI_lt hb ha]; split <;> rfl
    rw [e]; exact k)
theorem In.ladd {a b : Int} (hd : decode K.2.1 pc = .ok (.ladd, 1)) (k : Rn K sx cs (pc + 1) lv (.long (jI (a + b)) :: st) sh M Q) : Rn K sx cs pc lv (.long (jI b) :: .long (jI a) :: st) sh M Q := Rn.ladd hd (by rw [jI_add]; exact k)
theorem In.lmul {a b : Int} (hd : decode K.2.1 pc = .ok (.lmul, 1)) (k : Rn K sx cs (pc + 1) lv (.long (jI (a * b)) :: st) sh M Q) : Rn K sx cs pc lv (.long (jI b) :: .long (jI a) :: st) sh M Q := Rn.lmul hd (by rw [jI_mul]; exact k)
theorem jI_0 : (0 : Int64) = jI 0 := by decide +kernel
theorem In.ldiv {a b : Int} (hd : decode K.2.1 pc = .ok (.ldiv, 1)) (ha : 0 ≤ a ∧ a < 9223372036854775808) (hb : 0 < b ∧ b < 9223372036854775808) (k : Rn K sx cs (pc + 1) lv (.long (jI (a / b)) :: st) sh M Q) : Rn K sx cs pc lv (.long (jI b) :: .long (jI a) :: st) sh M Q := Rn.ldiv hd (by rw [jI_0, jI_eq ⟨by omega, hb.2⟩ ⟨by decide, by decide⟩]; omega) (by rw [jI_div ha hb]; exact k)
theorem In.lrem {a b : Int} (hd : decode K.2.1 pc = .ok (.lrem, 1)) (ha : 0 ≤ a ∧ a < 9223372036854775808) (hb : 0 < b ∧ b < 9223372036854775808) (k : Rn K sx cs (pc + 1) lv (.long (jI (a % b)) :: st) sh M Q) : Rn K sx cs pc lv (.long (jI b) :: .long (jI a) :: st) sh M Q := Rn.lrem hd (by rw [jI_0, jI_eq ⟨by omega, hb.2⟩ ⟨by decide, by decide⟩]; omega) (by rw [jI_rem ha hb]; exact k)
theorem In.i2l {a : Int} (hd : decode K.2.1 pc = .ok (.i2l, 1)) (ha : -2147483648 ≤ a ∧ a < 2147483648) (k : Rn K sx cs (pc + 1) lv (.long (jI a) :: st) sh M Q) : Rn K sx cs pc lv (.int (iI a) :: st) sh M Q := Rn.i2l hd (by rw [iI_long ha]; exact k)
theorem In.lcmp {a b : Int} (hd : decode K.2.1 pc = .ok (.lcmp, 1)) (ha : -9223372036854775808 ≤ a ∧ a < 9223372036854775808) (hb : -9223372036854775808 ≤ b ∧ b < 9223372036854775808) (k : Rn K sx cs (pc + 1) lv (.int (iI (if b < a then 1 else if a = b then 0 else -1)) :: st) sh M Q) : Rn K sx cs pc lv (.long (jI b) :: .long (jI a) :: st) sh M Q := Rn.lcmp hd (by rw [jI_cmp ha hb]; exact k)
theorem In.sld {L b0 k : Nat} {xs : Nat → Int32} {i : Int} (hs : sx = some (L, xs, b0)) (hd : decode K.2.1 pc = .ok (.iaload, 1)) (hi : i = k) (hk : k < L) (hz : L < 2147483648) (kk : Rn K sx cs (pc + 1) lv (.int (iI (xs k).toInt) :: st) sh M Q) : Rn K sx cs pc lv (.int (iI i) :: .ref w_scr :: st) sh M Q :=
  Rn.sld hs hd (In.vin hi hk hz) (by rw [hi, iI_clamp (by omega), iI_of (xs k)]; exact kk)
theorem In.slen {L b0 : Nat} {xs : Nat → Int32} (hs : sx = some (L, xs, b0)) (hd : decode K.2.1 pc = .ok (.arraylength, 1)) (k : Rn K sx cs (pc + 1) lv (.int (iI L) :: st) sh M Q) : Rn K sx cs pc lv (.ref w_scr :: st) sh M Q := Rn.slen hs hd (by rw [iI_nI]; exact k)
theorem In.if_eq {a : Int} {off : Int} {tgt : Nat} (hd : decode K.2.1 pc = .ok (.ifCond .eq off, 3)) (ht : (pc : Int) + off = (tgt : Int)) (ha : -2147483648 ≤ a ∧ a < 2147483648)
    (kt : a = 0 → Rn K sx cs tgt lv st sh M Q) (kf : ¬ a = 0 → Rn K sx cs (pc + 3) lv st sh M Q) : Rn K sx cs pc lv (.int (iI a) :: st) sh M Q :=
  Rn.if_eq hd ht (fun h => kt (by rw [iI_0, iI_eq ha ⟨by decide, by decide⟩] at h; exact h)) (fun h => kf (by rw [iI_0, iI_eq ha ⟨by decide, by decide⟩] at h; exact h))
theorem In.if_ne {a : Int} {off : Int} {tgt : Nat} (hd : decode K.2.1 pc = .ok (.ifCond .ne off, 3)) (ht : (pc : Int) + off = (tgt : Int)) (ha : -2147483648 ≤ a ∧ a < 2147483648)
    (kt : ¬ a = 0 → Rn K sx cs tgt lv st sh M Q) (kf : a = 0 → Rn K sx cs (pc + 3) lv st sh M Q) : Rn K sx cs pc lv (.int (iI a) :: st) sh M Q :=
  Rn.if_ne hd ht (fun h => kt (by rw [iI_0, iI_eq ha ⟨by decide, by decide⟩] at h; exact h)) (fun h => kf (by rw [iI_0, iI_eq ha ⟨by decide, by decide⟩] at h; exact h))
theorem In.if_lt {a : Int} {off : Int} {tgt : Nat} (hd : decode K.2.1 pc = .ok (.ifCond .lt off, 3)) (ht : (pc : Int) + off = (tgt : Int)) (ha : -2147483648 ≤ a ∧ a < 2147483648)
    (kt : a < 0 → Rn K sx cs tgt lv st sh M Q) (kf : ¬ a < 0 → Rn K sx cs (pc + 3) lv st sh M Q) : Rn K sx cs pc lv (.int (iI a) :: st) sh M Q :=
  Rn.if_lt hd ht (fun h => kt (by rw [iI_0, iI_lt ha ⟨by decide, by decide⟩] at h; exact h)) (fun h => kf (by rw [iI_0, iI_lt ha ⟨by decide, by decide⟩] at h; exact h))
theorem In.if_ge {a : Int} {off : Int} {tgt : Nat} (hd : decode K.2.1 pc = .ok (.ifCond .ge off, 3)) (ht : (pc : Int) + off = (tgt : Int)) (ha : -2147483648 ≤ a ∧ a < 2147483648)
    (kt : 0 ≤ a → Rn K sx cs tgt lv st sh M Q) (kf : ¬ 0 ≤ a → Rn K sx cs (pc + 3) lv st sh M Q) : Rn K sx cs pc lv (.int (iI a) :: st) sh M Q :=
  Rn.if_ge hd ht (fun h => kt (by rw [iI_0, iI_le ⟨by decide, by decide⟩ ha] at h; exact h)) (fun h => kf (by rw [iI_0, iI_le ⟨by decide, by decide⟩ ha] at h; exact h))
theorem In.if_gt {a : Int} {off : Int} {tgt : Nat} (hd : decode K.2.1 pc = .ok (.ifCond .gt off, 3)) (ht : (pc : Int) + off = (tgt : Int)) (ha : -2147483648 ≤ a ∧ a < 2147483648)
    (kt : 0 < a → Rn K sx cs tgt lv st sh M Q) (kf : ¬ 0 < a → Rn K sx cs (pc + 3) lv st sh M Q) : Rn K sx cs pc lv (.int (iI a) :: st) sh M Q :=
  Rn.if_gt hd ht (fun h => kt (by rw [iI_0, iI_lt ⟨by decide, by decide⟩ ha] at h; exact h)) (fun h => kf (by rw [iI_0, iI_lt ⟨by decide, by decide⟩ ha] at h; exact h))
theorem In.if_le {a : Int} {off : Int} {tgt : Nat} (hd : decode K.2.1 pc = .ok (.ifCond .le off, 3)) (ht : (pc : Int) + off = (tgt : Int)) (ha : -2147483648 ≤ a ∧ a < 2147483648)
    (kt : a ≤ 0 → Rn K sx cs tgt lv st sh M Q) (kf : ¬ a ≤ 0 → Rn K sx cs (pc + 3) lv st sh M Q) : Rn K sx cs pc lv (.int (iI a) :: st) sh M Q :=
  Rn.if_le hd ht (fun h => kt (by rw [iI_0, iI_le ha ⟨by decide, by decide⟩] at h; exact h)) (fun h => kf (by rw [iI_0, iI_le ha ⟨by decide, by decide⟩] at h; exact h))
theorem In.icmp_eq {a b : Int} {off : Int} {tgt : Nat} (hd : decode K.2.1 pc = .ok (.if_icmp .eq off, 3)) (ht : (pc : Int) + off = (tgt : Int)) (ha : -2147483648 ≤ a ∧ a < 2147483648) (hb : -2147483648 ≤ b ∧ b < 2147483648)
    (kt : a = b → Rn K sx cs tgt lv st sh M Q) (kf : ¬ a = b → Rn K sx cs (pc + 3) lv st sh M Q) : Rn K sx cs pc lv (.int (iI b) :: .int (iI a) :: st) sh M Q :=
  Rn.icmp_eq hd ht (fun h => kt (by rw [iI_eq ha hb] at h; exact h)) (fun h => kf (by rw [iI_eq ha hb] at h; exact h))
theorem In.icmp_ne {a b : Int} {off : Int} {tgt : Nat} (hd : decode K.2.1 pc = .ok (.if_icmp .ne off, 3)) (ht : (pc : Int) + off = (tgt : Int)) (ha : -2147483648 ≤ a ∧ a < 2147483648) (hb : -2147483648 ≤ b ∧ b < 2147483648)
    (kt : ¬ a = b → Rn K sx cs tgt lv st sh M Q) (kf : a = b → Rn K sx cs (pc + 3) lv st sh M Q) : Rn K sx cs pc lv (.int (iI b) :: .int (iI a) :: st) sh M Q :=
  Rn.icmp_ne hd ht (fun h => kt (by rw [iI_eq ha hb] at h; exact h)) (fun h => kf (by rw [iI_eq ha hb] at h; exact h))
theorem In.icmp_lt {a b : Int} {off : Int} {tgt : Nat} (hd : decode K.2.1 pc = .ok (.if_icmp .lt off, 3)) (ht : (pc : Int) + off = (tgt : Int)) (ha : -2147483648 ≤ a ∧ a < 2147483648) (hb : -2147483648 ≤ b ∧ b < 2147483648)
    (kt : a < b → Rn K sx cs tgt lv st sh M Q) (kf : ¬ a < b → Rn K sx cs (pc + 3) lv st sh M Q) : Rn K sx cs pc lv (.int (iI b) :: .int (iI a) :: st) sh M Q :=
  Rn.icmp_lt hd ht (fun h => kt (by rw [iI_lt ha hb] at h; exact h)) (fun h => kf (by rw [iI_lt ha hb] at h; exact h))
theorem In.icmp_ge {a b : Int} {off : Int} {tgt : Nat} (hd : decode K.2.1 pc = .ok (.if_icmp .ge off, 3)) (ht : (pc : Int) + off = (tgt : Int)) (ha : -2147483648 ≤ a ∧ a < 2147483648) (hb : -2147483648 ≤ b ∧ b < 2147483648)
    (kt : b ≤ a → Rn K sx cs tgt lv st sh M Q) (kf : ¬ b ≤ a → Rn K sx cs (pc + 3) lv st sh M Q) : Rn K sx cs pc lv (.int (iI b) :: .int (iI a) :: st) sh M Q :=
  Rn.icmp_ge hd ht (fun h => kt (by rw [iI_le hb ha] at h; exact h)) (fun h => kf (by rw [iI_le hb ha] at h; exact h))
theorem In.icmp_gt {a b : Int} {off : Int} {tgt : Nat} (hd : decode K.2.1 pc = .ok (.if_icmp .gt off, 3)) (ht : (pc : Int) + off = (tgt : Int)) (ha : -2147483648 ≤ a ∧ a < 2147483648) (hb : -2147483648 ≤ b ∧ b < 2147483648)
    (kt : b < a → Rn K sx cs tgt lv st sh M Q) (kf : ¬ b < a → Rn K sx cs (pc + 3) lv st sh M Q) : Rn K sx cs pc lv (.int (iI b) :: .int (iI a) :: st) sh M Q :=
  Rn.icmp_gt hd ht (fun h => kt (by rw [iI_lt hb ha] at h; exact h)) (fun h => kf (by rw [iI_lt hb ha] at h; exact h))
theorem In.icmp_le {a b : Int} {off : Int} {tgt : Nat} (hd : decode K.2.1 pc = .ok (.if_icmp .le off, 3)) (ht : (pc : Int) + off = (tgt : Int)) (ha : -2147483648 ≤ a ∧ a < 2147483648) (hb : -2147483648 ≤ b ∧ b < 2147483648)
    (kt : a ≤ b → Rn K sx cs tgt lv st sh M Q) (kf : ¬ a ≤ b → Rn K sx cs (pc + 3) lv st sh M Q) : Rn K sx cs pc lv (.int (iI b) :: .int (iI a) :: st) sh M Q :=
  Rn.icmp_le hd ht (fun h => kt (by rw [iI_le ha hb] at h; exact h)) (fun h => kf (by rw [iI_le ha hb] at h; exact h))
theorem In.tabOut {dflt lo hi : Int} {offs : Array Int} {len : Nat} {a : Int} {tgt : Nat} (hd : decode K.2.1 pc = .ok (.tableswitch dflt lo hi offs, len)) (ha : -2147483648 ≤ a ∧ a < 2147483648) (h : a < lo ∨ hi < a) (ht : (pc : Int) + dflt = (tgt : Int)) (k : Rn K sx cs tgt lv st sh M Q) : Rn K sx cs pc lv (.int (iI a) :: st) sh M Q := Rn.tableOut hd (by rw [iI_toInt ha]; exact h) ht k
theorem In.tabIn {dflt lo hi : Int} {offs : Array Int} {len : Nat} {a : Int} {off : Int} {tgt : Nat} (v : Int) (hd : decode K.2.1 pc = .ok (.tableswitch dflt lo hi offs, len)) (e : a = v) (ha : -2147483648 ≤ v ∧ v < 2147483648) (h1 : lo ≤ v ∧ v ≤ hi) (ho : offs[(v - lo).toNat]? = some off) (ht : (pc : Int) + off = (tgt : Int)) (k : Rn K sx cs tgt lv st sh M Q) : Rn K sx cs pc lv (.int (iI a) :: st) sh M Q := by
  subst e
  exact Rn.tableIn hd (by rw [iI_toInt ha]; omega) (by rw [iI_toInt ha]; omega) (by rw [iI_toInt ha]; exact ho) ht k
theorem In.look {dflt : Int} {ps : Array (Int × Int)} {len : Nat} {a : Int} {off : Int} {tgt : Nat} (hd : decode K.2.1 pc = .ok (.lookupswitch dflt ps, len)) (ha : -2147483648 ≤ a ∧ a < 2147483648) (hp : (ps.toList.zip (ps.toList.drop 1)).all (fun (a, next) => a.1 < next.1) = true) (ho : Op.lookupswitch.offset ps.toList dflt a = off) (ht : (pc : Int) + off = (tgt : Int)) (k : Rn K sx cs tgt lv st sh M Q) : Rn K sx cs pc lv (.int (iI a) :: st) sh M Q := Rn.lookup hd hp (by rw [iI_toInt ha]; exact ho) ht k
theorem In.ldc {index : Nat} {v : Int32} {z : Int} (hd : decode K.2.1 pc = .ok (.ldc index, 2)) (hw : Cond.constant K.1.cls index v ∈ lw_g) (hv : v = iI z) (k : Rn K sx cs (pc + 2) lv (.int (iI z) :: st) sh M Q) : Rn K sx cs pc lv st sh M Q := Rn.ldc hd hw (by rw [hv]; exact k)
theorem In.ldc2 {index : Nat} {v : Int64} {z : Int} (hd : decode K.2.1 pc = .ok (.ldc2_w index, 3)) (hw : Cond.constantLong K.1.cls index v ∈ lw_g) (hv : v = jI z) (k : Rn K sx cs (pc + 3) lv (.long (jI z) :: st) sh M Q) : Rn K sx cs pc lv st sh M Q := Rn.ldc2 hd hw (by rw [hv]; exact k)
theorem w_pv {lv : List (Option Value)} {i : Nat} (h : (i == 0 || (match lv[i - 1]? with | some x => w_n2 x | none => true)) = true) : i = 0 ∨ ∀ x, lv[i - 1]? = some x → w_n2 x = true := by
  rcases Bool.or_eq_true_iff.mp h with h | h
  · exact Or.inl (by simpa using h)
  · refine Or.inr (fun x hx => ?_)
    rw [hx] at h
    exact h
/-! flags -/
theorem fl_rg {P : Prop} [Decidable P] : -2147483648 ≤ (if P then (1 : Int) else 0) ∧ (if P then (1 : Int) else 0) < 2147483648 := by split <;> decide
theorem fl_ne {P : Prop} [Decidable P] (h : ¬ (if P then (1 : Int) else 0) = 0) : P := by
  by_cases p : P
  · exact p
  · rw [if_neg p] at h; exact absurd rfl h
theorem fl_eq {P : Prop} [Decidable P] (h : (if P then (1 : Int) else 0) = 0) : ¬ P := by
  intro p; rw [if_pos p] at h; cases h
end RI
