/-! ===== the tie: bits of a long ===== -/
def zt_b (v : Int64) (i : Nat) : Bool := v.toBitVec.getLsbD i
theorem zt_b_ge (v : Int64) {i : Nat} (hi : 64 ≤ i) : zt_b v i = false := BitVec.getLsbD_of_ge _ _ hi
theorem zt_b_ext {v w : Int64} (h : ∀ i, i < 64 → zt_b v i = zt_b w i) : v = w := Int64.toBitVec_inj.mp (BitVec.eq_of_getLsbD_eq (fun i hi => h i hi))
theorem zt_b_and (v w : Int64) (i : Nat) : zt_b (v &&& w) i = (zt_b v i && zt_b w i) := by
  unfold zt_b
  rw [Int64.toBitVec_and, BitVec.getLsbD_and]
theorem zt_b_or (v w : Int64) (i : Nat) : zt_b (v ||| w) i = (zt_b v i || zt_b w i) := by
  unfold zt_b
  rw [Int64.toBitVec_or, BitVec.getLsbD_or]
theorem zt_b_m1 (i : Nat) (hi : i < 64) : zt_b (-1) i = true := by
  have : ∀ i, i < 64 → zt_b (-1) i = true := by decide +kernel
  exact this i hi
theorem zt_b_not (v : Int64) {i : Nat} (hi : i < 64) : zt_b (v ^^^ (-1 : Int64)) i = !zt_b v i := by
  have e := zt_b_m1 i hi
  unfold zt_b at e ⊢
  rw [Int64.toBitVec_xor, BitVec.getLsbD_xor, e, Bool.xor_true]
theorem zt_b_0 (i : Nat) : zt_b (Int64.ofNat 0) i = false := by
  unfold zt_b
  exact BitVec.getLsbD_zero
/-- the bit of a number -/
def zt_bt (n : Nat) : Int64 := zv_lshl (Int64.ofNat 1) (n : Int)
theorem zt_b_bt {n i : Nat} (hn : n < 48) (hi : i < 64) : zt_b (zt_bt n) i = decide (i = n) := by
  have : ∀ n, n < 48 → ∀ i, i < 64 → zt_b (zt_bt n) i = decide (i = n) := by decide +kernel
  exact this n hn i hi
theorem zt_lcmp (v : Int64) : zv_lcmp v (Int64.ofNat 0) = 0 ↔ ∀ i, i < 64 → zt_b v i = false := by
  unfold zv_lcmp
  constructor
  · intro h i _
    by_cases e : v = Int64.ofNat 0
    · rw [e]; exact zt_b_0 i
    · rw [if_neg e] at h
      split at h <;> exact absurd h (by decide)
  · intro h
    rw [if_pos (zt_b_ext (fun i hi => (h i hi).trans (zt_b_0 i).symm))]
theorem zt_lcmp_bt (v : Int64) {n : Nat} (hn : n < 48) : zv_lcmp (v &&& zt_bt n) (Int64.ofNat 0) = 0 ↔ zt_b v n = false := by
  rw [zt_lcmp]
  constructor
  · intro h
    have := h n (by omega)
    rw [zt_b_and, zt_b_bt hn (by omega), decide_eq_true rfl, Bool.and_true] at this
    exact this
  · intro h i hi
    rw [zt_b_and, zt_b_bt hn hi]
    by_cases e : i = n
    · rw [e, h, Bool.false_and]
    · rw [decide_eq_false e, Bool.and_false]
theorem zt_bt_lcmp (v : Int64) {n : Nat} (hn : n < 48) : zv_lcmp (zt_bt n &&& v) (Int64.ofNat 0) = 0 ↔ zt_b v n = false := by
  rw [zt_lcmp]
  constructor
  · intro h
    have := h n (by omega)
    rw [zt_b_and, zt_b_bt hn (by omega), decide_eq_true rfl, Bool.true_and] at this
    exact this
  · intro h i hi
    rw [zt_b_and, zt_b_bt hn hi]
    by_cases e : i = n
    · rw [e, h, Bool.and_false]
    · rw [decide_eq_false e, Bool.false_and]
/-- v >>> n & 1 -/
theorem zt_lushr (v : Int64) {n : Nat} (hn : n < 48) : zv_lcmp (zv_lushr v (n : Int) &&& Int64.ofNat 1) (Int64.ofNat 0) = 0 ↔ zt_b v n = false := by
  have e1 : ∀ n : Nat, n < 48 → ((Int32.ofInt (n : Int)).toInt64.toUInt64 &&& Int64.toUInt64 63).toNat = n := by decide +kernel
  have ebit : ∀ i, zt_b (zv_lushr v (n : Int)) i = zt_b v (n + i) := by
    intro i
    have e2 : (zv_lushr v (n : Int)).toBitVec = v.toBitVec >>> n := by
      unfold zv_lushr
      show (v.toUInt64 >>> ((Int32.ofInt (n : Int)).toInt64.toUInt64 &&& Int64.toUInt64 63)).toBitVec = _
      rw [UInt64.toBitVec_shiftRight]
      have e3 : (((Int32.ofInt (n : Int)).toInt64.toUInt64 &&& Int64.toUInt64 63).toBitVec % 64).toNat = n := by
        rw [BitVec.toNat_umod]
        have := e1 n hn
        have e4 : ((Int32.ofInt (n : Int)).toInt64.toUInt64 &&& Int64.toUInt64 63).toBitVec.toNat = n := this
        rw [e4]
        exact Nat.mod_eq_of_lt (by show n < 64; omega)
      rw [BitVec.ushiftRight_eq', e3]
      rfl
    unfold zt_b
    rw [e2, BitVec.getLsbD_ushiftRight]
  have b1 : ∀ i, i < 64 → zt_b (Int64.ofNat 1) i = decide (i = 0) := by decide +kernel
  rw [zt_lcmp]
  constructor
  · intro h
    have := h 0 (by omega)
    rw [zt_b_and, b1 0 (by omega), decide_eq_true rfl, Bool.and_true, ebit] at this
    exact this
  · intro h i hi
    rw [zt_b_and, b1 i hi]
    by_cases e : i = 0
    · rw [e, ebit, Nat.add_zero, h, Bool.false_and]
    · rw [decide_eq_false e, Bool.and_false]
