/-! how many bits: the call -/
theorem zt_and127 (y : Int64) : zv_and (zv_l2i y) 127 = ((y.toBitVec.toNat % 128 : Nat) : Int) := by
  have e : (Int32.ofInt (zv_l2i y)) = y.toInt32 := Int32.ofInt_toInt _
  have b : ((Int32.ofInt (zv_l2i y) &&& Int32.ofInt 127).toBitVec).toNat = y.toBitVec.toNat % 128 := by
    rw [e, Int32.toBitVec_and, BitVec.toNat_and, Int64.toBitVec_toInt32, BitVec.signExtend_eq_setWidth_of_le _ (by decide), BitVec.toNat_setWidth, show (Int32.ofInt 127).toBitVec.toNat = 2 ^ 7 - 1 from rfl, Nat.and_two_pow_sub_one_eq_mod]
    omega
  exact zc_toInt _ b (by omega)
theorem zt_bitCount {d : Nat} (x : Int64) (h : zv_H) : C12_bitCount (d + 1) x h = some (zt_pop x, h) := by
  obtain ⟨y, ey, s, r, b, pe⟩ := zt_bc x
  refine lC12_bitCount ?_
  rw [qE12_bitCount]
  show some (some (zv_i (zv_and (zv_l2i (zt_bc6 (zt_bc5 (zt_bc4 (zt_bc3 (zt_bc2 (zt_bc1 x))))))) 127)), h) = _
  rw [← ey, zt_and127, pe]
  have : y.toBitVec.toNat % 128 = s := by omega
  rw [this]
theorem zt_pop_r (v : Int64) : 0 ≤ zt_pop v ∧ zt_pop v ≤ 64 := by
  have := zm_sum_b (f := fun i => zt_bi (zt_b v i)) (a := 0) (b := 1) 64 (fun k _ => by
    rcases zt_bi01 (zt_b v k) with q | q <;> omega)
  unfold zt_pop
  omega
