/-! ===== the tie: how many bits ===== -/
def zt_rep (c : Nat) : Nat → Nat
  | 0 => 0
  | k + 1 => 256 * zt_rep c k + c
theorem zt_land (a b c e : Nat) (ha : a < 256) (hc : c < 256) : (256 * b + a) &&& (256 * e + c) = 256 * (b &&& e) + (a &&& c) := by
  have hac : a &&& c < 2 ^ 8 := Nat.lt_of_le_of_lt Nat.and_le_left ha
  apply Nat.eq_of_testBit_eq
  intro j
  rw [Nat.testBit_and, show 256 * b + a = 2 ^ 8 * b + a from rfl, show 256 * e + c = 2 ^ 8 * e + c from rfl, show 256 * (b &&& e) + (a &&& c) = 2 ^ 8 * (b &&& e) + (a &&& c) from rfl, Nat.testBit_two_pow_mul_add b ha, Nat.testBit_two_pow_mul_add e hc, Nat.testBit_two_pow_mul_add (b &&& e) hac]
  by_cases h : j < 8
  · rw [if_pos h, if_pos h, if_pos h, Nat.testBit_and]
  · rw [if_neg h, if_neg h, if_neg h, Nat.testBit_and]
def zt_w1 (k n : Nat) : Nat := n - ((n / 2) &&& zt_rep 85 k)
def zt_u1 (k n : Nat) : Nat := (n &&& zt_rep 51 k) + ((n / 4) &&& zt_rep 51 k)
def zt_v1 (k n : Nat) : Nat := (n + n / 16) &&& zt_rep 15 k
def zt_pb (a : Nat) : Nat := a % 2 + a / 2 % 2 + a / 4 % 2 + a / 8 % 2 + a / 16 % 2 + a / 32 % 2 + a / 64 % 2 + a / 128 % 2
def zt_Pd : Nat → Nat → Nat
  | 0, _ => 0
  | k + 1, n => 256 * zt_Pd k (n / 256) + zt_pb (n % 256)
theorem zt_byte : ∀ a, a < 256 → (((a / 2) &&& 85) ≤ a ∧ ((a / 2 + 128) &&& 85) = ((a / 2) &&& 85)) ∧ ∀ z, z = a - ((a / 2) &&& 85) → (z < 256 ∧ ((z / 4 + 64) &&& 51) = ((z / 4) &&& 51) ∧ ((z / 4 + 128) &&& 51) = ((z / 4) &&& 51) ∧ ((z / 4 + 192) &&& 51) = ((z / 4) &&& 51)) ∧ ∀ y, y = (z &&& 51) + ((z / 4) &&& 51) → y % 16 ≤ 4 ∧ y / 16 ≤ 4 ∧ y % 16 + y / 16 = zt_pb a := by
  have key : ∀ a, a < 256 → (((a / 2) &&& 85) ≤ a ∧ ((a / 2 + 128) &&& 85) = ((a / 2) &&& 85)) ∧ ((a - ((a / 2) &&& 85)) < 256 ∧ (((a - ((a / 2) &&& 85)) / 4 + 64) &&& 51) = (((a - ((a / 2) &&& 85)) / 4) &&& 51) ∧ (((a - ((a / 2) &&& 85)) / 4 + 128) &&& 51) = (((a - ((a / 2) &&& 85)) / 4) &&& 51) ∧ (((a - ((a / 2) &&& 85)) / 4 + 192) &&& 51) = (((a - ((a / 2) &&& 85)) / 4) &&& 51)) ∧ ((((a - ((a / 2) &&& 85)) &&& 51) + (((a - ((a / 2) &&& 85)) / 4) &&& 51)) % 16 ≤ 4 ∧ (((a - ((a / 2) &&& 85)) &&& 51) + (((a - ((a / 2) &&& 85)) / 4) &&& 51)) / 16 ≤ 4 ∧ (((a - ((a / 2) &&& 85)) &&& 51) + (((a - ((a / 2) &&& 85)) / 4) &&& 51)) % 16 + (((a - ((a / 2) &&& 85)) &&& 51) + (((a - ((a / 2) &&& 85)) / 4) &&& 51)) / 16 = zt_pb a) := by decide +kernel
  intro a ha
  obtain ⟨k1, k2, k3⟩ := key a ha
  refine ⟨k1, fun z hz => ?_⟩
  subst hz
  refine ⟨k2, fun y hy => ?_⟩
  subst hy
  exact k3
/-- one more byte -/
theorem zt_stage (k b a : Nat) (ha : a < 256) : ∃ z y, zt_w1 (k + 1) (256 * b + a) = 256 * zt_w1 k b + z ∧ z < 256 ∧ (∀ w, zt_u1 (k + 1) (256 * w + z) = 256 * zt_u1 k w + y) ∧ y % 16 ≤ 4 ∧ y / 16 ≤ 4 ∧ (∀ q, q % 16 ≤ 4 → zt_v1 (k + 1) (256 * q + y) = 256 * zt_v1 k q + zt_pb a) ∧ ((b / 2) &&& zt_rep 85 k ≤ b → True) := by
  obtain ⟨⟨b1, b2⟩, b3⟩ := zt_byte a ha
  obtain ⟨⟨c1, c2, c3, c4⟩, c5⟩ := b3 _ rfl
  obtain ⟨d1, d2, d3⟩ := c5 _ rfl
  have le : (b / 2) &&& zt_rep 85 k ≤ b := Nat.le_trans Nat.and_le_left (Nat.div_le_self _ _)
  refine ⟨_, _, ?_, c1, fun w => ?_, d1, d2, fun q hq => ?_, fun _ => trivial⟩
  · unfold zt_w1
    show (256 * b + a) - (((256 * b + a) / 2) &&& (256 * zt_rep 85 k + 85)) = _
    have e : (256 * b + a) / 2 = 256 * (b / 2) + (128 * (b % 2) + a / 2) := by omega
    rw [e, zt_land _ _ _ _ (by omega) (by decide)]
    have m : (128 * (b % 2) + a / 2) &&& 85 = (a / 2) &&& 85 := by
      rcases Nat.mod_two_eq_zero_or_one b with h | h
      · rw [h, Nat.mul_zero, Nat.zero_add]
      · rw [h, Nat.mul_one, Nat.add_comm]; exact b2
    rw [m]
    omega
  · unfold zt_u1
    show ((256 * w + (a - ((a / 2) &&& 85))) &&& (256 * zt_rep 51 k + 51)) + (((256 * w + (a - ((a / 2) &&& 85))) / 4) &&& (256 * zt_rep 51 k + 51)) = _
    generalize a - ((a / 2) &&& 85) = z at c1 c2 c3 c4 ⊢
    have e : (256 * w + z) / 4 = 256 * (w / 4) + (64 * (w % 4) + z / 4) := by omega
    rw [e, zt_land _ _ _ _ c1 (by decide), zt_land _ _ _ _ (by omega) (by decide)]
    have m : (64 * (w % 4) + z / 4) &&& 51 = (z / 4) &&& 51 := by
      have h4 : w % 4 = 0 ∨ w % 4 = 1 ∨ w % 4 = 2 ∨ w % 4 = 3 := by omega
      rcases h4 with h | h | h | h
      · rw [h, Nat.mul_zero, Nat.zero_add]
      · rw [h, Nat.mul_one, Nat.add_comm]; exact c2
      · rw [h, Nat.add_comm]; exact c3
      · rw [h, Nat.add_comm]; exact c4
    rw [m]
    omega
  · unfold zt_v1
    show ((256 * q + (((a - ((a / 2) &&& 85)) &&& 51) + (((a - ((a / 2) &&& 85)) / 4) &&& 51))) + (256 * q + (((a - ((a / 2) &&& 85)) &&& 51) + (((a - ((a / 2) &&& 85)) / 4) &&& 51))) / 16) &&& (256 * zt_rep 15 k + 15) = _
    generalize ((a - ((a / 2) &&& 85)) &&& 51) + (((a - ((a / 2) &&& 85)) / 4) &&& 51) = y at d1 d2 d3 ⊢
    have e : (256 * q + y) + (256 * q + y) / 16 = 256 * (q + q / 16) + (y + y / 16 + 16 * (q % 16)) := by omega
    rw [e, zt_land _ _ _ _ (by omega) (by decide)]
    have m : (y + y / 16 + 16 * (q % 16)) &&& 15 = zt_pb a := by
      have := Nat.and_two_pow_sub_one_eq_mod (y + y / 16 + 16 * (q % 16)) 4
      rw [show (2 : Nat) ^ 4 - 1 = 15 from rfl, show (2 : Nat) ^ 4 = 16 from rfl] at this
      rw [this]
      omega
    rw [m]
theorem zt_stages : ∀ k n : Nat, n < 256 ^ k → zt_u1 k (zt_w1 k n) % 16 ≤ 4 ∧ zt_v1 k (zt_u1 k (zt_w1 k n)) = zt_Pd k n
  | 0, n, h => by
    have e : n = 0 := by
      rw [Nat.pow_zero] at h
      omega
    subst e
    exact ⟨by decide, by decide⟩
  | k + 1, n, h => by
    rw [Nat.pow_succ] at h
    obtain ⟨i1, i2⟩ := zt_stages k (n / 256) (by omega)
    obtain ⟨z, y, s1, s2, s3, s4, s5, s6, _⟩ := zt_stage k (n / 256) (n % 256) (by omega)
    have en : 256 * (n / 256) + n % 256 = n := by omega
    rw [en] at s1
    rw [s1, s3, s6 _ i1, i2]
    exact ⟨by omega, rfl⟩
theorem zt_pb8 (a : Nat) : zt_pb a ≤ 8 := by unfold zt_pb; omega
/-- how many bits of a long -/
def zt_pop (v : Int64) : Int := zm_sum (fun i => zt_bi (zt_b v i)) 64
theorem zt_bn (v : Int64) (i : Nat) : zt_bi (zt_b v i) = ((v.toBitVec.toNat / 2 ^ i % 2 : Nat) : Int) := by
  have e : zt_b v i = decide (v.toBitVec.toNat / 2 ^ i % 2 = 1) := by
    unfold zt_b
    rw [BitVec.getLsbD, Nat.testBit_eq_decide_div_mod_eq]
  rw [e]
  unfold zt_bi
  by_cases h : v.toBitVec.toNat / 2 ^ i % 2 = 1
  · rw [decide_eq_true h, if_pos rfl, h]
    rfl
  · rw [decide_eq_false h, if_neg (by decide)]
    have := Nat.mod_two_eq_zero_or_one (v.toBitVec.toNat / 2 ^ i)
    omega
theorem zt_pop8 (v : Int64) (j : Nat) : zm_sum (fun i => zt_bi (zt_b v i)) (8 * j + 8) = zm_sum (fun i => zt_bi (zt_b v i)) (8 * j) + (zt_pb (v.toBitVec.toNat / 256 ^ j % 256) : Nat) := by
  have d : ∀ m, v.toBitVec.toNat / 2 ^ (8 * j + m) = v.toBitVec.toNat / 256 ^ j / 2 ^ m := fun m => by
    rw [Nat.pow_add, Nat.pow_mul, show (2 : Nat) ^ 8 = 256 from rfl, Nat.div_div_eq_div_mul]
  show zm_sum (fun i => zt_bi (zt_b v i)) (8 * j) + zt_bi (zt_b v (8 * j + 0)) + zt_bi (zt_b v (8 * j + 1)) + zt_bi (zt_b v (8 * j + 2)) + zt_bi (zt_b v (8 * j + 3)) + zt_bi (zt_b v (8 * j + 4)) + zt_bi (zt_b v (8 * j + 5)) + zt_bi (zt_b v (8 * j + 6)) + zt_bi (zt_b v (8 * j + 7)) = _
  rw [zt_bn, zt_bn, zt_bn, zt_bn, zt_bn, zt_bn, zt_bn, zt_bn, d, d, d, d, d, d, d, d]
  generalize v.toBitVec.toNat / 256 ^ j = y
  unfold zt_pb
  rw [show (2 : Nat) ^ 0 = 1 from rfl, show (2 : Nat) ^ 1 = 2 from rfl, show (2 : Nat) ^ 2 = 4 from rfl, show (2 : Nat) ^ 3 = 8 from rfl, show (2 : Nat) ^ 4 = 16 from rfl, show (2 : Nat) ^ 5 = 32 from rfl, show (2 : Nat) ^ 6 = 64 from rfl, show (2 : Nat) ^ 7 = 128 from rfl]
  omega
theorem zt_pop_e (v : Int64) : zt_pop v = ((zt_pb (v.toBitVec.toNat % 256) + zt_pb (v.toBitVec.toNat / 256 % 256) + zt_pb (v.toBitVec.toNat / 65536 % 256) + zt_pb (v.toBitVec.toNat / 16777216 % 256) + zt_pb (v.toBitVec.toNat / 4294967296 % 256) + zt_pb (v.toBitVec.toNat / 1099511627776 % 256) + zt_pb (v.toBitVec.toNat / 281474976710656 % 256) + zt_pb (v.toBitVec.toNat / 72057594037927936 % 256) : Nat) : Int) := by
  have s0 : zm_sum (fun i => zt_bi (zt_b v i)) 0 = 0 := rfl
  have h0 := zt_pop8 v 0
  have h1 := zt_pop8 v 1
  have h2 := zt_pop8 v 2
  have h3 := zt_pop8 v 3
  have h4 := zt_pop8 v 4
  have h5 := zt_pop8 v 5
  have h6 := zt_pop8 v 6
  have h7 := zt_pop8 v 7
  have p : ∀ j, (256 : Nat) ^ j = 256 ^ j := fun _ => rfl
  rw [show (256 : Nat) ^ 0 = 1 from rfl, Nat.div_one] at h0
  rw [show (256 : Nat) ^ 1 = 256 from rfl] at h1
  rw [show (256 : Nat) ^ 2 = 65536 from rfl] at h2
  rw [show (256 : Nat) ^ 3 = 16777216 from rfl] at h3
  rw [show (256 : Nat) ^ 4 = 4294967296 from rfl] at h4
  rw [show (256 : Nat) ^ 5 = 1099511627776 from rfl] at h5
  rw [show (256 : Nat) ^ 6 = 281474976710656 from rfl] at h6
  rw [show (256 : Nat) ^ 7 = 72057594037927936 from rfl] at h7
  unfold zt_pop
  dsimp only [Nat.mul_zero, Nat.zero_add, Nat.reduceMul, Nat.reduceAdd] at h0 h1 h2 h3 h4 h5 h6 h7
  omega
theorem zt_lu (v : Int64) (n : Nat) (hn : n < 64) : (zv_lushr v (n : Int)).toBitVec = v.toBitVec >>> n := by
  have e1 : ∀ n : Nat, n < 64 → ((Int32.ofInt (n : Int)).toInt64.toUInt64 &&& Int64.toUInt64 63).toNat = n := by decide +kernel
  unfold zv_lushr
  show (v.toUInt64 >>> ((Int32.ofInt (n : Int)).toInt64.toUInt64 &&& Int64.toUInt64 63)).toBitVec = _
  rw [UInt64.toBitVec_shiftRight]
  have e3 : (((Int32.ofInt (n : Int)).toInt64.toUInt64 &&& Int64.toUInt64 63).toBitVec % 64).toNat = n := by
    rw [BitVec.toNat_umod]
    have e4 : ((Int32.ofInt (n : Int)).toInt64.toUInt64 &&& Int64.toUInt64 63).toBitVec.toNat = n := e1 n hn
    rw [e4]
    exact Nat.mod_eq_of_lt (by show n < 64; omega)
  rw [BitVec.ushiftRight_eq', e3]
  rfl
theorem zt_luN (v : Int64) (n : Nat) (hn : n < 64) : (zv_lushr v (n : Int)).toBitVec.toNat = v.toBitVec.toNat / 2 ^ n := by
  rw [zt_lu v n hn, BitVec.toNat_ushiftRight, Nat.shiftRight_eq_div_pow]
/-- the formula, bit by bit -/
def zt_bc1 (x : Int64) : Int64 := x - ((zv_lushr x (1 : Int)) &&& (6148914691236517205 : Int64))
def zt_bc2 (x : Int64) : Int64 := (x &&& (3689348814741910323 : Int64)) + ((zv_lushr x (2 : Int)) &&& (3689348814741910323 : Int64))
def zt_bc3 (x : Int64) : Int64 := (x + zv_lushr x (4 : Int)) &&& (1085102592571150095 : Int64)
def zt_bc4 (x : Int64) : Int64 := x + zv_lushr x (8 : Int)
def zt_bc5 (x : Int64) : Int64 := x + zv_lushr x (16 : Int)
def zt_bc6 (x : Int64) : Int64 := x + zv_lushr x (32 : Int)
theorem zt_and_n (x : Int64) (m : Int64) : (x &&& m).toBitVec.toNat = x.toBitVec.toNat &&& m.toBitVec.toNat := by
  rw [Int64.toBitVec_and, BitVec.toNat_and]
theorem zt_add_n (x y : Int64) (h : x.toBitVec.toNat + y.toBitVec.toNat < 18446744073709551616) : (x + y).toBitVec.toNat = x.toBitVec.toNat + y.toBitVec.toNat := by
  rw [Int64.toBitVec_add, BitVec.toNat_add]
  exact Nat.mod_eq_of_lt h
theorem zt_arA (l r : Nat) (h : l < 256) : (l + 256 * r) / 256 = r := by omega
theorem zt_arB (l r : Nat) (h : l < 65536) : (l + 65536 * r) / 65536 = r := by omega
theorem zt_arC (l r : Nat) (h : l < 4294967296) : (l + 4294967296 * r) / 4294967296 = r := by omega
theorem zt_arD (l r : Nat) (h : l < 256) : (l + 256 * r) % 256 = l := by omega
theorem zt_ar {q0 q1 q2 q3 q4 q5 q6 q7 z y4 y5 y6 : Nat} (b0 : q0 ≤ 8) (b1 : q1 ≤ 8) (b2 : q2 ≤ 8) (b3 : q3 ≤ 8) (b4 : q4 ≤ 8) (b5 : q5 ≤ 8) (b6 : q6 ≤ 8) (b7 : q7 ≤ 8) (v : z = q0 + 256 * (q1 + 256 * (q2 + 256 * (q3 + 256 * (q4 + 256 * (q5 + 256 * (q6 + 256 * q7))))))) (f4 : y4 = z + z / 256) (f5 : y5 = y4 + y4 / 65536) (f6 : y6 = y5 + y5 / 4294967296) : y6 % 256 = q0 + q1 + q2 + q3 + q4 + q5 + q6 + q7 := by
  rw [v, zt_arA _ _ (by omega)] at f4
  clear v
  have e4 : y4 = (q0 + q1 + 256 * (q1 + q2)) + 65536 * ((q2 + q3) + 256 * (q3 + q4) + 65536 * (q4 + q5) + 16777216 * (q5 + q6) + 4294967296 * (q6 + q7) + 1099511627776 * q7) := by
    clear f5 f6
    omega
  clear f4
  rw [e4, zt_arB _ _ (by clear f5 f6 e4; omega)] at f5
  clear e4
  have e5 : y5 = (q0 + q1 + q2 + q3 + 256 * (q1 + q2 + q3 + q4) + 65536 * (q2 + q3 + q4 + q5) + 16777216 * (q3 + q4 + q5 + q6)) + 4294967296 * ((q4 + q5 + q6 + q7) + 256 * (q5 + q6 + q7) + 65536 * (q6 + q7) + 16777216 * q7) := by
    clear f6
    omega
  clear f5
  rw [e5, zt_arC _ _ (by clear f6 e5; omega)] at f6
  clear e5
  have e6 : y6 = (q0 + q1 + q2 + q3 + q4 + q5 + q6 + q7) + 256 * ((q1 + q2 + q3 + q4) + (q5 + q6 + q7) + 256 * (q2 + q3 + q4 + q5) + 65536 * (q3 + q4 + q5 + q6) + 16777216 * ((q4 + q5 + q6 + q7) + 256 * (q5 + q6 + q7) + 65536 * (q6 + q7) + 16777216 * q7) + 256 * (q6 + q7) + 65536 * q7) := by
    omega
  rw [e6, zt_arD _ _ (by omega)]
theorem zt_bc (x : Int64) : ∃ y, y = zt_bc6 (zt_bc5 (zt_bc4 (zt_bc3 (zt_bc2 (zt_bc1 x))))) ∧ ∃ s : Nat, y.toBitVec.toNat % 256 = s ∧ s ≤ 64 ∧ zt_pop x = s := by
  have n64 : x.toBitVec.toNat < 18446744073709551616 := x.toBitVec.isLt
  have lt : ∀ y : Int64, y.toBitVec.toNat < 18446744073709551616 := fun y => y.toBitVec.isLt
  obtain ⟨_, st⟩ := zt_stages 8 x.toBitVec.toNat n64
  have w : (zt_bc1 x).toBitVec.toNat = zt_w1 8 x.toBitVec.toNat := by
    unfold zt_bc1 zt_w1
    have le : (x.toBitVec.toNat / 2) &&& zt_rep 85 8 ≤ x.toBitVec.toNat := Nat.le_trans Nat.and_le_left (Nat.div_le_self _ _)
    have e : ((zv_lushr x (1 : Int)) &&& (6148914691236517205 : Int64)).toBitVec.toNat = (x.toBitVec.toNat / 2) &&& zt_rep 85 8 := by
      rw [zt_and_n, show (1 : Int) = ((1 : Nat) : Int) from rfl, zt_luN x 1 (by decide)]
      rfl
    rw [Int64.toBitVec_sub, BitVec.toNat_sub, e]
    omega
  have u : (zt_bc2 (zt_bc1 x)).toBitVec.toNat = zt_u1 8 (zt_w1 8 x.toBitVec.toNat) := by
    unfold zt_bc2 zt_u1
    have e1 : ((zt_bc1 x) &&& (3689348814741910323 : Int64)).toBitVec.toNat = zt_w1 8 x.toBitVec.toNat &&& zt_rep 51 8 := by
      rw [zt_and_n, w]
      rfl
    have e2 : ((zv_lushr (zt_bc1 x) (2 : Int)) &&& (3689348814741910323 : Int64)).toBitVec.toNat = (zt_w1 8 x.toBitVec.toNat / 4) &&& zt_rep 51 8 := by
      rw [zt_and_n, show (2 : Int) = ((2 : Nat) : Int) from rfl, zt_luN _ 2 (by decide), w]
      rfl
    have b1 : zt_w1 8 x.toBitVec.toNat &&& zt_rep 51 8 ≤ 3689348814741910323 := Nat.and_le_right
    have b2 : (zt_w1 8 x.toBitVec.toNat / 4) &&& zt_rep 51 8 ≤ 3689348814741910323 := Nat.and_le_right
    rw [zt_add_n _ _ (by rw [e1, e2]; omega), e1, e2]
  have ub : zt_u1 8 (zt_w1 8 x.toBitVec.toNat) ≤ 7378697629483820646 := by
    unfold zt_u1
    have b1 : zt_w1 8 x.toBitVec.toNat &&& zt_rep 51 8 ≤ 3689348814741910323 := Nat.and_le_right
    have b2 : (zt_w1 8 x.toBitVec.toNat / 4) &&& zt_rep 51 8 ≤ 3689348814741910323 := Nat.and_le_right
    omega
  have v : (zt_bc3 (zt_bc2 (zt_bc1 x))).toBitVec.toNat = zt_Pd 8 x.toBitVec.toNat := by
    rw [← st]
    unfold zt_bc3 zt_v1
    have e2 : (zv_lushr (zt_bc2 (zt_bc1 x)) (4 : Int)).toBitVec.toNat = zt_u1 8 (zt_w1 8 x.toBitVec.toNat) / 16 := by
      rw [show (4 : Int) = ((4 : Nat) : Int) from rfl, zt_luN _ 4 (by decide), u]
    rw [zt_and_n, zt_add_n _ _ (by rw [u, e2]; omega), u, e2]
    rfl
  have p0 := zt_pb8 (x.toBitVec.toNat % 256)
  have p1 := zt_pb8 (x.toBitVec.toNat / 256 % 256)
  have p2 := zt_pb8 (x.toBitVec.toNat / 65536 % 256)
  have p3 := zt_pb8 (x.toBitVec.toNat / 16777216 % 256)
  have p4 := zt_pb8 (x.toBitVec.toNat / 4294967296 % 256)
  have p5 := zt_pb8 (x.toBitVec.toNat / 1099511627776 % 256)
  have p6 := zt_pb8 (x.toBitVec.toNat / 281474976710656 % 256)
  have p7 := zt_pb8 (x.toBitVec.toNat / 72057594037927936 % 256)
  have pd : zt_Pd 8 x.toBitVec.toNat = zt_pb (x.toBitVec.toNat % 256) + 256 * (zt_pb (x.toBitVec.toNat / 256 % 256) + 256 * (zt_pb (x.toBitVec.toNat / 65536 % 256) + 256 * (zt_pb (x.toBitVec.toNat / 16777216 % 256) + 256 * (zt_pb (x.toBitVec.toNat / 4294967296 % 256) + 256 * (zt_pb (x.toBitVec.toNat / 1099511627776 % 256) + 256 * (zt_pb (x.toBitVec.toNat / 281474976710656 % 256) + 256 * zt_pb (x.toBitVec.toNat / 72057594037927936 % 256))))))) := by
    have q : zt_Pd 8 x.toBitVec.toNat = 256 * (256 * (256 * (256 * (256 * (256 * (256 * (256 * 0 + zt_pb (x.toBitVec.toNat / 256 / 256 / 256 / 256 / 256 / 256 / 256 % 256)) + zt_pb (x.toBitVec.toNat / 256 / 256 / 256 / 256 / 256 / 256 % 256)) + zt_pb (x.toBitVec.toNat / 256 / 256 / 256 / 256 / 256 % 256)) + zt_pb (x.toBitVec.toNat / 256 / 256 / 256 / 256 % 256)) + zt_pb (x.toBitVec.toNat / 256 / 256 / 256 % 256)) + zt_pb (x.toBitVec.toNat / 256 / 256 % 256)) + zt_pb (x.toBitVec.toNat / 256 % 256)) + zt_pb (x.toBitVec.toNat % 256) := rfl
    have r2 : x.toBitVec.toNat / 256 / 256 = x.toBitVec.toNat / 65536 := by rw [Nat.div_div_eq_div_mul]
    have r3 : x.toBitVec.toNat / 65536 / 256 = x.toBitVec.toNat / 16777216 := by rw [Nat.div_div_eq_div_mul]
    have r4 : x.toBitVec.toNat / 16777216 / 256 = x.toBitVec.toNat / 4294967296 := by rw [Nat.div_div_eq_div_mul]
    have r5 : x.toBitVec.toNat / 4294967296 / 256 = x.toBitVec.toNat / 1099511627776 := by rw [Nat.div_div_eq_div_mul]
    have r6 : x.toBitVec.toNat / 1099511627776 / 256 = x.toBitVec.toNat / 281474976710656 := by rw [Nat.div_div_eq_div_mul]
    have r7 : x.toBitVec.toNat / 281474976710656 / 256 = x.toBitVec.toNat / 72057594037927936 := by rw [Nat.div_div_eq_div_mul]
    rw [r2, r3, r4, r5, r6, r7] at q
    rw [q]
    omega
  have pe := zt_pop_e x
  generalize zt_pb (x.toBitVec.toNat % 256) = q0 at *
  generalize zt_pb (x.toBitVec.toNat / 256 % 256) = q1 at *
  generalize zt_pb (x.toBitVec.toNat / 65536 % 256) = q2 at *
  generalize zt_pb (x.toBitVec.toNat / 16777216 % 256) = q3 at *
  generalize zt_pb (x.toBitVec.toNat / 4294967296 % 256) = q4 at *
  generalize zt_pb (x.toBitVec.toNat / 1099511627776 % 256) = q5 at *
  generalize zt_pb (x.toBitVec.toNat / 281474976710656 % 256) = q6 at *
  generalize zt_pb (x.toBitVec.toNat / 72057594037927936 % 256) = q7 at *
  generalize zt_bc3 (zt_bc2 (zt_bc1 x)) = z at v ⊢
  rw [pd] at v
  have f4 : (zt_bc4 z).toBitVec.toNat = z.toBitVec.toNat + z.toBitVec.toNat / 256 := by
    have e : (zv_lushr z (8 : Int)).toBitVec.toNat = z.toBitVec.toNat / 256 := zt_luN z 8 (by decide)
    unfold zt_bc4
    rw [zt_add_n _ _ (by rw [e]; omega), e]
  have f5 : (zt_bc5 (zt_bc4 z)).toBitVec.toNat = (zt_bc4 z).toBitVec.toNat + (zt_bc4 z).toBitVec.toNat / 65536 := by
    have e : (zv_lushr (zt_bc4 z) (16 : Int)).toBitVec.toNat = (zt_bc4 z).toBitVec.toNat / 65536 := zt_luN _ 16 (by decide)
    unfold zt_bc5
    rw [zt_add_n _ _ (by rw [e]; omega), e]
  have f6 : (zt_bc6 (zt_bc5 (zt_bc4 z))).toBitVec.toNat = (zt_bc5 (zt_bc4 z)).toBitVec.toNat + (zt_bc5 (zt_bc4 z)).toBitVec.toNat / 4294967296 := by
    have e : (zv_lushr (zt_bc5 (zt_bc4 z)) (32 : Int)).toBitVec.toNat = (zt_bc5 (zt_bc4 z)).toBitVec.toNat / 4294967296 := zt_luN _ 32 (by decide)
    unfold zt_bc6
    rw [zt_add_n _ _ (by rw [e]; omega), e]
  exact ⟨_, rfl, _, zt_ar p0 p1 p2 p3 p4 p5 p6 p7 v f4 f5 f6, by omega, pe⟩
