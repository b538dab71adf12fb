/-! A32.pop -/
section
/-! ===== the tie: how many bits ===== -/
def zt_rep (c : Nat) : Nat → Nat
  | 0 => 0
  | k + 1 => 256 * zt_rep c k + c
theorem zt_land (a b c e : Nat) (ha : a < 256) (hc : c < 256) : (256 * b + a) &&& (256 * e + c) = 256 * (b &&& e) + (a &&& c) := by
  have hac : a &&& c < 2 ^ 8 := Nat.lt_of_le_of_lt Nat.and_le_left ha
  apply Nat.eq_of_testBit_eq
  intro j
  rw [Nat.testBit_and, show 256 * b + a = 2 ^ 8 * b + a from rfl, show 256 * e + c = 2 ^ 8 * e + c from rfl, show 256 * (b &&& e) + (a &&& c) = 2 ^ 8 * (b &&& e) + (a &&& c) from rfl, Nat.testBit_two_pow_mul_add b ha, Nat.testBit_two_pow_mul_add e hc, Nat.testBit_two_pow_mul_add (b &&& e) hac]
  by_cases h : j < 8
  · rw [if_pos h, if_pos h, if_pos h, Nat.testBit_and]
  · rw [if_neg h, if_neg h, if_neg h, Nat.testBit_and]
def zt_w1 (k n : Nat) : Nat := n - ((n / 2) &&& zt_rep 85 k)
def zt_u1 (k n : Nat) : Nat := (n &&& zt_rep 51 k) + ((n / 4) &&& zt_rep 51 k)
def zt_v1 (k n : Nat) : Nat := (n + n / 16) &&& zt_rep 15 k
def zt_pb (a : Nat) : Nat := a % 2 + a / 2 % 2 + a / 4 % 2 + a / 8 % 2 + a / 16 % 2 + a / 32 % 2 + a / 64 % 2 + a / 128 % 2
def zt_Pd : Nat → Nat → Nat
  | 0, _ => 0
  | k + 1, n => 256 * zt_Pd k (n / 256) + zt_pb (n % 256)
theorem zt_byte : ∀ a, a < 256 → (((a / 2) &&& 85) ≤ a ∧ ((a / 2 + 128) &&& 85) = ((a / 2) &&& 85)) ∧ ∀ z, z = a - ((a / 2) &&& 85) → (z < 256 ∧ ((z / 4 + 64) &&& 51) = ((z / 4) &&& 51) ∧ ((z / 4 + 128) &&& 51) = ((z / 4) &&& 51) ∧ ((z / 4 + 192) &&& 51) = ((z / 4) &&& 51)) ∧ ∀ y, y = (z &&& 51) + ((z / 4) &&& 51) → y % 16 ≤ 4 ∧ y / 16 ≤ 4 ∧ y % 16 + y / 16 = zt_pb a := by
  have key : ∀ a, a < 256 → (((a / 2) &&& 85) ≤ a ∧ ((a / 2 + 128) &&& 85) = ((a / 2) &&& 85)) ∧ ((a - ((a / 2) &&& 85)) < 256 ∧ (((a - ((a / 2) &&& 85)) / 4 + 64) &&& 51) = (((a - ((a / 2) &&& 85)) / 4) &&& 51) ∧ (((a - ((a / 2) &&& 85)) / 4 + 128) &&& 51) = (((a - ((a / 2) &&& 85)) / 4) &&& 51) ∧ (((a - ((a / 2) &&& 85)) / 4 + 192) &&& 51) = (((a - ((a / 2) &&& 85)) / 4) &&& 51)) ∧ ((((a - ((a / 2) &&& 85)) &&& 51) + (((a - ((a / 2) &&& 85)) / 4) &&& 51)) % 16 ≤ 4 ∧ (((a - ((a / 2) &&& 85)) &&& 51) + (((a - ((a / 2) &&& 85)) / 4) &&& 51)) / 16 ≤ 4 ∧ (((a - ((a / 2) &&& 85)) &&& 51) + (((a - ((a / 2) &&& 85)) / 4) &&& 51)) % 16 + (((a - ((a / 2) &&& 85)) &&& 51) + (((a - ((a / 2) &&& 85)) / 4) &&& 51)) / 16 = zt_pb a) := by decide +kernel
  intro a ha
  obtain ⟨k1, k2, k3⟩ := key a ha
  refine ⟨k1, fun z hz => ?_⟩
  subst hz
  refine ⟨k2, fun y hy => ?_⟩
  subst hy
  exact k3
/-- one more byte -/
theorem zt_stage (k b a : Nat) (ha : a < 256) : ∃ z y, zt_w1 (k + 1) (256 * b + a) = 256 * zt_w1 k b + z ∧ z < 256 ∧ (∀ w, zt_u1 (k + 1) (256 * w + z) = 256 * zt_u1 k w + y) ∧ y % 16 ≤ 4 ∧ y / 16 ≤ 4 ∧ (∀ q, q % 16 ≤ 4 → zt_v1 (k + 1) (256 * q + y) = 256 * zt_v1 k q + zt_pb a) ∧ ((b / 2) &&& zt_rep 85 k ≤ b → True) := by
  obtain ⟨⟨b1, b2⟩, b3⟩ := zt_byte a ha
  obtain ⟨⟨c1, c2, c3, c4⟩, c5⟩ := b3 _ rfl
  obtain ⟨d1, d2, d3⟩ := c5 _ rfl
  have le : (b / 2) &&& zt_rep 85 k ≤ b := Nat.le_trans Nat.and_le_left (Nat.div_le_self _ _)
  refine ⟨_, _, ?_, c1, fun w => ?_, d1, d2, fun q hq => ?_, fun _ => trivial⟩
  · unfold zt_w1
    show (256 * b + a) - (((256 * b + a) / 2) &&& (256 * zt_rep 85 k + 85)) = _
    have e : (256 * b + a) / 2 = 256 * (b / 2) + (128 * (b % 2) + a / 2) := by omega
    rw [e, zt_land _ _ _ _ (by omega) (by decide)]
    have m : (128 * (b % 2) + a / 2) &&& 85 = (a / 2) &&& 85 := by
      rcases Nat.mod_two_eq_zero_or_one b with h | h
      · rw [h, Nat.mul_zero, Nat.zero_add]
      · rw [h, Nat.mul_one, Nat.add_comm]; exact b2
    rw [m]
    omega
  · unfold zt_u1
    show ((256 * w + (a - ((a / 2) &&& 85))) &&& (256 * zt_rep 51 k + 51)) + (((256 * w + (a - ((a / 2) &&& 85))) / 4) &&& (256 * zt_rep 51 k + 51)) = _
    generalize a - ((a / 2) &&& 85) = z at c1 c2 c3 c4 ⊢
    have e : (256 * w + z) / 4 = 256 * (w / 4) + (64 * (w % 4) + z / 4) := by omega
    rw [e, zt_land _ _ _ _ c1 (by decide), zt_land _ _ _ _ (by omega) (by decide)]
    have m : (64 * (w % 4) + z / 4) &&& 51 = (z / 4) &&& 51 := by
      have h4 : w % 4 = 0 ∨ w % 4 = 1 ∨ w % 4 = 2 ∨ w % 4 = 3 := by omega
      rcases h4 with h | h | h | h
      · rw [h, Nat.mul_zero, Nat.zero_add]
      · rw [h, Nat.mul_one, Nat.add_comm]; exact c2
      · rw [h, Nat.add_comm]; exact c3
      · rw [h, Nat.add_comm]; exact c4
    rw [m]
    omega
  · unfold zt_v1
    show ((256 * q + (((a - ((a / 2) &&& 85)) &&& 51) + (((a - ((a / 2) &&& 85)) / 4) &&& 51))) + (256 * q + (((a - ((a / 2) &&& 85)) &&& 51) + (((a - ((a / 2) &&& 85)) / 4) &&& 51))) / 16) &&& (256 * zt_rep 15 k + 15) = _
    generalize ((a - ((a / 2) &&& 85)) &&& 51) + (((a - ((a / 2) &&& 85)) / 4) &&& 51) = y at d1 d2 d3 ⊢
    have e : (256 * q + y) + (256 * q + y) / 16 = 256 * (q + q / 16) + (y + y / 16 + 16 * (q % 16)) := by omega
    rw [e, zt_land _ _ _ _ (by omega) (by decide)]
    have m : (y + y / 16 + 16 * (q % 16)) &&& 15 = zt_pb a := by
      have := Nat.and_two_pow_sub_one_eq_mod (y + y / 16 + 16 * (q % 16)) 4
      rw [show (2 : Nat) ^ 4 - 1 = 15 from rfl, show (2 : Nat) ^ 4 = 16 from rfl] at this
      rw [this]
      omega
    rw [m]
theorem zt_stages : ∀ k n : Nat, n < 256 ^ k → zt_u1 k (zt_w1 k n) % 16 ≤ 4 ∧ zt_v1 k (zt_u1 k (zt_w1 k n)) = zt_Pd k n
  | 0, n, h => by
    have e : n = 0 := by
      rw [Nat.pow_zero] at h
      omega
    subst e
    exact ⟨by decide, by decide⟩
  | k + 1, n, h => by
    rw [Nat.pow_succ] at h
    obtain ⟨i1, i2⟩ := zt_stages k (n / 256) (by omega)
    obtain ⟨z, y, s1, s2, s3, s4, s5, s6, _⟩ := zt_stage k (n / 256) (n % 256) (by omega)
    have en : 256 * (n / 256) + n % 256 = n := by omega
    rw [en] at s1
    rw [s1, s3, s6 _ i1, i2]
    exact ⟨by omega, rfl⟩
theorem zt_pb8 (a : Nat) : zt_pb a ≤ 8 := by unfold zt_pb; omega
/-- how many bits of a long -/
def zt_pop (v : Int64) : Int := zm_sum (fun i => zt_bi (zt_b v i)) 64
theorem zt_bn (v : Int64) (i : Nat) : zt_bi (zt_b v i) = ((v.toBitVec.toNat / 2 ^ i % 2 : Nat) : Int) := by
  have e : zt_b v i = decide (v.toBitVec.toNat / 2 ^ i % 2 = 1) := by
    unfold zt_b
    rw [BitVec.getLsbD, Nat.testBit_eq_decide_div_mod_eq]
  rw [e]
  unfold zt_bi
  by_cases h : v.toBitVec.toNat / 2 ^ i % 2 = 1
  · rw [decide_eq_true h, if_pos rfl, h]
    rfl
  · rw [decide_eq_false h, if_neg (by decide)]
    have := Nat.mod_two_eq_zero_or_one (v.toBitVec.toNat / 2 ^ i)
    omega
theorem zt_pop8 (v : Int64) (j : Nat) : zm_sum (fun i => zt_bi (zt_b v i)) (8 * j + 8) = zm_sum (fun i => zt_bi (zt_b v i)) (8 * j) + (zt_pb (v.toBitVec.toNat / 256 ^ j % 256) : Nat) := by
  have d : ∀ m, v.toBitVec.toNat / 2 ^ (8 * j + m) = v.toBitVec.toNat / 256 ^ j / 2 ^ m := fun m => by
    rw [Nat.pow_add, Nat.pow_mul, show (2 : Nat) ^ 8 = 256 from rfl, Nat.div_div_eq_div_mul]
  show zm_sum (fun i => zt_bi (zt_b v i)) (8 * j) + zt_bi (zt_b v (8 * j + 0)) + zt_bi (zt_b v (8 * j + 1)) + zt_bi (zt_b v (8 * j + 2)) + zt_bi (zt_b v (8 * j + 3)) + zt_bi (zt_b v (8 * j + 4)) + zt_bi (zt_b v (8 * j + 5)) + zt_bi (zt_b v (8 * j + 6)) + zt_bi (zt_b v (8 * j + 7)) = _
  rw [zt_bn, zt_bn, zt_bn, zt_bn, zt_bn, zt_bn, zt_bn, zt_bn, d, d, d, d, d, d, d, d]
  generalize v.toBitVec.toNat / 256 ^ j = y
  unfold zt_pb
  rw [show (2 : Nat) ^ 0 = 1 from rfl, show (2 : Nat) ^ 1 = 2 from rfl, show (2 : Nat) ^ 2 = 4 from rfl, show (2 : Nat) ^ 3 = 8 from rfl, show (2 : Nat) ^ 4 = 16 from rfl, show (2 : Nat) ^ 5 = 32 from rfl, show (2 : Nat) ^ 6 = 64 from rfl, show (2 : Nat) ^ 7 = 128 from rfl]
  omega
theorem zt_pop_e (v : Int64) : zt_pop v = ((zt_pb (v.toBitVec.toNat % 256) + zt_pb (v.toBitVec.toNat / 256 % 256) + zt_pb (v.toBitVec.toNat / 65536 % 256) + zt_pb (v.toBitVec.toNat / 16777216 % 256) + zt_pb (v.toBitVec.toNat / 4294967296 % 256) + zt_pb (v.toBitVec.toNat / 1099511627776 % 256) + zt_pb (v.toBitVec.toNat / 281474976710656 % 256) + zt_pb (v.toBitVec.toNat / 72057594037927936 % 256) : Nat) : Int) := by
  have s0 : zm_sum (fun i => zt_bi (zt_b v i)) 0 = 0 := rfl
  have h0 := zt_pop8 v 0
  have h1 := zt_pop8 v 1
  have h2 := zt_pop8 v 2
  have h3 := zt_pop8 v 3
  have h4 := zt_pop8 v 4
  have h5 := zt_pop8 v 5
  have h6 := zt_pop8 v 6
  have h7 := zt_pop8 v 7
  have p : ∀ j, (256 : Nat) ^ j = 256 ^ j := fun _ => rfl
  rw [show (256 : Nat) ^ 0 = 1 from rfl, Nat.div_one] at h0
  rw [show (256 : Nat) ^ 1 = 256 from rfl] at h1
  rw [show (256 : Nat) ^ 2 = 65536 from rfl] at h2
  rw [show (256 : Nat) ^ 3 = 16777216 from rfl] at h3
  rw [show (256 : Nat) ^ 4 = 4294967296 from rfl] at h4
  rw [show (256 : Nat) ^ 5 = 1099511627776 from rfl] at h5
  rw [show (256 : Nat) ^ 6 = 281474976710656 from rfl] at h6
  rw [show (256 : Nat) ^ 7 = 72057594037927936 from rfl] at h7
  unfold zt_pop
  dsimp only [Nat.mul_zero, Nat.zero_add, Nat.reduceMul, Nat.reduceAdd] at h0 h1 h2 h3 h4 h5 h6 h7
  omega
theorem zt_lu (v : Int64) (n : Nat) (hn : n < 64) : (zv_lushr v (n : Int)).toBitVec = v.toBitVec >>> n := by
  have e1 : ∀ n : Nat, n < 64 → ((Int32.ofInt (n : Int)).toInt64.toUInt64 &&& Int64.toUInt64 63).toNat = n := by decide +kernel
  unfold zv_lushr
  show (v.toUInt64 >>> ((Int32.ofInt (n : Int)).toInt64.toUInt64 &&& Int64.toUInt64 63)).toBitVec = _
  rw [UInt64.toBitVec_shiftRight]
  have e3 : (((Int32.ofInt (n : Int)).toInt64.toUInt64 &&& Int64.toUInt64 63).toBitVec % 64).toNat = n := by
    rw [BitVec.toNat_umod]
    have e4 : ((Int32.ofInt (n : Int)).toInt64.toUInt64 &&& Int64.toUInt64 63).toBitVec.toNat = n := e1 n hn
    rw [e4]
    exact Nat.mod_eq_of_lt (by show n < 64; omega)
  rw [BitVec.ushiftRight_eq', e3]
  rfl
theorem zt_luN (v : Int64) (n : Nat) (hn : n < 64) : (zv_lushr v (n : Int)).toBitVec.toNat = v.toBitVec.toNat / 2 ^ n := by
  rw [zt_lu v n hn, BitVec.toNat_ushiftRight, Nat.shiftRight_eq_div_pow]
/-- the formula, bit by bit -/
def zt_bc1 (x : Int64) : Int64 := x - ((zv_lushr x (1 : Int)) &&& (6148914691236517205 : Int64))
def zt_bc2 (x : Int64) : Int64 := (x &&& (3689348814741910323 : Int64)) + ((zv_lushr x (2 : Int)) &&& (3689348814741910323 : Int64))
def zt_bc3 (x : Int64) : Int64 := (x + zv_lushr x (4 : Int)) &&& (1085102592571150095 : Int64)
def zt_bc4 (x : Int64) : Int64 := x + zv_lushr x (8 : Int)
def zt_bc5 (x : Int64) : Int64 := x + zv_lushr x (16 : Int)
def zt_bc6 (x : Int64) : Int64 := x + zv_lushr x (32 : Int)
theorem zt_and_n (x : Int64) (m : Int64) : (x &&& m).toBitVec.toNat = x.toBitVec.toNat &&& m.toBitVec.toNat := by
  rw [Int64.toBitVec_and, BitVec.toNat_and]
theorem zt_add_n (x y : Int64) (h : x.toBitVec.toNat + y.toBitVec.toNat < 18446744073709551616) : (x + y).toBitVec.toNat = x.toBitVec.toNat + y.toBitVec.toNat := by
  rw [Int64.toBitVec_add, BitVec.toNat_add]
  exact Nat.mod_eq_of_lt h
theorem zt_arA (l r : Nat) (h : l < 256) : (l + 256 * r) / 256 = r := by omega
theorem zt_arB (l r : Nat) (h : l < 65536) : (l + 65536 * r) / 65536 = r := by omega
theorem zt_arC (l r : Nat) (h : l < 4294967296) : (l + 4294967296 * r) / 4294967296 = r := by omega
theorem zt_arD (l r : Nat) (h : l < 256) : (l + 256 * r) % 256 = l := by omega
theorem zt_ar {q0 q1 q2 q3 q4 q5 q6 q7 z y4 y5 y6 : Nat} (b0 : q0 ≤ 8) (b1 : q1 ≤ 8) (b2 : q2 ≤ 8) (b3 : q3 ≤ 8) (b4 : q4 ≤ 8) (b5 : q5 ≤ 8) (b6 : q6 ≤ 8) (b7 : q7 ≤ 8) (v : z = q0 + 256 * (q1 + 256 * (q2 + 256 * (q3 + 256 * (q4 + 256 * (q5 + 256 * (q6 + 256 * q7))))))) (f4 : y4 = z + z / 256) (f5 : y5 = y4 + y4 / 65536) (f6 : y6 = y5 + y5 / 4294967296) : y6 % 256 = q0 + q1 + q2 + q3 + q4 + q5 + q6 + q7 := by
  rw [v, zt_arA _ _ (by omega)] at f4
  clear v
  have e4 : y4 = (q0 + q1 + 256 * (q1 + q2)) + 65536 * ((q2 + q3) + 256 * (q3 + q4) + 65536 * (q4 + q5) + 16777216 * (q5 + q6) + 4294967296 * (q6 + q7) + 1099511627776 * q7) := by
    clear f5 f6
    omega
  clear f4
  rw [e4, zt_arB _ _ (by clear f5 f6 e4; omega)] at f5
  clear e4
  have e5 : y5 = (q0 + q1 + q2 + q3 + 256 * (q1 + q2 + q3 + q4) + 65536 * (q2 + q3 + q4 + q5) + 16777216 * (q3 + q4 + q5 + q6)) + 4294967296 * ((q4 + q5 + q6 + q7) + 256 * (q5 + q6 + q7) + 65536 * (q6 + q7) + 16777216 * q7) := by
    clear f6
    omega
  clear f5
  rw [e5, zt_arC _ _ (by clear f6 e5; omega)] at f6
  clear e5
  have e6 : y6 = (q0 + q1 + q2 + q3 + q4 + q5 + q6 + q7) + 256 * ((q1 + q2 + q3 + q4) + (q5 + q6 + q7) + 256 * (q2 + q3 + q4 + q5) + 65536 * (q3 + q4 + q5 + q6) + 16777216 * ((q4 + q5 + q6 + q7) + 256 * (q5 + q6 + q7) + 65536 * (q6 + q7) + 16777216 * q7) + 256 * (q6 + q7) + 65536 * q7) := by
    omega
  rw [e6, zt_arD _ _ (by omega)]
theorem zt_bc (x : Int64) : ∃ y, y = zt_bc6 (zt_bc5 (zt_bc4 (zt_bc3 (zt_bc2 (zt_bc1 x))))) ∧ ∃ s : Nat, y.toBitVec.toNat % 256 = s ∧ s ≤ 64 ∧ zt_pop x = s := by
  have n64 : x.toBitVec.toNat < 18446744073709551616 := x.toBitVec.isLt
  have lt : ∀ y : Int64, y.toBitVec.toNat < 18446744073709551616 := fun y => y.toBitVec.isLt
  obtain ⟨_, st⟩ := zt_stages 8 x.toBitVec.toNat n64
  have w : (zt_bc1 x).toBitVec.toNat = zt_w1 8 x.toBitVec.toNat := by
    unfold zt_bc1 zt_w1
    have le : (x.toBitVec.toNat / 2) &&& zt_rep 85 8 ≤ x.toBitVec.toNat := Nat.le_trans Nat.and_le_left (Nat.div_le_self _ _)
    have e : ((zv_lushr x (1 : Int)) &&& (6148914691236517205 : Int64)).toBitVec.toNat = (x.toBitVec.toNat / 2) &&& zt_rep 85 8 := by
      rw [zt_and_n, show (1 : Int) = ((1 : Nat) : Int) from rfl, zt_luN x 1 (by decide)]
      rfl
    rw [Int64.toBitVec_sub, BitVec.toNat_sub, e]
    omega
  have u : (zt_bc2 (zt_bc1 x)).toBitVec.toNat = zt_u1 8 (zt_w1 8 x.toBitVec.toNat) := by
    unfold zt_bc2 zt_u1
    have e1 : ((zt_bc1 x) &&& (3689348814741910323 : Int64)).toBitVec.toNat = zt_w1 8 x.toBitVec.toNat &&& zt_rep 51 8 := by
      rw [zt_and_n, w]
      rfl
    have e2 : ((zv_lushr (zt_bc1 x) (2 : Int)) &&& (3689348814741910323 : Int64)).toBitVec.toNat = (zt_w1 8 x.toBitVec.toNat / 4) &&& zt_rep 51 8 := by
      rw [zt_and_n, show (2 : Int) = ((2 : Nat) : Int) from rfl, zt_luN _ 2 (by decide), w]
      rfl
    have b1 : zt_w1 8 x.toBitVec.toNat &&& zt_rep 51 8 ≤ 3689348814741910323 := Nat.and_le_right
    have b2 : (zt_w1 8 x.toBitVec.toNat / 4) &&& zt_rep 51 8 ≤ 3689348814741910323 := Nat.and_le_right
    rw [zt_add_n _ _ (by rw [e1, e2]; omega), e1, e2]
  have ub : zt_u1 8 (zt_w1 8 x.toBitVec.toNat) ≤ 7378697629483820646 := by
    unfold zt_u1
    have b1 : zt_w1 8 x.toBitVec.toNat &&& zt_rep 51 8 ≤ 3689348814741910323 := Nat.and_le_right
    have b2 : (zt_w1 8 x.toBitVec.toNat / 4) &&& zt_rep 51 8 ≤ 3689348814741910323 := Nat.and_le_right
    omega
  have v : (zt_bc3 (zt_bc2 (zt_bc1 x))).toBitVec.toNat = zt_Pd 8 x.toBitVec.toNat := by
    rw [← st]
    unfold zt_bc3 zt_v1
    have e2 : (zv_lushr (zt_bc2 (zt_bc1 x)) (4 : Int)).toBitVec.toNat = zt_u1 8 (zt_w1 8 x.toBitVec.toNat) / 16 := by
      rw [show (4 : Int) = ((4 : Nat) : Int) from rfl, zt_luN _ 4 (by decide), u]
    rw [zt_and_n, zt_add_n _ _ (by rw [u, e2]; omega), u, e2]
    rfl
  have p0 := zt_pb8 (x.toBitVec.toNat % 256)
  have p1 := zt_pb8 (x.toBitVec.toNat / 256 % 256)
  have p2 := zt_pb8 (x.toBitVec.toNat / 65536 % 256)
  have p3 := zt_pb8 (x.toBitVec.toNat / 16777216 % 256)
  have p4 := zt_pb8 (x.toBitVec.toNat / 4294967296 % 256)
  have p5 := zt_pb8 (x.toBitVec.toNat / 1099511627776 % 256)
  have p6 := zt_pb8 (x.toBitVec.toNat / 281474976710656 % 256)
  have p7 := zt_pb8 (x.toBitVec.toNat / 72057594037927936 % 256)
  have pd : zt_Pd 8 x.toBitVec.toNat = zt_pb (x.toBitVec.toNat % 256) + 256 * (zt_pb (x.toBitVec.toNat / 256 % 256) + 256 * (zt_pb (x.toBitVec.toNat / 65536 % 256) + 256 * (zt_pb (x.toBitVec.toNat / 16777216 % 256) + 256 * (zt_pb (x.toBitVec.toNat / 4294967296 % 256) + 256 * (zt_pb (x.toBitVec.toNat / 1099511627776 % 256) + 256 * (zt_pb (x.toBitVec.toNat / 281474976710656 % 256) + 256 * zt_pb (x.toBitVec.toNat / 72057594037927936 % 256))))))) := by
    have q : zt_Pd 8 x.toBitVec.toNat = 256 * (256 * (256 * (256 * (256 * (256 * (256 * (256 * 0 + zt_pb (x.toBitVec.toNat / 256 / 256 / 256 / 256 / 256 / 256 / 256 % 256)) + zt_pb (x.toBitVec.toNat / 256 / 256 / 256 / 256 / 256 / 256 % 256)) + zt_pb (x.toBitVec.toNat / 256 / 256 / 256 / 256 / 256 % 256)) + zt_pb (x.toBitVec.toNat / 256 / 256 / 256 / 256 % 256)) + zt_pb (x.toBitVec.toNat / 256 / 256 / 256 % 256)) + zt_pb (x.toBitVec.toNat / 256 / 256 % 256)) + zt_pb (x.toBitVec.toNat / 256 % 256)) + zt_pb (x.toBitVec.toNat % 256) := rfl
    have r2 : x.toBitVec.toNat / 256 / 256 = x.toBitVec.toNat / 65536 := by rw [Nat.div_div_eq_div_mul]
    have r3 : x.toBitVec.toNat / 65536 / 256 = x.toBitVec.toNat / 16777216 := by rw [Nat.div_div_eq_div_mul]
    have r4 : x.toBitVec.toNat / 16777216 / 256 = x.toBitVec.toNat / 4294967296 := by rw [Nat.div_div_eq_div_mul]
    have r5 : x.toBitVec.toNat / 4294967296 / 256 = x.toBitVec.toNat / 1099511627776 := by rw [Nat.div_div_eq_div_mul]
    have r6 : x.toBitVec.toNat / 1099511627776 / 256 = x.toBitVec.toNat / 281474976710656 := by rw [Nat.div_div_eq_div_mul]
    have r7 : x.toBitVec.toNat / 281474976710656 / 256 = x.toBitVec.toNat / 72057594037927936 := by rw [Nat.div_div_eq_div_mul]
    rw [r2, r3, r4, r5, r6, r7] at q
    rw [q]
    omega
  have pe := zt_pop_e x
  generalize zt_pb (x.toBitVec.toNat % 256) = q0 at *
  generalize zt_pb (x.toBitVec.toNat / 256 % 256) = q1 at *
  generalize zt_pb (x.toBitVec.toNat / 65536 % 256) = q2 at *
  generalize zt_pb (x.toBitVec.toNat / 16777216 % 256) = q3 at *
  generalize zt_pb (x.toBitVec.toNat / 4294967296 % 256) = q4 at *
  generalize zt_pb (x.toBitVec.toNat / 1099511627776 % 256) = q5 at *
  generalize zt_pb (x.toBitVec.toNat / 281474976710656 % 256) = q6 at *
  generalize zt_pb (x.toBitVec.toNat / 72057594037927936 % 256) = q7 at *
  generalize zt_bc3 (zt_bc2 (zt_bc1 x)) = z at v ⊢
  rw [pd] at v
  have f4 : (zt_bc4 z).toBitVec.toNat = z.toBitVec.toNat + z.toBitVec.toNat / 256 := by
    have e : (zv_lushr z (8 : Int)).toBitVec.toNat = z.toBitVec.toNat / 256 := zt_luN z 8 (by decide)
    unfold zt_bc4
    rw [zt_add_n _ _ (by rw [e]; omega), e]
  have f5 : (zt_bc5 (zt_bc4 z)).toBitVec.toNat = (zt_bc4 z).toBitVec.toNat + (zt_bc4 z).toBitVec.toNat / 65536 := by
    have e : (zv_lushr (zt_bc4 z) (16 : Int)).toBitVec.toNat = (zt_bc4 z).toBitVec.toNat / 65536 := zt_luN _ 16 (by decide)
    unfold zt_bc5
    rw [zt_add_n _ _ (by rw [e]; omega), e]
  have f6 : (zt_bc6 (zt_bc5 (zt_bc4 z))).toBitVec.toNat = (zt_bc5 (zt_bc4 z)).toBitVec.toNat + (zt_bc5 (zt_bc4 z)).toBitVec.toNat / 4294967296 := by
    have e : (zv_lushr (zt_bc5 (zt_bc4 z)) (32 : Int)).toBitVec.toNat = (zt_bc5 (zt_bc4 z)).toBitVec.toNat / 4294967296 := zt_luN _ 32 (by decide)
    unfold zt_bc6
    rw [zt_add_n _ _ (by rw [e]; omega), e]
  exact ⟨_, rfl, _, zt_ar p0 p1 p2 p3 p4 p5 p6 p7 v f4 f5 f6, by omega, pe⟩
end
/-! A32b.pop -/
section
/-! how many bits: the call -/
theorem zt_and127 (y : Int64) : zv_and (zv_l2i y) 127 = ((y.toBitVec.toNat % 128 : Nat) : Int) := by
  have e : (Int32.ofInt (zv_l2i y)) = y.toInt32 := Int32.ofInt_toInt _
  have b : ((Int32.ofInt (zv_l2i y) &&& Int32.ofInt 127).toBitVec).toNat = y.toBitVec.toNat % 128 := by
    rw [e, Int32.toBitVec_and, BitVec.toNat_and, Int64.toBitVec_toInt32, BitVec.signExtend_eq_setWidth_of_le _ (by decide), BitVec.toNat_setWidth, show (Int32.ofInt 127).toBitVec.toNat = 2 ^ 7 - 1 from rfl, Nat.and_two_pow_sub_one_eq_mod]
    omega
  exact zc_toInt _ b (by omega)
theorem zt_bitCount {d : Nat} (x : Int64) (h : zv_H) : C12_bitCount (d + 1) x h = some (zt_pop x, h) := by
  obtain ⟨y, ey, s, r, b, pe⟩ := zt_bc x
  refine lC12_bitCount ?_
  rw [qE12_bitCount]
  show some (some (zv_i (zv_and (zv_l2i (zt_bc6 (zt_bc5 (zt_bc4 (zt_bc3 (zt_bc2 (zt_bc1 x))))))) 127)), h) = _
  rw [← ey, zt_and127, pe]
  have : y.toBitVec.toNat % 128 = s := by omega
  rw [this]
theorem zt_pop_r (v : Int64) : 0 ≤ zt_pop v ∧ zt_pop v ≤ 64 := by
  have := zm_sum_b (f := fun i => zt_bi (zt_b v i)) (a := 0) (b := 1) 64 (fun k _ => by
    rcases zt_bi01 (zt_b v k) with q | q <;> omega)
  unfold zt_pop
  omega
end
/-! A33.tc -/
section
/-! ===== the tie: leaning, by others too ===== -/
/-- x is y, or leans on it, straight or by others -/
def zt_tc (c : Nat → Int) (x y : Int) : Prop := ∀ P : Int → Prop, P y → (∀ z o, zt_ln c z o → P o → P z) → P x
theorem zt_tc_r (c : Nat → Int) (x : Int) : zt_tc c x x := fun _ h _ => h
theorem zt_tc_l {c : Nat → Int} {x o y : Int} (h : zt_ln c x o) (t : zt_tc c o y) : zt_tc c x y := fun P p q => q x o h (t P p q)
theorem zt_tc_a {c : Nat → Int} {x o y : Int} (t : zt_tc c x o) (h : zt_ln c o y) : zt_tc c x y := t (fun z => zt_tc c z y) (zt_tc_l h (zt_tc_r c y)) (fun _ _ h2 p => zt_tc_l h2 p)
/-- by the first step -/
theorem zt_tc_h {c : Nat → Int} {x y : Int} (t : zt_tc c x y) : x = y ∨ ∃ o, zt_ln c x o ∧ zt_tc c o y := t (fun z => z = y ∨ ∃ o, zt_ln c z o ∧ zt_tc c o y) (Or.inl rfl) (fun z o h p => Or.inr ⟨o, h, by
  rcases p with p | ⟨u, p1, p2⟩
  · rw [p]; exact zt_tc_r c y
  · exact zt_tc_l p1 p2⟩)
/-- by the last step -/
theorem zt_tc_e {c : Nat → Int} {x y : Int} (t : zt_tc c x y) : x = y ∨ ∃ o, zt_tc c x o ∧ zt_ln c o y := t (fun z => z = y ∨ ∃ o, zt_tc c z o ∧ zt_ln c o y) (Or.inl rfl) (fun z o h p => by
  rcases p with p | ⟨u, p1, p2⟩
  · rw [p] at h
    exact Or.inr ⟨z, zt_tc_r c z, h⟩
  · exact Or.inr ⟨u, zt_tc_l h p1, p2⟩)
/-- along the way from x on -/
theorem zt_tc_i {c : Nat → Int} {x y : Int} (t : zt_tc c x y) {Q : Int → Prop} (q : Q x) (st : ∀ o z, Q o → zt_ln c o z → Q z) : Q y := t (fun z => Q z → Q y) (fun h => h) (fun _ _ h p hq => p (st _ _ hq h)) q
/-- one that leans is a put or a cut of some number -/
theorem zt_ln_ed {c : Nat → Int} (W : zm_W c) {t o : Int} (h : zt_ln c t o) : zm_ed c t ∧ 1 ≤ t := by
  have e : zm_ed c t := by
    rcases h with q | q
    · exact Or.inl q.1
    · exact Or.inr q.1
  refine ⟨e, ?_⟩
  by_cases z : t ≤ 0
  · exfalso
    have e0 : zm_o c t 2 = zm_o c 0 2 := by
      unfold zm_o
      rw [show t.toNat = 0 by omega]
      rfl
    have h0 := W.1.2.1.2.2.1
    rcases e with q | q
    · rw [e0, h0] at q; omega
    · rw [e0, h0] at q; omega
  · omega
/-- on what one leans lies ahead of it in its line -/
theorem zt_ln_in {c : Nat → Int} (W : zm_W c) {t o : Int} {q : List Int} (ht : zm_st c t) (cw : zt_cw c t) (hl : zm_Ln c (t :: q) t) (h : zt_ln c t o) (o0 : 0 ≤ o) : o ∈ q ∧ (o ≠ 0 → zm_o c o 2 = 0) := by
  obtain ⟨ok, g0, gt, W1⟩ := zt_line_u W ht hl
  have t1 := (zt_ln_ed W h).2
  have hq : q ≠ [] := by
    intro e
    rw [e] at ok
    have := ok.2.1
    have e2 : t = 0 := Option.some.inj this
    omega
  have key : ∀ p : Int × Int, p ∈ zm_row c q → p.1 ∈ q ∧ (p.1 ≠ 0 → zm_o c p.1 2 = 0) := fun p hp => by
    refine ⟨(zm_row_mem hp).1, fun z => zt_row_ed hp ?_ z⟩
    have := ok.2.1
    cases q with
    | nil => exact absurd rfl hq
    | cons y q =>
      rw [List.getLast?_cons_cons] at this
      exact this
  rcases h with ⟨h1, h2⟩ | ⟨h1, p, hp, h2⟩
  · have := key _ (zt_cw_an cw q hl h1 (by omega))
    rw [← h2]
    exact this
  · have := key p (W1.2.2.2.2.1 h1 p hp)
    rw [← h2]
    exact this
theorem zt_tc_in {c : Nat → Int} (W : zm_W c) (cw : ∀ t, zm_st c t → zt_cw c t) {x y : Int} (y1 : 1 ≤ y) (t : zt_tc c x y) : ∀ {q : List Int}, zm_st c x → zm_Ln c (x :: q) x → y ∈ x :: q := by
  refine (t (fun z => zt_tc c z y ∧ ∀ q : List Int, zm_st c z → zm_Ln c (z :: q) z → y ∈ z :: q) ⟨zt_tc_r c y, fun _ _ _ => List.mem_cons_self⟩ (fun z o h p => ⟨zt_tc_l h p.1, ?_⟩)).2 _
  intro q hz hl
  by_cases o0 : 0 ≤ o
  · obtain ⟨m, _⟩ := zt_ln_in W hz (cw z hz) hl h o0
    have ok := (zt_line_u W hz hl).1
    have ho := ok.2.2.1 o (List.mem_cons_of_mem _ m)
    obtain ⟨pr, b, e, hb⟩ := zm_Ln_s hl o (List.mem_cons_of_mem _ m)
    have := p.2 b ho hb
    rw [e]
    exact List.mem_append_right _ this
  · exfalso
    rcases zt_tc_h p.1 with e | ⟨v, e, _⟩
    · omega
    · have := (zt_ln_ed W e).2
      omega
/-- who leans is a number, from 1 on -/
theorem zt_tc_1 {c : Nat → Int} (W : zm_W c) {x y : Int} (y1 : 1 ≤ y) (t : zt_tc c x y) : 1 ≤ x := by
  rcases zt_tc_h t with e | ⟨v, e, _⟩
  · omega
  · exact (zt_ln_ed W e).2
/-! bits of an int -/
def zt_ib (w : Int) (k : Nat) : Bool := (BitVec.ofInt 32 w).getLsbD k
theorem zt_b24 : ∀ k : Nat, k < 24 → (Int32.ofInt (k : Int) &&& 31).toBitVec.toNat = k := by decide +kernel
theorem zt_and_shr (w : Int) {k : Nat} (hk : k < 24) : zv_and (zv_shr w (k : Int)) 1 = 1 ↔ zt_ib w k = true := by
  have e1 : (Int32.ofInt (zv_shr w (k : Int)) &&& Int32.ofInt 1).toBitVec = (BitVec.ofInt 32 w).sshiftRight k &&& 1#32 := by
    unfold zv_shr
    rw [Int32.ofInt_toInt, Int32.toBitVec_and]
    have e2 : (Int32.ofInt w >>> (Int32.ofInt (k : Int) &&& 31)).toBitVec = (BitVec.ofInt 32 w).sshiftRight k := by
      rw [Int32.toBitVec_shiftRight]
      have e3 : ((Int32.ofInt (k : Int) &&& 31).toBitVec.smod 32).toNat = k := by
        have key : ∀ k : Nat, k < 24 → ((Int32.ofInt (k : Int) &&& 31).toBitVec.smod 32).toNat = k := by decide +kernel
        exact key k hk
      rw [BitVec.sshiftRight_eq', e3]
      rfl
    rw [e2]
    rfl
  have b : ((Int32.ofInt (zv_shr w (k : Int)) &&& Int32.ofInt 1).toBitVec).toNat = if zt_ib w k = true then 1 else 0 := by
    rw [e1, BitVec.toNat_and, show (1#32).toNat = 2 ^ 1 - 1 from rfl, Nat.and_two_pow_sub_one_eq_mod]
    have e4 : ((BitVec.ofInt 32 w).sshiftRight k).getLsbD 0 = zt_ib w k := by
      rw [BitVec.getLsbD_sshiftRight]
      unfold zt_ib
      rw [decide_eq_false (show ¬ 32 ≤ 0 by decide), Nat.add_zero, if_pos (by omega)]
      rfl
    have e5 : ((BitVec.ofInt 32 w).sshiftRight k).getLsbD 0 = decide (((BitVec.ofInt 32 w).sshiftRight k).toNat % 2 = 1) := by
      rw [BitVec.getLsbD, Nat.testBit_zero]
    rw [show (2 : Nat) ^ 1 = 2 from rfl]
    rw [e4] at e5
    by_cases z : ((BitVec.ofInt 32 w).sshiftRight k).toNat % 2 = 1
    · rw [decide_eq_true z] at e5
      rw [z, e5, if_pos rfl]
    · rw [decide_eq_false z] at e5
      rw [e5, if_neg (by decide)]
      omega
  have t := zc_toInt _ b (by split <;> decide)
  have t2 : zv_and (zv_shr w (k : Int)) 1 = ((if zt_ib w k = true then 1 else 0 : Nat) : Int) := t
  rw [t2]
  by_cases z : zt_ib w k = true
  · rw [if_pos z]
    exact ⟨fun _ => z, fun _ => rfl⟩
  · rw [if_neg z]
    exact ⟨fun q => absurd q (by decide), fun q => absurd q z⟩
theorem zt_or_shl (w : Int) {k : Nat} (hk : k < 24) (j : Nat) (hj : j < 32) : zt_ib (zv_or w (zv_shl 1 (k : Int))) j = (zt_ib w j || decide (j = k)) := by
  have key : ∀ k : Nat, k < 24 → ∀ j : Nat, j < 32 → (BitVec.ofInt 32 (zv_shl 1 (k : Int))).getLsbD j = decide (j = k) := by decide +kernel
  unfold zt_ib
  have e : BitVec.ofInt 32 (zv_or w (zv_shl 1 (k : Int))) = BitVec.ofInt 32 w ||| BitVec.ofInt 32 (zv_shl 1 (k : Int)) := by
    unfold zv_or
    show (Int32.ofInt (Int32.ofInt w ||| Int32.ofInt (zv_shl 1 (k : Int))).toInt).toBitVec = _
    rw [Int32.ofInt_toInt, Int32.toBitVec_or]
    rfl
  rw [e, BitVec.getLsbD_or, key k hk j hj]
/-- a name's bit, by the two ints -/
theorem zt_nm_b {c : Nat → Int} {s t : Int} (t0 : 0 ≤ t) (t1 : t < 48) : zm_nm c s t ↔ zt_ib (zm_o c s (if t < 24 then 10 else 11)) (t.toNat % 24) = true := by
  have e : t.tmod 24 = ((t.toNat % 24 : Nat) : Int) := by
    rw [Int.tmod_eq_emod_of_nonneg t0]
    omega
  show zv_and (zv_shr (zm_o c s (if t < 24 then 10 else 11)) (t.tmod 24)) 1 = 1 ↔ _
  rw [e]
  exact zt_and_shr _ (by omega)
end
/-! A34.lean -/
section
/-! ===== the tie: who leans, in the class ===== -/
theorem zt_Ln_app {c : Nat → Int} {t : Int} {q : List Int} : ∀ (p : List Int) {s : Int}, zm_Ln c (p ++ t :: q) s → zm_Ln c (t :: q) t
  | [], s, h => by
    have e : s = t := h.1.1
    rw [← e]
    rw [← e] at h
    exact h
  | _ :: p, s, h => zt_Ln_app p h.2
theorem zt_lcmp0 {v w : Int64} : zv_lcmp (v &&& w) (Int64.ofNat 0) = 0 ↔ ¬ ∃ i, i < 64 ∧ zt_b v i = true ∧ zt_b w i = true := by
  rw [zt_lcmp]
  constructor
  · rintro h ⟨i, i1, i2, i3⟩
    have := h i i1
    rw [zt_b_and, i2, i3] at this
    cases this
  · intro h i hi
    rw [zt_b_and]
    cases e1 : zt_b v i with
    | false => rfl
    | true =>
      cases e2 : zt_b w i with
      | false => rfl
      | true => exact absurd ⟨i, hi, e1, e2⟩ h
section
variable {a : Nat} {c : Nat → Int} {g : zv_H}
theorem zt_bitr {d : Nat} (gL : zt_L g) (U : zt_U a c g) {x : Int} (hx : zm_st c x) : C5_bit (d + 1) (zt_r a x) g = some (zt_bt x.toNat, g) := by
  have h1 := hx.1
  have i48 : x.toNat < 48 := by omega
  rw [zt_r_p hx.1.1]
  exact zt_C5_bit gL (zt_U_la U) i48 (zt_U_nr U _ i48)
theorem zt_lean8 {d : Nat} (gL : zt_L g) (U : zt_U a c g) {L : List Int} {s0 : Int} (hLn : zm_Ln c L s0) (ok : zt_ln_ok c L) (wk : zt_wk a c L g) {s : Int} {ls : List Int} (hs : zm_st c s) (hls : zm_Ln c (s :: ls) s) (s1 : 1 ≤ s) : ∀ (re pr : List Int) (f : Int64), pr ++ re = L.reverse → (∀ t : Nat, t < 64 → zt_b f t = true → t < 48 ∧ (t : Int) ∈ L ∧ zt_tc c t s) → (∀ x ∈ pr, zt_tc c x s → zt_b f x.toNat = true) → zt_b f s.toNat = true → ∃ v, L4_leaningOn_8 (d + 1) (a + 8) (zt_r a s) f pr.length g = some (some (zv_j v), g) ∧ ∀ t : Nat, t < 64 → (zt_b v t = true ↔ t < 48 ∧ (t : Int) ∈ L ∧ zt_tc c t s) := by
  have la := zt_U_la U
  have W := zt_U_W U
  have cw : ∀ t, zm_st c t → zt_cw c t := fun t ht => zt_S_cw (zt_U_st U t ht)
  obtain ⟨l8, l9, _⟩ := zt_row_l la
  have lS := zt_r_l la hs.1
  have dS := zt_S_de (zt_U_st U s hs) ls hls
  intro re
  induction re with
  | nil =>
    intro pr f e hS hC hI
    have el : (pr.length : Int) = L.length := by
      have := congrArg List.length e
      rw [List.append_nil, List.length_reverse] at this
      omega
    refine ⟨f, ?_, fun t ht => ⟨hS t ht, fun q => ?_⟩⟩
    · rw [qL4_leaningOn_8, zm_e (zl_gI gL l8 5), zt_wk_ln wk, if_neg (by omega)]
    · have m : (t : Int) ∈ pr := by
        rw [List.append_nil] at e
        rw [e]
        exact List.mem_reverse.mpr q.2.1
      exact hC t m q.2.2
  | cons x re ih =>
    intro pr f e hS hC hI
    have ll := congrArg List.length e
    rw [List.length_append, List.length_cons, List.length_reverse] at ll
    have l48 := ok.2.2.2
    have hx : L.reverse[pr.length]? = some x := by
      rw [← e, List.getElem?_append_right (Nat.le_refl _), Nat.sub_self]
      rfl
    have eL : L = re.reverse ++ x :: pr.reverse := by
      have := congrArg List.reverse e
      rw [List.reverse_reverse, List.reverse_append, List.reverse_cons, List.append_assoc] at this
      exact this.symm
    have xL : x ∈ L := List.mem_reverse.mp (List.mem_of_getElem? hx)
    have hxs := ok.2.2.1 x xL
    have lX := zt_r_l la hxs.1
    have hlx : zm_Ln c (x :: pr.reverse) x := by
      rw [eL] at hLn
      exact zt_Ln_app _ hLn
    have dX := zt_S_de (zt_U_st U x hxs) _ hlx
    rw [List.length_reverse] at dX
    have e' : (pr ++ [x]) ++ re = L.reverse := by rw [List.append_assoc]; exact e
    have w1 : zv_w ((pr.length : Int) + 1) = (((pr ++ [x]).length : Nat) : Int) := by
      rw [List.length_append, zm_w (by omega)]
      rfl
    have nx : ∀ f' : Int64, (∀ t : Nat, t < 64 → zt_b f' t = true → t < 48 ∧ (t : Int) ∈ L ∧ zt_tc c t s) → (∀ i, zt_b f i = true → zt_b f' i = true) → (zt_tc c x s → zt_b f' x.toNat = true) → ∃ v, L4_leaningOn_8 (d + 1) (a + 8) (zt_r a s) f' (((pr ++ [x]).length : Nat) : Int) g = some (some (zv_j v), g) ∧ ∀ t : Nat, t < 64 → (zt_b v t = true ↔ t < 48 ∧ (t : Int) ∈ L ∧ zt_tc c t s) := fun f' h1 h2 h3 => ih (pr ++ [x]) f' e' h1 (fun y hy ty => by
      rcases List.mem_append.mp hy with q | q
      · exact h2 _ (hC y q ty)
      · rw [List.mem_singleton.mp q] at ty ⊢
        exact h3 ty) (h2 _ hI)
    rw [qL4_leaningOn_8, zm_e (zl_gI gL l8 5), zt_wk_ln wk, if_pos (by omega), zm_e (zl_gF gL l8 0 1), show a + 8 + 1 = a + 9 from rfl, zm_e (zl_aR gL l9 (by omega) (by omega)), show ((pr.length : Nat) : Int).toNat = pr.length by omega, zt_wk_pa wk _ x hx, if_neg (zt_r0 U hxs), zm_e (zl_gI gL lX 10), zm_e (zl_gI gL lS 10), dX, dS, w1]
    by_cases dl : (pr.length : Int) ≤ (ls.length : Int)
    · rw [if_pos dl]
      refine nx f hS (fun _ q => q) (fun tx => ?_)
      have m := zt_tc_in W cw s1 tx hxs hlx
      rcases List.mem_cons.mp m with q | q
      · rw [← q]; exact hI
      · exfalso
        obtain ⟨p, eq⟩ := zt_in_suf hlx hls m
        cases p with
        | nil =>
          have nd := (zt_line_u W hxs hlx).1.1
          obtain ⟨q1, q2⟩ := List.cons.inj eq
          rw [q1] at nd
          exact (List.nodup_cons.mp nd).1 q
        | cons y p =>
          have := congrArg List.length eq
          simp only [List.length_cons, List.length_append, List.cons_append, List.length_reverse] at this
          omega
    · rw [if_neg dl, zm_e (zl_gJ gL lX 17)]
      have bs := zt_S_bs (zt_U_st U x hxs)
      by_cases cm : zv_lcmp (zv_J g (zt_r a x) 17 &&& f) (Int64.ofNat 0) = 0
      · rw [if_pos cm]
        refine nx f hS (fun _ q => q) (fun tx => ?_)
        exfalso
        rcases zt_tc_h tx with q | ⟨o, o1, o2⟩
        · rw [q] at hlx
          have := (List.cons.inj (zm_Ln_u hlx hls)).2
          rw [← this, List.length_reverse] at dl
          omega
        · have oo := zt_tc_1 W s1 o2
          obtain ⟨m, _⟩ := zt_ln_in W hxs (cw x hxs) hlx o1 (by omega)
          have mo := hC o (List.mem_reverse.mp m) o2
          have ho := (zt_line_u W hxs hlx).1.2.2.1 o (List.mem_cons_of_mem _ m)
          have h47 := ho.1
          refine zt_lcmp0.mp cm ⟨o.toNat, by omega, (bs o.toNat (by omega)).mpr ⟨by omega, by omega, ?_⟩, mo⟩
          rw [show ((o.toNat : Nat) : Int) = o by omega]
          exact o1
      · rw [if_neg cm, zm_e (zt_bitr gL U hxs)]
        dsimp only
        have h47 := hxs.1
        have bx : ∀ i, i < 64 → (zt_b (f ||| zt_bt x.toNat) i = true ↔ zt_b f i = true ∨ i = x.toNat) := fun i hi => by
          rw [zt_b_or, zt_b_bt (by omega) hi, Bool.or_eq_true, decide_eq_true_eq]
        have tx : zt_tc c x s := by
          have ex : ∃ i, i < 64 ∧ zt_b (zv_J g (zt_r a x) 17) i = true ∧ zt_b f i = true := Classical.byContradiction (fun q => cm (zt_lcmp0.mpr q))
          obtain ⟨i, i1, i2, i3⟩ := ex
          exact zt_tc_l ((bs i i1).mp i2).2.2 (hS i i1 i3).2.2
        refine nx _ (fun t ht q => ?_) (fun i q => ?_) (fun _ => (bx _ (by omega)).mpr (Or.inr rfl))
        · rcases (bx t ht).mp q with u | u
          · exact hS t ht u
          · have e3 : (t : Int) = x := by omega
            rw [e3]
            exact ⟨by omega, xL, tx⟩
        · by_cases hi : i < 64
          · exact (bx i hi).mpr (Or.inl q)
          · rw [zt_b_ge _ (by omega)] at q
            cases q
theorem zt_leaningOn {d : Nat} (gL : zt_L g) (U : zt_U a c g) {L : List Int} {s0 : Int} (hLn : zm_Ln c L s0) (ok : zt_ln_ok c L) (wk : zt_wk a c L g) {s : Int} (s1 : 1 ≤ s) (hsL : s ∈ L) : ∃ v, C4_leaningOn (d + 2) (a + 8) (zt_r a s) g = some (v, g) ∧ ∀ t : Nat, t < 64 → (zt_b v t = true ↔ t < 48 ∧ (t : Int) ∈ L ∧ zt_tc c t s) := by
  have la := zt_U_la U
  have hs := ok.2.2.1 s hsL
  have h47 := hs.1
  obtain ⟨ls, hls, _⟩ := zt_line (zt_U_W U) hs
  obtain ⟨v, e, w⟩ := zt_lean8 (d := d) gL U hLn ok wk hs hls s1 L.reverse [] (zt_bt s.toNat) (List.nil_append _) (fun t ht q => by
    rw [zt_b_bt (by omega) ht, decide_eq_true_eq] at q
    have e3 : (t : Int) = s := by omega
    rw [e3]
    exact ⟨by omega, hsL, zt_tc_r c s⟩) (fun x hx => by cases hx) (by rw [zt_b_bt (by omega) (by omega)]; exact decide_eq_true rfl)
  refine ⟨v, lC4_leaningOn (zl_ob gL (zt_row_l la).1) ?_, w⟩
  rw [qE4_leaningOn, zm_e (zt_bitr gL U hs)]
  exact e
theorem zt_grnd8 {d : Nat} (gL : zt_L g) (U : zt_U a c g) {s : Int} {ls : List Int} (hs : zm_st c s) (hls : zm_Ln c (s :: ls) s) (s1 : 1 ≤ s) : ∀ (b p : List Int) (t : Int) (f : Int64), p.reverse ++ b = s :: ls → zm_Ln c b t → (∀ x : Nat, x < 64 → zt_b f x = true → (1 ≤ x ∧ x < 48) ∧ zt_tc c s x) → zt_b f s.toNat = true → (∀ o : Nat, (o : Int) ∈ p → zt_b f o = true → ∀ x : Nat, 1 ≤ x → x < 48 → zt_ln c o x → zt_b f x = true) → ∃ v, L4_groundOf_8 (d + 1) f (zt_r a t) g = some (some (zv_j v), g) ∧ ∀ x : Nat, x < 64 → (zt_b v x = true ↔ (1 ≤ x ∧ x < 48) ∧ zt_tc c s x) := by
  have la := zt_U_la U
  have W := zt_U_W U
  have cw : ∀ t, zm_st c t → zt_cw c t := fun t ht => zt_S_cw (zt_U_st U t ht)
  have okS := (zt_line_u W hs hls).1
  intro b
  induction b with
  | nil =>
    intro p t f e ht hS hI hC
    rw [zt_r_n ht, qL4_groundOf_8, if_pos rfl]
    refine ⟨f, rfl, fun x hx => ⟨hS x hx, fun q => ?_⟩⟩
    have key : 1 ≤ (x : Int) → zt_b f ((x : Int)).toNat = true ∧ (x : Int) ∈ s :: ls := zt_tc_i (x := s) (y := (x : Int)) q.2 (Q := fun z => 1 ≤ z → zt_b f z.toNat = true ∧ z ∈ s :: ls) (fun _ => ⟨hI, List.mem_cons_self⟩) (fun o z Qo h hz => by
      obtain ⟨_, o1⟩ := zt_ln_ed W h
      obtain ⟨b1, b2⟩ := Qo o1
      have ho := okS.2.2.1 o b2
      have h47 := ho.1
      obtain ⟨pr, q2, e2, hq⟩ := zm_Ln_s hls o b2
      obtain ⟨m, _⟩ := zt_ln_in W ho (cw o ho) hq h (by omega)
      have hz2 : z ∈ s :: ls := by rw [e2]; exact List.mem_append_right _ (List.mem_cons_of_mem _ m)
      have z47 := (okS.2.2.1 z hz2).1
      refine ⟨hC o.toNat ?_ b1 z.toNat (by omega) (by omega) ?_, hz2⟩
      · rw [show ((o.toNat : Nat) : Int) = o by omega]
        rw [List.append_nil] at e
        rw [← e] at b2
        exact List.mem_reverse.mp b2
      · rw [show ((o.toNat : Nat) : Int) = o by omega, show ((z.toNat : Nat) : Int) = z by omega]
        exact h)
    exact (key (by omega)).1
  | cons u b ih =>
    intro p t f e ht hS hI hC
    have et : t = u := ht.1.1
    subst et
    have tm : t ∈ s :: ls := by rw [← e]; exact List.mem_append_right _ List.mem_cons_self
    have hts := okS.2.2.1 t tm
    have h47 := hts.1
    have lT := zt_r_l la hts.1
    have pa := zt_S_pa (zt_U_st U t hts)
    have e' : (t :: p).reverse ++ b = s :: ls := by rw [List.reverse_cons, List.append_assoc]; exact e
    have nd := okS.1
    rw [← e] at nd
    have nd2 := List.nodup_append.mp nd
    have old : ∀ z, zt_ln c t z → 0 ≤ z → z ∈ b := fun z h z0 => (zt_ln_in W hts (cw t hts) ht h z0).1
    have bs := zt_S_bs (zt_U_st U t hts)
    rw [qL4_groundOf_8, if_neg (zt_r0 U hts), zm_e (zt_bitr gL U hts)]
    dsimp only
    by_cases cm : zv_lcmp (f &&& zt_bt t.toNat) (Int64.ofNat 0) = 0
    · have nb : zt_b f t.toNat = false := (zt_lcmp_bt f (by omega)).mp cm
      rw [if_pos cm, zm_e (zl_gR gL lT 4), pa]
      refine ih (t :: p) _ f e' ht.2 hS hI (fun o ho bo x x1 x48 h => ?_)
      rcases List.mem_cons.mp ho with q | q
      · rw [show o = t.toNat by omega, nb] at bo
        cases bo
      · exact hC o q bo x x1 x48 h
    · have tb : zt_b f t.toNat = true := by
        cases z : zt_b f t.toNat with
        | true => rfl
        | false => exact absurd ((zt_lcmp_bt f (by omega)).mpr z) cm
      have ts := (hS t.toNat (by omega) tb).2
      rw [show ((t.toNat : Nat) : Int) = t by omega] at ts
      have bx : ∀ i, i < 64 → (zt_b (f ||| zv_J g (zt_r a t) 17) i = true ↔ zt_b f i = true ∨ (1 ≤ i ∧ i < 48 ∧ zt_ln c t i)) := fun i hi => by
        rw [zt_b_or, Bool.or_eq_true, bs i hi]
      rw [if_neg cm, zm_e (zl_gJ gL lT 17), zm_e (zl_gR gL lT 4), pa]
      refine ih (t :: p) _ _ e' ht.2 (fun x hx q => ?_) ((bx _ (by have := hs.1; omega)).mpr (Or.inl hI)) (fun o ho bo x x1 x48 h => ?_)
      · rcases (bx x hx).mp q with v | v
        · exact hS x hx v
        · exact ⟨⟨v.1, v.2.1⟩, zt_tc_a ts v.2.2⟩
      · rcases List.mem_cons.mp ho with q | q
        · rw [q] at h
          exact (bx x (by omega)).mpr (Or.inr ⟨x1, x48, h⟩)
        · by_cases o64 : o < 64
          · rcases (bx o o64).mp bo with v | v
            · exact (bx x (by omega)).mpr (Or.inl (hC o q v x x1 x48 h))
            · exfalso
              have ob := old (o : Int) v.2.2 (by omega)
              exact nd2.2.2 _ (List.mem_reverse.mpr q) _ (List.mem_cons_of_mem _ ob) rfl
          · rw [zt_b_ge _ (by omega)] at bo
            cases bo
theorem zt_groundOf {d : Nat} (gL : zt_L g) (U : zt_U a c g) {s : Int} (hs : zm_st c s) (s1 : 1 ≤ s) : ∃ v, C4_groundOf (d + 2) (a + 8) (zt_r a s) g = some (v, g) ∧ ∀ x : Nat, x < 64 → (zt_b v x = true ↔ (1 ≤ x ∧ x < 48) ∧ zt_tc c s x) := by
  have la := zt_U_la U
  have h47 := hs.1
  obtain ⟨ls, hls, _⟩ := zt_line (zt_U_W U) hs
  obtain ⟨v, e, w⟩ := zt_grnd8 (d := d) gL U hs hls s1 (s :: ls) [] s (zt_bt s.toNat) rfl hls (fun x hx q => by
    rw [zt_b_bt (by omega) hx, decide_eq_true_eq] at q
    have e3 : (x : Int) = s := by omega
    rw [e3]
    exact ⟨by omega, zt_tc_r c s⟩) (by rw [zt_b_bt (by omega) (by omega)]; exact decide_eq_true rfl) (fun o ho => by cases ho)
  refine ⟨v, lC4_groundOf (zl_ob gL (zt_row_l la).1) ?_, w⟩
  rw [qE4_groundOf, zm_e (zt_bitr gL U hs)]
  exact e
end
end
