/-! numbers of the small machine against the machine's -/
theorem zv_rg_toInt (x : Int32) : zv_rg x.toInt := ⟨by have := x.le_toInt; omega, by have := x.toInt_lt; omega⟩
theorem zv_rg_w (x : Int) : zv_rg (zv_w x) := by unfold zv_rg zv_w; omega
theorem zv_w_eq (x : Int) : zv_w x = (Int32.ofInt x).toInt := by
  rw [Int32.toInt_ofInt]
  unfold zv_w
  rw [show (Int32.size : Nat) = 4294967296 from rfl, Int.bmod_def]
  split <;> omega
theorem zv_of_w (x : Int) : Int32.ofInt (zv_w x) = Int32.ofInt x := by rw [zv_w_eq, Int32.ofInt_toInt]
theorem zv_toInt {x : Int} (h : zv_rg x) : (Int32.ofInt x).toInt = x := Int32.toInt_ofInt_of_le (by have := h.1; omega) (by have := h.2; omega)
theorem zv_w_id {x : Int} (h : zv_rg x) : zv_w x = x := by unfold zv_rg at h; unfold zv_w; omega
theorem zv_inj {x y : Int} (hx : zv_rg x) (hy : zv_rg y) : Int32.ofInt x = Int32.ofInt y ↔ x = y := by
  rw [← Int32.toInt_inj, zv_toInt hx, zv_toInt hy]
theorem zv_lt {x y : Int} (hx : zv_rg x) (hy : zv_rg y) : Int32.ofInt x < Int32.ofInt y ↔ x < y := by
  rw [Int32.lt_iff_toInt_lt, zv_toInt hx, zv_toInt hy]
theorem zv_le {x y : Int} (hx : zv_rg x) (hy : zv_rg y) : Int32.ofInt x ≤ Int32.ofInt y ↔ x ≤ y := by
  rw [Int32.le_iff_toInt_le, zv_toInt hx, zv_toInt hy]
theorem zv_rg0 : zv_rg 0 := by unfold zv_rg; omega
theorem zv_eq0 {x : Int} (hx : zv_rg x) : Int32.ofInt x = 0 ↔ x = 0 := by
  rw [show (0 : Int32) = Int32.ofInt 0 from rfl]; exact zv_inj hx zv_rg0
theorem zv_lt0 {x : Int} (hx : zv_rg x) : Int32.ofInt x < 0 ↔ x < 0 := by
  rw [show (0 : Int32) = Int32.ofInt 0 from rfl]; exact zv_lt hx zv_rg0
theorem zv_le0 {x : Int} (hx : zv_rg x) : Int32.ofInt x ≤ 0 ↔ x ≤ 0 := by
  rw [show (0 : Int32) = Int32.ofInt 0 from rfl]; exact zv_le hx zv_rg0
theorem zv_ge0 {x : Int} (hx : zv_rg x) : 0 ≤ Int32.ofInt x ↔ 0 ≤ x := by
  rw [show (0 : Int32) = Int32.ofInt 0 from rfl]; exact zv_le zv_rg0 hx
theorem zv_gt0 {x : Int} (hx : zv_rg x) : 0 < Int32.ofInt x ↔ 0 < x := by
  rw [show (0 : Int32) = Int32.ofInt 0 from rfl]; exact zv_lt zv_rg0 hx
theorem zv_add (x y : Int) : Int32.ofInt x + Int32.ofInt y = Int32.ofInt (zv_w (x + y)) := by rw [zv_of_w, Int32.ofInt_add]
theorem zv_sub (x y : Int) : Int32.ofInt x - Int32.ofInt y = Int32.ofInt (zv_w (x - y)) := by rw [zv_of_w, Int32.ofInt_sub]
theorem zv_mul (x y : Int) : Int32.ofInt x * Int32.ofInt y = Int32.ofInt (zv_w (x * y)) := by rw [zv_of_w, Int32.ofInt_mul]
theorem zv_neg (x : Int) : -Int32.ofInt x = Int32.ofInt (zv_w (-x)) := by rw [zv_of_w, Int32.ofInt_neg]
theorem zv_div {x y : Int} (hx : zv_rg x) (hy : zv_rg y) : Int32.ofInt x / Int32.ofInt y = Int32.ofInt (zv_w (x.tdiv y)) := by
  rw [zv_of_w]
  apply Int32.toInt_inj.mp
  rw [Int32.toInt_div, zv_toInt hx, zv_toInt hy, Int32.toInt_ofInt]
theorem zv_tmod_le {x : Int} (h : 0 ≤ x) (y : Int) : x.tmod y ≤ x := by
  obtain ⟨n, rfl⟩ := Int.eq_ofNat_of_zero_le h
  rw [Int.tmod_eq_emod_of_nonneg h]
  rcases Int.natAbs_eq y with e | e
  · rw [e]
    exact Int.ofNat_le.mpr (Nat.mod_le n y.natAbs)
  · rw [e, Int.emod_neg]
    exact Int.ofNat_le.mpr (Nat.mod_le n y.natAbs)
theorem zv_rg_tmod {x y : Int} (hx : zv_rg x) : zv_rg (x.tmod y) := by
  unfold zv_rg at *
  rcases Int.le_total 0 x with h | h
  · have h1 := Int.tmod_nonneg y h
    have h2 := zv_tmod_le h y
    omega
  · have h1 := zv_tmod_le (show 0 ≤ -x by omega) y
    have h2 := Int.tmod_nonneg y (show 0 ≤ -x by omega)
    rw [Int.neg_tmod] at h1 h2
    omega
theorem zv_rem {x y : Int} (hx : zv_rg x) (hy : zv_rg y) : Int32.ofInt x - Int32.ofInt x / Int32.ofInt y * Int32.ofInt y = Int32.ofInt (x.tmod y) := by
  apply Int32.toInt_inj.mp
  rw [rem_toInt, zv_toInt hx, zv_toInt hy, zv_toInt (zv_rg_tmod hx)]
theorem zv_byte {n : Int} (h1 : -128 ≤ n) (h2 : n ≤ 127) : (Int8.ofInt n).toInt32 = Int32.ofInt n := Int8.toInt32_ofInt h1 h2
theorem zv_short {n : Int} (h1 : -32768 ≤ n) (h2 : n ≤ 32767) : (Int16.ofInt n).toInt32 = Int32.ofInt n := Int16.toInt32_ofInt h1 h2
theorem zv_ofto (x : Int32) : Int32.ofInt x.toInt = x := Int32.ofInt_toInt x
theorem zv_lcmp_eq (x y : Int64) : lg_cmp x y = Int32.ofInt (zv_lcmp x y) := by
  unfold lg_cmp zv_lcmp
  by_cases h : x = y
  · subst h
    rw [if_neg (fun q => Int64.lt_irrefl q), if_pos rfl, if_pos rfl]
    rfl
  · rw [if_neg h, if_neg h]
    by_cases h2 : y < x
    · rw [if_pos h2, if_pos h2]; rfl
    · rw [if_neg h2, if_neg h2]; rfl
theorem zv_rg_lcmp (x y : Int64) : zv_rg (zv_lcmp x y) := by
  unfold zv_lcmp zv_rg
  split
  · omega
  · split <;> omega
theorem zv_clamp {x : Int} (hx : zv_rg x) (h : 0 ≤ x) : (Int32.ofInt x).toNatClampNeg = x.toNat := by
  show (Int32.ofInt x).toInt.toNat = _
  rw [zv_toInt hx]
theorem zv_in {x : Int} {n : Nat} (hx : zv_rg x) (h0 : 0 ≤ x) (hn : x < n) : vp_in (Int32.ofInt x) n := by
  unfold vp_in
  rw [zv_lt0 hx, zv_clamp hx h0]
  omega
theorem zv_rg_i2b (x : Int) : zv_rg (zv_i2b x) := zv_rg_toInt _
theorem zv_rg_nz (x : Int) : zv_rg (zv_nz x) := by unfold zv_rg zv_nz; omega
theorem zv_nar_b (x : Int) : vp_nar .byte (Int32.ofInt x) = Int32.ofInt (zv_i2b x) := by
  unfold zv_i2b
  rw [zv_ofto, vp_nar_byte]
