def zv_tykb (n : Nat) (t : FieldType) : Bool := match n, t with
  | 0, .int => true
  | 1, .boolean => true
  | 2, .long => true
  | 3, .object _ => true
  | 3, .array _ => true
  | _, _ => false
theorem zv_tykb_ok {n : Nat} {t : FieldType} (h : zv_tykb n t = true) : zv_tyk n t := by
  unfold zv_tykb at h
  split at h
  · rfl
  · rfl
  · rfl
  · exact Or.inl ⟨_, rfl⟩
  · exact Or.inr ⟨_, rfl⟩
  · cases h
/-- what is so of a callee, whoever calls it -/
def zv_vD (y : MethodName) (bytes : ByteArray) (maxL : Nat) (ret : Option FieldType) : Prop := Cond.code y bytes maxL ret ∈ zv_tb ∧ Cond.initialized y.cls ∈ zv_tb ∧ (y.cls ≠ "java/lang/invoke/MethodHandle" ∧ y.cls ≠ "java/lang/invoke/VarHandle") ∧ maxL ≤ 40
theorem zv_CF_0 : zv_CF 0 RX0 TX0 14 tyX0 := ⟨rfl, (by decide +kernel), fun w hw => List.mem_filter.mpr ⟨inX0 w hw, (by
  have h : (wsX00).all goodWord = true := by decide +kernel
  exact List.all_eq_true.mp h w hw)⟩, tyX0_ok, nmX0, (by decide +kernel), fun k hk => (by
  have h : ∀ k, k < 14 → zv_tykb (zv_ft 0 k) (tyX0 k) = true := by decide +kernel
  exact zv_tykb_ok (h k hk))⟩
theorem zv_CF_1 : zv_CF 1 RX1 TX1 4 tyX1 := ⟨rfl, (by decide +kernel), fun w hw => List.mem_filter.mpr ⟨inX1 w hw, (by
  have h : (wsX10).all goodWord = true := by decide +kernel
  exact List.all_eq_true.mp h w hw)⟩, tyX1_ok, nmX1, (by decide +kernel), fun k hk => (by
  have h : ∀ k, k < 4 → zv_tykb (zv_ft 1 k) (tyX1 k) = true := by decide +kernel
  exact zv_tykb_ok (h k hk))⟩
theorem zv_CF_2 : zv_CF 2 RX2 TX2 3 tyX2 := ⟨rfl, (by decide +kernel), fun w hw => List.mem_filter.mpr ⟨inX2 w hw, (by
  have h : (wsX20).all goodWord = true := by decide +kernel
  exact List.all_eq_true.mp h w hw)⟩, tyX2_ok, nmX2, (by decide +kernel), fun k hk => (by
  have h : ∀ k, k < 3 → zv_tykb (zv_ft 2 k) (tyX2 k) = true := by decide +kernel
  exact zv_tykb_ok (h k hk))⟩
theorem zv_CF_3 : zv_CF 3 RX3 TX3 13 tyX3 := ⟨rfl, (by decide +kernel), fun w hw => List.mem_filter.mpr ⟨inX3 w hw, (by
  have h : (wsX30).all goodWord = true := by decide +kernel
  exact List.all_eq_true.mp h w hw)⟩, tyX3_ok, nmX3, (by decide +kernel), fun k hk => (by
  have h : ∀ k, k < 13 → zv_tykb (zv_ft 3 k) (tyX3 k) = true := by decide +kernel
  exact zv_tykb_ok (h k hk))⟩
theorem zv_CF_4 : zv_CF 4 RX4 TX4 10 tyX4 := ⟨rfl, (by decide +kernel), fun w hw => List.mem_filter.mpr ⟨inX4 w hw, (by
  have h : (wsX40).all goodWord = true := by decide +kernel
  exact List.all_eq_true.mp h w hw)⟩, tyX4_ok, nmX4, (by decide +kernel), fun k hk => (by
  have h : ∀ k, k < 10 → zv_tykb (zv_ft 4 k) (tyX4 k) = true := by decide +kernel
  exact zv_tykb_ok (h k hk))⟩
theorem zv_CF_5 : zv_CF 5 RX5 TX5 18 tyX5 := ⟨rfl, (by decide +kernel), fun w hw => List.mem_filter.mpr ⟨inX5 w hw, (by
  have h : (wsX50).all goodWord = true := by decide +kernel
  exact List.all_eq_true.mp h w hw)⟩, tyX5_ok, nmX5, (by decide +kernel), fun k hk => (by
  have h : ∀ k, k < 18 → zv_tykb (zv_ft 5 k) (tyX5 k) = true := by decide +kernel
  exact zv_tykb_ok (h k hk))⟩
theorem zv_CF_6 : zv_CF 6 RX6 TX6 6 tyX6 := ⟨rfl, (by decide +kernel), fun w hw => List.mem_filter.mpr ⟨inX6 w hw, (by
  have h : (wsX60).all goodWord = true := by decide +kernel
  exact List.all_eq_true.mp h w hw)⟩, tyX6_ok, nmX6, (by decide +kernel), fun k hk => (by
  have h : ∀ k, k < 6 → zv_tykb (zv_ft 6 k) (tyX6 k) = true := by decide +kernel
  exact zv_tykb_ok (h k hk))⟩
theorem zv_CF_7 : zv_CF 7 RX7 TX7 2 tyX7 := ⟨rfl, (by decide +kernel), fun w hw => List.mem_filter.mpr ⟨inX7 w hw, (by
  have h : (wsX70).all goodWord = true := by decide +kernel
  exact List.all_eq_true.mp h w hw)⟩, tyX7_ok, nmX7, (by decide +kernel), fun k hk => (by
  have h : ∀ k, k < 2 → zv_tykb (zv_ft 7 k) (tyX7 k) = true := by decide +kernel
  exact zv_tykb_ok (h k hk))⟩
theorem zv_CF_8 : zv_CF 8 RX8 TX8 8 tyX8 := ⟨rfl, (by decide +kernel), fun w hw => List.mem_filter.mpr ⟨inX8 w hw, (by
  have h : (wsX80).all goodWord = true := by decide +kernel
  exact List.all_eq_true.mp h w hw)⟩, tyX8_ok, nmX8, (by decide +kernel), fun k hk => (by
  have h : ∀ k, k < 8 → zv_tykb (zv_ft 8 k) (tyX8 k) = true := by decide +kernel
  exact zv_tykb_ok (h k hk))⟩
theorem zv_CF_9 : zv_CF 9 RX9 TX9 48 tyX9 := ⟨rfl, (by decide +kernel), fun w hw => List.mem_filter.mpr ⟨inX9 w hw, (by
  have h : (wsX90).all goodWord = true := by decide +kernel
  exact List.all_eq_true.mp h w hw)⟩, tyX9_ok, nmX9, (by decide +kernel), fun k hk => (by
  have h : ∀ k, k < 48 → zv_tykb (zv_ft 9 k) (tyX9 k) = true := by decide +kernel
  exact zv_tykb_ok (h k hk))⟩
