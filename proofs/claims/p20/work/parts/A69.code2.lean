/-! ===== the tie: the reference's number of a word ===== -/
theorem zt_i2l : ∀ m : Nat, m ≤ 25 → zv_i2l (97 + (m : Int)) = Int64.ofInt (97 + (m : Int)) := by decide +kernel
theorem zt_i2l_sm {x : Int} (h : zt_sm x) : zv_i2l x = Int64.ofInt x := by
  obtain ⟨m, hm⟩ : ∃ m : Nat, x = 97 + (m : Int) := ⟨(x - 97).toNat, by unfold zt_sm at h; omega⟩
  have m25 : m ≤ 25 := by unfold zt_sm at h; omega
  rw [hm]
  exact zt_i2l m m25
theorem zt_cdw_v {T : Nat → Int} {f : Nat} : ∀ j, (∀ i : Nat, f ≤ i → i < f + j → zt_sm (T i)) → zt_cdw T f j = Int64.ofInt (zt_v27 (zt_rl8 T f j))
  | 0, _ => rfl
  | j + 1, h => by
    have ih := zt_cdw_v j (fun i h1 h2 => h i h1 (Nat.lt_succ_of_lt h2))
    have hx := zt_i2l_sm (h (f + j) (Nat.le_add_right _ _) (Nat.lt_succ_self _))
    show (27 : Int64) * zt_cdw T f j + zv_i2l (T (f + j)) - 96 = Int64.ofInt (27 * zt_v27 (zt_rl8 T f j) + (T (f + j) - 96))
    rw [ih, hx, ← Int.add_sub_assoc, Int64.ofInt_sub, Int64.ofInt_add, Int64.ofInt_mul]
    rfl
/-- two words of at most nine letters: their numbers tell them apart -/
theorem zt_cdw_eq {T : Nat → Int} {f j : Nat} (h : ∀ i : Nat, f ≤ i → i < f + j → zt_sm (T i)) (j9 : j ≤ 9) {l : List Int} (hl : ∀ x ∈ l, 1 ≤ x ∧ x ≤ 26) (l9 : l.length ≤ 9) : zt_cdw T f j = Int64.ofInt (zt_v27 l) ↔ zt_rl8 T f j = l := by
  have ok := zt_rl8_ok j h
  rw [zt_cdw_v j h]
  constructor
  · intro e
    have a0 := zt_v27_0 ok
    have a1 := zt_v27_b ok
    rw [zt_rl8_len] at a1
    have b0 := zt_v27_0 hl
    have b1 := zt_v27_b hl
    have a2 := zt_b27_9 j j9
    have b2 := zt_b27_9 l.length l9
    have e2 := congrArg Int64.toInt e
    have lo : ∀ {v : Int}, 0 ≤ v → v ≤ 7625597484986 → Int64.toInt (Int64.ofInt v) = v := fun {v} h0 h1 => Int64.toInt_ofInt_of_le (Int.le_trans (by decide) h0) (Int.lt_of_le_of_lt h1 (by decide))
    rw [lo a0 (Int.le_trans a1 a2), lo b0 (Int.le_trans b1 b2)] at e2
    exact zt_v27_inj ok hl e2
  · intro e
    rw [e]
