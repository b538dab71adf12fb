/-! ===== the tie: carrying, both ===== -/
section
variable {a : Nat} {c : Nat → Int} {g k : zv_H} {sf : Nat → Int}
theorem zt_placeOf_l {d : Nat} (gL : zt_L g) (la : zv_lay a = (1, 0)) {R : List (Int × Int)} (sz : zv_I g (a + 8) 6 = R.length) (id : ∀ (k : Nat) (p : Int × Int), R[k]? = some p → zv_I g (a + 10) k = zt_id p) (hn : R.length ≤ 604) (hok : ∀ x ∈ R, zt_ok x) {p : Int × Int} (hp : zt_ok p) : ∀ (b A : List (Int × Int)), A ++ b = R → (∀ x ∈ A, x ≠ p) → ∃ v, L4_placeOf_2 (d + 1) (a + 8) (zt_id p) A.length g = some (some (zv_i v), g) ∧ ((v = -1 ∧ ¬ p ∈ R) ∨ ∃ i : Nat, v = (i : Int) ∧ R[i]? = some p) := by
  obtain ⟨l8, _, l10, _⟩ := zt_row_l la
  have ir := zt_id_r hp
  intro b
  induction b with
  | nil =>
    intro A e no
    rw [List.append_nil] at e
    subst e
    refine ⟨-1, ?_, Or.inl ⟨rfl, fun q => no p q rfl⟩⟩
    rw [qL4_placeOf_2, zm_e (zl_gI gL l8 6), sz, if_neg (by omega)]
  | cons x b ih =>
    intro A e no
    have hx : R[A.length]? = some x := by
      rw [← e, List.getElem?_append_right (Nat.le_refl _), Nat.sub_self]
      rfl
    have il := zm_lt_of_get hx
    have w1 : zv_w ((A.length : Int) + 1) = (((A ++ [x]).length : Nat) : Int) := by
      rw [List.length_append, zm_w (by omega)]
      rfl
    rw [qL4_placeOf_2, zm_e (zl_gI gL l8 6), sz, if_pos (by omega), if_neg (by omega), zm_e (zt_C4_idAt gL la sz id hn hx)]
    dsimp only
    by_cases e2 : x = p
    · rw [if_pos (by rw [e2])]
      exact ⟨A.length, rfl, Or.inr ⟨A.length, rfl, by rw [← e2]; exact hx⟩⟩
    · rw [if_neg (fun q => e2 (zt_id_inj (hok x (List.mem_of_getElem? hx)) hp q)), w1]
      refine ih (A ++ [x]) (by rw [List.append_assoc]; exact e) (fun y hy => ?_)
      rcases List.mem_append.mp hy with q | q
      · exact no y q
      · rw [List.mem_singleton.mp q]; exact e2
theorem zt_seen18 {d : Nat} (gL : zt_L g) (la : zv_lay a = (1, 0)) {R : List (Int × Int)} (sz : zv_I g (a + 8) 6 = R.length) {f : Int × Int → Bool} (se : ∀ (k : Nat) (p : Int × Int), R[k]? = some p → zv_I g (a + 11) k = if f p = true then 1 else 0) (hn : R.length ≤ 604) {j : Nat} (hj : j < R.length) : ∀ (n i : Nat), i + n = j + 1 → L4_seenUpTo_18 (d + 1) (a + 8) j (((R.take i).filter f).length : Int) i g = some (some (zv_i (((R.take (j + 1)).filter f).length : Int)), g) := by
  intro n
  induction n with
  | zero =>
    intro i hi
    have e : i = j + 1 := by omega
    subst e
    rw [qL4_seenUpTo_18, if_neg (by omega)]
  | succ n ih =>
    intro i hi
    obtain ⟨x, hx⟩ : ∃ x, R[i]? = some x := ⟨_, List.getElem?_eq_getElem (by omega)⟩
    have w1 : zv_w ((i : Int) + 1) = ((i + 1 : Nat) : Int) := by
      rw [zm_w (by omega)]
      rfl
    have fl : ((R.take i).filter f).length ≤ 604 := Nat.le_trans (List.length_filter_le _ _) (by rw [List.length_take]; omega)
    have ih' := ih (i + 1) (by omega)
    rw [zt_take_s hx, List.filter_append, List.length_append] at ih'
    rw [qL4_seenUpTo_18, if_pos (by omega), zm_e (zt_C4_seesAt gL la sz se hn hx), w1]
    dsimp only
    by_cases e : f x = true
    · rw [List.filter_cons_of_pos e] at ih'
      rw [if_pos e, if_neg (by decide), zm_w (by omega)]
      exact ih'
    · rw [List.filter_cons_of_neg e] at ih'
      rw [if_neg e, if_pos rfl, zm_w (by omega)]
      exact ih'
theorem zt_seenUpTo {d : Nat} (gL : zt_L g) (la : zv_lay a = (1, 0)) {R : List (Int × Int)} (sz : zv_I g (a + 8) 6 = R.length) (id : ∀ (k : Nat) (p : Int × Int), R[k]? = some p → zv_I g (a + 10) k = zt_id p) {f : Int × Int → Bool} (se : ∀ (k : Nat) (p : Int × Int), R[k]? = some p → zv_I g (a + 11) k = if f p = true then 1 else 0) (hn : R.length ≤ 604) (hok : ∀ x ∈ R, zt_ok x) {p : Int × Int} (hp : zt_ok p) : ∃ v, C4_seenUpTo (d + 3) (a + 8) (zt_id p) g = some (v, g) ∧ ((v = -1 ∧ ¬ p ∈ R) ∨ ∃ i : Nat, R[i]? = some p ∧ v = (((R.take (i + 1)).filter f).length : Int)) := by
  have l8 := (zt_row_l la).1
  obtain ⟨v, e, w⟩ := zt_placeOf_l (d := d) gL la sz id hn hok hp R [] (List.nil_append _) (fun x hx => by cases hx)
  have ep : C4_placeOf (d + 2) (a + 8) (zt_id p) g = some (v, g) := by
    refine lC4_placeOf (zl_ob gL l8) ?_
    rw [qE4_placeOf]
    exact e
  rcases w with ⟨w1, w2⟩ | ⟨i, w1, w2⟩
  · refine ⟨-1, lC4_seenUpTo (zl_ob gL l8) ?_, Or.inl ⟨rfl, w2⟩⟩
    rw [qE4_seenUpTo, zm_e ep]
    dsimp only
    rw [if_pos w1]
  · have il := zm_lt_of_get w2
    refine ⟨_, lC4_seenUpTo (zl_ob gL l8) ?_, Or.inr ⟨i, w2, rfl⟩⟩
    rw [qE4_seenUpTo, zm_e ep]
    dsimp only
    rw [if_neg (by omega), w1]
    exact zt_seen18 (d := d + 1) gL la sz se hn il (i + 1) 0 (by omega)
end
