/-! ===== the tie: the reference behind a fault ===== -/
section
variable {T : Nat → Int} {n : Nat} {g k : zv_H}
theorem zt_bd_30 (B : zt_bd T n g k) : ¬ zv_I (zt_ms 0 2 k) 347 30 = 0 ∧ ¬ zv_I (zt_ms 0 2 k) 347 30 ≤ 0 := by
  have := (zt_bd_ms B).2
  exact ⟨by omega, by omega⟩
theorem zt_takes_b {D : Nat} (B : zt_bd T n g k) (x : Int) : C9_takes (D + 6) 347 x k = some (zt_ms 0 2 k) := by
  have hM := zt_ty_M (zt_bd_Y B)
  have hM2 := zm_F_M (zt_ms_F 0 2 k) hM
  refine lC9_takes (zm_ob hM) ?_
  rw [qE9_takes, zm_e (zt_isSign_b (d := D + 4) B x)]
  dsimp only
  rw [zm_e (zt_must hM 0 2), zm_e (zm_gI hM2 30), if_neg (zt_bd_30 B).1]
/-- a must that fails, or one that is told already -/
theorem zt_must_b {d : Nat} (B : zt_bd T n g k) {v : Int} (hv : zv_I k 347 34 = 4 → v = 0) : ∃ k', C9_must (d + 1) 347 v 2 k = some k' ∧ zm_F [] [30, 31] k k' ∧ zt_bd T n g k' ∧ 0 < zv_I k' 347 30 := by
  have hM := zt_ty_M (zt_bd_Y B)
  refine ⟨_, zt_must hM v 2, zt_ms_F v 2 k, ?_⟩
  rcases zt_bd_f B with ⟨q1, q2, q3, q4⟩ | ⟨q1, q2⟩
  · rw [hv q3]
    exact zt_bd_ms B
  · have p : 0 < zv_I k 347 30 := by rw [q1]; exact zt_bd_f0 B
    rw [zt_ms_f p]
    exact ⟨B, p⟩
theorem zt_number_b {D : Nat} (B : zt_bd T n g k) : ∃ (v : Int) (k' : zv_H), C9_takesNumber (D + 6) 347 k = some (v, k') ∧ zm_F [] [30, 31] k k' ∧ zt_bd T n g k' ∧ 0 < zv_I k' 347 30 := by
  have hM := zt_ty_M (zt_bd_Y B)
  have l14 : ∀ b : Int, (zv_I k 347 34 = 4 → b = 0) → ∃ (v : Int) (k' : zv_H), L9_takesNumber_14 (D + 5) 347 347 b k = some (some (zv_i v), k') ∧ zm_F [] [30, 31] k k' ∧ zt_bd T n g k' ∧ 0 < zv_I k' 347 30 := fun b hb => by
    obtain ⟨k', e, F, B', p⟩ := zt_must_b (d := D + 4) B hb
    have hM' := zm_F_M F hM
    refine ⟨zv_I k' 347 35, k', ?_, F, B', p⟩
    rw [qL9_takesNumber_14, zm_e e, zm_e (zm_gI hM' 35), zm_e (zm_gI hM' 30), if_neg (by omega)]
  suffices h : ∃ (v : Int) (k' : zv_H), E9_takesNumber (D + 5) 347 k = some (some (zv_i v), k') ∧ zm_F [] [30, 31] k k' ∧ zt_bd T n g k' ∧ 0 < zv_I k' 347 30 by
    obtain ⟨v, k', e, q⟩ := h
    exact ⟨v, k', lC9_takesNumber (zm_ob hM) e, q⟩
  rw [qE9_takesNumber, zm_e (zm_gI hM 34)]
  by_cases c : zv_I k 347 34 = 2
  · rw [if_pos c]
    exact l14 1 (fun q => absurd (c.symm.trans q) (by decide))
  · rw [if_neg c]
    exact l14 0 (fun _ => rfl)
theorem zt_word_b {D : Nat} (B : zt_bd T n g k) (most : Int) : ∃ k' : zv_H, C9_takesWord (D + 6) 347 most k = some k' ∧ zm_F [] [30, 31] k k' ∧ zt_bd T n g k' ∧ 0 < zv_I k' 347 30 := by
  have hM := zt_ty_M (zt_bd_Y B)
  have l14 : ∀ b : Int, (zv_I k 347 34 = 4 → b = 0) → ∃ k' : zv_H, L9_takesWord_14 (D + 5) 347 most 347 b k = some (none, k') ∧ zm_F [] [30, 31] k k' ∧ zt_bd T n g k' ∧ 0 < zv_I k' 347 30 := fun b hb => by
    obtain ⟨k', e, F, B', p⟩ := zt_must_b (d := D + 4) B hb
    have hM' := zm_F_M F hM
    refine ⟨k', ?_, F, B', p⟩
    have l37 : ∀ x : Int, L9_takesWord_37 (D + 5) 347 347 x k' = some (none, k') := fun x => by
      rw [qL9_takesWord_37, zm_e (zt_must hM' x 4), zt_ms_f p, zm_e (zm_gI hM' 30), if_neg (by omega)]
    rw [qL9_takesWord_14, zm_e e, zm_e (zm_gI hM' 33), zm_e (zm_gI hM' 32)]
    split
    · exact l37 1
    · exact l37 0
  suffices h : ∃ k' : zv_H, E9_takesWord (D + 5) 347 most k = some (none, k') ∧ zm_F [] [30, 31] k k' ∧ zt_bd T n g k' ∧ 0 < zv_I k' 347 30 by
    obtain ⟨k', e, q⟩ := h
    exact ⟨k', lC9_takesWord (zm_ob hM) e, q⟩
  rw [qE9_takesWord, zm_e (zm_gI hM 34)]
  by_cases c : zv_I k 347 34 = 1
  · rw [if_pos c]
    exact l14 1 (fun q => absurd (c.symm.trans q) (by decide))
  · rw [if_neg c]
    exact l14 0 (fun _ => rfl)
theorem zt_fact117_b {D : Nat} (B : zt_bd T n g k) : L9_fact_117 (D + 6) 347 k = some (none, zt_ms 0 2 k) := by
  have hM := zt_ty_M (zt_bd_Y B)
  have hM2 := zm_F_M (zt_ms_F 0 2 k) hM
  rw [qL9_fact_117, zm_e (zm_f41 hM), zm_e (zt_which_b (d := D + 5) B zm_l369 rfl)]
  dsimp only
  rw [if_pos (by decide), qL9_fact_136, zm_e (zt_must hM 0 2), zm_e (zm_gI hM2 30), if_neg (zt_bd_30 B).2]
theorem zt_fact_b {D : Nat} (B : zt_bd T n g k) : C9_fact (D + 7) 347 k = some (zt_ms 0 2 k) := by
  have hM := zt_ty_M (zt_bd_Y B)
  refine lC9_fact (zm_ob hM) ?_
  rw [qE9_fact, zm_e (zm_f40 hM), zm_e (zt_which_b (d := D + 5) B zm_l368 rfl)]
  dsimp only
  rw [if_neg (by decide), qL9_fact_17, zm_e (zm_gI hM 30)]
  by_cases c : zv_I k 347 30 = 0
  · rw [if_pos c, if_pos rfl, zm_e (zt_isSign_b (d := D + 5) B 91)]
    dsimp only
    rw [if_pos rfl]
    exact zt_fact117_b B
  · rw [if_neg c]
    exact zt_fact117_b B
theorem zt_side_b {D : Nat} (B : zt_bd T n g k) : C9_side (D + 8) 347 k = some (zt_ms 0 2 k) := by
  have hM := zt_ty_M (zt_bd_Y B)
  have hM2 := zm_F_M (zt_ms_F 0 2 k) hM
  refine lC9_side (zm_ob hM) ?_
  rw [qE9_side, zm_e (zt_fact_b (D := D) B), qL9_side_4, zm_e (zm_f40 hM2), zm_e (zt_which_b (d := D + 6) (zt_bd_ms B).1 zm_l368 rfl)]
  dsimp only
  rw [if_neg (by decide)]
theorem zt_test_b {D : Nat} (B : zt_bd T n g k) : C9_test (D + 9) 347 k = some (zt_ms 0 2 k) := by
  have hM := zt_ty_M (zt_bd_Y B)
  have hM2 := zm_F_M (zt_ms_F 0 2 k) hM
  refine lC9_test (zm_ob hM) ?_
  rw [qE9_test, zm_e (zt_side_b (D := D) B), qL9_test_4, zm_e (zm_f40 hM2), zm_e (zt_which_b (d := D + 7) (zt_bd_ms B).1 zm_l368 rfl)]
  dsimp only
  rw [if_neg (by decide)]
theorem zt_readsLine_b {D : Nat} (B : zt_bd T n g k) : C9_readsLine (D + 3) 347 k = some (zt_ms 0 2 k) := by
  have hM := zt_ty_M (zt_bd_Y B)
  have hM2 := zm_F_M (zt_ms_F 0 2 k) hM
  refine lC9_readsLine (zm_ob hM) ?_
  rw [qE9_readsLine, zm_e (zm_f39 hM), zm_e (zt_which_b (d := D + 1) B (show zv_lay 367 = (5, 12) from rfl) rfl)]
  dsimp only
  rw [if_pos (by decide), qL9_readsLine_19, zm_e (zt_must hM 0 2), zm_e (zm_gI hM2 30), if_neg (zt_bd_30 B).2]
/-- behind a fault, told or not, codes may be written yet -/
def zt_bq (T : Nat → Int) (n : Nat) (x : Int) (g : zv_H) (k : zv_H) : Prop := (zt_bd T n g k) ∧ (zv_I k 347 30 = 0 → 0 ≤ zv_I k 348 4 ∧ zv_I k 348 4 ≤ x)
theorem zt_bq_B {T : Nat → Int} {n : Nat} {x : Int} {g : zv_H} {k : zv_H} (t : zt_bq T n x g k) : zt_bd T n g k := t.1
theorem zt_bq_c {T : Nat → Int} {n : Nat} {x : Int} {g : zv_H} {k : zv_H} (t : zt_bq T n x g k) : zv_I k 347 30 = 0 → 0 ≤ zv_I k 348 4 ∧ zv_I k 348 4 ≤ x := t.2
theorem zt_bq_told {x : Int} (B : zt_bd T n g k) (p : 0 < zv_I k 347 30) : zt_bq T n x g k := ⟨B, fun q => absurd q (by omega)⟩
theorem zt_emits_b {d : Nat} {x : Int} (B : zt_bq T n x g k) (hx : x ≤ 390) (v : Int) : ∃ k', C9_emits (d + 1) 347 v k = some k' ∧ zm_F [348] [] k k' ∧ zt_bq T n (x + 1) g k' := by
  have w0 : 0 ≤ zv_I k 347 30 := by
    rcases zt_bd_f (zt_bq_B B) with q | q
    · rw [q.2.1]
      exact Int.le_refl _
    · rw [q.1]
      exact Int.le_of_lt (zt_bd_f0 (zt_bq_B B))
  obtain ⟨k', e, F, _, q⟩ := zm_emits (zt_ty_M (zt_bd_Y (zt_bq_B B))) d v w0 (fun z => by
    have := zt_bq_c B z
    exact ⟨this.1, by omega⟩)
  refine ⟨k', e, F, zt_bd_x (zt_bq_B B) rfl rfl (fun _ _ => rfl) (fun _ => rfl) F, fun z => ?_⟩
  rw [zm_F_g F 30] at z
  have := zt_bq_c B z
  have := (q z).2
  omega
end
