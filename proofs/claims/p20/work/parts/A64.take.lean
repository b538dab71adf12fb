/-! ===== the tie: signs and numbers taken ===== -/
section
variable {T : Nat → Int} {n : Nat} {g k : zv_H} {f t E : Nat}
theorem zt_takesR1 {D : Nat} (G : zt_gd T n g k f t E) {x : Int} (hx : 0 ≤ x ∧ x ≤ 127) (h : t = 3 ∧ T f = x) {k' : zv_H} (e : C9_reads (D + 5) 347 k = some k') : C9_takes (D + 6) 347 x k = some k' := by
  have hM := zt_ty_M (zt_gd_Y G)
  have es := zt_isSignR (d := D + 4) G hx
  rw [if_pos h] at es
  refine lC9_takes (zm_ob hM) ?_
  rw [qE9_takes, zm_e es]
  dsimp only
  rw [zm_e (zt_must hM 1 2), zt_ms_1 (by decide), zm_e (zm_gI hM 30), zt_gd_f2 G, if_pos rfl, zm_e e]
theorem zt_takesR0 {D : Nat} (G : zt_gd T n g k f t E) {x : Int} (hx : 0 ≤ x ∧ x ≤ 127) (h : ¬ (t = 3 ∧ T f = x)) : C9_takes (D + 6) 347 x k = some (zt_ms 0 2 k) := by
  have hM := zt_ty_M (zt_gd_Y G)
  have es := zt_isSignR (d := D + 4) G hx
  rw [if_neg h] at es
  have hM2 := zm_F_M (zt_ms_F 0 2 k) hM
  have bd := zj_fail G (w := 2) (by decide)
  have e30 : ¬ zv_I (zt_ms 0 2 k) 347 30 = 0 := by
    rcases zt_bd_f bd with q | q
    · have e4 : ¬ ((2 : Int) = 2 ∧ zv_I k 347 34 = 4) := fun q => zt_gd_t4 G (Int.ofNat.inj ((zt_gd_r G).2.1.symm.trans q.2))
      rw [zt_ms_0 (zt_gd_f2 G), if_neg e4, zy_In _ _ (fun q => absurd q.2 (by decide)), zy_I]
      decide
    · rw [q.1]
      exact fun z => absurd (zt_bd_f0 bd) (by rw [z]; decide)
  refine lC9_takes (zm_ob hM) ?_
  rw [qE9_takes, zm_e es]
  dsimp only
  rw [zm_e (zt_must hM 0 2), zm_e (zm_gI hM2 30), if_neg e30]
/-- taken, or both fail -/
theorem zj_takes {d D : Nat} (G : zt_gd T n g k f t E) {x : Int} (hx : 0 ≤ x ∧ x ≤ 127) : (t = 3 ∧ T f = x ∧ ∃ (b : Int) (g' k' : zv_H), C3_isSign (d + 1) 5 x g = some (1, g) ∧ C3_next (d + 2) 5 g = some (b, g') ∧ C9_takes (D + 6) 347 x k = some k' ∧ zt_rf g g' ∧ zm_rF k k' ∧ ((b = 1 ∧ ∃ f' t' E', zt_gd T n g' k' f' t' E') ∨ (b = 0 ∧ zt_bd T n g' k'))) ∨ (¬ (t = 3 ∧ T f = x) ∧ ∃ (g' k' : zv_H), C3_isSign (d + 1) 5 x g = some (0, g) ∧ C3_fail (d + 1) 5 2 g = some (0, g') ∧ C9_takes (D + 6) 347 x k = some k' ∧ zt_rf g g' ∧ zm_F [] [30, 31] k k' ∧ zt_bd T n g' k') := by
  have es := zt_isSignC (d := d) G x
  by_cases h : t = 3 ∧ T f = x
  · rw [if_pos h] at es
    obtain ⟨b, g', k', a1, a2, a3, a4, a5⟩ := zj_nx (d := d) (D := D) G (by rw [h.1]; decide)
    exact Or.inl ⟨h.1, h.2, b, g', k', es, a1, zt_takesR1 G hx h a2, a3, a4, a5⟩
  · rw [if_neg h] at es
    exact Or.inr ⟨h, _, _, es, zt_fail (zt_tx_L (zt_gd_X G)) 2, zt_takesR0 G hx h, zt_rf_fail g 2, zt_ms_F 0 2 k, zj_fail G (by decide)⟩
/-- a number taken, or both fail -/
theorem zj_number {d D : Nat} (G : zt_gd T n g k f t E) : (t = 2 ∧ ∃ (b : Int) (g' k' : zv_H), zv_I g 5 7 = zt_nv T f (E - f) ∧ C3_next (d + 2) 5 g = some (b, g') ∧ C9_takesNumber (D + 6) 347 k = some (zt_nv T f (E - f), k') ∧ zt_rf g g' ∧ zm_rF k k' ∧ ((b = 1 ∧ ∃ f' t' E', zt_gd T n g' k' f' t' E') ∨ (b = 0 ∧ zt_bd T n g' k'))) ∨ (t ≠ 2 ∧ ∃ (v : Int) (g' k' : zv_H), C3_fail (d + 1) 5 2 g = some (0, g') ∧ C9_takesNumber (D + 6) 347 k = some (v, k') ∧ zt_rf g g' ∧ zm_F [] [30, 31] k k' ∧ zt_bd T n g' k') := by
  have hM := zt_ty_M (zt_gd_Y G)
  have r := zt_gd_r G
  by_cases h : t = 2
  · obtain ⟨b, g', k', a1, a2, a3, a4, a5⟩ := zj_nx (d := d) (D := D) G (by rw [h]; decide)
    refine Or.inl ⟨h, b, g', k', zt_gd_c2 G h, a1, lC9_takesNumber (zm_ob hM) ?_, a3, a4, a5⟩
    rw [qE9_takesNumber, zm_e (zm_gI hM 34), r.2.1, if_pos (show (t : Int) = 2 by rw [h]; rfl), qL9_takesNumber_14, zm_e (zt_must hM 1 2), zt_ms_1 (by decide), zm_e (zm_gI hM 35), r.2.2.2.1 h, zm_e (zm_gI hM 30), zt_gd_f2 G, if_pos rfl, zm_e a2]
  · have hM2 := zm_F_M (zt_ms_F 0 2 k) hM
    have bd := zj_fail G (w := 2) (by decide)
    have e4 : ¬ ((2 : Int) = 2 ∧ zv_I k 347 34 = 4) := fun q => zt_gd_t4 G (Int.ofNat.inj (r.2.1.symm.trans q.2))
    have e30 : ¬ zv_I (zt_ms 0 2 k) 347 30 = 0 := by
      rw [zt_ms_0 (zt_gd_f2 G), if_neg e4, zy_In _ _ (fun q => absurd q.2 (by decide)), zy_I]
      decide
    refine Or.inr ⟨h, zv_I (zt_ms 0 2 k) 347 35, _, _, zt_fail (zt_tx_L (zt_gd_X G)) 2, lC9_takesNumber (zm_ob hM) ?_, zt_rf_fail g 2, zt_ms_F 0 2 k, bd⟩
    rw [qE9_takesNumber, zm_e (zm_gI hM 34), r.2.1, if_neg (show ¬ (t : Int) = 2 from fun q => h (Int.ofNat.inj q)), qL9_takesNumber_14, zm_e (zt_must hM 0 2), zm_e (zm_gI hM2 35), zm_e (zm_gI hM2 30), if_neg e30]
/-- behind a fault the reference takes nothing -/
theorem zt_bd_ms (B : zt_bd T n g k) : zt_bd T n g (zt_ms 0 2 k) ∧ 0 < zv_I (zt_ms 0 2 k) 347 30 := by
  have F := zt_ms_F 0 2 k
  have Y' : zt_ty T n (zt_ms 0 2 k) := ⟨zm_F_M F (zt_ty_M (zt_bd_Y B)), zt_ty_n (zt_bd_Y B), (zm_F_g F 36).trans (zt_ty_l (zt_bd_Y B)), fun i hi => by rw [zm_F_a F 366]; exact zt_ty_t (zt_bd_Y B) i hi, zt_ty_b (zt_bd_Y B)⟩
  rcases zt_bd_f B with ⟨q1, q2, q3, q4⟩ | ⟨q1, q2⟩
  · have e30 : zv_I (zt_ms 0 2 k) 347 30 = 1 := by
      rw [zt_ms_0 q2, if_pos (show (2 : Int) = 2 ∧ zv_I k 347 34 = 4 from ⟨rfl, q3⟩), zy_In _ _ (fun q => absurd q.2 (by decide)), zy_I]
    have e31 : zv_I (zt_ms 0 2 k) 347 31 = zv_I k 347 32 := by
      rw [zt_ms_0 q2, zy_I]
    exact ⟨⟨zt_bd_X B, Y', zt_bd_f0 B, Or.inr ⟨e30.trans q1.symm, e31.trans q4.symm⟩⟩, by rw [e30]; decide⟩
  · have p : 0 < zv_I k 347 30 := by rw [q1]; exact zt_bd_f0 B
    rw [zt_ms_f p]
    exact ⟨B, p⟩
end
