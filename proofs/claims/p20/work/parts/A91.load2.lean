/-! ===== the tie: a TEXT is loaded ===== -/
/-- the class, up to its first TOKEN -/
theorem zt_C3_begin {d : Nat} {g : zv_H} (gL : zt_L g) {n : Int} (hn : n ≤ zv_I g 5 2) : ∃ g1, E3_begin (d + 2) 5 n g = ((C3_next (d + 2) 5 g1).bind fun q7 => (some (none, q7.2) : zv_O)) ∧ g1.1 = g.1 ∧ g1.2.2 = g.2.2 ∧ (∀ r k, r ≠ 5 → zv_I g1 r k = zv_I g r k) ∧ (∀ k, 10 ≤ k → zv_I g1 5 k = zv_I g 5 k) ∧ zv_I g1 5 3 = n ∧ zv_I g1 5 2 = 0 ∧ zv_I g1 5 8 = 0 ∧ zv_I g1 5 9 = -1 ∧ zv_I g1 5 6 = 0 := by
  have em : min n (zv_I g 5 2) = n := Int.min_eq_left hn
  refine ⟨zv_sI (zv_sI (zv_sI (zv_sI (zv_sI g 5 3 n) 5 2 0) 5 8 0) 5 9 (-1)) 5 6 0, ?_, rfl, rfl, fun r k hr => ?_, fun k hk => ?_, ?_, ?_, ?_, ?_, zy_I _ _ _ _⟩
  · rw [qE3_begin, zm_e (zl_gI gL zt_lay5 2), em, zm_e (zl_pI gL zt_lay5 3 _), zm_e (zl_pI (g := zv_sI g 5 3 n) gL zt_lay5 2 _), zm_e (zl_pI (g := zv_sI (zv_sI g 5 3 n) 5 2 0) gL zt_lay5 8 _), zm_e (zl_pI (g := zv_sI (zv_sI (zv_sI g 5 3 n) 5 2 0) 5 8 0) gL zt_lay5 9 _), zm_e (zl_pI (g := zv_sI (zv_sI (zv_sI (zv_sI g 5 3 n) 5 2 0) 5 8 0) 5 9 (-1)) gL zt_lay5 6 _)]
  · rw [zy_In _ _ (fun q => hr q.1), zy_In _ _ (fun q => hr q.1), zy_In _ _ (fun q => hr q.1), zy_In _ _ (fun q => hr q.1), zy_In _ _ (fun q => hr q.1)]
  · rw [zy_In _ _ (fun q => by omega), zy_In _ _ (fun q => by omega), zy_In _ _ (fun q => by omega), zy_In _ _ (fun q => by omega), zy_In _ _ (fun q => by omega)]
  · rw [zy_In _ _ (fun q => absurd q.2 (by decide)), zy_In _ _ (fun q => absurd q.2 (by decide)), zy_In _ _ (fun q => absurd q.2 (by decide)), zy_In _ _ (fun q => absurd q.2 (by decide)), zy_I]
  · rw [zy_In _ _ (fun q => absurd q.2 (by decide)), zy_In _ _ (fun q => absurd q.2 (by decide)), zy_In _ _ (fun q => absurd q.2 (by decide)), zy_I]
  · rw [zy_In _ _ (fun q => absurd q.2 (by decide)), zy_In _ _ (fun q => absurd q.2 (by decide)), zy_I]
  · rw [zy_In _ _ (fun q => absurd q.2 (by decide)), zy_I]
section
variable {a b m : Nat} {u : Nat → Nat → Int}
/-- behind the LINES: the end of the class's load, of the reference's -/
theorem zt_117_1 {d : Nat} {c0 : Nat → Int} {k0 g k : zv_H} (o : zt_lo1 a b u c0 k0 g k) : L8_load_117 (d + 7) 1 g = some (some (zv_i (zm_nst (zv_I k 348))), zv_sI (zv_sR (zv_sR g 1 3 b) 1 4 a) 1 6 0) := by
  have gL := zt_L_A (zt_lo1_A o)
  have l1 : zv_lay 1 = (1, 8) := rfl
  have U := zt_H_U (zt_lo1_H o)
  have e5 : zv_gR g 1 8 2 = some 5 := zl_gF gL l1 2 4
  have L3 : zt_L (zv_sR (zv_sR g 1 3 b) 1 4 a) := zl_sR (zl_sR gL (fun _ => rfl) (by decide) (by decide)) (fun _ => rfl) (by decide) (by decide)
  have L2 : zt_L (zv_sR g 1 3 b) := zl_sR gL (fun _ => rfl) (by decide) (by decide)
  have r3 : zv_R (zv_sR (zv_sR g 1 3 b) 1 4 a) 1 3 = b := by
    show (if (1 = 1 ∧ 3 = 4) then a else zv_R (zv_sR g 1 3 b) 1 3) = b
    rw [if_neg (by decide)]
    show (if (1 = 1 ∧ 3 = 3) then b else zv_R g 1 3) = b
    exact if_pos (by decide)
  have eg := zt_given (d := d + 6) L3 (zm_nst (zv_I k 348))
  rw [qL8_load_117, zm_e e5, zm_e (zl_gI gL zt_lay5 8), zt_lo1_f8 o, if_pos rfl, zm_e (zl_gR gL l1 3), zm_e (zl_gR gL l1 4), zt_lo1_r3 o, zt_lo1_r4 o, zm_e (zl_pR gL l1 3 _), zm_e (zl_pR L2 l1 4 _), zm_e (zl_gR L3 l1 3), r3, zm_e (zl_gI L3 (zt_U_la U) 12), show zv_I (zv_sR (zv_sR g 1 3 b) 1 4 a) b 12 = zm_nst (zv_I k 348) from (show zv_I g b 12 = zm_nst (zv_I k 348) from zt_U_ct U), zm_e eg]
theorem zt_117_0 {d : Nat} {c0 T : Nat → Int} {n : Nat} {k0 g k : zv_H} (o : zt_lo0 a b u c0 T n k0 g k) : L8_load_117 (d + 7) 1 g = some (some (zv_i (-1)), zv_sI g 1 6 9) := by
  have gL := zt_L_A (zt_lo0_A o)
  have e5 : zv_gR g 1 8 2 = some 5 := zl_gF gL (show zv_lay 1 = (1, 8) from rfl) 2 4
  have f0 := zt_bd_f0 (zt_lo0_B o)
  rw [qL8_load_117, zm_e e5, zm_e (zl_gI gL zt_lay5 8), if_neg (by omega), zm_e (zt_refused (d := d + 6) gL 9)]
theorem zt_203_1 {D : Nat} {k : zv_H} (hM : zm_M k) (W : zm_W (zv_I k 348)) (z : zv_I k 347 30 = 0) : ∃ k', L9_load_203 (D + 11) 347 k = some (some (zv_i (zm_nst (zv_I k 348))), k') ∧ zm_F [] [3, 27, 28, 29] k k' ∧ zv_I k' 347 27 = 0 ∧ zv_I k' 347 28 = 0 ∧ zv_I k' 347 29 = -1 := by
  have F : zm_F [] [3, 27, 28, 29] k (zv_sI (zv_sI (zv_sI (zv_sI k 347 27 0) 347 28 0) 347 29 (-1)) 347 3 0) := zm_F_f (zm_F_f (zm_F_f (zm_F_f (zm_F_r _ _ k) rfl _) rfl _) rfl _) rfl _
  have c : zv_I (zv_sI (zv_sI (zv_sI (zv_sI k 347 27 0) 347 28 0) 347 29 (-1)) 347 3 0) 348 = zv_I k 348 := zm_F_a F 348
  have m1 : zm_M (zv_sI k 347 27 0) := hM
  have m2 : zm_M (zv_sI (zv_sI k 347 27 0) 347 28 0) := hM
  have m3 : zm_M (zv_sI (zv_sI (zv_sI k 347 27 0) 347 28 0) 347 29 (-1)) := hM
  have m4 : zm_M (zv_sI (zv_sI (zv_sI (zv_sI k 347 27 0) 347 28 0) 347 29 (-1)) 347 3 0) := hM
  have z1 : zv_I (zv_sI k 347 27 0) 347 30 = 0 := (zy_In _ _ (fun q => absurd q.2 (by decide))).trans z
  have z2 : zv_I (zv_sI (zv_sI k 347 27 0) 347 28 0) 347 30 = 0 := (zy_In _ _ (fun q => absurd q.2 (by decide))).trans z1
  have z4 : zv_I (zv_sI (zv_sI (zv_sI (zv_sI k 347 27 0) 347 28 0) 347 29 (-1)) 347 3 0) 347 30 = 0 := (zy_In _ _ (fun q => absurd q.2 (by decide))).trans ((zy_In _ _ (fun q => absurd q.2 (by decide))).trans z2)
  refine ⟨_, ?_, F, ?_, ?_, ?_⟩
  · rw [qL9_load_203, zm_e (zm_pI hM 27 0), zm_e (zm_gI m1 30), z1, zm_e (zm_pI m1 28 0), zm_e (zm_gI m2 30), z2, if_pos (by decide), qL9_load_232, zm_e (zm_pI m2 29 (-1)), zm_e (zm_pI m3 3 0), zm_e (zm_gI m4 30), z4, if_pos rfl, zm_e (zm_states m4 (D + 9) (by rw [c]; exact W.1.1)), c]
  · rw [zy_In _ _ (fun q => absurd q.2 (by decide)), zy_In _ _ (fun q => absurd q.2 (by decide)), zy_In _ _ (fun q => absurd q.2 (by decide)), zy_I]
  · rw [zy_In _ _ (fun q => absurd q.2 (by decide)), zy_In _ _ (fun q => absurd q.2 (by decide)), zy_I]
  · rw [zy_In _ _ (fun q => absurd q.2 (by decide)), zy_I]
theorem zt_203_0 {D : Nat} {k : zv_H} (hM : zm_M k) (p : 0 < zv_I k 347 30) : ∃ k', L9_load_203 (D + 11) 347 k = some (some (zv_i (-1)), k') ∧ zm_F [348] [3, 27, 28, 29] k k' ∧ (∀ x : Nat, x < 4236 → zv_I k' 348 x = zv_I k 349 x) ∧ zv_I k' 347 27 = 0 ∧ zv_I k' 347 28 = zv_I k 347 30 ∧ zv_I k' 347 29 = zv_I k 347 31 := by
  have F : zm_F [] [3, 27, 28, 29] k (zv_sI (zv_sI (zv_sI (zv_sI k 347 27 0) 347 28 (zv_I k 347 30)) 347 29 (zv_I k 347 31)) 347 3 0) := zm_F_f (zm_F_f (zm_F_f (zm_F_f (zm_F_r _ _ k) rfl _) rfl _) rfl _) rfl _
  have m1 : zm_M (zv_sI k 347 27 0) := hM
  have m2 : zm_M (zv_sI (zv_sI k 347 27 0) 347 28 (zv_I k 347 30)) := hM
  have m3 : zm_M (zv_sI (zv_sI (zv_sI k 347 27 0) 347 28 (zv_I k 347 30)) 347 29 (zv_I k 347 31)) := hM
  have m4 : zm_M (zv_sI (zv_sI (zv_sI (zv_sI k 347 27 0) 347 28 (zv_I k 347 30)) 347 29 (zv_I k 347 31)) 347 3 0) := hM
  have z1 : zv_I (zv_sI k 347 27 0) 347 30 = zv_I k 347 30 := zy_In _ _ (fun q => absurd q.2 (by decide))
  have z2 : zv_I (zv_sI (zv_sI k 347 27 0) 347 28 (zv_I k 347 30)) 347 30 = zv_I k 347 30 := (zy_In _ _ (fun q => absurd q.2 (by decide))).trans z1
  have y2 : zv_I (zv_sI (zv_sI k 347 27 0) 347 28 (zv_I k 347 30)) 347 31 = zv_I k 347 31 := (zy_In _ _ (fun q => absurd q.2 (by decide))).trans (zy_In _ _ (fun q => absurd q.2 (by decide)))
  have z4 : zv_I (zv_sI (zv_sI (zv_sI (zv_sI k 347 27 0) 347 28 (zv_I k 347 30)) 347 29 (zv_I k 347 31)) 347 3 0) 347 30 = zv_I k 347 30 := (zy_In _ _ (fun q => absurd q.2 (by decide))).trans ((zy_In _ _ (fun q => absurd q.2 (by decide))).trans z2)
  have w27 : zv_I (zv_sI (zv_sI (zv_sI (zv_sI k 347 27 0) 347 28 (zv_I k 347 30)) 347 29 (zv_I k 347 31)) 347 3 0) 347 27 = 0 := by rw [zy_In _ _ (fun q => absurd q.2 (by decide)), zy_In _ _ (fun q => absurd q.2 (by decide)), zy_In _ _ (fun q => absurd q.2 (by decide)), zy_I]
  have w28 : zv_I (zv_sI (zv_sI (zv_sI (zv_sI k 347 27 0) 347 28 (zv_I k 347 30)) 347 29 (zv_I k 347 31)) 347 3 0) 347 28 = zv_I k 347 30 := by rw [zy_In _ _ (fun q => absurd q.2 (by decide)), zy_In _ _ (fun q => absurd q.2 (by decide)), zy_I]
  have w29 : zv_I (zv_sI (zv_sI (zv_sI (zv_sI k 347 27 0) 347 28 (zv_I k 347 30)) 347 29 (zv_I k 347 31)) 347 3 0) 347 29 = zv_I k 347 31 := by rw [zy_In _ _ (fun q => absurd q.2 (by decide)), zy_I]
  have top : L9_load_203 (D + 11) 347 k = L9_load_254 (D + 11) 347 0 (zv_sI (zv_sI (zv_sI (zv_sI k 347 27 0) 347 28 (zv_I k 347 30)) 347 29 (zv_I k 347 31)) 347 3 0) := by
    rw [qL9_load_203, zm_e (zm_pI hM 27 0), zm_e (zm_gI m1 30), z1, zm_e (zm_pI m1 28 _), zm_e (zm_gI m2 30), z2, if_neg (by omega), zm_e (zm_gI m2 31), y2, qL9_load_232, zm_e (zm_pI m2 29 _), zm_e (zm_pI m3 3 0), zm_e (zm_gI m4 30), z4, if_neg (by omega)]
  generalize zv_sI (zv_sI (zv_sI (zv_sI k 347 27 0) 347 28 (zv_I k 347 30)) 347 29 (zv_I k 347 31)) 347 3 0 = k4 at F m4 w27 w28 w29 top
  obtain ⟨k5, e5, F5, x5⟩ := zm_load254 (D + 11) 4236 0 k4 rfl m4 (fun x hx => absurd hx (Nat.not_lt_zero x))
  have m5 := zm_F_M F5 m4
  have F6 : zm_F [] [3] k5 (zv_sI k5 347 3 9) := zm_F_f (zm_F_r _ _ k5) rfl _
  refine ⟨_, ?_, zm_F_t (zm_F_s F rfl rfl) (zm_F_t (zm_F_s F5 rfl rfl) (zm_F_s F6 rfl rfl)), fun x hx => ?_, ?_, ?_, ?_⟩
  · rw [top, show L9_load_254 (D + 11) 347 0 k4 = _ from e5, qL9_load_254, if_neg (by decide), zm_e (zm_refuse m5 (D + 10) 9)]
  · rw [zm_F_a F6 348, x5 x hx, zm_F_a F 349]
  · rw [zm_F_g F6 27, zm_F_g F5 27, w27]
  · rw [zm_F_g F6 28, zm_F_g F5 28, w28]
  · rw [zm_F_g F6 29, zm_F_g F5 29, w29]
end
