/-! ===== the tie: acts, as they are called ===== -/
theorem zt_answered {d : Nat} {g : zv_H} (gL : zt_L g) (v : Int) : ∃ st, C8_answered (d + 2) 1 v g = some ((if v < 0 then -1 else v), zv_sI g 1 6 st) := by
  have l1 : zv_lay 1 = (1, 8) := rfl
  by_cases c : v < 0
  · refine ⟨zv_w (-v), lC8_answered (zl_ob gL l1) ?_⟩
    rw [qE8_answered, if_pos c, if_pos c, zm_e (zt_refused (d := d) gL _)]
  · refine ⟨0, lC8_answered (zl_ob gL l1) ?_⟩
    rw [qE8_answered, if_neg c, if_neg c, zm_e (zt_given (d := d) gL _)]
theorem zt_a1_e {v v' : Int} (h : zt_a1 v v') : (if v < 0 then -1 else v) = v' := by
  rcases h with ⟨h1, h2⟩ | ⟨h1, h2⟩
  · rw [if_pos h1, h2]
  · rw [if_neg (by omega), h2]
section
variable {a b m : Nat} {g k : zv_H}
/-- the reference's cells change, but no number -/
theorem zt_GG_F (S : zt_GG m a b g k) {A B : List Nat} {k' : zv_H} (F : zm_F A B k k') (h1 : A.contains 348 = false := by rfl) (h2 : A.contains 366 = false := by rfl) (h3 : A.contains 361 = false := by rfl) (b0 : B.contains 20 = false := by rfl) (b1 : B.contains 27 = false := by rfl) (b2 : B.contains 28 = false := by rfl) (b3 : B.contains 29 = false := by rfl) : zt_GG m a b g k' := by
  refine ⟨zt_GG_r S, zt_GG_s S, zt_GG_ab S, by rw [zm_F_a F 348 h1]; exact zt_GG_H S, zt_GG_N S, fun i hi => ?_, by rw [zm_F_a F 348 h1]; exact zt_GG_n1 S, by rw [zm_F_a F 348 h1]; exact zt_GG_n2 S, by rw [zm_F_g F 28 b2, zm_F_g F 29 b3]; exact zt_GG_fl S, zt_wt_k (zt_GG_wt S) (fun _ _ _ => rfl) (zm_F_g F 20 b0) (zm_F_a F 361 h3)⟩
  rw [zm_F_g F 27 b1] at hi
  rw [zm_F_a F 366 h2]
  exact zt_GG_tp S i hi
/-- an act on both -/
theorem zp_Z (S : zt_GG m a b g k) {y : Int} (hy : y ≤ 48) {q q' : Int × zv_H} (Z : zt_Z a y g k q q') : zt_GG (m + 1) a b q.2 q'.2 := by
  have lab := zt_lab (zt_GG_ab S)
  have lo := zt_k_lo lab.1 (zt_Z_k Z)
  have F := zt_Z_F Z
  have n1 := zt_GG_n1 S
  have n2 := zt_GG_n2 S
  have z1 := zt_Z_g1 Z
  have z2 := zt_Z_g2 Z
  refine ⟨(lo.2.2.2 3).trans (zt_GG_r S), (lo.2.2.2 4).trans (zt_GG_s S), zt_GG_ab S, zt_Z_H Z, fun i hi => ?_, fun i hi => ?_, by omega, by omega, ?_, zt_wt_k (zt_GG_wt S) (fun r i hr => zt_k_34 (zt_Z_k Z) hr i) (zm_F_g F 20) (zm_F_a F 361)⟩
  · have sl := zc_stl lab.2.1 hi
    exact ((zt_Z_k Z).2.2.1 _ 0 (zt_x5 sl.1 (by decide)) (fun q => lab.2.2 (q.2.2.symm.trans sl.2.1))).trans (zt_GG_N S i hi)
  · rw [zm_F_g F 27] at hi
    rw [lo.2.1 i, zm_F_a F 366]
    exact zt_GG_tp S i hi
  · rw [lo.2.2.1 7 (by decide), lo.1 8, lo.1 9, zm_F_g F 28, zm_F_g F 29]
    exact zt_GG_fl S
/-- an act, called -/
theorem zp_act (hA : zc_A g) (S : zt_GG m a b g k) {A B : List Nat} {k1 : zv_H} (F1 : zm_F A B k k1) {y : Int} {q q' : Int × zv_H} (Z : zt_Z a y g k1 q q') (hy : y ≤ 48) {d D : Nat} {E : zv_O} {C : Option (Int × zv_H)} {E' : zv_O} {C' : Option (Int × zv_H)} (eE : E = ((C8_answered (d + 27) 1 q.1 q.2).bind fun q3 => some (some (zv_i q3.1), q3.2))) (lC : ∀ {v : Int} {g' : zv_H}, E = some (some (zv_i v), g') → C = some (v, g')) (eE' : E' = some (some (zv_i q'.1), q'.2)) (lC' : ∀ {v : Int} {k' : zv_H}, E' = some (some (zv_i v), k') → C' = some (v, k')) (h1 : A.contains 348 = false := by rfl) (h2 : A.contains 366 = false := by rfl) (h3 : A.contains 361 = false := by rfl) (b0 : B.contains 20 = false := by rfl) (b1 : B.contains 27 = false := by rfl) (b2 : B.contains 28 = false := by rfl) (b3 : B.contains 29 = false := by rfl) : ∃ v g' k', C = some (v, g') ∧ C' = some (v, k') ∧ zt_GG (m + 1) a b g' k' := by
  have _ := hA
  have _ := D
  have A2 := (zt_Z_X Z).2
  obtain ⟨st, ea⟩ := zt_answered (d := d + 25) (zt_L_A A2) q.1
  rw [zm_e ea] at eE
  dsimp only at eE
  rw [zt_a1_e (zt_Z_a1 Z)] at eE
  exact ⟨q'.1, _, q'.2, lC eE, lC' eE', zt_GG_st (zp_Z (zt_GG_F S F1 h1 h2 h3 b0 b1 b2 b3) hy Z) st (zm_F_r [] [] _) rfl rfl rfl rfl⟩
/-- the reference begins to answer -/
theorem zp_is (hM : zm_M k) : ∃ k1, (∀ (D : Nat), C9_is (D + 1) 347 0 k = some (1, k1)) ∧ zm_F [] [3, 4] k k1 := ⟨zv_sI (zv_sI k 347 4 0) 347 3 0, fun D => by rw [zm_is hM D 0, if_pos rfl], zm_F_f (zm_F_f (zm_F_r _ _ k) rfl _) rfl _⟩
theorem zp_e3 (hA : zc_A g) (S : zt_GG m a b g k) : zv_gR g 1 8 3 = some a := (zl_gR (zt_L_A hA) (show zv_lay 1 = (1, 8) from rfl) 3).trans (by rw [zt_GG_r S])
theorem zp_b2 (S : zt_GG m a b g k) (hm : m ≤ 100000) : zv_I k 348 2 < 1999999000 ∧ (0 ≤ zv_I k 348 1 ∧ zv_I k 348 1 < 1999999000) := by
  have n1 := zt_GG_n1 S
  have n2 := zt_GG_n2 S
  omega
theorem zp_cut {d D : Nat} (hA : zc_A g) (I : zm_MI k) (S : zt_GG m a b g k) (hm : m ≤ 100000) {place many : Int} (rp : zv_rg place) (rm : zv_rg many) : ∃ v g' k', C8_cut (d + 28) 1 place many g = some (v, g') ∧ C9_cut (D + 28) 347 place many k = some (v, k') ∧ zt_GG (m + 1) a b g' k' := by
  obtain ⟨k1, i1, F1⟩ := zp_is I.1
  have S1 := zt_GG_F S F1
  have hM1 := zm_F_M F1 I.1
  have b0 := (zp_b2 S1 hm).1
  have b2 : zv_I k1 348 2 < 2000000000 := by omega
  obtain ⟨q, q', h1, h2, Z, _⟩ := zj_cut (d := d + 23) (D := D + 21) hA (zt_GG_H S1) hM1 rfl b2 rp rm
  refine zp_act hA S F1 Z (by decide) (d := d) (D := D) ?_ (fun h => lC8_cut (zl_ob (zt_L_A hA) (show zv_lay 1 = (1, 8) from rfl)) h) ?_ (fun h => lC9_cut (zm_ob I.1) h)
  · rw [qE8_cut, zm_e (zp_e3 hA S), zm_e h1]
  · rw [qE9_cut, zm_e (i1 (D + 26)), zm_e h2]
theorem zp_undo {d D : Nat} (hA : zc_A g) (I : zm_MI k) (S : zt_GG m a b g k) (hm : m ≤ 100000)  : ∃ v g' k', C8_undo (d + 28) 1 g = some (v, g') ∧ C9_undo (D + 28) 347 k = some (v, k') ∧ zt_GG (m + 1) a b g' k' := by
  obtain ⟨k1, i1, F1⟩ := zp_is I.1
  have S1 := zt_GG_F S F1
  have hM1 := zm_F_M F1 I.1
  have b0 := (zp_b2 S1 hm).1
  have b2 : zv_I k1 348 2 < 2000000000 := by omega
  obtain ⟨q, q', h1, h2, Z⟩ := zj_undo (d := d + 24) (D := D + 24) hA (zt_GG_H S1) hM1 rfl b2
  refine zp_act hA S F1 Z (by decide) (d := d) (D := D) ?_ (fun h => lC8_undo (zl_ob (zt_L_A hA) (show zv_lay 1 = (1, 8) from rfl)) h) ?_ (fun h => lC9_undo (zm_ob I.1) h)
  · rw [qE8_undo, zm_e (zp_e3 hA S), zm_e h1]
  · rw [qE9_undo, zm_e (i1 (D + 26)), zm_e h2]
theorem zp_redo {d D : Nat} (hA : zc_A g) (I : zm_MI k) (S : zt_GG m a b g k) (hm : m ≤ 100000)  : ∃ v g' k', C8_redo (d + 28) 1 g = some (v, g') ∧ C9_redo (D + 28) 347 k = some (v, k') ∧ zt_GG (m + 1) a b g' k' := by
  obtain ⟨k1, i1, F1⟩ := zp_is I.1
  have S1 := zt_GG_F S F1
  have hM1 := zm_F_M F1 I.1
  have b0 := (zp_b2 S1 hm).1
  have b2 : zv_I k1 348 2 < 2000000000 := by omega
  obtain ⟨q, q', h1, h2, Z⟩ := zj_redo (d := d + 23) (D := D + 22) hA (zt_GG_H S1) hM1 rfl b2
  refine zp_act hA S F1 Z (by decide) (d := d) (D := D) ?_ (fun h => lC8_redo (zl_ob (zt_L_A hA) (show zv_lay 1 = (1, 8) from rfl)) h) ?_ (fun h => lC9_redo (zm_ob I.1) h)
  · rw [qE8_redo, zm_e (zp_e3 hA S), zm_e h1]
  · rw [qE9_redo, zm_e (i1 (D + 26)), zm_e h2]
theorem zp_go {d D : Nat} (hA : zc_A g) (I : zm_MI k) (S : zt_GG m a b g k) (hm : m ≤ 100000) {s : Int} : ∃ v g' k', C8_go (d + 28) 1 s g = some (v, g') ∧ C9_go (D + 28) 347 s k = some (v, k') ∧ zt_GG (m + 1) a b g' k' := by
  obtain ⟨k1, i1, F1⟩ := zp_is I.1
  have S1 := zt_GG_F S F1
  have hM1 := zm_F_M F1 I.1
  have b0 := (zp_b2 S1 hm).1
  have b2 : zv_I k1 348 2 < 2000000000 := by omega
  obtain ⟨q, q', h1, h2, Z⟩ := zj_go (d := d + 23) (D := D + 22) hA (zt_GG_H S1) hM1 rfl b2 s
  refine zp_act hA S F1 Z (by decide) (d := d) (D := D) ?_ (fun h => lC8_go (zl_ob (zt_L_A hA) (show zv_lay 1 = (1, 8) from rfl)) h) ?_ (fun h => lC9_go (zm_ob I.1) h)
  · rw [qE8_go, zm_e (zp_e3 hA S), zm_e h1]
  · rw [qE9_go, zm_e (i1 (D + 26)), zm_e h2]
theorem zp_withdraw {d D : Nat} (hA : zc_A g) (I : zm_MI k) (S : zt_GG m a b g k) (hm : m ≤ 100000) {s : Int} (rs : zv_rg s) : ∃ v g' k', C8_withdraw (d + 28) 1 s g = some (v, g') ∧ C9_withdraw (D + 28) 347 s k = some (v, k') ∧ zt_GG (m + 1) a b g' k' := by
  obtain ⟨k1, i1, F1⟩ := zp_is I.1
  have S1 := zt_GG_F S F1
  have hM1 := zm_F_M F1 I.1
  have b0 := (zp_b2 S1 hm).1
  have b2 : zv_I k1 348 2 < 2000000000 := by omega
  obtain ⟨q, q', h1, h2, Z⟩ := zj_withdraw (d := d + 22) (D := D + 20) hA (zt_GG_H S1) hM1 rfl b2 rs
  refine zp_act hA S F1 Z (by decide) (d := d) (D := D) ?_ (fun h => lC8_withdraw (zl_ob (zt_L_A hA) (show zv_lay 1 = (1, 8) from rfl)) h) ?_ (fun h => lC9_withdraw (zm_ob I.1) h)
  · rw [qE8_withdraw, zm_e (zp_e3 hA S), zm_e h1]
  · rw [qE9_withdraw, zm_e (i1 (D + 26)), zm_e h2]
theorem zp_restore {d D : Nat} (hA : zc_A g) (I : zm_MI k) (S : zt_GG m a b g k) (hm : m ≤ 100000) {s : Int} (rs : zv_rg s) : ∃ v g' k', C8_restore (d + 28) 1 s g = some (v, g') ∧ C9_restore (D + 28) 347 s k = some (v, k') ∧ zt_GG (m + 1) a b g' k' := by
  obtain ⟨k1, i1, F1⟩ := zp_is I.1
  have S1 := zt_GG_F S F1
  have hM1 := zm_F_M F1 I.1
  have b0 := (zp_b2 S1 hm).1
  have b2 : zv_I k1 348 2 < 2000000000 := by omega
  obtain ⟨q, q', h1, h2, Z⟩ := zj_restore (d := d + 22) (D := D + 20) hA (zt_GG_H S1) hM1 rfl b2 rs
  refine zp_act hA S F1 Z (by decide) (d := d) (D := D) ?_ (fun h => lC8_restore (zl_ob (zt_L_A hA) (show zv_lay 1 = (1, 8) from rfl)) h) ?_ (fun h => lC9_restore (zm_ob I.1) h)
  · rw [qE8_restore, zm_e (zp_e3 hA S), zm_e h1]
  · rw [qE9_restore, zm_e (i1 (D + 26)), zm_e h2]
theorem zp_carry {d D : Nat} (hA : zc_A g) (I : zm_MI k) (S : zt_GG m a b g k) (hm : m ≤ 100000) {s : Int} (rs : zv_rg s) : ∃ v g' k', C8_carry (d + 28) 1 s g = some (v, g') ∧ C9_carry (D + 28) 347 s k = some (v, k') ∧ zt_GG (m + 1) a b g' k' := by
  obtain ⟨k1, i1, F1⟩ := zp_is I.1
  have S1 := zt_GG_F S F1
  have hM1 := zm_F_M F1 I.1
  have b0 := (zp_b2 S1 hm).1
  have b2 : zv_I k1 348 2 < 2000000000 := by omega
  obtain ⟨q, q', h1, h2, Z⟩ := zj_carry (d := d + 21) (D := D + 18) hA (zt_GG_H S1) hM1 rfl b2 rs
  refine zp_act hA S F1 Z (by decide) (d := d) (D := D) ?_ (fun h => lC8_carry (zl_ob (zt_L_A hA) (show zv_lay 1 = (1, 8) from rfl)) h) ?_ (fun h => lC9_carry (zm_ob I.1) h)
  · rw [qE8_carry, zm_e (zp_e3 hA S), zm_e h1]
  · rw [qE9_carry, zm_e (i1 (D + 26)), zm_e h2]
theorem zp_merge {d D : Nat} (hA : zc_A g) (I : zm_MI k) (S : zt_GG m a b g k) (hm : m ≤ 100000) {s : Int} (rs : zv_rg s) : ∃ v g' k', C8_merge (d + 28) 1 s g = some (v, g') ∧ C9_merge (D + 28) 347 s k = some (v, k') ∧ zt_GG (m + 1) a b g' k' := by
  obtain ⟨k1, i1, F1⟩ := zp_is I.1
  have S1 := zt_GG_F S F1
  have hM1 := zm_F_M F1 I.1
  have b0 := (zp_b2 S1 hm).1
  have b2 : zv_I k1 348 2 < 2000000000 := by omega
  obtain ⟨q, q', h1, h2, Z, _⟩ := zj_merge (d := d + 21) (D := D + 18) hA (zt_GG_H S1) hM1 rfl b0 rs
  refine zp_act hA S F1 Z (by decide) (d := d) (D := D) ?_ (fun h => lC8_merge (zl_ob (zt_L_A hA) (show zv_lay 1 = (1, 8) from rfl)) h) ?_ (fun h => lC9_merge (zm_ob I.1) h)
  · rw [qE8_merge, zm_e (zp_e3 hA S), zm_e h1]
  · rw [qE9_merge, zm_e (i1 (D + 26)), zm_e h2]
theorem zp_prune {d D : Nat} (hA : zc_A g) (I : zm_MI k) (S : zt_GG m a b g k) (hm : m ≤ 100000) {n : Int} (rn : zv_rg n) : ∃ v g' k', C8_prune (d + 28) 1 n g = some (v, g') ∧ C9_prune (D + 28) 347 n k = some (v, k') ∧ zt_GG (m + 1) a b g' k' := by
  obtain ⟨k1, i1, F1⟩ := zp_is I.1
  have S1 := zt_GG_F S F1
  have hM1 := zm_F_M F1 I.1
  have b0 := (zp_b2 S1 hm).1
  have b2 : zv_I k1 348 2 < 2000000000 := by omega
  obtain ⟨q, q', h1, h2, Z⟩ := zj_prune (d := d + 24) (D := D + 22) hA (zt_GG_H S1) hM1 rfl rn
  refine zp_act hA S F1 Z (by decide) (d := d) (D := D) ?_ (fun h => lC8_prune (zl_ob (zt_L_A hA) (show zv_lay 1 = (1, 8) from rfl)) h) ?_ (fun h => lC9_prune (zm_ob I.1) h)
  · rw [qE8_prune, zm_e (zp_e3 hA S), zm_e h1]
  · rw [qE9_prune, zm_e (i1 (D + 26)), zm_e h2]
end
