/-! ===== the tie: a fact is read: not, brackets, comparisons; the whole TEST ===== -/
section
variable {b : Nat} {T : Nat → Int} {n : Nat} {g k : zv_H} {f t E : Nat}
/-- places: not, and a fact -/
theorem zt_pl2 {f E f1 le2 f2 y1 : Nat} (h2 : f + 3 ≤ E) (h3 : E ≤ f1) (h4 : y1 = 1 → E + 1 ≤ f1) (h5 : y1 = 1 ∨ y1 = 3) (h6 : f1 + 4 * le2 + (if y1 = 3 then 3 else 1) ≤ f2) : f + 4 * (le2 + 1) + 1 ≤ f2 := by
  rcases h5 with z | z
  · have := h4 z
    rw [if_neg (by omega)] at h6
    omega
  · rw [if_pos z] at h6
    omega
/-- places: a TEST in brackets -/
theorem zt_pl3 {f E f1 le2 f2 y1 f3 E2 : Nat} (h2 : f < E) (h3 : E ≤ f1) (h6 : f1 + 4 * le2 + (if y1 = 3 then 3 else 1) ≤ f2) (h7 : f2 < E2) (h8 : E2 ≤ f3) : f + 4 * le2 + 3 ≤ f3 := by
  split at h6 <;> omega
theorem zt_37 {j : Nat} {v : Int} (h : v = 6 - ((j + 1 : Nat) : Int)) (hj : j ≤ 5) : zv_w (v + 1) = 6 - (j : Int) ∧ zv_w (6 - (j : Int) - 1) = v ∧ v < 6 := by
  rw [zm_w (by omega), zm_w (by omega)]
  omega
theorem zt_lvl {j : Nat} (hj : j ≤ 5) : zv_w ((6 - ((j + 1 : Nat) : Int)) + 1) = 6 - (j : Int) := by
  rw [zm_w (by omega)]
  omega
/-- the level is left -/
theorem zt_up37 {k : zv_H} (hM : zm_M k) (v : Int) : ∃ k', (zv_gI k 347 9 37).bind (fun v8 => (zv_pI k 347 9 37 (zv_w (v8 - 1))).bind fun g9 => (some (none, g9) : zv_O)) = some (none, k') ∧ zm_F [] [37] k k' ∧ zv_I k' 347 37 = zv_w (zv_I k 347 37 - 1) := by
  refine ⟨zv_sI k 347 37 (zv_w (zv_I k 347 37 - 1)), ?_, zm_F_f (zm_F_r _ _ k) rfl _, zy_I _ _ _ _⟩
  rw [zm_e (zm_gI hM 37), zm_e (zm_pI hM 37 _)]
theorem zt_bq_37 {x : Int} {k' : zv_H} (B : zt_bq T n x g k) (F : zm_F [] [37] k k') : zt_bq T n x g k' := ⟨zt_bd_x (zt_bq_B B) rfl rfl (fun _ _ => rfl) (fun _ => rfl) F, fun z => by
  rw [zm_F_g F 30] at z
  rw [zm_F_a F 348]
  exact zt_bq_c B z⟩
/-- one level down: not, or a bracket -/
theorem zj_deep {m d D : Nat} (hb : zv_lay b = (1, 0)) (m6 : m ≤ 6) (hf : ∀ j, m = j + 1 → zt_Pf b T n j) (ht : ∀ j, m = j + 1 → zt_Pt b T n j) (tg : zt_tg b T n g k f t E) (hd : zv_I k 347 37 = 6 - (m : Int)) {a : Int} (ha : (a = 1 ∧ t = 1 ∧ f + 3 ≤ E) ∨ (a = 0 ∧ t = 3)) : ∃ (v : Int) (g' k' : zv_H), L3_fact_30 (3 * m + d + 5) 5 (b + 22) (6 - (m : Int)) a g = some (some (zv_i v), g') ∧ L9_fact_38 (3 * m + D + 6) 347 a k = some (none, k') ∧ zt_to b T n g k f t (2 + 2 * m) (176 + m) v g' k' := by
  have G := zt_tg_G tg
  have gL := zt_tx_L (zt_gd_X G)
  have hM := zt_ty_M (zt_gd_Y G)
  have t0 : t ≠ 0 := by rcases ha with q | q <;> omega
  have ts : t = 1 ∨ t = 3 := by rcases ha with q | q <;> omega
  cases m with
  | zero =>
    have bd := zj_fail G (w := 6) (by decide)
    have e4 : ¬ ((6 : Int) = 2 ∧ zv_I k 347 34 = 4) := fun q => absurd q.1 (by decide)
    have p30 : zv_I (zt_ms 0 6 k) 347 30 = 6 := by
      rw [zt_ms_0 (zt_gd_f2 G), if_neg e4, zy_In _ _ (fun q => absurd q.2 (by decide)), zy_I]
    have hM2 := zm_F_M (zt_ms_F 0 6 k) hM
    refine ⟨0, _, zt_ms 0 6 k, ?_, ?_, zt_tj_rf (zt_rf_fail g 6), zm_F_s (zt_ms_F 0 6 k) rfl rfl, Or.inr ⟨rfl, zt_bq_told bd (by rw [p30]; decide)⟩⟩
    · rw [qL3_fact_30, if_neg (by decide), zm_e (zt_fail gL 6)]
      exact if_pos (Or.inl rfl)
    · rw [qL9_fact_38, zm_e (zm_gI hM 37), hd, if_neg (by decide), qL9_fact_53, zm_e (zt_must hM 0 6), zm_e (zm_gI hM2 30), p30, if_neg (by decide)]
  | succ j =>
    have j5 : j ≤ 5 := by omega
    have h37 := zt_37 hd j5
    -- the reference goes down
    have F0 : zm_F [] [37] k (zv_sI k 347 37 (6 - (j : Int))) := zm_F_f (zm_F_r _ _ k) rfl _
    have d0 : zv_I (zv_sI k 347 37 (6 - (j : Int))) 347 37 = 6 - (j : Int) := zy_I _ _ _ _
    have topR : ∀ {R : zv_O}, ((C9_reads (3 * (j + 1) + D + 6) 347 (zv_sI k 347 37 (6 - (j : Int)))).bind fun g5 => if a = 0 then (C9_test (3 * (j + 1) + D + 6) 347 g5).bind fun g6 => (C9_takes (3 * (j + 1) + D + 6) 347 93 g6).bind fun g7 => (zv_gI g7 347 9 37).bind fun v8 => (zv_pI g7 347 9 37 (zv_w (v8 - 1))).bind fun g9 => (some (none, g9) : zv_O) else (C9_fact (3 * (j + 1) + D + 6) 347 g5).bind fun g10 => (C9_emits (3 * (j + 1) + D + 6) 347 (-1) g10).bind fun g11 => (zv_gI g11 347 9 37).bind fun v12 => (zv_pI g11 347 9 37 (zv_w (v12 - 1))).bind fun g13 => some (none, g13)) = R → L9_fact_38 (3 * (j + 1) + D + 6) 347 a k = R := fun {R} hR => by
      rw [qL9_fact_38, zm_e (zm_gI hM 37), if_pos h37.2.2, qL9_fact_53, zm_e (zt_must hM 1 6), zt_ms_1 (by decide), zm_e (zm_gI hM 30), zt_gd_f2 G, if_pos (by decide), zm_e (zm_gI hM 37), h37.1, zm_e (zm_pI hM 37 _)]
      exact hR
    have G0 : zt_gd T n g (zv_sI k 347 37 (6 - (j : Int))) f t E := zt_gd_x G rfl rfl (fun _ _ => rfl) (fun _ => rfl) F0
    have tg0 : zt_tg b T n g (zv_sI k 347 37 (6 - (j : Int))) f t E := ⟨G0, zm_K_F (zt_tg_K tg) F0, zt_tg_S tg, zt_tg_c0 tg, zt_tg_c4 tg⟩
    have F0' : zm_F [348] [30, 31, 32, 33, 34, 35, 37, 38] k (zv_sI k 347 37 (6 - (j : Int))) := zm_F_s F0 rfl rfl
    have c348 : zv_I (zv_sI k 347 37 (6 - (j : Int))) 348 = zv_I k 348 := zm_F_a F0 348
    generalize zv_sI k 347 37 (6 - (j : Int)) = k0 at F0 F0' d0 topR G0 tg0 c348
    have hM0 := zm_F_M F0 hM
    obtain ⟨v1, g1, k1, n1, r1, f1, F1, o1⟩ := zj_nx2 (d := 3 * (j + 1) + d + 3) (D := 3 * (j + 1) + D + 1) G0 t0
    have gL1 := zt_L_12 gL f1.1 f1.2.1
    have hM1 := zm_F_M F1 hM0
    have J1 : zt_tj b g g1 := zt_tj_rf f1
    have F01 : zm_F [348] [30, 31, 32, 33, 34, 35, 37, 38] k k1 := zm_F_t F0' (zm_F_s F1 rfl rfl)
    rw [zm_e r1] at topR
    have topC : ∀ {R : zv_O}, (if v1 = 0 then some (some (zv_i 0), g1) else if a = 0 then (C3_test (3 * (j + 1) + d + 5) 5 (b + 22) (6 - (j : Int)) g1).bind fun q2 => if q2.1 = 0 then some (some (zv_i 0), q2.2) else (C3_isSign (3 * (j + 1) + d + 5) 5 93 q2.2).bind fun q3 => if q3.1 = 0 then (C3_fail (3 * (j + 1) + d + 5) 5 2 q3.2).bind fun q4 => if q4.1 = 0 ∨ q4.1 = 1 then some (some (zv_i q4.1), q4.2) else none else (C3_next (3 * (j + 1) + d + 5) 5 q3.2).bind fun q5 => if q5.1 = 0 ∨ q5.1 = 1 then some (some (zv_i q5.1), q5.2) else none else (C3_fact (3 * (j + 1) + d + 5) 5 (b + 22) (6 - (j : Int)) g1).bind fun q6 => (C1_add (3 * (j + 1) + d + 5) (b + 22) 18 0 q6.2).bind fun g7 => if q6.1 = 0 ∨ q6.1 = 1 then some (some (zv_i q6.1), g7) else none) = R → L3_fact_30 (3 * (j + 1) + d + 5) 5 (b + 22) (6 - ((j + 1 : Nat) : Int)) a g = R := fun {R} hR => by
      rw [qL3_fact_30, if_pos (by omega), zm_e n1, zt_lvl j5]
      exact hR
    rcases o1 with ⟨w1, f1', t1', E1', G1, l1⟩ | ⟨w1, B1⟩
    rotate_left
    · -- no TOKEN
      rw [if_pos w1] at topC
      have B1' := zt_bd_ms B1
      have hM2 := zm_F_M (zt_ms_F 0 2 k1) hM1
      have Fm : zm_F [348] [30, 31, 32, 33, 34, 35, 37, 38] k (zt_ms 0 2 k1) := zm_F_t F01 (zm_F_s (zt_ms_F 0 2 k1) rfl rfl)
      have tb := zt_test_b (D := 3 * j + D) B1
      have fb := zt_fact_b (D := 3 * j + D + 2) B1
      rw [show 3 * j + D + 9 = 3 * (j + 1) + D + 6 by omega] at tb
      rw [show 3 * j + D + 2 + 7 = 3 * (j + 1) + D + 6 by omega] at fb
      by_cases c : a = 0
      · rw [if_pos c, zm_e tb, zm_e (zt_takes_b (D := 3 * (j + 1) + D) B1'.1 93), zt_ms_f B1'.2] at topR
        obtain ⟨k3, e3, F3, _⟩ := zt_up37 hM2 0
        exact ⟨0, g1, k3, topC rfl, topR e3, J1, zm_F_t Fm (zm_F_s F3 rfl rfl), Or.inr ⟨rfl, zt_bq_37 (zt_bq_told B1'.1 B1'.2) F3⟩⟩
      · rw [if_neg c, zm_e fb] at topR
        obtain ⟨k3, e3, F3, B3⟩ := zt_emits_b (d := 3 * (j + 1) + D + 5) (zt_bq_told (x := 0) B1'.1 B1'.2) (by decide) (-1)
        rw [zm_e e3] at topR
        obtain ⟨k4, e4, F4, _⟩ := zt_up37 (zm_F_M F3 hM2) 0
        exact ⟨0, g1, k4, topC rfl, topR e4, J1, zm_F_t Fm (zm_F_t (zm_F_s F3 rfl rfl) (zm_F_s F4 rfl rfl)), Or.inr ⟨rfl, zt_bq_37 (zt_bq_told (zt_bq_B B3) (by rw [zm_F_g F3 30]; exact B1'.2)) F4⟩⟩
    rw [if_neg (by omega)] at topC
    have tg1 := zt_tg_rd hb tg0 G1 l1 f1 F1
    have d1 : zv_I k1 347 37 = 6 - (j : Int) := by rw [zm_F_g F1 37, d0]
    have e348 : zv_I k1 348 = zv_I k 348 := (zm_F_a F1 348).trans c348
    have gf := (zt_gd_f G).2.2.2 t0
    rcases ha with ⟨a1, t1, fE⟩ | ⟨a0, t3⟩
    · -- not
      rw [if_neg (by omega)] at topC topR
      obtain ⟨v2, g2, k2, s2, u2, to2⟩ := hf j rfl (d + 2) (D + 2) g1 k1 f1' t1' E1' tg1 d1
      have gL2 := zt_L_12 gL1 (zt_to_g to2).1 (zt_to_g to2).2.1
      have J2 := zt_tj_t J1 (zt_to_g to2)
      have F02 := zm_F_t F01 (zt_to_k to2)
      rw [show 3 * j + (d + 2) + 6 = 3 * (j + 1) + d + 5 by omega] at s2
      rw [show 3 * j + (D + 2) + 7 = 3 * (j + 1) + D + 6 by omega] at u2
      rw [zm_e s2] at topC
      dsimp only at topC
      rw [zm_e u2] at topR
      rcases zt_to_o to2 with ⟨w2, e2, f2', y2', E2', ok2⟩ | ⟨w2, B2⟩
      · have tg2 := zt_gk_t ok2
        have c2 := zt_c175 tg2
        have c20 := zt_tg_c0 tg2
        have z30 := zt_gd_f2 (zt_tg_G tg2)
        obtain ⟨g3, e3, J3, S3⟩ := zt_jadd (d := 3 * (j + 1) + d + 4) hb gL2 (zt_tg_S tg2) c2.2 (v := -1) (by decide) (x := 18) (y := 0) rfl rfl
        obtain ⟨k3, e4, F3, ko, q5⟩ := zm_emits (zt_ty_M (zt_gd_Y (zt_tg_G tg2))) (3 * (j + 1) + D + 5) (-1) (by rw [z30]; exact Int.le_refl _) (fun _ => by omega)
        obtain ⟨q5a, q5b⟩ := q5 z30
        obtain ⟨k4, e5, F4, d4⟩ := zt_up37 (zm_F_M F3 (zt_ty_M (zt_gd_Y (zt_tg_G tg2)))) 0
        rw [zm_e e3, if_pos (Or.inr w2)] at topC
        rw [zm_e e4] at topR
        have pl := zt_pl2 fE (zt_tkn_f l1).1 (fun z => zt_gap G0 t1 l1 z) (zt_gk_s ok2) (zt_gk_w ok2)
        have E2 := zt_gk_e ok2
        rw [e348] at E2
        have len2 := zt_cd_c4 E2 (zt_tg_c0 tg) c20
        have c4 := zt_tg_c4 tg
        have c48 : zv_I k4 348 = zv_I k3 348 := zm_F_a F4 348
        have d37 : zv_I k3 347 37 = 6 - (j : Int) := by rw [zm_F_g F3 37, zt_gk_d ok2, d1]
        refine ⟨v2, g3, k4, topC rfl, topR e5, zt_tj_t J2 (zt_tj_ja J3), zm_F_t F02 (zm_F_t (zm_F_s F3 rfl rfl) (zm_F_s F4 rfl rfl)), Or.inl ⟨w2, e2 ++ [-1], f2', y2', E2', ⟨zt_gd_x (zt_gd_x (zt_gd_ja hb (zt_tg_G tg2) J3) rfl rfl (fun _ _ => rfl) (fun _ => rfl) F3) rfl rfl (fun _ _ => rfl) (fun _ => rfl) F4, zm_K_F (zm_K_F (zt_tg_K tg2) F3) F4, by rw [c48, q5a]; exact S3, by rw [c48, q5b]; omega, ?_⟩, ?_, ?_, zt_pz_m (zt_pz_n (zt_gk_p ok2) (by omega)) (by omega), ?_, ?_, fun i i1 i2 => ?_, ts⟩⟩
        · rw [c48, q5b, len2]
          omega
        · rw [d4, d37, h37.2.1, hd]
        · rw [c48, q5a, E2, List.append_assoc]
        · rw [List.length_append, if_neg (by omega)]
          exact pl
        · rw [List.length_append]
          exact Nat.le_add_left _ _
        · rw [c48, ko i i1 i2, zt_gk_k ok2 i i1 i2, e348]
      · obtain ⟨g3, e3, J3⟩ := zt_jadd0 (d := 3 * (j + 1) + d + 4) hb gL2 18 0
        obtain ⟨k3, e4, F3, B3⟩ := zt_emits_b (d := 3 * (j + 1) + D + 5) B2 (by omega) (-1)
        obtain ⟨k4, e5, F4, _⟩ := zt_up37 (zt_ty_M (zt_bd_Y (zt_bq_B B3))) 0
        rw [zm_e e3, if_pos (Or.inl w2)] at topC
        rw [zm_e e4] at topR
        have B4 := zt_bq_37 B3 F4
        refine ⟨v2, g3, k4, topC rfl, topR e5, zt_tj_t J2 (zt_tj_ja J3), zm_F_t F02 (zm_F_t (zm_F_s F3 rfl rfl) (zm_F_s F4 rfl rfl)), Or.inr ⟨w2, zt_bd_ja hb (zt_bq_B B4) J3, fun z => ?_⟩⟩
        have := zt_bq_c B4 z
        omega
    · -- a bracket
      rw [if_pos a0] at topC topR
      obtain ⟨v2, g2, k2, s2, u2, to2⟩ := ht j rfl d D g1 k1 f1' t1' E1' tg1 d1
      have gL2 := zt_L_12 gL1 (zt_to_g to2).1 (zt_to_g to2).2.1
      have J2 := zt_tj_t J1 (zt_to_g to2)
      have F02 := zm_F_t F01 (zt_to_k to2)
      rw [show 3 * j + d + 8 = 3 * (j + 1) + d + 5 by omega] at s2
      rw [show 3 * j + D + 9 = 3 * (j + 1) + D + 6 by omega] at u2
      rw [zm_e s2] at topC
      dsimp only at topC
      rw [zm_e u2] at topR
      rcases zt_to_o to2 with ⟨w2, e2, f2', y2', E2', ok2⟩ | ⟨w2, B2⟩
      rotate_left
      · rw [if_pos w2] at topC
        have B2' := zt_bd_ms (zt_bq_B B2)
        rw [zm_e (zt_takes_b (D := 3 * (j + 1) + D) (zt_bq_B B2) 93)] at topR
        obtain ⟨k4, e5, F4, _⟩ := zt_up37 (zt_ty_M (zt_bd_Y B2'.1)) 0
        exact ⟨0, g2, k4, topC rfl, topR e5, J2, zm_F_t F02 (zm_F_t (zm_F_s (zt_ms_F 0 2 k2) rfl rfl) (zm_F_s F4 rfl rfl)), Or.inr ⟨rfl, zt_bq_37 (zt_bq_told B2'.1 B2'.2) F4⟩⟩
      rw [if_neg (by omega)] at topC
      have tg2 := zt_gk_t ok2
      have G2 := zt_tg_G tg2
      have es := zt_isSignC (d := 3 * (j + 1) + d + 4) G2 93
      by_cases c : y2' = 3 ∧ T f2' = 93
      rotate_left
      · rw [if_neg c] at es
        rw [zm_e es] at topC
        dsimp only at topC
        rw [if_pos rfl, zm_e (zt_fail (d := 3 * (j + 1) + d + 4) gL2 2)] at topC
        dsimp only at topC
        rw [if_pos (Or.inl rfl)] at topC
        rw [zm_e (zt_takesR0 (D := 3 * (j + 1) + D) G2 (x := 93) (by decide) c)] at topR
        have bd := zj_fail G2 (w := 2) (by decide)
        have e4 : ¬ ((2 : Int) = 2 ∧ zv_I k2 347 34 = 4) := fun q => zt_gd_t4 G2 (Int.ofNat.inj ((zt_gd_r G2).2.1.symm.trans q.2))
        have p30 : zv_I (zt_ms 0 2 k2) 347 30 = 2 := by
          rw [zt_ms_0 (zt_gd_f2 G2), if_neg e4, zy_In _ _ (fun q => absurd q.2 (by decide)), zy_I]
        obtain ⟨k4, e5, F4, _⟩ := zt_up37 (zt_ty_M (zt_bd_Y bd)) 0
        exact ⟨0, _, k4, topC rfl, topR e5, zt_tj_t J2 (zt_tj_rf (zt_rf_fail g2 2)), zm_F_t F02 (zm_F_t (zm_F_s (zt_ms_F 0 2 k2) rfl rfl) (zm_F_s F4 rfl rfl)), Or.inr ⟨rfl, zt_bq_37 (zt_bq_told bd (by rw [p30]; decide)) F4⟩⟩
      rw [if_pos c] at es
      rw [zm_e es] at topC
      dsimp only at topC
      obtain ⟨v3, g3, k3, n3, r3, f3, F3, o3⟩ := zj_nx2 (d := 3 * (j + 1) + d + 3) (D := 3 * (j + 1) + D) G2 (by rw [c.1]; decide)
      have v01 : v3 = 0 ∨ v3 = 1 := by
        rcases o3 with q | q
        · exact Or.inr q.1
        · exact Or.inl q.1
      rw [if_neg (by decide), zm_e n3] at topC
      dsimp only at topC
      rw [if_pos v01] at topC
      rw [zm_e (zt_takesR1 (D := 3 * (j + 1) + D) G2 (x := 93) (by decide) c r3)] at topR
      obtain ⟨k4, e5, F4, d4⟩ := zt_up37 (zm_F_M F3 (zt_ty_M (zt_gd_Y G2))) 0
      have J3 := zt_tj_t J2 (zt_tj_rf f3)
      have F04 : zm_F [348] [30, 31, 32, 33, 34, 35, 37, 38] k k4 := zm_F_t F02 (zm_F_t (zm_F_s F3 rfl rfl) (zm_F_s F4 rfl rfl))
      have c2 := zt_c175 tg2
      have c20 := zt_tg_c0 tg2
      have c38 : zv_I k3 348 = zv_I k2 348 := zm_F_a F3 348
      have c48 : zv_I k4 348 = zv_I k2 348 := (zm_F_a F4 348).trans c38
      rcases o3 with ⟨w3, f3', t3', E3', G3, l3⟩ | ⟨w3, B3⟩
      rotate_left
      · refine ⟨v3, g3, k4, topC rfl, topR e5, J3, F04, Or.inr ⟨w3, zt_bq_37 (⟨B3, fun _ => ?_⟩ : zt_bq T n _ g3 k3) F4⟩⟩
        rw [c38]
        omega
      have pl := zt_pl3 gf.1 (zt_tkn_f l1).1 (zt_gk_w ok2) ((zt_gd_f G2).2.2.2 (by rw [c.1]; decide)).1 (zt_tkn_f l3).1
      have tg3 := zt_tg_rd hb tg2 G3 l3 f3 F3
      have E2 := zt_gk_e ok2
      rw [e348] at E2
      have d37 : zv_I k3 347 37 = 6 - (j : Int) := by rw [zm_F_g F3 37, zt_gk_d ok2, d1]
      refine ⟨v3, g3, k4, topC rfl, topR e5, J3, F04, Or.inl ⟨w3, e2, f3', t3', E3', ⟨zt_gd_x G3 rfl rfl (fun _ _ => rfl) (fun _ => rfl) F4, zm_K_F (zt_tg_K tg3) F4, by rw [c48, ← c38]; exact zt_tg_S tg3, by rw [c48]; exact c20, by rw [c48, ← c38]; exact zt_tg_c4 tg3⟩, ?_, by rw [c48]; exact E2, zt_pz_m (zt_gk_p ok2) (by omega), ?_, zt_gk_l ok2, fun i i1 i2 => by rw [c48, zt_gk_k ok2 i i1 i2, e348], ts⟩⟩
      · rw [d4, d37, h37.2.1, hd]
      · rw [if_pos t3]
        exact pl
theorem zj_fact (hb : zv_lay b = (1, 0)) {m : Nat} (m6 : m ≤ 6) (hf : ∀ j, m = j + 1 → zt_Pf b T n j) (ht : ∀ j, m = j + 1 → zt_Pt b T n j) : zt_Pf b T n m := by
  intro d D g k f t E tg hd
  have G := zt_tg_G tg
  have gL := zt_tx_L (zt_gd_X G)
  have hM := zt_ty_M (zt_gd_Y G)
  obtain ⟨v, ew, hw⟩ := zt_oth (d := 3 * m + d + 1) (D := 3 * m + D + 5) G (zt_tg_K tg)
  have fin : ∀ {v : Int} {g' k' : zv_H} {x : Int}, E3_fact (3 * m + d + 5) 5 (b + 22) (6 - (m : Int)) g = some (some (zv_i v), g') → E9_fact (3 * m + D + 6) 347 k = some (none, k') → C3_fact (3 * m + d + 6) 5 (b + 22) (6 - (m : Int)) g = some (v, g') ∧ C9_fact (3 * m + D + 7) 347 k = some k' := fun {v g' k' x} h1 h2 => ⟨lC3_fact (zl_ob gL zt_lay5) h1, lC9_fact (zm_ob hM) h2⟩
  rcases hw 4 (by decide) with ⟨p1, p2, p3⟩ | ⟨p1, p2, p3⟩
  · -- not
    have fE : f + 3 ≤ E := by
      have e : (zm_tx (zt_w8 4)).length = 3 := by decide +kernel
      have := p2.2.1
      omega
    obtain ⟨v', g', k', a1, a2, a3⟩ := zj_deep (d := d) (D := D) hb m6 hf ht tg hd (a := 1) (Or.inl ⟨rfl, p2.1, fE⟩)
    have := fin (x := 0) (by
      rw [qE3_fact, zm_e (show C3_is (3 * m + d + 5) 5 1000002 g = some (1, g) from p3)]
      dsimp only
      rw [if_neg (by decide)]
      exact a1) (by
      rw [qE9_fact, zm_e (zm_f40 hM), zm_e ew]
      dsimp only
      rw [if_pos (show v = 4 from p1), qL9_fact_17, zm_e (zm_gI hM 30), zt_gd_f2 G, if_pos rfl, if_neg (by decide)]
      exact a2)
    exact ⟨v', g', k', this.1, this.2, a3⟩
  have eC : ∀ {R : zv_O}, ((C3_isSign (3 * m + d + 5) 5 91 g).bind fun q2 => if q2.1 = 0 then (C3_asked (3 * m + d + 5) 5 q2.2).bind fun q3 => (C3_comparison (3 * m + d + 5) 5 (b + 22) q3.1 q3.2).bind fun q4 => if q4.1 = 0 ∨ q4.1 = 1 then some (some (zv_i q4.1), q4.2) else none else L3_fact_30 (3 * m + d + 5) 5 (b + 22) (6 - (m : Int)) 0 q2.2) = R → E3_fact (3 * m + d + 5) 5 (b + 22) (6 - (m : Int)) g = R := fun {R} hR => by
    rw [qE3_fact, zm_e (show C3_is (3 * m + d + 5) 5 1000002 g = some (0, g) from p3)]
    dsimp only
    rw [if_pos rfl]
    exact hR
  have eR : ∀ {R : zv_O}, ((C9_isSign (3 * m + D + 6) 347 91 k).bind fun q2 => if q2.1 = 0 then L9_fact_117 (3 * m + D + 6) 347 q2.2 else L9_fact_38 (3 * m + D + 6) 347 0 q2.2) = R → E9_fact (3 * m + D + 6) 347 k = R := fun {R} hR => by
    rw [qE9_fact, zm_e (zm_f40 hM), zm_e ew]
    dsimp only
    rw [if_neg (show ¬ v = 4 from p1), qL9_fact_17, zm_e (zm_gI hM 30), zt_gd_f2 G, if_pos rfl, if_pos rfl]
    exact hR
  have sC := zt_isSignC (d := 3 * m + d + 4) G 91
  have sR := zt_isSignR (d := 3 * m + D + 5) G (x := 91) (by decide)
  rw [zm_e sC] at eC
  rw [zm_e sR] at eR
  dsimp only at eC eR
  by_cases c : t = 3 ∧ T f = 91
  · rw [if_pos c, if_neg (by decide)] at eC eR
    obtain ⟨v', g', k', a1, a2, a3⟩ := zj_deep (d := d) (D := D) hb m6 hf ht tg hd (a := 0) (Or.inr ⟨rfl, c.1⟩)
    have := fin (x := 0) (eC a1) (eR a2)
    exact ⟨v', g', k', this.1, this.2, a3⟩
  · rw [if_neg c, if_pos rfl] at eC eR
    obtain ⟨a, v', g', k', a1, a2, a3, a4⟩ := zj_cmp (d := 3 * m + d) (D := 3 * m + D) hb tg (2 + 2 * m)
    have w01 : v' = 0 ∨ v' = 1 := by
      rcases zt_to_o a4 with q | q
      · exact Or.inr q.1
      · exact Or.inl q.1
    rw [zm_e a1] at eC
    dsimp only at eC
    rw [zm_e a2] at eC
    dsimp only at eC
    rw [if_pos w01] at eC
    have := fin (x := 0) (eC rfl) (eR a3)
    refine ⟨v', g', k', this.1, this.2, zt_to_g a4, zt_to_k a4, ?_⟩
    rcases zt_to_o a4 with ⟨q1, e, f', y', E', ok⟩ | ⟨q1, B⟩
    · exact Or.inl ⟨q1, e, f', y', E', ok⟩
    · refine Or.inr ⟨q1, zt_bq_B B, fun z => ?_⟩
      have := zt_bq_c B z
      omega
/-- all levels -/
theorem zj_levels (hb : zv_lay b = (1, 0)) : ∀ m : Nat, m ≤ 6 → zt_Pf b T n m ∧ zt_Pt b T n m := by
  intro m
  induction m with
  | zero =>
    intro m6
    have h := zj_fact (b := b) (T := T) (n := n) hb (m := 0) m6 (fun j q => absurd q (by omega)) (fun j q => absurd q (by omega))
    exact ⟨h, zj_test hb m6 (zj_side hb m6 h)⟩
  | succ m ih =>
    intro m6
    obtain ⟨i1, i2⟩ := ih (by omega)
    have h := zj_fact (b := b) (T := T) (n := n) hb (m := m + 1) m6 (fun j q => by
      have : m = j := by omega
      rw [← this]; exact i1) (fun j q => by
      have : m = j := by omega
      rw [← this]; exact i2)
    exact ⟨h, zj_test hb m6 (zj_side hb m6 h)⟩
/-- a TEST, for both -/
theorem zj_tst {d D : Nat} (hb : zv_lay b = (1, 0)) (tg : zt_tg b T n g k f t E) (hd : zv_I k 347 37 = 0) : ∃ (v : Int) (g' k' : zv_H), C3_test (d + 26) 5 (b + 22) 0 g = some (v, g') ∧ C9_test (D + 27) 347 k = some k' ∧ zt_to b T n g k f t 16 184 v g' k' := by
  obtain ⟨v, g', k', a1, a2, a3⟩ := (zj_levels hb 6 (Nat.le_refl _)).2 d D g k f t E tg (by rw [hd]; rfl)
  refine ⟨v, g', k', ?_, ?_, a3⟩
  · have e : 3 * 6 + d + 8 = d + 26 := by omega
    rw [e] at a1
    exact a1
  · have e : 3 * 6 + D + 9 = D + 27 := by omega
    rw [e] at a2
    exact a2
end
