/-! ===== the tie: a comparison is read ===== -/
/-- codes that leave one truth more, the heap never deeper than m beyond where it was -/
def zt_pz (m : Nat) (e : List Int) : Prop := ∀ (r : List Int) (p : Nat), p + m ≤ 60 → zt_ph r (p + 1) → zt_ph (e ++ r) p
theorem zt_pz_m {m m' : Nat} {e : List Int} (h : zt_pz m e) (hm : m ≤ m') : zt_pz m' e := fun r p q => h r p (by omega)
theorem zt_pz_1 {m : Nat} {v : Int} (hv : 0 ≤ v) : zt_pz m [v] := fun r p q h => by
  show p ≤ 60 ∧ (if 0 ≤ v then zt_ph r (p + 1) else if v = -1 then 1 ≤ p ∧ zt_ph r p else 2 ≤ p ∧ zt_ph r (p - 1))
  rw [if_pos hv]
  exact ⟨by omega, h⟩
theorem zt_pz_n {m : Nat} {e : List Int} (he : zt_pz m e) (hm : 1 ≤ m) : zt_pz m (e ++ [-1]) := fun r p q h => by
  rw [List.append_assoc]
  refine he _ p q ?_
  show p + 1 ≤ 60 ∧ (if (0 : Int) ≤ -1 then zt_ph r (p + 1 + 1) else if (-1 : Int) = -1 then 1 ≤ p + 1 ∧ zt_ph r (p + 1) else 2 ≤ p + 1 ∧ zt_ph r (p + 1 - 1))
  rw [if_neg (by decide), if_pos rfl]
  exact ⟨by omega, by omega, h⟩
theorem zt_pz_b {m : Nat} {e1 e2 : List Int} (h1 : zt_pz (m + 1) e1) (h2 : zt_pz m e2) (hm : 1 ≤ m) {v : Int} (hv : v < -1) : zt_pz (m + 1) (e1 ++ (e2 ++ [v])) := fun r p q h => by
  rw [List.append_assoc, List.append_assoc]
  refine h1 _ p q (h2 _ (p + 1) (by omega) ?_)
  show p + 1 + 1 ≤ 60 ∧ (if (0 : Int) ≤ v then zt_ph r (p + 1 + 1 + 1) else if v = -1 then 1 ≤ p + 1 + 1 ∧ zt_ph r (p + 1 + 1) else 2 ≤ p + 1 + 1 ∧ zt_ph r (p + 1 + 1 - 1))
  rw [if_neg (by omega), if_neg (by omega)]
  exact ⟨by omega, by omega, h⟩
theorem zt_sp_c {j how x : Int} (hj : 0 ≤ j ∧ j < 6) (hh : 0 ≤ how ∧ how ≤ 2) (hx : 0 ≤ x) : zt_sp (j + 6 * how + 18 * x) = (j * 3 + how, x) := by
  have h0 : 0 ≤ j + 6 * how + 18 * x := by omega
  have m6 : (j + 6 * how + 18 * x).tmod 6 = j := by rw [Int.tmod_eq_emod_of_nonneg h0]; omega
  have d6 : (j + 6 * how + 18 * x).tdiv 6 = how + 3 * x := by rw [Int.tdiv_eq_ediv_of_nonneg h0]; omega
  have d18 : (j + 6 * how + 18 * x).tdiv 18 = x := by rw [Int.tdiv_eq_ediv_of_nonneg h0]; omega
  have m3 : (how + 3 * x).tmod 3 = how := by rw [Int.tmod_eq_emod_of_nonneg (by omega)]; omega
  unfold zt_sp
  rw [if_pos h0, m6, d6, m3, d18]
/-- a TEST is being read, all is well -/
def zt_tg (b : Nat) (T : Nat → Int) (n : Nat) (g : zv_H) (k : zv_H) (f : Nat) (y : Nat) (E : Nat) : Prop := (zt_gd T n g k f y E) ∧ (zm_K k) ∧ (zt_T0 b (zm_cd (zv_I k 348)) g) ∧ (0 ≤ zv_I k 348 4) ∧ (4 * zv_I k 348 4 ≤ f)
theorem zt_tg_G {b : Nat} {T : Nat → Int} {n : Nat} {g : zv_H} {k : zv_H} {f : Nat} {y : Nat} {E : Nat} (t : zt_tg b T n g k f y E) : zt_gd T n g k f y E := t.1
theorem zt_tg_K {b : Nat} {T : Nat → Int} {n : Nat} {g : zv_H} {k : zv_H} {f : Nat} {y : Nat} {E : Nat} (t : zt_tg b T n g k f y E) : zm_K k := t.2.1
theorem zt_tg_S {b : Nat} {T : Nat → Int} {n : Nat} {g : zv_H} {k : zv_H} {f : Nat} {y : Nat} {E : Nat} (t : zt_tg b T n g k f y E) : zt_T0 b (zm_cd (zv_I k 348)) g := t.2.2.1
theorem zt_tg_c0 {b : Nat} {T : Nat → Int} {n : Nat} {g : zv_H} {k : zv_H} {f : Nat} {y : Nat} {E : Nat} (t : zt_tg b T n g k f y E) : 0 ≤ zv_I k 348 4 := t.2.2.2.1
theorem zt_tg_c4 {b : Nat} {T : Nat → Int} {n : Nat} {g : zv_H} {k : zv_H} {f : Nat} {y : Nat} {E : Nat} (t : zt_tg b T n g k f y E) : 4 * zv_I k 348 4 ≤ f := t.2.2.2.2
/-- behind a piece of it: fine -/
def zt_gk (b : Nat) (T : Nat → Int) (n : Nat) (k : zv_H) (f : Nat) (y : Nat) (m : Nat) (g' : zv_H) (k' : zv_H) (e : List Int) (f' : Nat) (y' : Nat) (E' : Nat) : Prop := (zt_tg b T n g' k' f' y' E') ∧ (zv_I k' 347 37 = zv_I k 347 37) ∧ (zm_cd (zv_I k' 348) = zm_cd (zv_I k 348) ++ e) ∧ (zt_pz m e) ∧ (f + 4 * e.length + (if y = 3 then 3 else 1) ≤ f') ∧ (1 ≤ e.length) ∧ (∀ i : Nat, i ≠ 4 → ¬ (8 ≤ i ∧ i < 408) → zv_I k' 348 i = zv_I k 348 i) ∧ (y = 1 ∨ y = 3)
theorem zt_gk_t {b : Nat} {T : Nat → Int} {n : Nat} {k : zv_H} {f : Nat} {y : Nat} {m : Nat} {g' : zv_H} {k' : zv_H} {e : List Int} {f' : Nat} {y' : Nat} {E' : Nat} (t : zt_gk b T n k f y m g' k' e f' y' E') : zt_tg b T n g' k' f' y' E' := t.1
theorem zt_gk_d {b : Nat} {T : Nat → Int} {n : Nat} {k : zv_H} {f : Nat} {y : Nat} {m : Nat} {g' : zv_H} {k' : zv_H} {e : List Int} {f' : Nat} {y' : Nat} {E' : Nat} (t : zt_gk b T n k f y m g' k' e f' y' E') : zv_I k' 347 37 = zv_I k 347 37 := t.2.1
theorem zt_gk_e {b : Nat} {T : Nat → Int} {n : Nat} {k : zv_H} {f : Nat} {y : Nat} {m : Nat} {g' : zv_H} {k' : zv_H} {e : List Int} {f' : Nat} {y' : Nat} {E' : Nat} (t : zt_gk b T n k f y m g' k' e f' y' E') : zm_cd (zv_I k' 348) = zm_cd (zv_I k 348) ++ e := t.2.2.1
theorem zt_gk_p {b : Nat} {T : Nat → Int} {n : Nat} {k : zv_H} {f : Nat} {y : Nat} {m : Nat} {g' : zv_H} {k' : zv_H} {e : List Int} {f' : Nat} {y' : Nat} {E' : Nat} (t : zt_gk b T n k f y m g' k' e f' y' E') : zt_pz m e := t.2.2.2.1
theorem zt_gk_w {b : Nat} {T : Nat → Int} {n : Nat} {k : zv_H} {f : Nat} {y : Nat} {m : Nat} {g' : zv_H} {k' : zv_H} {e : List Int} {f' : Nat} {y' : Nat} {E' : Nat} (t : zt_gk b T n k f y m g' k' e f' y' E') : f + 4 * e.length + (if y = 3 then 3 else 1) ≤ f' := t.2.2.2.2.1
theorem zt_gk_l {b : Nat} {T : Nat → Int} {n : Nat} {k : zv_H} {f : Nat} {y : Nat} {m : Nat} {g' : zv_H} {k' : zv_H} {e : List Int} {f' : Nat} {y' : Nat} {E' : Nat} (t : zt_gk b T n k f y m g' k' e f' y' E') : 1 ≤ e.length := t.2.2.2.2.2.1
theorem zt_gk_k {b : Nat} {T : Nat → Int} {n : Nat} {k : zv_H} {f : Nat} {y : Nat} {m : Nat} {g' : zv_H} {k' : zv_H} {e : List Int} {f' : Nat} {y' : Nat} {E' : Nat} (t : zt_gk b T n k f y m g' k' e f' y' E') : ∀ i : Nat, i ≠ 4 → ¬ (8 ≤ i ∧ i < 408) → zv_I k' 348 i = zv_I k 348 i := t.2.2.2.2.2.2.1
theorem zt_gk_s {b : Nat} {T : Nat → Int} {n : Nat} {k : zv_H} {f : Nat} {y : Nat} {m : Nat} {g' : zv_H} {k' : zv_H} {e : List Int} {f' : Nat} {y' : Nat} {E' : Nat} (t : zt_gk b T n k f y m g' k' e f' y' E') : y = 1 ∨ y = 3 := t.2.2.2.2.2.2.2
/-- behind a piece of it -/
def zt_to (b : Nat) (T : Nat → Int) (n : Nat) (g : zv_H) (k : zv_H) (f : Nat) (y : Nat) (m : Nat) (x : Int) (v : Int) (g' : zv_H) (k' : zv_H) : Prop := (zt_tj b g g') ∧ (zm_F [348] [30, 31, 32, 33, 34, 35, 37, 38] k k') ∧ ((v = 1 ∧ ∃ e f' y' E', zt_gk b T n k f y m g' k' e f' y' E') ∨ (v = 0 ∧ zt_bq T n x g' k'))
theorem zt_to_g {b : Nat} {T : Nat → Int} {n : Nat} {g : zv_H} {k : zv_H} {f : Nat} {y : Nat} {m : Nat} {x : Int} {v : Int} {g' : zv_H} {k' : zv_H} (t : zt_to b T n g k f y m x v g' k') : zt_tj b g g' := t.1
theorem zt_to_k {b : Nat} {T : Nat → Int} {n : Nat} {g : zv_H} {k : zv_H} {f : Nat} {y : Nat} {m : Nat} {x : Int} {v : Int} {g' : zv_H} {k' : zv_H} (t : zt_to b T n g k f y m x v g' k') : zm_F [348] [30, 31, 32, 33, 34, 35, 37, 38] k k' := t.2.1
theorem zt_to_o {b : Nat} {T : Nat → Int} {n : Nat} {g : zv_H} {k : zv_H} {f : Nat} {y : Nat} {m : Nat} {x : Int} {v : Int} {g' : zv_H} {k' : zv_H} (t : zt_to b T n g k f y m x v g' k') : (v = 1 ∧ ∃ e f' y' E', zt_gk b T n k f y m g' k' e f' y' E') ∨ (v = 0 ∧ zt_bq T n x g' k') := t.2.2
theorem zt_w9_3 : ∀ j, j < 6 → 3 ≤ (zm_tx (zt_w9 j)).length := by decide +kernel
theorem zt_cd_len {c : Nat → Int} : (zm_cd c).length = (c 4).toNat := by
  unfold zm_cd
  rw [List.length_map, List.length_range]
theorem zt_nv3 {T : Nat → Int} {n : Nat} {g k : zv_H} {f E : Nat} (G : zt_gd T n g k f 2 E) : 0 ≤ zt_nv T f (E - f) ∧ zt_nv T f (E - f) ≤ 999 := by
  obtain ⟨e0, hk⟩ := zt_gd_k G
  rcases hk.2 with ⟨a1, _⟩ | ⟨_, ⟨a1, _⟩ | ⟨_, a2, a3, a4⟩ | ⟨a1, _⟩ | ⟨a1, _⟩⟩
  · exact absurd a1 (by decide)
  · exact absurd a1 (by decide)
  · have fE := a3.1
    have h := zt_nv_b (T := T) (f := f) (E - f) (fun i h1 h2 => a3.2.2.1 i h1 (by omega))
    have := zt_nb3 (E - f) (by omega)
    omega
  · exact absurd a1 (by decide)
  · exact absurd a1 (by decide)
section
variable {b : Nat} {T : Nat → Int} {n : Nat} {g k : zv_H} {f t E : Nat}
theorem zt_numR {D : Nat} (G : zt_gd T n g k f 2 E) {k' : zv_H} (e : C9_reads (D + 5) 347 k = some k') : C9_takesNumber (D + 6) 347 k = some (zt_nv T f (E - f), k') := by
  have hM := zt_ty_M (zt_gd_Y G)
  have r := zt_gd_r G
  refine lC9_takesNumber (zm_ob hM) ?_
  rw [qE9_takesNumber, zm_e (zm_gI hM 34), r.2.1, if_pos (show ((2 : Nat) : Int) = 2 from rfl), qL9_takesNumber_14, zm_e (zt_must hM 1 2), zt_ms_1 (by decide), zm_e (zm_gI hM 35), r.2.2.2.1 rfl, zm_e (zm_gI hM 30), zt_gd_f2 G, if_pos rfl, zm_e e]
/-- behind a fault: the number and the code -/
theorem zt_f218_b {D : Nat} (B : zt_bd T n g k) (a h : Int) : ∃ k', L9_fact_218 (D + 6) 347 a h k = some (none, k') ∧ zm_F [348] [30, 31] k k' ∧ zt_bd T n g k' ∧ 0 < zv_I k' 347 30 := by
  obtain ⟨v, k1, e1, F1, B1, p1⟩ := zt_number_b (D := D) B
  obtain ⟨k2, e2, F2, B2⟩ := zt_emits_b (d := D + 5) (zt_bq_told (x := 0) B1 p1) (by decide) (zv_w (zv_w (a + zv_w (6 * h)) + zv_w (18 * v)))
  refine ⟨k2, ?_, zm_F_t (zm_F_s F1 rfl rfl) (zm_F_s F2 rfl rfl), zt_bq_B B2, by rw [zm_F_g F2 30]; exact p1⟩
  rw [qL9_fact_218, zm_e e1]
  dsimp only
  rw [zm_e e2]
/-- the relation isn't one -/
theorem zt_f192_b {D : Nat} (hM : zm_M k) (B : zt_bd T n g (zt_ms 0 2 k)) (p : 0 < zv_I (zt_ms 0 2 k) 347 30) (a : Int) : ∃ k', L9_fact_192 (D + 6) 347 a (-1) k = some (none, k') ∧ zm_F [348] [30, 31] k k' ∧ zt_bd T n g k' ∧ 0 < zv_I k' 347 30 := by
  have hM2 := zm_F_M (zt_ms_F 0 2 k) hM
  obtain ⟨k2, e2, F2, B2, p2⟩ := zt_f218_b (D := D) B a (-1)
  refine ⟨k2, ?_, zm_F_t (zm_F_s (zt_ms_F 0 2 k) rfl rfl) F2, B2, p2⟩
  rw [qL9_fact_192, if_pos (by decide), qL9_fact_203, zm_e (zt_must hM 0 2), zm_e (zm_gI hM2 30), if_neg (by omega), e2]
/-- the relation, or none -/
theorem zt_how {D : Nat} (G : zt_gd T n g k f t E) (a : Int) : ∃ how : Int, ((C9_isSign (D + 1) 347 60 k).bind fun q4 => if q4.1 = 0 then (C9_isSign (D + 1) 347 61 q4.2).bind fun q5 => if q5.1 = 0 then (C9_isSign (D + 1) 347 62 q5.2).bind fun q6 => if q6.1 = 0 then L9_fact_192 (D + 1) 347 a (-1) q6.2 else L9_fact_192 (D + 1) 347 a 2 q6.2 else L9_fact_192 (D + 1) 347 a 1 q5.2 else L9_fact_192 (D + 1) 347 a 0 q4.2) = L9_fact_192 (D + 1) 347 a how k ∧ ((how = -1 ∧ ¬ (t = 3 ∧ 60 ≤ T f ∧ T f ≤ 62)) ∨ (t = 3 ∧ (0 ≤ how ∧ how ≤ 2) ∧ T f = 60 + how)) := by
  have e0 := zt_isSignR (d := D) G (x := 60) (by decide)
  have e1 := zt_isSignR (d := D) G (x := 61) (by decide)
  have e2 := zt_isSignR (d := D) G (x := 62) (by decide)
  rw [zm_e e0]
  dsimp only
  by_cases c0 : t = 3 ∧ T f = 60
  · rw [if_pos c0, if_neg (by decide)]
    exact ⟨0, rfl, Or.inr ⟨c0.1, by decide, c0.2⟩⟩
  rw [if_neg c0, if_pos rfl, zm_e e1]
  dsimp only
  by_cases c1 : t = 3 ∧ T f = 61
  · rw [if_pos c1, if_neg (by decide)]
    exact ⟨1, rfl, Or.inr ⟨c1.1, by decide, c1.2⟩⟩
  rw [if_neg c1, if_pos rfl, zm_e e2]
  dsimp only
  by_cases c2 : t = 3 ∧ T f = 62
  · rw [if_pos c2, if_neg (by decide)]
    exact ⟨2, rfl, Or.inr ⟨c2.1, by decide, c2.2⟩⟩
  rw [if_neg c2, if_pos rfl]
  refine ⟨-1, rfl, Or.inl ⟨rfl, fun q => ?_⟩⟩
  obtain ⟨q1, q2, q3⟩ := q
  have n0 : T f ≠ 60 := fun z => c0 ⟨q1, z⟩
  have n1 : T f ≠ 61 := fun z => c1 ⟨q1, z⟩
  have n2 : T f ≠ 62 := fun z => c2 ⟨q1, z⟩
  omega
theorem zt_how_b {D : Nat} (B : zt_bd T n g k) (a : Int) : ((C9_isSign (D + 1) 347 60 k).bind fun q4 => if q4.1 = 0 then (C9_isSign (D + 1) 347 61 q4.2).bind fun q5 => if q5.1 = 0 then (C9_isSign (D + 1) 347 62 q5.2).bind fun q6 => if q6.1 = 0 then L9_fact_192 (D + 1) 347 a (-1) q6.2 else L9_fact_192 (D + 1) 347 a 2 q6.2 else L9_fact_192 (D + 1) 347 a 1 q5.2 else L9_fact_192 (D + 1) 347 a 0 q4.2) = L9_fact_192 (D + 1) 347 a (-1) k := by
  rw [zm_e (zt_isSign_b (d := D) B 60)]
  dsimp only
  rw [if_pos rfl, zm_e (zt_isSign_b (d := D) B 61)]
  dsimp only
  rw [if_pos rfl, zm_e (zt_isSign_b (d := D) B 62)]
  dsimp only
  rw [if_pos rfl]
theorem zj_cmp {d D : Nat} (hb : zv_lay b = (1, 0)) (t0 : zt_tg b T n g k f t E) (m : Nat) : ∃ (a v : Int) (g' k' : zv_H), C3_asked (d + 5) 5 g = some (a, g) ∧ C3_comparison (d + 5) 5 (b + 22) a g = some (v, g') ∧ L9_fact_117 (D + 6) 347 k = some (none, k') ∧ zt_to b T n g k f t m 176 v g' k' := by
  have G := zt_tg_G t0
  have K := zt_tg_K t0
  have gL := zt_tx_L (zt_gd_X G)
  have hM := zt_ty_M (zt_gd_Y G)
  have gf := zt_gd_f G
  obtain ⟨a, ea, er, q⟩ := zt_val (d := d) (D := D + 5) G K
  rcases q with q | ⟨j, q1, q2, q3⟩
  · -- none of the six
    have bd := zj_fail G (w := 2) (by decide)
    have e4 : ¬ ((2 : Int) = 2 ∧ zv_I k 347 34 = 4) := fun q => zt_gd_t4 G (Int.ofNat.inj ((zt_gd_r G).2.1.symm.trans q.2))
    have p30 : zv_I (zt_ms 0 2 k) 347 30 = 2 := by
      rw [zt_ms_0 (zt_gd_f2 G), if_neg e4, zy_In _ _ (fun q => absurd q.2 (by decide)), zy_I]
    have hM2 := zm_F_M (zt_ms_F 0 2 k) hM
    refine ⟨a, 0, _, zt_ms 0 2 k, ea, lC3_comparison (zl_ob gL zt_lay5) ?_, ?_, zt_tj_rf (zt_rf_fail g 2), zm_F_s (zt_ms_F 0 2 k) rfl rfl, Or.inr ⟨rfl, zt_bq_told bd (by rw [p30]; decide)⟩⟩
    · rw [qE3_comparison, if_pos q, zm_e (zt_fail gL 2)]
      exact if_pos (Or.inl rfl)
    · rw [qL9_fact_117, zm_e (zm_f41 hM), zm_e er]
      dsimp only
      rw [if_pos (by rw [q]; decide), qL9_fact_136, zm_e (zt_must hM 0 2), zm_e (zm_gI hM2 30), p30, if_neg (by decide)]
  have a6 : 0 ≤ a ∧ a < 6 := by omega
  have t1 : t = 1 := q3.1
  have E3 : f + 3 ≤ E := by
    have := zt_w9_3 j q2
    have := q3.2.1
    omega
  obtain ⟨v1, g1, k1, n1, r1, f1, F1, o1⟩ := zj_nx2 (d := d + 2) (D := D + 1) G (by rw [t1]; decide)
  have hM1 := zm_F_M F1 hM
  have gL1 := zt_L_12 gL f1.1 f1.2.1
  -- the reference, up to the relation
  have topR : ∀ {R : zv_O}, ((C9_isSign (D + 6) 347 60 k1).bind fun q4 => if q4.1 = 0 then (C9_isSign (D + 6) 347 61 q4.2).bind fun q5 => if q5.1 = 0 then (C9_isSign (D + 6) 347 62 q5.2).bind fun q6 => if q6.1 = 0 then L9_fact_192 (D + 6) 347 a (-1) q6.2 else L9_fact_192 (D + 6) 347 a 2 q6.2 else L9_fact_192 (D + 6) 347 a 1 q5.2 else L9_fact_192 (D + 6) 347 a 0 q4.2) = R → L9_fact_117 (D + 6) 347 k = R := fun {R} hR => by
    rw [qL9_fact_117, zm_e (zm_f41 hM), zm_e er]
    dsimp only
    rw [if_neg (by omega), qL9_fact_136, zm_e (zt_must hM 1 2), zt_ms_1 (by decide), zm_e (zm_gI hM 30), zt_gd_f2 G, if_pos (by decide), zm_e r1]
    exact hR
  have topC : ∀ {R : zv_O}, (if v1 = 0 then some (some (zv_i 0), g1) else (zv_gI g1 5 3 4).bind fun v3 => if v3 = 3 then (zv_gI g1 5 3 7).bind fun v4 => if v4 < 60 then L3_comparison_46 (d + 4) 5 g1 else (zv_gI g1 5 3 7).bind fun v5 => if v5 ≤ 62 then (zv_gI g1 5 3 7).bind fun v6 => (C3_next (d + 4) 5 g1).bind fun q7 => if q7.1 = 0 then some (some (zv_i 0), q7.2) else (zv_gI q7.2 5 3 4).bind fun v8 => if v8 = 2 then (zv_gI q7.2 5 3 7).bind fun v9 => (C1_compare (d + 4) (b + 22) a (zv_w (v6 - 60)) v9 q7.2).bind fun g10 => (C3_next (d + 4) 5 g10).bind fun q11 => if q11.1 = 0 ∨ q11.1 = 1 then some (some (zv_i q11.1), q11.2) else none else (C3_fail (d + 4) 5 2 q7.2).bind fun q12 => if q12.1 = 0 ∨ q12.1 = 1 then some (some (zv_i q12.1), q12.2) else none else L3_comparison_46 (d + 4) 5 g1 else L3_comparison_46 (d + 4) 5 g1) = R → E3_comparison (d + 4) 5 (b + 22) a g = R := fun {R} hR => by
    rw [qE3_comparison, if_neg (by omega), zm_e n1]
    exact hR
  have badC : ∀ {g2 : zv_H}, zt_L g2 → L3_comparison_46 (d + 4) 5 g2 = some (some (zv_i 0), zv_sI (zv_sI g2 5 8 2) 5 9 (zv_I g2 5 5)) := fun {g2} L2 => by
    rw [qL3_comparison_46, zm_e (zt_fail L2 2)]
    exact if_pos (Or.inl rfl)
  rcases o1 with ⟨w1, f1', t1', E1', G1, l1⟩ | ⟨w1, B1⟩
  rotate_left
  · -- no TOKEN where the relation should be
    rw [if_pos w1] at topC
    have B1' := zt_bd_ms B1
    obtain ⟨k2, e2, F2, B2, p2⟩ := zt_f192_b (D := D) hM1 B1'.1 B1'.2 a
    exact ⟨a, 0, g1, k2, ea, lC3_comparison (zl_ob gL zt_lay5) (topC rfl), topR ((zt_how_b (D := D + 5) B1 a).trans e2), zt_tj_rf f1, zm_F_t (zm_F_s F1 rfl rfl) (zm_F_s F2 rfl rfl), Or.inr ⟨rfl, zt_bq_told B2 p2⟩⟩
  rw [if_neg (by omega), zm_e (zl_gI gL1 zt_lay5 4), zt_gd_c4 G1] at topC
  obtain ⟨how, eh, qh⟩ := zt_how (D := D + 5) G1 a
  rcases qh with ⟨qh1, qh2⟩ | ⟨qh1, qh2, qh3⟩
  · -- no relation
    have bd := zj_fail G1 (w := 2) (by decide)
    have e4 : ¬ ((2 : Int) = 2 ∧ zv_I k1 347 34 = 4) := fun q => zt_gd_t4 G1 (Int.ofNat.inj ((zt_gd_r G1).2.1.symm.trans q.2))
    have p30 : zv_I (zt_ms 0 2 k1) 347 30 = 2 := by
      rw [zt_ms_0 (zt_gd_f2 G1), if_neg e4, zy_In _ _ (fun q => absurd q.2 (by decide)), zy_I]
    obtain ⟨k2, e2, F2, B2, p2⟩ := zt_f192_b (D := D) hM1 bd (by rw [p30]; decide) a
    rw [qh1] at eh
    refine ⟨a, 0, _, k2, ea, lC3_comparison (zl_ob gL zt_lay5) (topC ?_), topR (eh.trans e2), zt_tj_t (zt_tj_rf f1) (zt_tj_rf (zt_rf_fail g1 2)), zm_F_t (zm_F_s F1 rfl rfl) (zm_F_s F2 rfl rfl), Or.inr ⟨rfl, zt_bq_told B2 p2⟩⟩
    by_cases c3 : t1' = 3
    · rw [if_pos (show (t1' : Int) = 3 by rw [c3]; rfl), zm_e (zl_gI gL1 zt_lay5 7), zt_gd_c3 G1 c3]
      by_cases c4 : T f1' < 60
      · rw [if_pos c4, badC gL1]
      · rw [if_neg c4, zm_e (zl_gI gL1 zt_lay5 7), zt_gd_c3 G1 c3, if_neg (fun q => qh2 ⟨c3, Int.not_lt.mp c4, q⟩), badC gL1]
    · rw [if_neg (show ¬ (t1' : Int) = 3 from fun q => c3 (Int.ofNat.inj q)), badC gL1]
  rw [if_pos (show (t1' : Int) = 3 by rw [qh1]; rfl), zm_e (zl_gI gL1 zt_lay5 7), zt_gd_c3 G1 qh1, if_neg (by omega), zm_e (zl_gI gL1 zt_lay5 7), zt_gd_c3 G1 qh1, if_pos (by omega), zm_e (zl_gI gL1 zt_lay5 7), zt_gd_c3 G1 qh1, show zv_w (T f1' - 60) = how by rw [zm_w (by omega)]; omega] at topC
  obtain ⟨v2, g2, k2, n2, r2, f2, F2, o2⟩ := zj_nx2 (d := d + 2) (D := D + 1) G1 (by rw [qh1]; decide)
  have hM2 := zm_F_M F2 hM1
  have gL2 := zt_L_12 gL1 f2.1 f2.2.1
  have J2 : zt_tj b g g2 := zt_tj_t (zt_tj_rf f1) (zt_tj_rf f2)
  have F12 : zm_F [348] [30, 31, 32, 33, 34, 35, 37, 38] k k2 := zm_F_t (zm_F_s F1 rfl rfl) (zm_F_s F2 rfl rfl)
  rw [zm_e n2] at topC
  dsimp only at topC
  have topR2 : ∀ {R : zv_O}, L9_fact_218 (D + 6) 347 a how k2 = R → L9_fact_117 (D + 6) 347 k = R := fun {R} hR => topR (eh.trans (by
    rw [qL9_fact_192, if_neg (by omega), qL9_fact_203, zm_e (zt_must hM1 1 2), zt_ms_1 (by decide), zm_e (zm_gI hM1 30), zt_gd_f2 G1, if_pos rfl, zm_e r2]
    exact hR))
  rcases o2 with ⟨w2, f2', t2', E2', G2, l2⟩ | ⟨w2, B2⟩
  rotate_left
  · rw [if_pos w2] at topC
    obtain ⟨k3, e3, F3, B3, p3⟩ := zt_f218_b (D := D) B2 a how
    exact ⟨a, 0, g2, k3, ea, lC3_comparison (zl_ob gL zt_lay5) (topC rfl), topR2 e3, J2, zm_F_t F12 (zm_F_s F3 rfl rfl), Or.inr ⟨rfl, zt_bq_told B3 p3⟩⟩
  rw [if_neg (by omega), zm_e (zl_gI gL2 zt_lay5 4), zt_gd_c4 G2] at topC
  by_cases c2 : t2' = 2
  rotate_left
  · -- no number
    rw [if_neg (show ¬ (t2' : Int) = 2 from fun q => c2 (Int.ofNat.inj q)), zm_e (zt_fail gL2 2)] at topC
    dsimp only at topC
    rw [if_pos (Or.inl rfl)] at topC
    rcases zj_number (d := d) (D := D) G2 with ⟨z, _⟩ | ⟨_, nv, g3, k3, y1, y2, y3, y4, y5⟩
    · exact absurd z c2
    have eg : zv_sI (zv_sI g2 5 8 2) 5 9 (zv_I g2 5 5) = g3 := by
      have := (zt_fail (d := d) gL2 2).symm.trans y1
      exact (Prod.mk.inj (Option.some.inj this)).2
    have p3 : 0 < zv_I k3 347 30 := by
      rcases zt_bd_f y5 with z | z
      · exfalso
        have h8 : zv_I g3 5 8 = 2 := by rw [← eg, zy_In _ _ (fun q => absurd q.2 (by decide)), zy_I]
        rw [h8] at z
        exact absurd z.1 (by decide)
      · rw [z.1]
        exact zt_bd_f0 y5
    obtain ⟨k4, e4, F4, B4⟩ := zt_emits_b (d := D + 5) (zt_bq_told (x := 0) y5 p3) (by decide) (zv_w (zv_w (a + zv_w (6 * how)) + zv_w (18 * nv)))
    refine ⟨a, 0, g3, k4, ea, lC3_comparison (zl_ob gL zt_lay5) (topC (by rw [eg])), topR2 ?_, zt_tj_t J2 (zt_tj_rf y3), zm_F_t F12 (zm_F_t (zm_F_s y4 rfl rfl) (zm_F_s F4 rfl rfl)), Or.inr ⟨rfl, zt_bq_told (zt_bq_B B4) (by rw [zm_F_g F4 30]; exact p3)⟩⟩
    rw [qL9_fact_218, zm_e y2]
    dsimp only
    rw [zm_e e4]
  subst c2
  rw [if_pos (show ((2 : Nat) : Int) = 2 from rfl), zm_e (zl_gI gL2 zt_lay5 7), zt_gd_c2 G2 rfl] at topC
  -- the code and the step
  have nv := zt_nv3 G2
  have numR : ∀ {k3 : zv_H}, C9_reads (D + 5) 347 k2 = some k3 → C9_takesNumber (D + 6) 347 k2 = some (zt_nv T f2' (E2' - f2'), k3) := fun {k3} e => zt_numR G2 e
  generalize zt_nv T f2' (E2' - f2') = x at nv numR topC
  have c348 : zv_I k2 348 = zv_I k 348 := (zm_F_a F2 348).trans (zm_F_a F1 348)
  have S2 : zt_T0 b (zm_cd (zv_I k 348)) g2 := by
    have S := zt_tg_S t0
    have hb' := zc_lh hb
    have e : ∀ r i, 9 ≤ r → zv_I g2 r i = zv_I g r i := fun r i hr => (f2.2.2 r i (fun q => by omega)).trans (f1.2.2 r i (fun q => by omega))
    exact ⟨(e _ _ (by omega)).trans (zt_T0_sz S), fun i v hi => by rw [e _ _ (by omega), e _ _ (by omega)]; exact zt_T0_st S i v hi, zt_T0_rg S⟩
  have c0 := zt_tg_c0 t0
  have c4 := zt_tg_c4 t0
  have len : (zm_cd (zv_I k 348)).length < 176 := by
    rw [zt_cd_len]
    omega
  have spc := zt_sp_c a6 qh2 nv.1
  have wa : zv_w (zv_w (a * 3) + how) = a * 3 + how := by rw [zm_w (x := a * 3) (by omega), zm_w (by omega)]
  have wc : zv_w (zv_w (a + zv_w (6 * how)) + zv_w (18 * x)) = a + 6 * how + 18 * x := by rw [zm_w (x := 6 * how) (by omega), zm_w (x := a + 6 * how) (by omega), zm_w (x := 18 * x) (by omega), zm_w (by omega)]
  obtain ⟨g3, e3, J3, S3⟩ := zt_jadd (d := d + 2) hb gL2 S2 len (v := a + 6 * how + 18 * x) (by omega) (congrArg Prod.fst spc) (congrArg Prod.snd spc)
  have l22 := (zt_jn_l hb).1
  have e3' : C1_compare (d + 4) (b + 22) a how x g2 = some g3 := by
    refine lC1_compare (zl_ob gL2 l22) ?_
    rw [qE1_compare, wa, zm_e e3]
  have G3 := zt_gd_ja hb G2 J3
  obtain ⟨v4, g4, k3, n4, r4, f4, F4, o4⟩ := zj_nx2 (d := d + 2) (D := D) G3 (by decide)
  have hM3 := zm_F_M F4 hM2
  rw [zm_e e3', zm_e n4] at topC
  dsimp only at topC
  have v01 : v4 = 0 ∨ v4 = 1 := by
    rcases o4 with q | q
    · exact Or.inr q.1
    · exact Or.inl q.1
  rw [if_pos v01] at topC
  have J4 : zt_tj b g g4 := zt_tj_t J2 (zt_tj_t (zt_tj_ja J3) (zt_tj_rf f4))
  have F13 : zm_F [348] [30, 31, 32, 33, 34, 35, 37, 38] k k3 := zm_F_t F12 (zm_F_s F4 rfl rfl)
  have c348' : zv_I k3 348 = zv_I k 348 := (zm_F_a F4 348).trans c348
  have e218 : ∀ {k4 : zv_H}, C9_emits (D + 6) 347 (a + 6 * how + 18 * x) k3 = some k4 → L9_fact_218 (D + 6) 347 a how k2 = some (none, k4) := fun {k4} e => by
    rw [qL9_fact_218, zm_e (numR r4)]
    dsimp only
    rw [wc, zm_e e]
  rcases o4 with ⟨w4, f4', t4', E4', G4, l4⟩ | ⟨w4, B4⟩
  rotate_left
  · have bq : zt_bq T n 175 g4 k3 := ⟨B4, fun _ => by rw [c348']; omega⟩
    obtain ⟨k4, e4, F5, B5⟩ := zt_emits_b (d := D + 5) bq (by decide) (a + 6 * how + 18 * x)
    exact ⟨a, v4, g4, k4, ea, lC3_comparison (zl_ob gL zt_lay5) (topC rfl), topR2 (e218 e4), J4, zm_F_t F13 (zm_F_s F5 rfl rfl), Or.inr ⟨w4, B5⟩⟩
  have z30 : zv_I k3 347 30 = 0 := zt_gd_f2 G4
  obtain ⟨k4, e4, F5, ko, q5⟩ := zm_emits hM3 (D + 5) (a + 6 * how + 18 * x) (by rw [z30]; exact Int.le_refl _) (fun _ => by rw [c348']; omega)
  obtain ⟨q5a, q5b⟩ := q5 z30
  rw [c348'] at q5a q5b ko
  have p1 := (zt_tkn_f l1).1
  have p2 := (zt_tkn_f l2).1
  have p3 := (zt_tkn_f l4).1
  have p1' := (zt_gd_f G1).2.2.2 (by rw [qh1]; decide)
  have p2' := (zt_gd_f G2).2.2.2 (by decide)
  refine ⟨a, v4, g4, k4, ea, lC3_comparison (zl_ob gL zt_lay5) (topC rfl), topR2 (e218 e4), J4, zm_F_t F13 (zm_F_s F5 rfl rfl), Or.inl ⟨w4, [a + 6 * how + 18 * x], f4', t4', E4', ⟨zt_gd_x G4 rfl rfl (fun _ _ => rfl) (fun _ => rfl) F5, ?_, ?_, ?_, ?_⟩, ?_, q5a, zt_pz_1 (by omega), ?_, Nat.le_refl 1, ko, Or.inl t1⟩⟩
  · exact zm_K_F (zm_K_F (zm_K_F (zm_K_F K F1) F2) F4) F5
  · rw [q5a]
    have hb' := zc_lh hb
    have e : ∀ r i, 9 ≤ r → zv_I g4 r i = zv_I g3 r i := fun r i hr => f4.2.2 r i (fun q => by omega)
    exact ⟨(e _ _ (by omega)).trans (zt_T0_sz S3), fun i v hi => by rw [e _ _ (by omega), e _ _ (by omega)]; exact zt_T0_st S3 i v hi, zt_T0_rg S3⟩
  · rw [q5b]
    omega
  · rw [q5b]
    omega
  · rw [zm_F_g F5 37, zm_F_g F4 37, zm_F_g F2 37, zm_F_g F1 37]
  · show f + 4 * 1 + (if t = 3 then 3 else 1) ≤ f4'
    rw [if_neg (by omega)]
    omega
end
