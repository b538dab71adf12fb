/-! ===== the tie: operands joined by and, by or ===== -/
theorem zt_T0_k {b : Nat} {cs : List Int} {g g' : zv_H} (S : zt_T0 b cs g) (e : ∀ r i, 9 ≤ r → zv_I g' r i = zv_I g r i) (hb : zv_lay b = (1, 0)) : zt_T0 b cs g' := by
  have hb' := zc_lh hb
  exact ⟨(e _ _ (by omega)).trans (zt_T0_sz S), fun i v hi => by rw [e _ _ (by omega), e _ _ (by omega)]; exact zt_T0_st S i v hi, zt_T0_rg S⟩
theorem zt_T0_rf {b : Nat} {cs : List Int} {g g' : zv_H} (S : zt_T0 b cs g) (f : zt_rf g g') (hb : zv_lay b = (1, 0)) : zt_T0 b cs g' := zt_T0_k S (fun r i hr => f.2.2 r i (fun q => by omega)) hb
section
variable {b : Nat} {T : Nat → Int} {n : Nat}
theorem zt_tg_rd (hb : zv_lay b = (1, 0)) {g k g1 k1 : zv_H} {f t E f1 t1 E1 : Nat} (x : zt_tg b T n g k f t E) (G1 : zt_gd T n g1 k1 f1 t1 E1) (l1 : zt_tkn T n E f1 t1 E1) (r : zt_rf g g1) {B : List Nat} (F : zm_F [] B k k1) : zt_tg b T n g1 k1 f1 t1 E1 := by
  have e : zv_I k1 348 = zv_I k 348 := zm_F_a F 348
  have p1 := (zt_tkn_f l1).1
  have p0 := (zt_gd_f (zt_tg_G x)).1
  refine ⟨G1, zm_K_F (zt_tg_K x) F, ?_, ?_, ?_⟩
  · rw [e]
    exact zt_T0_rf (zt_tg_S x) r hb
  · rw [e]
    exact zt_tg_c0 x
  · rw [e]
    have := zt_tg_c4 x
    omega
theorem zt_cd_c4 {c c' : Nat → Int} {e : List Int} (h : zm_cd c' = zm_cd c ++ e) (h0 : 0 ≤ c 4) (h1 : 0 ≤ c' 4) : c' 4 = c 4 + e.length := by
  have := congrArg List.length h
  rw [List.length_append, zt_cd_len, zt_cd_len] at this
  omega
theorem zt_c175 {g k : zv_H} {f t E : Nat} (x : zt_tg b T n g k f t E) : zv_I k 348 4 ≤ 175 ∧ (zm_cd (zv_I k 348)).length < 176 := by
  have h := zt_gd_f (zt_tg_G x)
  have h0 := zt_tg_c0 x
  have h4 := zt_tg_c4 x
  rw [zt_cd_len]
  generalize zv_I k 348 4 = y at h0 h4 ⊢
  omega
/-- places: an operand more -/
theorem zt_pl1 {f0 le W0 f E f1 le2 f2 y1 : Nat} (h1 : f0 + 4 * le + W0 ≤ f) (h2 : f + 2 ≤ E) (h3 : E ≤ f1) (h4 : y1 = 1 → E + 1 ≤ f1) (h5 : y1 = 1 ∨ y1 = 3) (h6 : f1 + 4 * le2 + (if y1 = 3 then 3 else 1) ≤ f2) : f0 + 4 * (le + (le2 + 1)) + W0 ≤ f2 ∧ f + 4 * (le2 + 1) ≤ f2 ∧ f < f2 := by
  rcases h5 with z | z
  · have := h4 z
    rw [if_neg (by omega)] at h6
    omega
  · rw [if_pos z] at h6
    omega
section
variable {c D w : Nat} {op st : Int} {SC : zv_H → Option (Int × zv_H)} {SR : zv_H → Option zv_H} {LC : Int → Int → zv_H → zv_O} {LR : zv_H → zv_O}
theorem zj_loop (hb : zv_lay b = (1, 0)) (hw5 : w < 5) (hwl : 2 ≤ (zm_tx (zt_w8 w)).length) (hop : op < -1 ∧ -3 ≤ op) (hsp : zt_sp op = (st, 0))
  (hLC : ∀ (a : Int) (h : zv_H), a < 700 → LC 1 a h = (C3_is (c + 6) 5 (zt_w8 w) h).bind fun q1 => if q1.1 = 0 then some (some (zv_i 1), q1.2) else (C3_next (c + 6) 5 q1.2).bind fun q2 => if q2.1 = 0 then (C1_add (c + 6) (b + 22) st 0 q2.2).bind fun g1 => LC 0 (zv_w (a + 1)) g1 else (SC q2.2).bind fun q3 => if q3.1 = 0 then (C1_add (c + 6) (b + 22) st 0 q3.2).bind fun g1 => LC 0 (zv_w (a + 1)) g1 else (C1_add (c + 6) (b + 22) st 0 q3.2).bind fun g1 => LC 1 (zv_w (a + 1)) g1)
  (hLC0 : ∀ (a : Int) (h : zv_H), LC 0 a h = some (some (zv_i 0), h)) (hLCe : ∀ (a : Int) (h : zv_H), ¬ a < 700 → LC 1 a h = some (some (zv_i 1), h))
  (hLR : ∀ h : zv_H, LR h = (zv_gR h 347 9 40).bind fun v1 => (C9_which (D + 6) 347 v1 h).bind fun q2 => if q2.1 = (w : Int) then (C9_reads (D + 6) 347 q2.2).bind fun g3 => (SR g3).bind fun g4 => (C9_emits (D + 6) 347 op g4).bind fun g5 => LR g5 else some (none, q2.2))
  {M : Nat} {x deep : Int} (hM1 : 1 ≤ M) (hx : x ≤ 389)
  (hS : ∀ (g k : zv_H) (f t E : Nat), zt_tg b T n g k f t E → zv_I k 347 37 = deep → ∃ (v : Int) (g' k' : zv_H), SC g = some (v, g') ∧ SR k = some k' ∧ zt_to b T n g k f t M x v g' k')
  (hSb : ∀ g k : zv_H, zt_bd T n g k → SR k = some (zt_ms 0 2 k))
  {g0 k0 : zv_H} {f0 y0 : Nat} (c00 : 0 ≤ zv_I k0 348 4) (hd : zv_I k0 347 37 = deep) : ∀ (N : Nat) (g k : zv_H) (e : List Int) (f y E i : Nat), n - f ≤ N → zt_tj b g0 g → zm_F [348] [30, 31, 32, 33, 34, 35, 37, 38] k0 k → zt_gk b T n k0 f0 y0 (M + 1) g k e f y E → i ≤ f → ∃ (v : Int) (g' k' : zv_H), LC 1 i g = some (some (zv_i v), g') ∧ LR k = some (none, k') ∧ zt_to b T n g0 k0 f0 y0 (M + 1) (x + 1) v g' k' := by
  have LRb : ∀ g k : zv_H, zt_bd T n g k → LR k = some (none, k) := fun g k B => by
    rw [hLR, zm_e (zm_f40 (zt_ty_M (zt_bd_Y B))), zm_e (zt_which_b (d := D + 5) B zm_l368 rfl)]
    dsimp only
    rw [if_neg (by omega)]
  intro N
  induction N with
  | zero =>
    intro g k e f y E i hN J F ok hi
    have tg := zt_gk_t ok
    have G := zt_tg_G tg
    have hM := zt_ty_M (zt_gd_Y G)
    obtain ⟨v, ew, hw⟩ := zt_oth (d := c + 2) (D := D + 5) G (zt_tg_K tg)
    rcases hw w hw5 with ⟨p1, p2, p3⟩ | ⟨p1, p2, p3⟩
    · have := (zt_gd_f G).2.2.2 (by rw [p2.1]; decide)
      omega
    · refine ⟨1, g, k, ?_, ?_, J, F, Or.inl ⟨rfl, e, f, y, E, ok⟩⟩
      · by_cases z : (i : Int) < 700
        · rw [hLC _ _ z, zm_e p3]
          dsimp only
          rw [if_pos rfl]
        · exact hLCe _ _ z
      · rw [hLR, zm_e (zm_f40 hM), zm_e ew]
        dsimp only
        rw [if_neg p1]
  | succ N ih =>
    intro g k e f y E i hN J F ok hi
    have tg := zt_gk_t ok
    have G := zt_tg_G tg
    have hM := zt_ty_M (zt_gd_Y G)
    have gL := zt_tx_L (zt_gd_X G)
    obtain ⟨v, ew, hw⟩ := zt_oth (d := c + 2) (D := D + 5) G (zt_tg_K tg)
    rcases hw w hw5 with ⟨p1, p2, p3⟩ | ⟨p1, p2, p3⟩
    rotate_left
    · refine ⟨1, g, k, ?_, ?_, J, F, Or.inl ⟨rfl, e, f, y, E, ok⟩⟩
      · by_cases z : (i : Int) < 700
        · rw [hLC _ _ z, zm_e p3]
          dsimp only
          rw [if_pos rfl]
        · exact hLCe _ _ z
      · rw [hLR, zm_e (zm_f40 hM), zm_e ew]
        dsimp only
        rw [if_neg p1]
    have y1 : y = 1 := p2.1
    have gf := zt_gd_f G
    have gf2 := gf.2.2.2 (by rw [y1]; decide)
    have i7 : i < 700 := by omega
    have fE : f + 2 ≤ E := by
      have := p2.2.1
      omega
    obtain ⟨v1, g1, k1, n1, r1, f1, F1, o1⟩ := zj_nx2 (d := c + 4) (D := D + 1) G (by rw [y1]; decide)
    have gL1 := zt_L_12 gL f1.1 f1.2.1
    have J1 : zt_tj b g0 g1 := zt_tj_t J (zt_tj_rf f1)
    have F01 : zm_F [348] [30, 31, 32, 33, 34, 35, 37, 38] k0 k1 := zm_F_t F (zm_F_s F1 rfl rfl)
    have hLC' := hLC i g (Int.ofNat_lt.mpr i7)
    rw [zm_e p3] at hLC'
    dsimp only at hLC'
    rw [if_neg (by decide), zm_e n1, zt_tkw (Nat.le_of_lt i7)] at hLC'
    dsimp only at hLC'
    have hLR' := hLR k
    rw [zm_e (zm_f40 hM), zm_e ew] at hLR'
    dsimp only at hLR'
    rw [if_pos p1, zm_e r1] at hLR'
    rcases o1 with ⟨w1, f1', t1', E1', G1, l1⟩ | ⟨w1, B1⟩
    rotate_left
    · -- no TOKEN
      obtain ⟨g2, e2, J2⟩ := zt_jadd0 (d := c + 5) hb gL1 st 0
      rw [if_pos w1, zm_e e2, hLC0] at hLC'
      have B1' := zt_bd_ms B1
      obtain ⟨k3, e3, F3, B3⟩ := zt_emits_b (d := D + 5) (zt_bq_told (x := 0) B1'.1 B1'.2) (by decide) op
      rw [zm_e (hSb _ _ B1), zm_e e3, LRb _ _ (zt_bq_B B3)] at hLR'
      exact ⟨0, g2, k3, hLC', hLR', zt_tj_t J1 (zt_tj_ja J2), zm_F_t F01 (zm_F_t (zm_F_s (zt_ms_F 0 2 k1) rfl rfl) (zm_F_s F3 rfl rfl)), Or.inr ⟨rfl, zt_bq_told (zt_bd_ja hb (zt_bq_B B3) J2) (by rw [zm_F_g F3 30]; exact B1'.2)⟩⟩
    rw [if_neg (by omega)] at hLC'
    have tg1 := zt_tg_rd hb tg G1 l1 f1 F1
    have e348 : zv_I k1 348 = zv_I k 348 := zm_F_a F1 348
    have d1 : zv_I k1 347 37 = deep := by rw [zm_F_g F1 37, zt_gk_d ok, hd]
    obtain ⟨v2, g2, k2, s2, t2, to2⟩ := hS g1 k1 f1' t1' E1' tg1 d1
    have gL2 := zt_L_12 gL1 (zt_to_g to2).1 (zt_to_g to2).2.1
    rw [zm_e s2] at hLC'
    dsimp only at hLC'
    rw [zm_e t2] at hLR'
    have J2 := zt_tj_t J1 (zt_to_g to2)
    have F02 := zm_F_t F01 (zt_to_k to2)
    rcases zt_to_o to2 with ⟨w2, e2, f2', y2', E2', ok2⟩ | ⟨w2, B2⟩
    rotate_left
    · obtain ⟨g3, e3, J3⟩ := zt_jadd0 (d := c + 5) hb gL2 st 0
      rw [if_pos w2, zm_e e3, hLC0] at hLC'
      obtain ⟨k3, e4, F3, B3⟩ := zt_emits_b (d := D + 5) B2 (by omega) op
      rw [zm_e e4, LRb _ _ (zt_bq_B B3)] at hLR'
      exact ⟨0, g3, k3, hLC', hLR', zt_tj_t J2 (zt_tj_ja J3), zm_F_t F02 (zm_F_s F3 rfl rfl), Or.inr ⟨rfl, zt_bd_ja hb (zt_bq_B B3) J3, zt_bq_c B3⟩⟩
    rw [if_neg (by omega)] at hLC'
    have tg2 := zt_gk_t ok2
    have c2 := zt_c175 tg2
    have c20 := zt_tg_c0 tg2
    have z30 := zt_gd_f2 (zt_tg_G tg2)
    obtain ⟨g3, e3, J3, S3⟩ := zt_jadd (d := c + 5) hb gL2 (zt_tg_S tg2) c2.2 (v := op) (by omega) (congrArg Prod.fst hsp) (congrArg Prod.snd hsp)
    obtain ⟨k3, e4, F3, ko, q5⟩ := zm_emits (zt_ty_M (zt_gd_Y (zt_tg_G tg2))) (D + 5) op (by rw [z30]; exact Int.le_refl _) (fun _ => by omega)
    obtain ⟨q5a, q5b⟩ := q5 z30
    rw [zm_e e3] at hLC'
    rw [zm_e e4] at hLR'
    have pl := zt_pl1 (zt_gk_w ok) fE (zt_tkn_f l1).1 (fun z => zt_gap G y1 l1 z) (zt_gk_s ok2) (zt_gk_w ok2)
    have E2 := zt_gk_e ok2
    rw [e348] at E2
    have len2 := zt_cd_c4 E2 (zt_tg_c0 tg) c20
    have c4 := zt_tg_c4 tg
    have ok3 : zt_gk b T n k0 f0 y0 (M + 1) g3 k3 (e ++ (e2 ++ [op])) f2' y2' E2' := by
      refine ⟨⟨zt_gd_x (zt_gd_ja hb (zt_tg_G tg2) J3) rfl rfl (fun _ _ => rfl) (fun _ => rfl) F3, zm_K_F (zt_tg_K tg2) F3, by rw [q5a]; exact S3, by rw [q5b]; omega, ?_⟩, ?_, ?_, zt_pz_b (zt_gk_p ok) (zt_gk_p ok2) hM1 hop.1, ?_, ?_, fun i i1 i2 => ?_, zt_gk_s ok⟩
      · rw [q5b, len2]
        have := pl.2.1
        omega
      · rw [zm_F_g F3 37, zt_gk_d ok2, d1, hd]
      · rw [q5a, E2, zt_gk_e ok, List.append_assoc, List.append_assoc]
      · rw [List.length_append, List.length_append]
        exact pl.1
      · rw [List.length_append]
        have := zt_gk_l ok
        omega
      · rw [ko i i1 i2, zt_gk_k ok2 i i1 i2, e348, zt_gk_k ok i i1 i2]
    obtain ⟨v4, g4, k4, a1, a2, a3⟩ := ih g3 k3 (e ++ (e2 ++ [op])) f2' y2' E2' (i + 1) (by have := pl.2.2; omega) (zt_tj_t J2 (zt_tj_ja J3)) (zm_F_t F02 (zm_F_s F3 rfl rfl)) ok3 (by have := pl.2.2; omega)
    exact ⟨v4, g4, k4, hLC'.trans a1, hLR'.trans a2, a3⟩
end
/-- more room -/
theorem zt_gk_m {k : zv_H} {f y m m' : Nat} {g' k' : zv_H} {e : List Int} {f' y' E' : Nat} (h : zt_gk b T n k f y m g' k' e f' y' E') (hm : m ≤ m') : zt_gk b T n k f y m' g' k' e f' y' E' := ⟨zt_gk_t h, zt_gk_d h, zt_gk_e h, zt_pz_m (zt_gk_p h) hm, zt_gk_w h, zt_gk_l h, zt_gk_k h, zt_gk_s h⟩
/-- a piece that begins so, in so many levels -/
def zt_Pf (b : Nat) (T : Nat → Int) (n m : Nat) : Prop := ∀ (d D : Nat) (g k : zv_H) (f t E : Nat), zt_tg b T n g k f t E → zv_I k 347 37 = 6 - (m : Int) → ∃ (v : Int) (g' k' : zv_H), C3_fact (3 * m + d + 6) 5 (b + 22) (6 - (m : Int)) g = some (v, g') ∧ C9_fact (3 * m + D + 7) 347 k = some k' ∧ zt_to b T n g k f t (2 + 2 * m) (176 + m) v g' k'
def zt_Ps (b : Nat) (T : Nat → Int) (n m : Nat) : Prop := ∀ (d D : Nat) (g k : zv_H) (f t E : Nat), zt_tg b T n g k f t E → zv_I k 347 37 = 6 - (m : Int) → ∃ (v : Int) (g' k' : zv_H), C3_side (3 * m + d + 7) 5 (b + 22) (6 - (m : Int)) g = some (v, g') ∧ C9_side (3 * m + D + 8) 347 k = some k' ∧ zt_to b T n g k f t (3 + 2 * m) (177 + m) v g' k'
def zt_Pt (b : Nat) (T : Nat → Int) (n m : Nat) : Prop := ∀ (d D : Nat) (g k : zv_H) (f t E : Nat), zt_tg b T n g k f t E → zv_I k 347 37 = 6 - (m : Int) → ∃ (v : Int) (g' k' : zv_H), C3_test (3 * m + d + 8) 5 (b + 22) (6 - (m : Int)) g = some (v, g') ∧ C9_test (3 * m + D + 9) 347 k = some k' ∧ zt_to b T n g k f t (4 + 2 * m) (178 + m) v g' k'
theorem zj_side (hb : zv_lay b = (1, 0)) {m : Nat} (m6 : m ≤ 6) (hf : zt_Pf b T n m) : zt_Ps b T n m := by
  intro d D g k f t E tg hd
  have gL := zt_tx_L (zt_gd_X (zt_tg_G tg))
  have hM := zt_ty_M (zt_gd_Y (zt_tg_G tg))
  obtain ⟨v, g1, k1, e1, r1, to1⟩ := hf d D g k f t E tg hd
  have qC := qE3_side (3 * m + d + 6) 5 (b + 22) (6 - (m : Int)) g
  rw [zm_e e1] at qC
  dsimp only at qC
  have qR := qE9_side (3 * m + D + 7) 347 k
  rw [zm_e r1] at qR
  have hLC0 : ∀ (a : Int) (h : zv_H), L3_side_10 (3 * m + d + 6) 5 (b + 22) (6 - (m : Int)) 0 a h = some (some (zv_i 0), h) := fun a h => by
    rw [qL3_side_10]
    by_cases z : a < 700
    · rw [if_pos z, if_pos rfl, if_pos (Or.inl rfl)]
    · rw [if_neg z, if_pos (Or.inl rfl)]
  have end1 : ∀ {v' : Int} {g' k' : zv_H}, L3_side_10 (3 * m + d + 6) 5 (b + 22) (6 - (m : Int)) v 0 g1 = some (some (zv_i v'), g') → L9_side_4 (3 * m + D + 7) 347 k1 = some (none, k') → C3_side (3 * m + d + 7) 5 (b + 22) (6 - (m : Int)) g = some (v', g') ∧ C9_side (3 * m + D + 8) 347 k = some k' := fun {v' g' k'} h1 h2 => ⟨lC3_side (zl_ob gL zt_lay5) (qC.trans h1), lC9_side (zm_ob hM) (qR.trans h2)⟩
  rcases zt_to_o to1 with ⟨w1, e, f', y', E', ok⟩ | ⟨w1, B1⟩
  rotate_left
  · have hMk := zt_ty_M (zt_bd_Y (zt_bq_B B1))
    have eR : L9_side_4 (3 * m + D + 7) 347 k1 = some (none, k1) := by
      rw [qL9_side_4, zm_e (zm_f40 hMk), zm_e (zt_which_b (d := 3 * m + D + 6) (zt_bq_B B1) zm_l368 rfl)]
      dsimp only
      rw [if_neg (by decide)]
    have := end1 (by rw [w1]; exact hLC0 0 g1) eR
    refine ⟨0, g1, k1, this.1, this.2, zt_to_g to1, zt_to_k to1, Or.inr ⟨rfl, zt_bq_B B1, fun z => ?_⟩⟩
    have := zt_bq_c B1 z
    omega
  · have lp := zj_loop (b := b) (T := T) (n := n) (c := 3 * m + d) (D := 3 * m + D + 1) (w := 3) (op := -2) (st := 19) (SC := fun h => C3_fact (3 * m + d + 6) 5 (b + 22) (6 - (m : Int)) h) (SR := fun h => C9_fact (3 * m + D + 7) 347 h) (LC := fun x a h => L3_side_10 (3 * m + d + 6) 5 (b + 22) (6 - (m : Int)) x a h) (LR := fun h => L9_side_4 (3 * m + D + 7) 347 h) hb (by decide) (by decide +kernel) (by decide) rfl (fun a h ha => by
      show L3_side_10 (3 * m + d + 6) 5 (b + 22) (6 - (m : Int)) 1 a h = _
      rw [qL3_side_10, if_pos ha, if_neg (by decide)]
      simp only [qL3_side_51, qL3_side_52]
      try rfl) (fun a h => hLC0 a h) (fun a h ha => by
      show L3_side_10 (3 * m + d + 6) 5 (b + 22) (6 - (m : Int)) 1 a h = _
      rw [qL3_side_10, if_neg ha, if_pos (Or.inr rfl)]) (fun h => qL9_side_4 (3 * m + D + 7) 347 h) (M := 2 + 2 * m) (x := 176 + m) (deep := 6 - (m : Int)) (by omega) (by omega) (fun g k f t E x y => hf d D g k f t E x y) (fun g k B => zt_fact_b B) (g0 := g) (k0 := k) (f0 := f) (y0 := t) (zt_tg_c0 tg) hd n g1 k1 e f' y' E' 0 (Nat.sub_le _ _) (zt_to_g to1) (zt_to_k to1) (zt_gk_m ok (by omega)) (Nat.zero_le _)
    obtain ⟨v2, g2, k2, a1, a2, a3⟩ := lp
    have := end1 (by rw [w1]; exact a1) a2
    refine ⟨v2, g2, k2, this.1, this.2, ?_⟩
    rw [show 3 + 2 * m = 2 + 2 * m + 1 by omega, show (177 : Int) + m = 176 + m + 1 by omega]
    exact a3
theorem zj_test (hb : zv_lay b = (1, 0)) {m : Nat} (m6 : m ≤ 6) (hf : zt_Ps b T n m) : zt_Pt b T n m := by
  intro d D g k f t E tg hd
  have gL := zt_tx_L (zt_gd_X (zt_tg_G tg))
  have hM := zt_ty_M (zt_gd_Y (zt_tg_G tg))
  obtain ⟨v, g1, k1, e1, r1, to1⟩ := hf d D g k f t E tg hd
  have qC := qE3_test (3 * m + d + 7) 5 (b + 22) (6 - (m : Int)) g
  rw [zm_e e1] at qC
  dsimp only at qC
  have qR := qE9_test (3 * m + D + 8) 347 k
  rw [zm_e r1] at qR
  have hLC0 : ∀ (a : Int) (h : zv_H), L3_test_10 (3 * m + d + 7) 5 (b + 22) (6 - (m : Int)) 0 a h = some (some (zv_i 0), h) := fun a h => by
    rw [qL3_test_10]
    by_cases z : a < 700
    · rw [if_pos z, if_pos rfl, if_pos (Or.inl rfl)]
    · rw [if_neg z, if_pos (Or.inl rfl)]
  have end1 : ∀ {v' : Int} {g' k' : zv_H}, L3_test_10 (3 * m + d + 7) 5 (b + 22) (6 - (m : Int)) v 0 g1 = some (some (zv_i v'), g') → L9_test_4 (3 * m + D + 8) 347 k1 = some (none, k') → C3_test (3 * m + d + 8) 5 (b + 22) (6 - (m : Int)) g = some (v', g') ∧ C9_test (3 * m + D + 9) 347 k = some k' := fun {v' g' k'} h1 h2 => ⟨lC3_test (zl_ob gL zt_lay5) (qC.trans h1), lC9_test (zm_ob hM) (qR.trans h2)⟩
  rcases zt_to_o to1 with ⟨w1, e, f', y', E', ok⟩ | ⟨w1, B1⟩
  rotate_left
  · have hMk := zt_ty_M (zt_bd_Y (zt_bq_B B1))
    have eR : L9_test_4 (3 * m + D + 8) 347 k1 = some (none, k1) := by
      rw [qL9_test_4, zm_e (zm_f40 hMk), zm_e (zt_which_b (d := 3 * m + D + 7) (zt_bq_B B1) zm_l368 rfl)]
      dsimp only
      rw [if_neg (by decide)]
    have := end1 (by rw [w1]; exact hLC0 0 g1) eR
    refine ⟨0, g1, k1, this.1, this.2, zt_to_g to1, zt_to_k to1, Or.inr ⟨rfl, zt_bq_B B1, fun z => ?_⟩⟩
    have := zt_bq_c B1 z
    omega
  · have lp := zj_loop (b := b) (T := T) (n := n) (c := 3 * m + d + 1) (D := 3 * m + D + 2) (w := 2) (op := -3) (st := 20) (SC := fun h => C3_side (3 * m + d + 7) 5 (b + 22) (6 - (m : Int)) h) (SR := fun h => C9_side (3 * m + D + 8) 347 h) (LC := fun x a h => L3_test_10 (3 * m + d + 7) 5 (b + 22) (6 - (m : Int)) x a h) (LR := fun h => L9_test_4 (3 * m + D + 8) 347 h) hb (by decide) (by decide +kernel) (by decide) rfl (fun a h ha => by
      show L3_test_10 (3 * m + d + 7) 5 (b + 22) (6 - (m : Int)) 1 a h = _
      rw [qL3_test_10, if_pos ha, if_neg (by decide)]
      simp only [qL3_test_51, qL3_test_52]
      try rfl) (fun a h => hLC0 a h) (fun a h ha => by
      show L3_test_10 (3 * m + d + 7) 5 (b + 22) (6 - (m : Int)) 1 a h = _
      rw [qL3_test_10, if_neg ha, if_pos (Or.inr rfl)]) (fun h => qL9_test_4 (3 * m + D + 8) 347 h) (M := 3 + 2 * m) (x := 177 + m) (deep := 6 - (m : Int)) (by omega) (by omega) (fun g k f t E x y => hf d D g k f t E x y) (fun g k B => zt_side_b B) (g0 := g) (k0 := k) (f0 := f) (y0 := t) (zt_tg_c0 tg) hd n g1 k1 e f' y' E' 0 (Nat.sub_le _ _) (zt_to_g to1) (zt_to_k to1) (zt_gk_m ok (by omega)) (Nat.zero_le _)
    obtain ⟨v2, g2, k2, a1, a2, a3⟩ := lp
    have := end1 (by rw [w1]; exact a1) a2
    refine ⟨v2, g2, k2, this.1, this.2, ?_⟩
    rw [show 4 + 2 * m = 3 + 2 * m + 1 by omega, show (178 : Int) + m = 177 + m + 1 by omega]
    exact a3
end
