/-! C01.ask -/
section
/-! ===== what is asked, answered alike: visits, names, children, lines ===== -/
section
variable {a b m : Nat} {g k : zv_H}
theorem za_ref {d : Nat} (gL : zt_L g) (v : Int) : ((C8_refused (d + 1) 1 v g).bind fun q => (some (some (zv_i q.1), q.2) : zv_O)) = some (some (zv_i (-1)), zv_sI g 1 6 v) := by rw [zm_e (zt_refused gL v)]
theorem za_giv {d : Nat} (gL : zt_L g) (v : Int) : ((C8_given (d + 1) 1 v g).bind fun q => (some (some (zv_i q.1), q.2) : zv_O)) = some (some (zv_i v), zv_sI g 1 6 0) := by rw [zm_e (zt_given gL v)]
/-- the reference refuses, or goes on -/
theorem za_isn {D : Nat} (hM : zm_M k) {w : Int} (hw : w ≠ 0) {T : Int × zv_H → zv_O} : ((C9_is (D + 1) 347 w k).bind fun q => if q.1 = 0 then (some (some (zv_i (-1)), q.2) : zv_O) else T q) = some (some (zv_i (-1)), zv_sI (zv_sI k 347 4 0) 347 3 w) := by
  rw [zm_e (zm_is hM D w)]
  dsimp only
  rw [if_neg hw, if_pos rfl]
theorem za_isy {D : Nat} {k1 : zv_H} (i1 : ∀ D, C9_is (D + 1) 347 0 k = some (1, k1)) {T : Int × zv_H → zv_O} : ((C9_is (D + 1) 347 0 k).bind fun q => if q.1 = 0 then (some (some (zv_i (-1)), q.2) : zv_O) else T q) = T (1, k1) := by
  rw [zm_e (i1 D)]
  exact if_neg (show ¬ (1 : Int) = 0 by decide)
theorem za_rf {D : Nat} (hM : zm_M k) (w : Int) : ((C9_refuse (D + 1) 347 w k).bind fun q => (some (some (zv_i q.1), q.2) : zv_O)) = some (some (zv_i (-1)), zv_sI k 347 3 w) := by rw [zm_e (zm_refuse hM D w)]
/-! the log -/
theorem za_slot {d : Nat} {c : Nat → Int} (gL : zt_L g) (la : zv_lay a = (1, 0)) (V : zt_V a c g) (b2 : c 2 < 2000000000) {i : Nat} (hi : (i : Int) < c 5) : C6_slot (d + 1) (a + 17) i g = some ((c 2 - 1 - i) % 40, g) := by
  have vl := zt_vis_l la
  have c0 := zt_V_c0 V
  have c5 := zt_V_c5 V
  have i2 : (i : Int) < c 2 := by
    split at c5 <;> omega
  refine lC6_slot (zl_ob gL vl.1) ?_
  rw [qE6_slot, zm_e (zl_gI gL vl.1 4), zt_V_ct V, zm_w (show -2147483648 ≤ c 2 - 1 ∧ c 2 - 1 < 2147483648 by omega), zm_w (by omega), Int.tmod_eq_emod_of_nonneg (by omega)]
theorem za_stateAt {d : Nat} {c : Nat → Int} (gL : zt_L g) (la : zv_lay a = (1, 0)) (V : zt_V a c g) (b2 : c 2 < 2000000000) {i : Nat} (hi : (i : Int) < c 5) : C6_stateAt (d + 2) (a + 17) i g = some (c (4156 + 2 * i), g) := by
  have vl := zt_vis_l la
  have e6 : zv_gR g (a + 17) 6 0 = some (a + 17 + 1) := zl_gF gL vl.1 0 1
  refine lC6_stateAt (zl_ob gL vl.1) ?_
  rw [qE6_stateAt, zm_e (za_slot (d := d) gL la V b2 hi)]
  dsimp only
  rw [if_neg (by omega), if_pos (by omega), zm_e e6, zm_e (zl_aI gL vl.2.1 (by omega) (by omega)), zt_V_ls V i hi]
theorem za_timeAt {d : Nat} {c : Nat → Int} (gL : zt_L g) (la : zv_lay a = (1, 0)) (V : zt_V a c g) (b2 : c 2 < 2000000000) {i : Nat} (hi : (i : Int) < c 5) : C6_timeAt (d + 2) (a + 17) i g = some (c (4157 + 2 * i), g) := by
  have vl := zt_vis_l la
  have e6 : zv_gR g (a + 17) 6 1 = some (a + 17 + 2) := zl_gF gL vl.1 1 2
  refine lC6_timeAt (zl_ob gL vl.1) ?_
  rw [qE6_timeAt, zm_e (za_slot (d := d) gL la V b2 hi)]
  dsimp only
  rw [if_neg (by omega), if_pos (by omega), zm_e e6, zm_e (zl_aI gL vl.2.2.1 (by omega) (by omega)), zt_V_lt V i hi]
theorem zp_visit {d D : Nat} (hA : zc_A g) (I : zm_MI k) (S : zt_GG m a b g k) (hm : m ≤ 100000) (x y : Int) : ∃ v g' k', C8_visit (d + 28) 1 x y g = some (v, g') ∧ C9_visit (D + 28) 347 x y k = some (v, k') := by
  have gL := zt_L_A hA
  have hM := I.1
  have l1 : zv_lay 1 = (1, 8) := rfl
  have la := (zt_lab (zt_GG_ab S)).1
  have V := zt_H_V (zt_GG_H S)
  have b2 : zv_I k 348 2 < 2000000000 := by have := (zp_b2 S hm).1; omega
  have c0 := zt_V_c0 V
  have c5 := zt_V_c5 V
  have vl := zt_vis_l la
  have e7 : zv_gR g a 0 7 = some (a + 17) := zl_gF gL la 7 17
  have qC := qE8_visit (d + 27) 1 x y g
  have qR := qE9_visit (D + 27) 347 x y k
  rw [zm_e (zc_within (d := d + 26) g x 0 39)] at qC
  rw [zm_e (zm_isIn (h := k) (D + 26) x 0 39)] at qR
  dsimp only at qC qR
  by_cases c1 : 0 ≤ x ∧ x ≤ 39
  · rw [if_pos c1, if_neg (by decide), zm_e (zc_within (d := d + 26) g y 0 1)] at qC
    rw [if_pos c1, if_neg (by decide), zm_e (zm_isIn (h := k) (D + 26) y 0 1)] at qR
    dsimp only at qC qR
    by_cases c2 : 0 ≤ y ∧ y ≤ 1
    · rw [if_pos c2, if_neg (by decide), zm_e (zp_e3 hA S), zm_e e7, zm_e (zl_gI gL vl.1 4), zt_V_ct V] at qC
      rw [if_pos c2, if_neg (by decide), zm_e (zm_f0 hM), zm_e (zm_aI hM zm_l348 rfl (by decide) (by decide))] at qR
      obtain ⟨i, rfl⟩ : ∃ i : Nat, x = i := ⟨x.toNat, by omega⟩
      by_cases c3 : (i : Int) < zv_I k 348 2
      · have i5 : (i : Int) < zv_I k 348 5 := by split at c5 <;> omega
        obtain ⟨k1, i1, F1⟩ := zp_is hM
        have M1 := zm_F_M F1 hM
        have e348 : zv_I k1 348 = zv_I k 348 := zm_F_a F1 348
        rw [if_pos (show (i : Int) < zv_I k 348 (Int.toNat 5) from i5), qL9_visit_39, za_isy i1] at qR
        dsimp only at qR
        rw [zm_e (zm_f0 M1), zm_w (show -2147483648 ≤ 2 * (i : Int) ∧ 2 * (i : Int) < 2147483648 by omega), zm_w (show -2147483648 ≤ 4156 + 2 * (i : Int) ∧ 4156 + 2 * (i : Int) < 2147483648 by omega), zm_w (by omega), zm_e (zm_aI M1 zm_l348 rfl (by omega) (by omega)), e348] at qR
        rw [if_pos c3] at qC
        by_cases c4 : y = 0
        · rw [if_pos c4, zm_e (zp_e3 hA S), zm_e e7, zm_e (za_stateAt (d := d + 25) gL la V b2 i5)] at qC
          dsimp only at qC
          rw [qL8_visit_75, za_giv gL] at qC
          rw [c4, show (4156 + 2 * (i : Int) + 0).toNat = 4156 + 2 * i by omega] at qR
          subst c4
          exact ⟨_, _, _, lC8_visit (zl_ob gL l1) qC, lC9_visit (zm_ob hM) qR⟩
        · have y1 : y = 1 := by omega
          subst y1
          rw [if_neg c4, zm_e (zp_e3 hA S), zm_e e7, zm_e (za_timeAt (d := d + 25) gL la V b2 i5)] at qC
          dsimp only at qC
          rw [qL8_visit_75, za_giv gL] at qC
          rw [show (4156 + 2 * (i : Int) + 1).toNat = 4157 + 2 * i by omega] at qR
          exact ⟨_, _, _, lC8_visit (zl_ob gL l1) qC, lC9_visit (zm_ob hM) qR⟩
      · have i5 : ¬ (i : Int) < zv_I k 348 5 := by split at c5 <;> omega
        rw [if_neg c3, za_ref gL] at qC
        rw [if_neg (show ¬ (i : Int) < zv_I k 348 (Int.toNat 5) from i5), qL9_visit_39, za_isn hM (by decide)] at qR
        exact ⟨_, _, _, lC8_visit (zl_ob gL l1) qC, lC9_visit (zm_ob hM) qR⟩
    · rw [if_neg c2, if_pos rfl, qL8_visit_19, za_ref gL] at qC
      rw [if_neg c2, if_pos rfl, qL9_visit_20, qL9_visit_39, za_isn hM (by decide)] at qR
      exact ⟨_, _, _, lC8_visit (zl_ob gL l1) qC, lC9_visit (zm_ob hM) qR⟩
  · rw [if_neg c1, if_pos rfl, qL8_visit_19, za_ref gL] at qC
    rw [if_neg c1, if_pos rfl, qL9_visit_20, qL9_visit_39, za_isn hM (by decide)] at qR
    exact ⟨_, _, _, lC8_visit (zl_ob gL l1) qC, lC9_visit (zm_ob hM) qR⟩
theorem zp_named {d D : Nat} (hA : zc_A g) (I : zm_MI k) (S : zt_GG m a b g k) : ∃ v g' k', C8_named (d + 28) 1 g = some (v, g') ∧ C9_named (D + 28) 347 k = some (v, k') := by
  have gL := zt_L_A hA
  have hM := I.1
  have l1 : zv_lay 1 = (1, 8) := rfl
  have la := (zt_lab (zt_GG_ab S)).1
  obtain ⟨x, w1, w2, w3, w4⟩ := zt_GG_wt S
  have ek := zt_C7_key (d := d + 25) gL w3 w4
  have qC := qE8_named (d + 27) 1 g
  rw [zm_e (zp_e1 hA), zm_e ek] at qC
  dsimp only at qC
  have qR := qE9_named (D + 27) 347 k
  rw [zm_e (zm_gI hM 20), w1, zm_e (zm_isIn (D + 26) (x : Int) 1 6)] at qR
  dsimp only at qR
  by_cases c6 : 1 ≤ x ∧ x ≤ 6
  rotate_left
  · have cI : ¬ ((1 : Int) ≤ (x : Int) ∧ (x : Int) ≤ 6) := fun q => c6 (by omega)
    rw [if_neg c6, if_pos rfl, za_ref gL] at qC
    rw [if_neg cI, if_pos rfl, qL9_named_19, za_isn hM (by decide)] at qR
    exact ⟨_, _, _, lC8_named (zl_ob gL l1) qC, lC9_named (zm_ob hM) qR⟩
  have cI : (1 : Int) ≤ (x : Int) ∧ (x : Int) ≤ 6 := by omega
  obtain ⟨k1, i1, F1⟩ := zp_is hM
  have S1 := zt_GG_F S F1
  have M1 := zm_F_M F1 hM
  have H := zt_GG_H S1
  have W := zt_U_W (zt_H_U H)
  have b3 := W.2.2.1
  have e361 : zv_I k1 361 = zv_I k 361 := zm_F_a F1 361
  have ep := zt_packed M1 (D + 26) zm_l361 rfl w2 c6.2 w4 (fun j _ => congrFun e361 j)
  have hnw : zt_nw (zt_ls x (zv_I k 361)) := ⟨by rw [zt_ls_len]; exact c6, zt_lw_m w4⟩
  have k0 : ¬ zt_key (zt_ls x (zv_I k 361)) = 0 := fun e => by
    have e2 : zt_ls x (zv_I k 361) = [] := zt_key_inj _ [] (zt_lw_m w4) (fun x hx => by cases hx) e
    have := congrArg List.length e2
    rw [zt_ls_len] at this
    simp only [List.length_nil] at this
    omega
  obtain ⟨u, e1, u1⟩ := zt_indexOf (d := d + 26) gL H (zt_key (zt_ls x (zv_I k 361)))
  obtain ⟨u', e2, u2⟩ := zt_nameAt M1 rfl W (D + 26) (zt_pkd (zt_ls x (zv_I k 361)))
  have eu := zt_ix_u u2 (zt_ix_N (zt_H_N H) hnw u1)
  subst eu
  rw [if_pos c6, if_neg k0, zm_e (zp_e3 hA S), zm_e (zl_gF gL la 6 14), zm_e e1] at qC
  dsimp only at qC
  rw [if_pos cI, if_neg (by decide), qL9_named_19, za_isy i1] at qR
  dsimp only at qR
  rw [zm_e (zm_f18 M1), zm_e (zm_gI M1 20), zm_F_g F1 20, w1, zm_e ep] at qR
  dsimp only at qR
  rw [zm_e e2] at qR
  dsimp only at qR
  rcases u1 with ⟨q1, q2⟩ | ⟨j, q1, q2, q3, q4⟩
  · rw [if_pos (by omega), za_ref gL] at qC
    rw [if_pos (by omega), za_rf M1] at qR
    exact ⟨_, _, _, lC8_named (zl_ob gL l1) qC, lC9_named (zm_ob hM) qR⟩
  · have eo := zt_ownerAt (d := d + 26) gL H q2
    rw [if_neg (by omega), zm_e (zp_e3 hA S), zm_e (zl_gF gL la 6 14), q1, zm_e eo] at qC
    dsimp only at qC
    rw [za_giv gL] at qC
    rw [if_neg (by omega), zm_e (zm_f0 M1), q1, zm_w (show -2147483648 ≤ 2 * (j : Int) ∧ 2 * (j : Int) < 2147483648 by omega), zm_w (show -2147483648 ≤ 408 + 2 * (j : Int) ∧ 408 + 2 * (j : Int) < 2147483648 by omega), zm_w (by omega), zm_e (zm_aI M1 zm_l348 rfl (by omega) (by omega)), show (408 + 2 * (j : Int) + 1).toNat = 409 + 2 * j by omega] at qR
    exact ⟨_, _, _, lC8_named (zl_ob gL l1) qC, lC9_named (zm_ob hM) qR⟩
/-! a State asked for -/
theorem za_at {d : Nat} (hA : zc_A g) (S : zt_GG m a b g k) (s : Int) : C0_at (d + 1) a s g = some ((if zm_st (zv_I k 348) s then zt_r a s else 0), g) := zt_at (zt_L_A hA) (zt_H_U (zt_GG_H S)) s
theorem za_num (S : zt_GG m a b g k) (hA : zc_A g) {s : Int} (hs : zm_st (zv_I k 348) s) : zv_gI g (zt_r a s) 5 0 = some s := by
  have U := zt_H_U (zt_GG_H S)
  rw [zl_gI (zt_L_A hA) (zt_r_l (zt_U_la U) hs.1) 0, zt_num U hs]
theorem za_r0 (S : zt_GG m a b g k) {s : Int} (hs : zm_st (zv_I k 348) s) : ¬ zt_r a s = 0 := zt_r0 (zt_H_U (zt_GG_H S)) hs
theorem zp_first {d D : Nat} (hA : zc_A g) (I : zm_MI k) (S : zt_GG m a b g k) : ∃ v g' k', C8_first (d + 28) 1 g = some (v, g') ∧ C9_first (D + 28) 347 k = some (v, k') := by
  have gL := zt_L_A hA
  have hM := I.1
  have l1 : zv_lay 1 = (1, 8) := rfl
  obtain ⟨k1, i1, F1⟩ := zp_is hM
  have S1 := zt_GG_F S F1
  have M1 := zm_F_M F1 hM
  obtain ⟨v, hv, h1, h2⟩ := zj_fo (d := d + 25) (D := D + 23) gL (zt_GG_H S1) M1 rfl
  have qC := qE8_first (d + 27) 1 g
  rw [zm_e (zp_e3 hA S), zm_e h1] at qC
  dsimp only at qC
  have qR := qE9_first (D + 27) 347 k
  rw [zm_e (i1 (D + 26))] at qR
  dsimp only at qR
  rw [zm_e h2] at qR
  dsimp only at qR
  rcases hv with e | ⟨hs, h0, hh, hc⟩
  · rw [e] at qC qR
    rw [show zt_ro a (-1) = 0 from rfl, if_pos rfl, za_ref gL] at qC
    rw [if_pos (by decide), za_rf M1] at qR
    exact ⟨_, _, _, lC8_first (zl_ob gL l1) qC, lC9_first (zm_ob hM) qR⟩
  · have v0 := hs.1
    have er : zt_ro a v = zt_r a v := if_neg (by omega)
    rw [er, if_neg (za_r0 S1 hs), zm_e (za_num S1 hA hs), za_giv gL] at qC
    rw [if_neg (by omega)] at qR
    exact ⟨_, _, _, lC8_first (zl_ob gL l1) qC, lC9_first (zm_ob hM) qR⟩
theorem zp_common {d D : Nat} (hA : zc_A g) (I : zm_MI k) (S : zt_GG m a b g k) (s t : Int) : ∃ v g' k', C8_common (d + 28) 1 s t g = some (v, g') ∧ C9_common (D + 28) 347 s t k = some (v, k') := by
  have gL := zt_L_A hA
  have hM := I.1
  have l1 : zv_lay 1 = (1, 8) := rfl
  have qC := qE8_common (d + 27) 1 s t g
  rw [zm_e (zp_e3 hA S), zm_e (za_at (d := d + 26) hA S s)] at qC
  dsimp only at qC
  rw [zm_e (zp_e3 hA S), zm_e (za_at (d := d + 26) hA S t)] at qC
  dsimp only at qC
  have qR := qE9_common (D + 27) 347 s t k
  rw [zm_e (zm_isState hM (D + 25) s)] at qR
  dsimp only at qR
  by_cases hs : zm_st (zv_I k 348) s
  rotate_left
  · rw [if_neg hs, if_pos rfl, qL8_common_28, za_ref gL] at qC
    rw [if_neg hs, if_pos rfl, qL9_common_21, qL9_common_22, za_isn hM (by decide)] at qR
    exact ⟨_, _, _, lC8_common (zl_ob gL l1) qC, lC9_common (zm_ob hM) qR⟩
  rw [if_pos hs, if_neg (za_r0 S hs)] at qC
  rw [if_pos hs, if_neg (by decide), zm_e (zm_isState hM (D + 25) t)] at qR
  dsimp only at qR
  by_cases ht : zm_st (zv_I k 348) t
  rotate_left
  · rw [if_neg ht, if_pos rfl, qL8_common_28, za_ref gL] at qC
    rw [if_neg ht, if_pos rfl, qL9_common_21, qL9_common_22, za_isn hM (by decide)] at qR
    exact ⟨_, _, _, lC8_common (zl_ob gL l1) qC, lC9_common (zm_ob hM) qR⟩
  obtain ⟨k1, i1, F1⟩ := zp_is hM
  have S1 := zt_GG_F S F1
  have M1 := zm_F_M F1 hM
  have U := zt_H_U (zt_GG_H S1)
  have W := zt_U_W U
  have e348 : zv_I k1 348 = zv_I k 348 := zm_F_a F1 348
  have hs1 : zm_st (zv_I k1 348) s := by rw [e348]; exact hs
  have ht1 : zm_st (zv_I k1 348) t := by rw [e348]; exact ht
  obtain ⟨ls, hls, _⟩ := zt_line W hs1
  obtain ⟨lt, hlt, _⟩ := zt_line W ht1
  have en := zt_nearest (d := d + 25) gL U hs1 ht1 hls hlt
  have ec := zt_commonOf M1 rfl W (D + 24) hs1 ht1 hls hlt
  have hn := (zt_near_st W hs1 ht1 hls hlt).2
  rw [if_pos ht, if_neg (za_r0 S ht), zm_e en] at qC
  dsimp only at qC
  rw [zm_e (za_num S1 hA hn), za_giv gL] at qC
  rw [if_pos ht, if_neg (by decide), qL9_common_22, za_isy i1] at qR
  dsimp only at qR
  rw [zm_e ec] at qR
  exact ⟨_, _, _, lC8_common (zl_ob gL l1) qC, lC9_common (zm_ob hM) qR⟩
theorem za_nch48 (c : Nat → Int) (s : Int) : zm_nch c s ≤ 48 := by
  unfold zm_nch
  have : ∀ n : Nat, zm_sum (fun k => if zm_st c k ∧ zm_o c k 1 = s then 1 else 0) n ≤ n := by
    intro n
    induction n with
    | zero => exact Int.le_refl _
    | succ n ih =>
      show zm_sum (fun k => if zm_st c k ∧ zm_o c k 1 = s then 1 else 0) n + (if zm_st c (n : Int) ∧ zm_o c (n : Int) 1 = s then 1 else 0) ≤ _
      split <;> omega
  exact this 48
theorem zp_child {d D : Nat} (hA : zc_A g) (I : zm_MI k) (S : zt_GG m a b g k) (hm : m ≤ 100000) (s : Int) {n : Int} (rn : zv_rg n) : ∃ v g' k', C8_child (d + 28) 1 s n g = some (v, g') ∧ C9_child (D + 28) 347 s n k = some (v, k') := by
  have gL := zt_L_A hA
  have hM := I.1
  have l1 : zv_lay 1 = (1, 8) := rfl
  have qC := qE8_child (d + 27) 1 s n g
  have qR := qE9_child (D + 27) 347 s n k
  by_cases n0 : n < 0
  · rw [if_pos n0, za_ref gL] at qC
    rw [if_pos n0, qL9_child_22, za_isn hM (by decide)] at qR
    exact ⟨_, _, _, lC8_child (zl_ob gL l1) qC, lC9_child (zm_ob hM) qR⟩
  rw [if_neg n0, zm_e (zp_e3 hA S), zm_e (za_at (d := d + 26) hA S s)] at qC
  dsimp only at qC
  rw [if_neg n0, zm_e (zm_isState hM (D + 25) s)] at qR
  dsimp only at qR
  by_cases hs : zm_st (zv_I k 348) s
  rotate_left
  · rw [if_neg hs, if_pos rfl, za_ref gL] at qC
    rw [if_neg hs, if_pos rfl, qL9_child_22, za_isn hM (by decide)] at qR
    exact ⟨_, _, _, lC8_child (zl_ob gL l1) qC, lC9_child (zm_ob hM) qR⟩
  obtain ⟨k1, i1, F1⟩ := zp_is hM
  have S1 := zt_GG_F S F1
  have M1 := zm_F_M F1 hM
  have H1 := zt_GG_H S1
  have U := zt_H_U H1
  have e348 : zv_I k1 348 = zv_I k 348 := zm_F_a F1 348
  have hs1 : zm_st (zv_I k1 348) s := by rw [e348]; exact hs
  rw [if_pos hs, if_neg (za_r0 S hs), zm_e (zp_e3 hA S)] at qC
  rw [if_pos hs, if_neg (by decide), qL9_child_22, za_isy i1] at qR
  dsimp only at qR
  by_cases n48 : n < 48
  · have b2 : zv_I k1 348 2 < 2000000000 := by have := (zp_b2 S1 hm).1; omega
    obtain ⟨v, g', v', h1, h2, h3, h4, h5⟩ := zj_child (d := d + 24) (D := D + 23) hA H1 M1 rfl b2 hs1 rn (by omega)
    have gL' := zt_L_A h3.2
    rw [zm_e h1] at qC
    dsimp only at qC
    rw [if_pos n48, zm_e h4] at qR
    dsimp only at qR
    rcases h5 with ⟨z1, z2⟩ | ⟨z1, z2, z3⟩
    · rw [if_pos z1, za_ref gL'] at qC
      rw [z2, qL9_child_46, if_pos (by decide), za_rf M1] at qR
      exact ⟨_, _, _, lC8_child (zl_ob gL l1) qC, lC9_child (zm_ob hM) qR⟩
    · have S2 : zt_H a (zv_I k1 348) g' := zt_H_q H1 (zt_n14_q h2)
      have v0 := z1.1
      rw [z3, if_neg (zt_r0 U z1), zl_gI gL' (zt_r_l (zt_U_la U) z1.1) 0, zt_num (zt_H_U S2) z1] at qC
      have qC2 := qC
      rw [show ((some v').bind fun v8 => (C8_given (d + 27) 1 v8 g').bind fun q9 => (some (some (zv_i q9.1), q9.2) : zv_O)) = ((C8_given (d + 27) 1 v' g').bind fun q9 => (some (some (zv_i q9.1), q9.2) : zv_O)) from rfl, za_giv gL'] at qC2
      rw [qL9_child_46, if_neg (by omega)] at qR
      exact ⟨_, _, _, lC8_child (zl_ob gL l1) qC2, lC9_child (zm_ob hM) qR⟩
  · have lr := zt_r_l (zt_U_la U) hs1.1
    have ch := zt_S_ch (zt_U_st U s hs1)
    have n4 := za_nch48 (zv_I k1 348) s
    have ec : C0_childOf (d + 27) a (zt_r a s) n g = some (0, g) := lC0_childOf (zl_ob gL (zt_U_la U)) (by
      rw [qE0_childOf, if_neg n0, zm_e (zl_gI gL lr 11), ch, if_neg (by omega)])
    rw [zm_e ec] at qC
    dsimp only at qC
    rw [if_pos rfl, za_ref gL] at qC
    rw [if_neg n48, qL9_child_46, if_pos (by decide), za_rf M1] at qR
    exact ⟨_, _, _, lC8_child (zl_ob gL l1) qC, lC9_child (zm_ob hM) qR⟩
end
end
/-! C02.ask2 -/
section
/-! ===== what is asked, answered alike: of one State; behind so many undo ===== -/
section
variable {a b m : Nat} {g k : zv_H}
/-- the first of one's group, as a number -/
theorem za_fst {c : Nat → Int} (hA : zc_A g) (U : zt_U a c g) {s : Int} (hs : zm_st c s) : zm_st c (zm_o c s 6) ∧ zv_R g (zt_r a s) 5 = zt_r a (zm_o c s 6) := by
  have la := zt_U_la U
  have W := zt_U_W U
  have fi := zt_S_fi (zt_U_st U s hs)
  refine ⟨?_, fi⟩
  by_cases z : s = 0
  · subst z
    have lS := zt_r_l la hs.1
    have e4 : zv_R g (zt_r a 0) 4 = 0 := by
      rw [zt_S_pa (zt_U_st U 0 hs), W.1.2.1.2.1]
      rfl
    have e5 : zv_R g (zt_r a 0) 5 = zt_r a 0 := by
      rcases hA.2.1 _ lS with t | t
      · have h1 := zt_U_lv U 0 (by decide)
        have h2 := t.1
        rw [zt_r_p (by decide)] at h2
        have h3 : zv_I g (zc_stt a 0) 3 = 0 := h2
        rw [h1] at h3
        have h4 : zm_o c 0 0 = 1 := hs.2
        have h5 : zm_o c ((0 : Nat) : Int) 0 = zm_o c 0 0 := rfl
        omega
      · rcases t.2.2.2.1 with u | u
        · exact u
        · exact absurd e4 u.1
    rw [e5] at fi
    have f0 : zm_o c 0 6 = 0 := by
      generalize zm_o c 0 6 = f at fi
      by_cases f0 : f < 0
      · rw [zt_r_n f0] at fi
        exact absurd fi (zt_r0 U hs)
      · rw [zt_r_p (by omega : (0 : Int) ≤ 0), zt_r_p (by omega : 0 ≤ f)] at fi
        unfold zc_stt at fi
        rw [if_pos (show Int.toNat 0 = 0 from rfl)] at fi
        by_cases c0 : f.toNat = 0
        · omega
        · rw [if_neg c0] at fi
          omega
    rw [f0]
    exact hs
  · exact (zm_fp W.1 hs z).1
theorem zp_state {d D : Nat} (hA : zc_A g) (I : zm_MI k) (S : zt_GG m a b g k) (s w : Int) : ∃ v g' k', C8_state (d + 28) 1 s w g = some (v, g') ∧ C9_state (D + 28) 347 s w k = some (v, k') := by
  have gL := zt_L_A hA
  have hM := I.1
  have l1 : zv_lay 1 = (1, 8) := rfl
  have la := (zt_lab (zt_GG_ab S)).1
  have qC := qE8_state (d + 27) 1 s w g
  have qR := qE9_state (D + 27) 347 s w k
  rw [zm_e (zc_within (d := d + 26) g w 0 9)] at qC
  rw [zm_e (zm_isIn (h := k) (D + 26) w 0 9)] at qR
  dsimp only at qC qR
  by_cases cw : 0 ≤ w ∧ w ≤ 9
  rotate_left
  · rw [if_neg cw, if_pos rfl, za_ref gL] at qC
    rw [if_neg cw, if_pos rfl, qL9_state_28, za_isn hM (by decide)] at qR
    exact ⟨_, _, _, lC8_state (zl_ob gL l1) qC, lC9_state (zm_ob hM) qR⟩
  rw [if_pos cw, if_neg (by decide), zm_e (zp_e3 hA S), zm_e (za_at (d := d + 26) hA S s)] at qC
  dsimp only at qC
  rw [if_pos cw, if_neg (by decide), zm_e (zm_isState hM (D + 25) s)] at qR
  dsimp only at qR
  by_cases hs : zm_st (zv_I k 348) s
  rotate_left
  · rw [if_neg hs, if_pos rfl, za_ref gL] at qC
    rw [if_neg hs, if_pos rfl, qL9_state_28, za_isn hM (by decide)] at qR
    exact ⟨_, _, _, lC8_state (zl_ob gL l1) qC, lC9_state (zm_ob hM) qR⟩
  obtain ⟨k1, i1, F1⟩ := zp_is hM
  have S1 := zt_GG_F S F1
  have M1 := zm_F_M F1 hM
  have H1 := zt_GG_H S1
  have U := zt_H_U H1
  have W := zt_U_W U
  have e348 : zv_I k1 348 = zv_I k 348 := zm_F_a F1 348
  have hs1 : zm_st (zv_I k1 348) s := by rw [e348]; exact hs
  have h48 : 0 ≤ s ∧ s ≤ 48 := zm_st48 hs
  have lr := zt_r_l la hs.1
  have u := zt_U_st U s hs1
  rw [if_pos hs, if_neg (za_r0 S hs)] at qC
  rw [if_pos hs, if_neg (by decide), qL9_state_28, za_isy i1] at qR
  dsimp only at qR
  have low : ∀ x : Nat, x < 6 → w = (x : Int) → E9_state (D + 27) 347 s w k = some (some (zv_i (zm_o (zv_I k1 348) s (1 + (x : Int)))), k1) := fun x hx e => by
    rw [qR, if_pos (by omega), e, zm_w (by omega), zm_e (zm_of M1 (D + 26) h48 (by omega))]
  by_cases c0 : w = 0
  · have q := low 0 (by decide) c0
    rw [if_pos c0, zm_e (zl_gR gL lr 4), zt_S_pa u] at qC
    have q' : E9_state (D + 27) 347 s w k = some (some (zv_i (zm_o (zv_I k1 348) s 1)), k1) := q
    obtain ⟨l, hl⟩ := zm_WL_of W.1 s hs1
    by_cases z : s = 0
    · subst z
      have p := W.1.2.1.2.1
      rw [p, if_pos (zt_r_n (by decide)), qL8_state_107, za_giv gL] at qC
      rw [p] at q'
      exact ⟨_, _, _, lC8_state (zl_ob gL l1) qC, lC9_state (zm_ob hM) q'⟩
    · obtain ⟨l2, h2, _⟩ := zt_line W hs1
      have hp : zm_st (zv_I k1 348) (zm_o (zv_I k1 348) s 1) := by
        obtain ⟨l3, h3⟩ := W.1.2.2 s hs1
        have l4 := h3.2.1
        have h5 := h3.1
        cases l3 with
        | nil =>
          have : s = 0 := by
            have := l4.2.1
            rw [List.getLast?_singleton] at this
            exact Option.some.inj this
          exact absurd this z
        | cons p l3 =>
          have e := (zt_pa_cons U hs1 h5).2.2
          rw [e]
          exact l4.2.2 p (List.mem_cons_of_mem _ List.mem_cons_self)
      rw [if_neg (zt_r0 U hp), zm_e (zl_gR gL lr 4), zt_S_pa u, zm_e (za_num S1 hA hp), qL8_state_107, za_giv gL] at qC
      exact ⟨_, _, _, lC8_state (zl_ob gL l1) qC, lC9_state (zm_ob hM) q'⟩
  rw [if_neg c0] at qC
  by_cases c1 : w = 1
  · have q := low 1 (by decide) c1
    rw [if_pos c1, zm_e (zl_gI gL lr 6), zt_S_ac u, za_giv gL] at qC
    exact ⟨_, _, _, lC8_state (zl_ob gL l1) qC, lC9_state (zm_ob hM) q⟩
  rw [if_neg c1] at qC
  by_cases c2 : w = 2
  · have q := low 2 (by decide) c2
    rw [if_pos c2, zm_e (zl_gI gL lr 7), zt_S_ti u, za_giv gL] at qC
    exact ⟨_, _, _, lC8_state (zl_ob gL l1) qC, lC9_state (zm_ob hM) q⟩
  rw [if_neg c2] at qC
  by_cases c3 : w = 3
  · have q := low 3 (by decide) c3
    rw [if_pos c3, zm_e (zl_gI gL lr 8), zt_S_pl u, za_giv gL] at qC
    exact ⟨_, _, _, lC8_state (zl_ob gL l1) qC, lC9_state (zm_ob hM) q⟩
  rw [if_neg c3] at qC
  by_cases c4 : w = 4
  · have q := low 4 (by decide) c4
    rw [if_pos c4, zm_e (zl_gI gL lr 9), zt_S_sz u, za_giv gL] at qC
    exact ⟨_, _, _, lC8_state (zl_ob gL l1) qC, lC9_state (zm_ob hM) q⟩
  rw [if_neg c4] at qC
  by_cases c5 : w = 5
  · have q := low 5 (by decide) c5
    obtain ⟨hf, ef⟩ := za_fst hA U hs1
    rw [if_pos c5, zm_e (zl_gR gL lr 5), ef, if_neg (zt_r0 U hf), zm_e (zl_gR gL lr 5), ef, zm_e (za_num S1 hA hf), qL8_state_166, za_giv gL] at qC
    exact ⟨_, _, _, lC8_state (zl_ob gL l1) qC, lC9_state (zm_ob hM) q⟩
  rw [if_neg c5] at qC
  rw [if_neg (show ¬ w < 6 by omega)] at qR
  by_cases c6 : w = 6
  · rw [if_pos c6, zm_e (zl_gI gL lr 11), zt_S_ch u, za_giv gL] at qC
    rw [if_pos c6, zm_e (zm_childrenOf M1 (D + 24) s)] at qR
    exact ⟨_, _, _, lC8_state (zl_ob gL l1) qC, lC9_state (zm_ob hM) qR⟩
  rw [if_neg c6] at qC qR
  obtain ⟨l, hW1, hl2, hG, hT⟩ := zm_W_l W.1 hs1
  have hl := hW1.1
  by_cases c7 : w = 7
  · rw [if_pos c7, zm_e (zl_gI gL lr 10), zt_S_de u l hl, za_giv gL] at qC
    rw [if_pos c7, zm_e (zm_depthOf M1 (D + 25) hl (by omega))] at qR
    exact ⟨_, _, _, lC8_state (zl_ob gL l1) qC, lC9_state (zm_ob hM) qR⟩
  rw [if_neg c7] at qC qR
  by_cases c8 : w = 8
  · obtain ⟨⟨n, k2⟩, e2, en, _⟩ := zm_lettersOf M1 (D + 22) (zm_sees_st M1 rfl (D + 22) hW1 hl2 hG hT)
    have en' : n = ((zm_row (zv_I k1 348) (s :: l)).filter (zm_sn (zv_I k1 348) (s :: l))).length := en
    rw [if_pos c8, zm_e (zl_gI gL lr 12), zt_S_ln u l hl, za_giv gL] at qC
    rw [if_pos c8, zm_e e2, en'] at qR
    exact ⟨_, _, _, lC8_state (zl_ob gL l1) qC, lC9_state (zm_ob hM) qR⟩
  rw [if_neg c8] at qC qR
  obtain ⟨n, n1, n2⟩ := zt_count (d := d + 26) (D := D + 26) gL la (zt_H_N H1) M1 rfl W.2.2.1 s
  rw [zm_e (zp_e3 hA S), zm_e (zl_gF gL la 6 14), zm_e (za_num S1 hA hs1), zm_e n1] at qC
  dsimp only at qC
  rw [za_giv gL] at qC
  rw [zm_e n2] at qR
  exact ⟨_, _, _, lC8_state (zl_ob gL l1) qC, lC9_state (zm_ob hM) qR⟩
/-- so many undo, on both -/
theorem za_behind {d D n : Nat} (hA : zc_A g) (S : zt_GG m a b g k) (hM : zm_M k) (hn : n ≤ 48) : ∀ (r i : Nat) (x : Int), i + r = n → zm_st (zv_I k 348) x → ∃ (v : Nat) (w : Int) (k' : zv_H), L0_behind_7 d n (zt_r a x) i g = some (some (zv_r v), g) ∧ L9_back_31 (D + 1) 347 n x i k = some (some (zv_i w), k') ∧ ((v = 0 ∧ w = -1) ∨ (zm_st (zv_I k 348) w ∧ v = zt_r a w)) := by
  have gL := zt_L_A hA
  have U := zt_H_U (zt_GG_H S)
  have la := zt_U_la U
  have W := zt_U_W U
  intro r
  induction r with
  | zero =>
    intro i x hi hx
    exact ⟨zt_r a x, x, k, by rw [qL0_behind_7, if_neg (by omega)], by rw [qL9_back_31, if_neg (by omega)], Or.inr ⟨hx, rfl⟩⟩
  | succ r ih =>
    intro i x hi hx
    have lr := zt_r_l la hx.1
    have w1 : zv_w ((i : Int) + 1) = ((i + 1 : Nat) : Int) := by
      rw [zm_w (by omega)]
      rfl
    obtain ⟨hf, ef⟩ := za_fst hA U hx
    have lf := zt_r_l la hf.1
    by_cases z : x = 0
    · obtain ⟨f1, f2, f3⟩ := zt_fp hA U hx
      have fp : zt_fpp (zv_I k 348) x = -1 := if_pos z
      rw [fp, ef] at f2
      have f2' : zv_R g (zt_r a (zm_o (zv_I k 348) x 6)) 4 = 0 := f2
      refine ⟨0, -1, _, ?_, by rw [qL9_back_31, if_pos (by omega), if_pos z, za_rf hM], Or.inl ⟨rfl, rfl⟩⟩
      rw [qL0_behind_7, if_pos (by omega), if_neg (zt_r0 U hx), zm_e (zl_gR gL lr 5), ef, if_neg (zt_r0 U hf), zm_e (zl_gR gL lr 5), ef, zm_e (zl_gR gL lf 4), f2', w1, qL0_behind_7]
      by_cases c : ((i + 1 : Nat) : Int) < (n : Int)
      · rw [if_pos c, if_pos rfl]
      · rw [if_neg c]
    · obtain ⟨hf1, hp⟩ := zm_fp W.1 hx z
      obtain ⟨v, w, k', e1, e2, e3⟩ := ih (i + 1) (zm_o (zv_I k 348) (zm_o (zv_I k 348) x 6) 1) (by omega) hp
      refine ⟨v, w, k', ?_, ?_, e3⟩
      · rw [qL0_behind_7, if_pos (by omega), if_neg (zt_r0 U hx), zm_e (zl_gR gL lr 5), ef, if_neg (zt_r0 U hf), zm_e (zl_gR gL lr 5), ef, zm_e (zl_gR gL lf 4), zt_S_pa (zt_U_st U _ hf), w1]
        exact e1
      · rw [qL9_back_31, if_pos (by omega), if_neg z, zm_e (zm_of hM D (zm_st48 hx) (by decide))]
        dsimp only
        rw [zm_e (zm_of hM D (zm_st48 hf) (by decide)), w1]
        exact e2
theorem zp_back {d D : Nat} (hA : zc_A g) (I : zm_MI k) (S : zt_GG m a b g k) (n : Int) : ∃ v g' k', C8_back (d + 28) 1 n g = some (v, g') ∧ C9_back (D + 28) 347 n k = some (v, k') := by
  have gL := zt_L_A hA
  have hM := I.1
  have l1 : zv_lay 1 = (1, 8) := rfl
  have la := (zt_lab (zt_GG_ab S)).1
  have qC := qE8_back (d + 27) 1 n g
  have qR := qE9_back (D + 27) 347 n k
  rw [zm_e (zc_within (d := d + 26) g n 1 48)] at qC
  rw [zm_e (zm_isIn (h := k) (D + 26) n 1 48)] at qR
  dsimp only at qC qR
  by_cases cw : 1 ≤ n ∧ n ≤ 48
  rotate_left
  · rw [if_neg cw, if_pos rfl, za_ref gL] at qC
    rw [if_neg cw, if_pos rfl, qL9_back_16, za_isn hM (by decide)] at qR
    exact ⟨_, _, _, lC8_back (zl_ob gL l1) qC, lC9_back (zm_ob hM) qR⟩
  obtain ⟨j, rfl⟩ : ∃ j : Nat, n = j := ⟨n.toNat, by omega⟩
  obtain ⟨k1, i1, F1⟩ := zp_is hM
  have S1 := zt_GG_F S F1
  have M1 := zm_F_M F1 hM
  have U := zt_H_U (zt_GG_H S1)
  have W := zt_U_W U
  obtain ⟨v, w, k', e1, e2, e3⟩ := za_behind (d := d + 26) (D := D + 26) hA S1 M1 (show j ≤ 48 by omega) j 0 (zv_I k1 348 0) (Nat.zero_add _) W.2.1
  have eb : C0_behind (d + 27) a (j : Int) g = some (v, g) := lC0_behind (zl_ob gL la) (by
    rw [qE0_behind, zm_e (zl_gR gL la 10), zt_U_he U]
    exact e1)
  rw [if_pos cw, if_neg (by decide), zm_e (zp_e3 hA S), zm_e eb] at qC
  dsimp only at qC
  rw [if_pos cw, if_neg (by decide), qL9_back_16, za_isy i1] at qR
  dsimp only at qR
  rw [zm_e (zm_here M1 _)] at qR
  dsimp only at qR
  have e2' : L9_back_31 (D + 27) 347 (j : Int) (zv_I k1 348 0) 0 k1 = some (some (zv_i w), k') := e2
  rw [e2'] at qR
  rcases e3 with ⟨z1, z2⟩ | ⟨z1, z2⟩
  · rw [if_pos z1, za_ref gL] at qC
    rw [z2] at qR
    exact ⟨_, _, _, lC8_back (zl_ob gL l1) qC, lC9_back (zm_ob hM) qR⟩
  · rw [z2, if_neg (zt_r0 U z1), zm_e (za_num S1 hA z1), za_giv gL] at qC
    exact ⟨_, _, _, lC8_back (zl_ob gL l1) qC, lC9_back (zm_ob hM) qR⟩
end
end
/-! C03.doc -/
section
/-! ===== what is asked, answered alike: documents, letter by letter ===== -/
/-- the letters of a document -/
def za_D (c : Nat → Int) (s : Int) (A : List Int) : Prop := ∃ l, zm_Ln c (s :: l) s ∧ A = (zt_dc c (s :: l)).map (zm_lt c)
theorem za_D_u {c : Nat → Int} {s : Int} {A B : List Int} (h1 : za_D c s A) (h2 : za_D c s B) : A = B := by
  obtain ⟨l, h3, h4⟩ := h1
  obtain ⟨l', h5, h6⟩ := h2
  rw [h4, h6, zm_Ln_u h3 h5]
/-- the i-th, or none -/
def za_nth (A : List Int) (i : Nat) : Int := if h : i < A.length then A[i] else -1
theorem za_nth_in {A : List Int} {i : Nat} (h : i < A.length) : za_nth A i = A[i] := dif_pos h
theorem za_nth_out {A : List Int} {i : Nat} (h : ¬ i < A.length) : za_nth A i = -1 := dif_neg h
section
variable {a b m : Nat} {g k : zv_H}
/-- a letter of a row, in the class -/
theorem za_glyph {d : Nat} {c : Nat → Int} (gL : zt_L g) (U : zt_U a c g) {s : Int} {l : List Int} (hs : zm_st c s) (hl : zm_Ln c (s :: l) s) {x : Int × Int} (hx : x ∈ zm_row c (s :: l)) : C0_glyph (d + 1) a (zt_id x) g = some (zm_lt c x, g) := by
  have la := zt_U_la U
  have W := zt_U_W U
  obtain ⟨ok, G, _, _⟩ := zt_line_u W hs hl
  have xok := zt_row_ok ok.2.2.1 G x hx
  have xr := zt_id_r xok
  obtain ⟨m1, m2, m3⟩ := zm_row_mem hx
  have hx1 := ok.2.2.1 x.1 m1
  have lgl : zv_lay (a + 5) = (2, 604) := by rcases zc_lh la with e | e <;> rw [e] <;> rfl
  have gl := zt_S_gl (zt_U_st U x.1 hx1) (by
    by_cases z : x.1 = 0
    · exact Or.inr z
    · exact Or.inl (zt_row_ed hx G.2.1 z)) x.2.toNat (by omega)
  have e2 : ((x.2.toNat : Nat) : Int) = x.2 := by omega
  rw [e2] at gl
  refine lC0_glyph (zl_ob gL la) ?_
  rw [qE0_glyph, if_neg (by omega), if_pos (by omega), zm_e (zl_gF gL la 2 5), zm_e (zl_aI gL lgl (by omega) (by omega)), show (zt_id x) = zt_id (x.1, x.2) from rfl, gl]
  rfl
/-- the class's document -/
theorem za_D_ex (S : zt_GG m a b g k) {s : Int} (hs : zm_st (zv_I k 348) s) : ∃ A, za_D (zv_I k 348) s A ∧ A.length ≤ 120 := by
  have W := zt_U_W (zt_H_U (zt_GG_H S))
  obtain ⟨l, h1, _⟩ := zm_W_l W.1 hs
  refine ⟨_, ⟨l, h1.1, rfl⟩, ?_⟩
  rw [List.length_map]
  exact h1.2.2.2.2.2.2
theorem za_D_n (S : zt_GG m a b g k) {s : Int} (hs : zm_st (zv_I k 348) s) {A : List Int} (hA : za_D (zv_I k 348) s A) : zv_I g (zt_r a s) 12 = A.length ∧ A.length ≤ 120 := by
  obtain ⟨B, hB, hn⟩ := za_D_ex S hs
  have e := za_D_u hB hA
  subst e
  obtain ⟨l, h1, h2⟩ := hB
  refine ⟨?_, hn⟩
  rw [zt_S_ln (zt_U_st (zt_H_U (zt_GG_H S)) s hs) l h1, h2, List.length_map]
theorem za_letterAt {d : Nat} {c : Nat → Int} (gL : zt_L g) (U : zt_U a c g) {s : Int} (hs : zm_st c s) {A : List Int} (hD : za_D c s A) (i : Nat) : C0_letterAt (d + 2) a (zt_r a s) (i : Int) g = some (za_nth A i, g) := by
  obtain ⟨l, hl, e⟩ := hD
  have la := zt_U_la U
  have W := zt_U_W U
  have lr := zt_r_l la hs.1
  have u := zt_U_st U s hs
  obtain ⟨l2, h1, _⟩ := zm_W_l W.1 hs
  have e2 : l2 = l := (List.cons.inj (zm_Ln_u h1.1 hl)).2
  subst e2
  have h120 : (zt_dc c (s :: l2)).length ≤ 120 := h1.2.2.2.2.2.2
  have e12 := zt_S_ln u l2 hl
  have ei := zt_C5_idAt (d := d) gL lr (by rw [e12]; omega) (i : Int)
  refine lC0_letterAt (zl_ob gL la) ?_
  rw [qE0_letterAt, zm_e ei, e12]
  dsimp only
  by_cases c1 : i < (zt_dc c (s :: l2)).length
  · have hx : (zt_dc c (s :: l2))[i]? = some (zt_dc c (s :: l2))[i] := List.getElem?_eq_getElem c1
    have hm : (zt_dc c (s :: l2))[i] ∈ zm_row c (s :: l2) := (List.mem_filter.mp (List.mem_of_getElem? hx)).1
    have en : za_nth A i = zm_lt c (zt_dc c (s :: l2))[i] := by
      subst e
      rw [za_nth_in (by rw [List.length_map]; exact c1), List.getElem_map]
    rw [if_pos (by omega), Int.toNat_natCast, zt_S_dc u l2 hl i _ hx, zm_e (za_glyph (d := d) gL U hs hl hm), en]
  · have eg : C0_glyph (d + 1) a (-1) g = some (-1, g) := lC0_glyph (zl_ob gL la) (by rw [qE0_glyph, if_pos (by decide)])
    have en : za_nth A i = -1 := by
      subst e
      exact za_nth_out (by rw [List.length_map]; exact c1)
    rw [if_neg (by omega), zm_e eg, en]
/-- the reference's document, in its cells -/
theorem za_copies {D : Nat} (hM : zm_M k) {c : Nat → Int} (hc : zv_I k 348 = c) (W : zm_W c) {s : Int} (hs : zm_st c s) {A : List Int} (hD : za_D c s A) {r : Nat} (hr : r = 356 ∨ r = 357) : ∃ k', C9_copies (D + 5) 347 s r k = some ((A.length : Int), k') ∧ zm_F [r, 351, 352, 353, 354, 355] [10, 11, 12] k k' ∧ ∀ i (hi : i < A.length), zv_I k' r i = A[i] := by
  obtain ⟨l, hl, e⟩ := hD
  obtain ⟨l2, h1, h2, h3, h4⟩ := zm_W_l W.1 hs
  have e2 : l2 = l := (List.cons.inj (zm_Ln_u h1.1 hl)).2
  subst e2
  have ok := (zt_line_u W hs hl).1
  obtain ⟨⟨n, k'⟩, e1, en, F, _, hx⟩ := zm_copies hM hc D (l := s :: l2) (fun t ht => zm_st48 (ok.2.2.1 t ht)) h3 (by rw [List.length_cons]; omega) (zm_sees_st hM hc D h1 h2 h3 h4) hr
  have en' : n = ((zt_dc c (s :: l2)).length : Int) := en
  subst e
  refine ⟨k', by rw [e1, en', List.length_map], F, fun i hi => ?_⟩
  have hi' : i < (zt_dc c (s :: l2)).length := by rw [List.length_map] at hi; exact hi
  rw [List.getElem_map]
  exact hx i _ (List.getElem?_eq_getElem hi')
/-- what the reference sees of one -/
theorem za_sees {D : Nat} (hM : zm_M k) {c : Nat → Int} (hc : zv_I k 348 = c) (W : zm_W c) {s : Int} {l : List Int} (hs : zm_st c s) (hl : zm_Ln c (s :: l) s) : ∃ k', C9_sees (D + 4) 347 s k = some k' ∧ zm_F [351, 352, 353, 354, 355] [10, 11, 12] k k' ∧ zm_Sn k' c (s :: l) ∧ (zm_row c (s :: l)).length ≤ 604 ∧ (zt_dc c (s :: l)).length ≤ 120 := by
  obtain ⟨l2, h1, h2, h3, h4⟩ := zm_W_l W.1 hs
  have e2 : l2 = l := (List.cons.inj (zm_Ln_u h1.1 hl)).2
  subst e2
  obtain ⟨k', e, F, n⟩ := zm_sees_st hM hc D h1 h2 h3 h4
  have rl := zm_row_le h3
  rw [List.length_cons] at rl
  exact ⟨k', e, F, n, by omega, h1.2.2.2.2.2.2⟩
theorem zp_letter {d D : Nat} (hA : zc_A g) (I : zm_MI k) (S : zt_GG m a b g k) (s p : Int) : ∃ v g' k', C8_letter (d + 28) 1 s p g = some (v, g') ∧ C9_letter (D + 28) 347 s p k = some (v, k') := by
  have gL := zt_L_A hA
  have hM := I.1
  have l1 : zv_lay 1 = (1, 8) := rfl
  have la := (zt_lab (zt_GG_ab S)).1
  have qC := qE8_letter (d + 27) 1 s p g
  have qR := qE9_letter (D + 27) 347 s p k
  by_cases p0 : p < 0
  · rw [if_pos p0, za_ref gL] at qC
    rw [if_pos p0, qL9_letter_22, za_isn hM (by decide)] at qR
    exact ⟨_, _, _, lC8_letter (zl_ob gL l1) qC, lC9_letter (zm_ob hM) qR⟩
  rw [if_neg p0, zm_e (zp_e3 hA S), zm_e (za_at (d := d + 26) hA S s)] at qC
  dsimp only at qC
  rw [if_neg p0, zm_e (zm_isState hM (D + 25) s)] at qR
  dsimp only at qR
  by_cases hs : zm_st (zv_I k 348) s
  rotate_left
  · rw [if_neg hs, if_pos rfl, za_ref gL] at qC
    rw [if_neg hs, if_pos rfl, qL9_letter_22, za_isn hM (by decide)] at qR
    exact ⟨_, _, _, lC8_letter (zl_ob gL l1) qC, lC9_letter (zm_ob hM) qR⟩
  obtain ⟨k1, i1, F1⟩ := zp_is hM
  have S1 := zt_GG_F S F1
  have M1 := zm_F_M F1 hM
  have U := zt_H_U (zt_GG_H S1)
  have W := zt_U_W U
  have e348 : zv_I k1 348 = zv_I k 348 := zm_F_a F1 348
  have hs1 : zm_st (zv_I k1 348) s := by rw [e348]; exact hs
  have lr := zt_r_l la hs.1
  obtain ⟨l, hl⟩ := (zt_line W hs1)
  obtain ⟨hl, _⟩ := hl
  have hD : za_D (zv_I k1 348) s ((zt_dc (zv_I k1 348) (s :: l)).map (zm_lt (zv_I k1 348))) := ⟨l, hl, rfl⟩
  obtain ⟨k2, e2, F2, n2, rl, dl⟩ := za_sees (D := D + 23) M1 rfl W hs1 hl
  have M2 := zm_F_M F2 M1
  have c2 : zv_I k2 348 = zv_I k1 348 := zm_F_a F2 348
  obtain ⟨en, _⟩ := za_D_n S1 hs1 hD
  rw [List.length_map] at en
  obtain ⟨i, rfl⟩ : ∃ i : Nat, p = i := ⟨p.toNat, by omega⟩
  have e12 : zv_I k2 347 12 = ((zt_dc (zv_I k1 348) (s :: l)).length : Int) := n2.2.2.2.2
  rw [if_pos hs, if_neg (za_r0 S hs), zm_e (zl_gI gL lr 12), en] at qC
  rw [if_pos hs, if_neg (by decide), qL9_letter_22, za_isy i1] at qR
  dsimp only at qR
  rw [zm_e e2, zm_e (zm_gI M2 12), e12] at qR
  by_cases ci : (i : Int) < ((zt_dc (zv_I k1 348) (s :: l)).length : Int)
  · have ci' : i < (zt_dc (zv_I k1 348) (s :: l)).length := by omega
    have hx : (zt_dc (zv_I k1 348) (s :: l))[i]? = some (zt_dc (zv_I k1 348) (s :: l))[i] := List.getElem?_eq_getElem ci'
    generalize (zt_dc (zv_I k1 348) (s :: l))[i] = x at hx
    have hm : x ∈ zm_row (zv_I k1 348) (s :: l) := (List.mem_filter.mp (List.mem_of_getElem? hx)).1
    have ok := (zt_line_u W hs1 hl)
    obtain ⟨r1, r2⟩ := zm_rp_in (zm_sn (zv_I k1 348) (s :: l)) (zm_row (zv_I k1 348) (s :: l)) i ci'
    have r3 : (zm_row (zv_I k1 348) (s :: l))[(zm_rp (zm_sn (zv_I k1 348) (s :: l)) (zm_row (zv_I k1 348) (s :: l)) i).toNat]? = some x := r2.trans hx
    have rp := zm_rowPlace M2 (D + 26) n2 (by omega) (n := (i : Int)) (by omega) (by omega)
    have xok := zm_row_ok (fun t ht => zm_st48 (ok.1.2.2.1 t ht)) ok.2.1 x hm
    have li := zm_letterIn M2 c2 (D + 25) n2.2.1 (by omega) r3 xok.1 (by omega)
    have e3 := za_letterAt (d := d + 25) gL U hs1 hD i
    have ev : za_nth ((zt_dc (zv_I k1 348) (s :: l)).map (zm_lt (zv_I k1 348))) i = zm_lt (zv_I k1 348) x := by
      rw [za_nth_in (by rw [List.length_map]; exact ci'), List.getElem_map]
      rw [List.getElem?_eq_getElem ci'] at hx
      rw [Option.some.inj hx]
    rw [if_pos ci, zm_e (zp_e3 hA S), zm_e e3, ev] at qC
    dsimp only at qC
    rw [za_giv gL] at qC
    rw [if_pos ci, zm_e rp] at qR
    dsimp only at qR
    rw [show ((zm_rp (zm_sn (zv_I k1 348) (s :: l)) (zm_row (zv_I k1 348) (s :: l)) i).toNat : Int) = zm_rp (zm_sn (zv_I k1 348) (s :: l)) (zm_row (zv_I k1 348) (s :: l)) i by omega] at li
    rw [zm_e li] at qR
    exact ⟨_, _, _, lC8_letter (zl_ob gL l1) qC, lC9_letter (zm_ob hM) qR⟩
  · rw [if_neg ci, za_ref gL] at qC
    rw [if_neg ci, za_rf M2] at qR
    exact ⟨_, _, _, lC8_letter (zl_ob gL l1) qC, lC9_letter (zm_ob hM) qR⟩
/-- in force -/
theorem zp_force {d D : Nat} (hA : zc_A g) (I : zm_MI k) (S : zt_GG m a b g k) (s t : Int) : ∃ v g' k', C8_force (d + 28) 1 s t g = some (v, g') ∧ C9_force (D + 28) 347 s t k = some (v, k') := by
  have gL := zt_L_A hA
  have hM := I.1
  have l1 : zv_lay 1 = (1, 8) := rfl
  have la := (zt_lab (zt_GG_ab S)).1
  have qC := qE8_force (d + 27) 1 s t g
  rw [zm_e (zp_e3 hA S), zm_e (za_at (d := d + 26) hA S s)] at qC
  dsimp only at qC
  rw [zm_e (zp_e3 hA S), zm_e (za_at (d := d + 26) hA S t)] at qC
  dsimp only at qC
  have qR := qE9_force (D + 27) 347 s t k
  rw [zm_e (zm_isState hM (D + 25) s)] at qR
  dsimp only at qR
  by_cases hs : zm_st (zv_I k 348) s
  rotate_left
  · rw [if_neg hs, if_pos rfl, qL8_force_28, za_ref gL] at qC
    rw [if_neg hs, if_pos rfl, qL9_force_17, qL9_force_43, za_isn hM (by decide)] at qR
    exact ⟨_, _, _, lC8_force (zl_ob gL l1) qC, lC9_force (zm_ob hM) qR⟩
  rw [if_pos hs, if_neg (za_r0 S hs)] at qC
  rw [if_pos hs, if_neg (by decide), zm_e (zm_isState hM (D + 25) t)] at qR
  dsimp only at qR
  by_cases ht : zm_st (zv_I k 348) t
  rotate_left
  · rw [if_neg ht, if_pos rfl, qL8_force_28, za_ref gL] at qC
    rw [if_neg ht, if_pos rfl, qL9_force_17, qL9_force_43, za_isn hM (by decide)] at qR
    exact ⟨_, _, _, lC8_force (zl_ob gL l1) qC, lC9_force (zm_ob hM) qR⟩
  have U := zt_H_U (zt_GG_H S)
  have W := zt_U_W U
  obtain ⟨l, hl, ok, G, _, _⟩ := zt_line W ht
  obtain ⟨g', ew, gL', q', wk⟩ := zt_walk (d := d + 25) gL U ht hl
  have U' := zt_U_q U q'
  have e5 : zv_gR g a 0 5 = some (a + 8) := zl_gF gL la 5 8
  have l8 := (zt_row_l la).1
  have s47 := hs.1
  have sb : (s.toNat : Int) = s := by omega
  rw [if_pos ht, if_neg (za_r0 S ht), zm_e (zp_e3 hA S), zm_e e5, zm_e ew, zm_e (zl_gJ gL' l8 8), zm_e (zt_bitr (d := d + 26) gL' U' hs)] at qC
  dsimp only at qC
  rw [if_pos ht, if_neg (by decide), zm_e (zm_isEdit hM (D + 25) (zm_st48 hs))] at qR
  dsimp only at qR
  have bt := zt_lcmp_bt (zv_J g' (a + 8) 8) (n := s.toNat) (by omega)
  have ac := zt_wk_ac wk s.toNat (by omega)
  rw [sb] at ac
  by_cases he : zm_ed (zv_I k 348) s
  rotate_left
  · have nb : zt_b (zv_J g' (a + 8) 8) s.toNat = false := by
      cases e : zt_b (zv_J g' (a + 8) 8) s.toNat with
      | false => rfl
      | true => exact absurd (ac.mp e).2.2 he
    rw [if_pos (bt.mpr nb), za_ref gL'] at qC
    rw [if_neg he, if_pos rfl, qL9_force_38, qL9_force_43, za_isn hM (by decide)] at qR
    exact ⟨_, _, _, lC8_force (zl_ob gL l1) qC, lC9_force (zm_ob hM) qR⟩
  rw [if_pos he, if_neg (by decide), zm_e (zm_isOfLine hM (D + 25) s hl)] at qR
  dsimp only at qR
  by_cases hi : s ∈ t :: l
  rotate_left
  · have nb : zt_b (zv_J g' (a + 8) 8) s.toNat = false := by
      cases e : zt_b (zv_J g' (a + 8) 8) s.toNat with
      | false => rfl
      | true => exact absurd (ac.mp e).2.1 hi
    rw [if_pos (bt.mpr nb), za_ref gL'] at qC
    rw [if_neg hi, if_pos rfl, qL9_force_38, qL9_force_43, za_isn hM (by decide)] at qR
    exact ⟨_, _, _, lC8_force (zl_ob gL l1) qC, lC9_force (zm_ob hM) qR⟩
  have yb : zt_b (zv_J g' (a + 8) 8) s.toNat = true := ac.mpr ⟨by omega, hi, he⟩
  obtain ⟨k1, i1, F1⟩ := zp_is hM
  have M1 := zm_F_M F1 hM
  have e348 : zv_I k1 348 = zv_I k 348 := zm_F_a F1 348
  obtain ⟨k2, e2, F2, n2, _, _⟩ := za_sees (D := D + 23) M1 e348 W ht hl
  have M2 := zm_F_M F2 M1
  have fc := n2.2.2.1 s hi
  have bt9 := zt_lcmp_bt (zv_J g' (a + 8) 9) (n := s.toNat) (by omega)
  have fo := zt_wk_fo wk s.toNat (by omega)
  rw [sb] at fo
  rw [if_neg (fun q => by rw [bt.mp q] at yb; cases yb), zm_e (zl_gJ gL' l8 9), zm_e (zt_bitr (d := d + 26) gL' U' hs)] at qC
  dsimp only at qC
  rw [if_pos hi, if_neg (by decide), qL9_force_43, za_isy i1] at qR
  dsimp only at qR
  rw [zm_e e2, zm_e (zm_gR M2 rfl rfl : zv_gR k2 347 9 8 = some 354), zm_e (zm_aB M2 (show zv_lay 354 = (3, 49) from rfl) (Or.inl rfl) rfl (by omega) (by omega)), fc] at qR
  by_cases hf : zm_fc (zv_I k 348) (t :: l) s = 1
  · have fb : zt_b (zv_J g' (a + 8) 9) s.toNat = true := fo.mpr ⟨by omega, hi, he, hf⟩
    rw [if_neg (fun q => by rw [bt9.mp q] at fb; cases fb), qL8_force_92, za_giv gL'] at qC
    rw [hf, if_neg (by decide)] at qR
    exact ⟨_, _, _, lC8_force (zl_ob gL l1) qC, lC9_force (zm_ob hM) qR⟩
  · have fb : zt_b (zv_J g' (a + 8) 9) s.toNat = false := by
      cases e : zt_b (zv_J g' (a + 8) 9) s.toNat with
      | false => rfl
      | true => exact absurd (fo.mp e).2.2.2 hf
    have f0 := (zm_fc_01 (zv_I k 348) s (t :: l)).resolve_right hf
    rw [if_pos (bt9.mpr fb), qL8_force_92, za_giv gL'] at qC
    rw [f0, if_pos rfl] at qR
    exact ⟨_, _, _, lC8_force (zl_ob gL l1) qC, lC9_force (zm_ob hM) qR⟩
end
end
/-! C04.line -/
section
/-! ===== what is asked, answered alike: the way; blame; how many ===== -/
section
variable {a b m : Nat} {g k : zv_H}
/-- up from one, in the reference -/
theorem za_up {D : Nat} (hM : zm_M k) {c : Nat → Int} (hc : zv_I k 348 = c) : ∀ (j : Nat) (l : List Int) (s : Int), zm_Ln c (s :: l) s → (∀ t ∈ s :: l, zm_st c t) → (hj : j ≤ l.length) → j ≤ 100 → L9_way_105 (D + 1) 347 s j k = some (some (zv_i ((s :: l)[j]'(by rw [List.length_cons]; omega))), k)
  | 0, l, s, hl, hst, hj, _ => by rw [qL9_way_105, if_pos (by omega)]; rfl
  | j + 1, [], s, hl, hst, hj, _ => by
    rw [List.length_nil] at hj
    omega
  | j + 1, p :: l, s, hl, hst, hj, h100 => by
    have hs := hst s List.mem_cons_self
    obtain ⟨⟨_, h48⟩, hl'⟩ := hl
    have ep : zm_o c s 1 = p := by
      have h2 := hl'
      obtain ⟨⟨e, _⟩, _⟩ := h2
      exact e
    rw [ep] at hl'
    rw [qL9_way_105, if_neg (by omega), zm_e (zm_of hM D (zm_st48 hs) (by decide)), hc, ep]
    dsimp only
    rw [zm_w (by omega), show ((j + 1 : Nat) : Int) + -1 = (j : Int) by omega, za_up hM hc j l p hl' (fun t ht => hst t (List.mem_cons_of_mem _ ht)) (by rw [List.length_cons] at hj; omega) (by omega)]
    rfl
/-- the one of a line so many up, in the class -/
theorem za_abv {d : Nat} {c : Nat → Int} (gL : zt_L g) (U : zt_U a c g) {s : Int} {l : List Int} (hs : zm_st c s) (hl : zm_Ln c (s :: l) s) {j : Nat} (hj : j ≤ l.length) : C0_above (d + 1) (zt_r a s) ((l.length : Int) - j) g = some (zt_r a ((s :: l)[j]'(by rw [List.length_cons]; omega)), g) := by
  have hj' : j < (s :: l).length := by rw [List.length_cons]; omega
  have e : s :: l = (s :: l).take j ++ (s :: l)[j] :: (s :: l).drop (j + 1) := by
    rw [← List.drop_eq_getElem_cons hj', List.take_append_drop]
  have h := zt_above (d := d) gL U hs hl e
  rw [List.length_drop, List.length_cons] at h
  rw [show ((l.length : Int) - j) = ((l.length + 1 - (j + 1) : Nat) : Int) by omega]
  exact h
theorem zp_way {d D : Nat} (hA : zc_A g) (I : zm_MI k) (S : zt_GG m a b g k) (s t i : Int) : ∃ v g' k', C8_way (d + 28) 1 s t i g = some (v, g') ∧ C9_way (D + 28) 347 s t i k = some (v, k') := by
  have gL := zt_L_A hA
  have hM := I.1
  have l1 : zv_lay 1 = (1, 8) := rfl
  have qC := qE8_way (d + 27) 1 s t i g
  have qR := qE9_way (D + 27) 347 s t i k
  by_cases i0 : i < 0
  · rw [if_pos i0, za_ref gL] at qC
    rw [if_pos i0, qL9_way_30, za_isn hM (by decide)] at qR
    exact ⟨_, _, _, lC8_way (zl_ob gL l1) qC, lC9_way (zm_ob hM) qR⟩
  rw [if_neg i0, zm_e (zp_e3 hA S), zm_e (za_at (d := d + 26) hA S s)] at qC
  dsimp only at qC
  rw [zm_e (zp_e3 hA S), zm_e (za_at (d := d + 26) hA S t)] at qC
  dsimp only at qC
  rw [if_neg i0, zm_e (zm_isState hM (D + 25) s)] at qR
  dsimp only at qR
  by_cases hs : zm_st (zv_I k 348) s
  rotate_left
  · rw [if_neg hs, if_pos rfl, qL8_way_40, za_ref gL] at qC
    rw [if_neg hs, if_pos rfl, qL9_way_25, qL9_way_30, za_isn hM (by decide)] at qR
    exact ⟨_, _, _, lC8_way (zl_ob gL l1) qC, lC9_way (zm_ob hM) qR⟩
  rw [if_pos hs, if_neg (za_r0 S hs)] at qC
  rw [if_pos hs, if_neg (by decide), zm_e (zm_isState hM (D + 25) t)] at qR
  dsimp only at qR
  by_cases ht : zm_st (zv_I k 348) t
  rotate_left
  · rw [if_neg ht, if_pos rfl, qL8_way_40, za_ref gL] at qC
    rw [if_neg ht, if_pos rfl, qL9_way_25, qL9_way_30, za_isn hM (by decide)] at qR
    exact ⟨_, _, _, lC8_way (zl_ob gL l1) qC, lC9_way (zm_ob hM) qR⟩
  obtain ⟨k1, i1, F1⟩ := zp_is hM
  have S1 := zt_GG_F S F1
  have M1 := zm_F_M F1 hM
  have U := zt_H_U (zt_GG_H S1)
  have la := zt_U_la U
  have W := zt_U_W U
  have e348 : zv_I k1 348 = zv_I k 348 := zm_F_a F1 348
  have hs1 : zm_st (zv_I k1 348) s := by rw [e348]; exact hs
  have ht1 : zm_st (zv_I k1 348) t := by rw [e348]; exact ht
  obtain ⟨ls, hls, oks, _⟩ := zt_line W hs1
  obtain ⟨lt, hlt, okt, _⟩ := zt_line W ht1
  have en := zt_nearest (d := d + 24) gL U hs1 ht1 hls hlt
  have ec := zt_commonOf M1 rfl W (D + 24) hs1 ht1 hls hlt
  obtain ⟨⟨mn1, mn2⟩, hn⟩ := zt_near_st W hs1 ht1 hls hlt
  obtain ⟨ln, hln, _⟩ := zt_line W hn
  obtain ⟨w, ew, wl⟩ := zt_wayLength (d := d + 23) gL U hs1 ht1
  obtain ⟨w', ew', wl'⟩ := zt_wayMany M1 rfl W (D + 23) hs1 ht1
  have eww := zt_wl_u wl' wl
  subst eww
  have b1 := zt_dep W hs1 hls
  have b2 := zt_dep W ht1 hlt
  obtain ⟨p1, ep1⟩ := zt_in_suf hls hln mn1
  obtain ⟨p2, ep2⟩ := zt_in_suf hlt hln mn2
  have n1 := congrArg List.length ep1
  have n2 := congrArg List.length ep2
  rw [List.length_append, List.length_cons, List.length_cons] at n1 n2
  have ev : w' = (ls.length : Int) + lt.length - 2 * ln.length := by
    obtain ⟨x1, x2, x3, y1, y2, y3, y4⟩ := wl'
    have z1 := (List.cons.inj (zm_Ln_u y1 hls)).2
    have z2 := (List.cons.inj (zm_Ln_u y2 hlt)).2
    subst z1
    subst z2
    have z3 := (List.cons.inj (zm_Ln_u y3 hln)).2
    subst z3
    exact y4
  have ds := zm_depthOf M1 (D + 25) hls (by omega)
  have dn := zm_depthOf M1 (D + 25) hln (by omega)
  have us := zt_U_st U s hs1
  have ut := zt_U_st U t ht1
  have un := zt_U_st U _ hn
  have lrs := zt_r_l la hs1.1
  have lrt := zt_r_l la ht1.1
  have lrn := zt_r_l la hn.1
  have head : E0_onWay (d + 26) (zt_r a s) (zt_r a t) i g = if i ≤ w' then (if i ≤ (ls.length : Int) - ln.length then ((C0_above (d + 26) (zt_r a s) ((ls.length : Int) - i) g).bind fun q6 => (some (some (zv_r q6.1), q6.2) : zv_O)) else ((C0_above (d + 26) (zt_r a t) ((lt.length : Int) - (w' - i)) g).bind fun q8 => (some (some (zv_r q8.1), q8.2) : zv_O))) else some (some (zv_r 0), g) := by
    rw [qE0_onWay, zm_e (zl_gI gL lrs 10), zt_S_de us ls hls, zm_e en]
    dsimp only
    rw [zm_e (zl_gI gL lrn 10), zt_S_de un ln hln, zm_e ew]
    dsimp only
    rw [if_neg i0]
    by_cases ci : i ≤ w'
    · rw [if_pos ci, if_pos ci, zm_w (show -2147483648 ≤ (ls.length : Int) - ln.length ∧ (ls.length : Int) - ln.length < 2147483648 by omega)]
      by_cases cu : i ≤ (ls.length : Int) - ln.length
      · rw [if_pos cu, if_pos cu, zm_e (zl_gI gL lrs 10), zt_S_de us ls hls, zm_w (by omega)]
      · rw [if_neg cu, if_neg cu, zm_e (zl_gI gL lrt 10), zt_S_de ut lt hlt, zm_w (show -2147483648 ≤ w' - i ∧ w' - i < 2147483648 by omega), zm_w (by omega)]
    · rw [if_neg ci, if_neg ci]
  have bot : E9_way (D + 27) 347 s t i k = if i ≤ w' then (if i ≤ (ls.length : Int) - ln.length then L9_way_105 (D + 27) 347 s i k1 else L9_way_105 (D + 27) 347 t (w' - i) k1) else some (some (zv_i (-1)), zv_sI k1 347 3 5) := by
    rw [qR, if_pos ht, if_neg (by decide), qL9_way_30, za_isy i1]
    dsimp only
    rw [zm_e ds]
    dsimp only
    rw [zm_e ec]
    dsimp only
    rw [zm_e dn]
    dsimp only
    rw [zm_e ew']
    dsimp only
    rw [zm_w (show -2147483648 ≤ (ls.length : Int) - ln.length ∧ (ls.length : Int) - ln.length < 2147483648 by omega)]
    by_cases ci : i ≤ w'
    · rw [if_pos ci, if_pos ci]
      by_cases cu : i ≤ (ls.length : Int) - ln.length
      · rw [if_pos cu, if_pos cu, qL9_way_87, if_pos cu]
      · rw [if_neg cu, if_neg cu, qL9_way_87, if_neg cu, zm_w (by omega)]
    · rw [if_neg ci, if_neg ci, za_rf M1]
  rw [if_pos ht, if_neg (za_r0 S ht)] at qC
  have fin : ∀ (x : Int), zm_st (zv_I k1 348) x → E0_onWay (d + 26) (zt_r a s) (zt_r a t) i g = some (some (zv_r (zt_r a x)), g) → E9_way (D + 27) 347 s t i k = some (some (zv_i x), k1) → ∃ v g' k', C8_way (d + 28) 1 s t i g = some (v, g') ∧ C9_way (D + 28) 347 s t i k = some (v, k') := fun x hx e1 e2 => by
    rw [zm_e (lC0_onWay e1)] at qC
    dsimp only at qC
    rw [if_neg (zt_r0 U hx), zm_e (za_num S1 hA hx), za_giv gL] at qC
    exact ⟨_, _, _, lC8_way (zl_ob gL l1) qC, lC9_way (zm_ob hM) e2⟩
  by_cases ci : i ≤ w'
  · rw [if_pos ci] at head bot
    by_cases cu : i ≤ (ls.length : Int) - ln.length
    · obtain ⟨j, rfl⟩ : ∃ j : Nat, i = j := ⟨i.toNat, by omega⟩
      have hj : j ≤ ls.length := by omega
      rw [if_pos cu, zm_e (za_abv (d := d + 25) gL U hs1 hls hj)] at head
      rw [if_pos cu] at bot
      have bu := za_up (D := D + 26) M1 rfl j ls s hls oks.2.2.1 hj (by omega)
      exact fin _ (oks.2.2.1 _ (List.getElem_mem _)) head (bot.trans bu)
    · obtain ⟨j, ej⟩ : ∃ j : Nat, w' - i = j := ⟨(w' - i).toNat, by omega⟩
      have hj : j ≤ lt.length := by omega
      rw [if_neg cu, ej, zm_e (za_abv (d := d + 25) gL U ht1 hlt hj)] at head
      rw [if_neg cu, ej] at bot
      have bu := za_up (D := D + 26) M1 rfl j lt t hlt okt.2.2.1 hj (by omega)
      exact fin _ (okt.2.2.1 _ (List.getElem_mem _)) head (bot.trans bu)
  · rw [if_neg ci] at head bot
    rw [zm_e (lC0_onWay head)] at qC
    dsimp only at qC
    rw [if_pos rfl, za_ref gL] at qC
    exact ⟨_, _, _, lC8_way (zl_ob gL l1) qC, lC9_way (zm_ob hM) bot⟩
/-! the row of HERE -/
theorem za_row {d : Nat} {c : Nat → Int} (gL : zt_L g) (U : zt_U a c g) {l : List Int} (hl : zm_Ln c (c 0 :: l) (c 0)) : ∃ g', C0_rowOfHere (d + 5) a g = some (a + 8, g') ∧ zt_B a c (c 0 :: l) g g' ∧ zt_rw a c (c 0 :: l) g' ∧ zt_lo a c (c 0 :: l) (zv_J g' (a + 8) 9) g' := by
  have la := zt_U_la U
  have hs := (zt_U_W U).2.1
  obtain ⟨g', e, B, w, lo⟩ := zt_lay (d := d) gL U hs hl
  refine ⟨g', lC0_rowOfHere (zl_ob gL la) ?_, B, w, lo⟩
  rw [qE0_rowOfHere, zm_e (zl_gF gL la 5 8), zm_e (zl_gR gL la 10), zt_U_he U, zm_e e, zm_e (zl_gF (zt_B_L B) la 5 8)]
theorem za_putok {c : Nat → Int} {L : List Int} (ok : zt_ln_ok c L) (G : zm_G0 c L) {x : Int × Int} (hx : x ∈ zm_row c L) : zt_ok x := zt_row_ok ok.2.2.1 G x hx
theorem zp_blame {d D : Nat} (hA : zc_A g) (I : zm_MI k) (S : zt_GG m a b g k) (p w : Int) : ∃ v g' k', C8_blame (d + 28) 1 p w g = some (v, g') ∧ C9_blame (D + 28) 347 p w k = some (v, k') := by
  have gL := zt_L_A hA
  have hM := I.1
  have l1 : zv_lay 1 = (1, 8) := rfl
  have la := (zt_lab (zt_GG_ab S)).1
  have qC := qE8_blame (d + 27) 1 p w g
  have qR := qE9_blame (D + 27) 347 p w k
  by_cases p0 : p < 0
  · rw [if_pos p0, qL8_blame_13, za_ref gL] at qC
    rw [if_pos p0, qL9_blame_18, qL9_blame_19, za_isn hM (by decide)] at qR
    exact ⟨_, _, _, lC8_blame (zl_ob gL l1) qC, lC9_blame (zm_ob hM) qR⟩
  rw [if_neg p0, zm_e (zc_within (d := d + 26) g w 0 2)] at qC
  dsimp only at qC
  rw [if_neg p0, zm_e (zm_isIn (h := k) (D + 26) w 0 2)] at qR
  dsimp only at qR
  by_cases cw : 0 ≤ w ∧ w ≤ 2
  rotate_left
  · rw [if_neg cw, if_pos rfl, qL8_blame_13, za_ref gL] at qC
    rw [if_neg cw, if_pos rfl, qL9_blame_18, qL9_blame_19, za_isn hM (by decide)] at qR
    exact ⟨_, _, _, lC8_blame (zl_ob gL l1) qC, lC9_blame (zm_ob hM) qR⟩
  obtain ⟨i, rfl⟩ : ∃ i : Nat, p = i := ⟨p.toNat, by omega⟩
  obtain ⟨k1, i1, F1⟩ := zp_is hM
  have S1 := zt_GG_F S F1
  have M1 := zm_F_M F1 hM
  have U := zt_H_U (zt_GG_H S1)
  have W := zt_U_W U
  generalize hc : zv_I k1 348 = c at U W
  have hs := W.2.1
  obtain ⟨l, hl, ok, G, _, _⟩ := zt_line W hs
  obtain ⟨k2, e2, F2, n2, rl, dl⟩ := za_sees (D := D + 23) M1 hc W hs hl
  have M2 := zm_F_M F2 M1
  have e12 : zv_I k2 347 12 = ((zt_dc c (c 0 :: l)).length : Int) := n2.2.2.2.2
  have lr := zt_r_l la hs.1
  have u := zt_U_st U (c 0) hs
  have en := zt_S_ln u l hl
  have ei := zt_C5_idAt (d := d + 26) gL lr (by rw [en]; omega) (i : Int)
  rw [if_pos cw, if_neg (by decide), zm_e (zp_e3 hA S), zm_e (zl_gR gL la 10), zt_U_he U, zm_e ei, en] at qC
  dsimp only at qC
  rw [if_pos cw, if_neg (by decide), qL9_blame_19, za_isy i1] at qR
  dsimp only at qR
  rw [zm_e (zm_here M1 _), hc] at qR
  dsimp only at qR
  rw [zm_e e2, zm_e (zm_gI M2 12), e12] at qR
  by_cases ci : i < (zt_dc c (c 0 :: l)).length
  rotate_left
  · rw [if_neg (show ¬ ((0 : Int) ≤ i ∧ (i : Int) < ((zt_dc c (c 0 :: l)).length : Int)) by omega), if_pos rfl, za_ref gL] at qC
    rw [if_neg (by omega), za_rf M2] at qR
    exact ⟨_, _, _, lC8_blame (zl_ob gL l1) qC, lC9_blame (zm_ob hM) qR⟩
  have hx : (zt_dc c (c 0 :: l))[i]? = some (zt_dc c (c 0 :: l))[i] := List.getElem?_eq_getElem ci
  generalize (zt_dc c (c 0 :: l))[i] = x at hx
  have hm : x ∈ zm_row c (c 0 :: l) := (List.mem_filter.mp (List.mem_of_getElem? hx)).1
  have xok := za_putok ok G hm
  have xr := zt_id_r xok
  obtain ⟨r1, r2⟩ := zm_rp_in (zm_sn c (c 0 :: l)) (zm_row c (c 0 :: l)) i ci
  have r3 : (zm_row c (c 0 :: l))[(zm_rp (zm_sn c (c 0 :: l)) (zm_row c (c 0 :: l)) i).toNat]? = some x := r2.trans hx
  have rp := zm_rowPlace M2 (D + 26) n2 (by omega) (n := (i : Int)) (by omega) (by omega)
  generalize zm_rp (zm_sn c (c 0 :: l)) (zm_row c (c 0 :: l)) (i : Int) = q at r1 r3 rp
  obtain ⟨j, rfl⟩ : ∃ j : Nat, q = j := ⟨q.toNat, by omega⟩
  rw [Int.toNat_natCast] at r3
  have jl : j < (zm_row c (c 0 :: l)).length := by
    by_cases z : j < (zm_row c (c 0 :: l)).length
    · exact z
    · rw [List.getElem?_eq_none (by omega)] at r3
      cases r3
  obtain ⟨by1, by2⟩ := n2.2.1.2 j x r3
  rw [if_pos (show (0 : Int) ≤ i ∧ (i : Int) < ((zt_dc c (c 0 :: l)).length : Int) by omega), Int.toNat_natCast, zt_S_dc u l hl i x hx, if_neg (by omega)] at qC
  rw [if_pos (by omega), zm_e rp] at qR
  dsimp only at qR
  by_cases w0 : w = 0
  · rw [if_pos w0, zm_e (zt_C4_putter (d := d + 26) xok)] at qC
    dsimp only at qC
    rw [za_giv gL] at qC
    rw [if_pos w0, zm_e (zm_gR M2 rfl rfl : zv_gR k2 347 9 6 = some 352), zm_e (zm_aI M2 (show zv_lay 352 = (2, 640) from rfl) rfl (by omega) (by omega)), Int.toNat_natCast, by1] at qR
    exact ⟨_, _, _, lC8_blame (zl_ob gL l1) qC, lC9_blame (zm_ob hM) qR⟩
  rw [if_neg w0] at qC qR
  by_cases w1 : w = 1
  · rw [if_pos w1, zm_e (zt_C4_order (d := d + 26) xok)] at qC
    dsimp only at qC
    rw [za_giv gL] at qC
    rw [if_pos w1, zm_e (zm_gR M2 rfl rfl : zv_gR k2 347 9 7 = some 353), zm_e (zm_aI M2 (show zv_lay 353 = (2, 640) from rfl) rfl (by omega) (by omega)), Int.toNat_natCast, by2] at qR
    exact ⟨_, _, _, lC8_blame (zl_ob gL l1) qC, lC9_blame (zm_ob hM) qR⟩
  obtain ⟨g', e1, B, rw_, lo⟩ := za_row (d := d + 22) gL U hl
  have gL' := zt_B_L B
  obtain ⟨v, ev, hv⟩ := zt_placeOf_l (d := d + 25) gL' la (zt_rw_sz rw_) (zt_rw_id rw_) rl (fun y hy => za_putok ok G hy) xok (zm_row c (c 0 :: l)) [] rfl (fun y hy => by cases hy)
  have ep : C4_placeOf (d + 27) (a + 8) (zt_id x) g' = some (v, g') := lC4_placeOf (zl_ob gL' (zt_row_l la).1) (by rw [qE4_placeOf]; exact ev)
  have vj : v = (j : Int) := by
    rcases hv with ⟨_, z⟩ | ⟨j', z1, z2⟩
    · exact absurd hm z
    · have nd := zm_row_nd (c := c) ok.1
      have jl' : j' < (zm_row c (c 0 :: l)).length := by
        by_cases z : j' < (zm_row c (c 0 :: l)).length
        · exact z
        · rw [List.getElem?_eq_none (by omega)] at z2
          cases z2
      rw [List.getElem?_eq_getElem jl'] at z2
      rw [List.getElem?_eq_getElem jl] at r3
      have := (List.getElem_inj nd).mp ((Option.some.inj z2).trans (Option.some.inj r3).symm)
      rw [z1, this]
  rw [if_neg w1, zm_e (zp_e3 hA S), zm_e e1] at qC
  dsimp only at qC
  rw [zm_e ep, vj] at qC
  dsimp only at qC
  rw [za_giv gL'] at qC
  rw [if_neg w1] at qR
  exact ⟨_, _, _, lC8_blame (zl_ob gL l1) qC, lC9_blame (zm_ob hM) qR⟩
end
end
/-! C05.many -/
section
/-! ===== what is asked, answered alike: how many there are ===== -/
theorem za_cs5 (v n : Nat) : ((v + 1 : Nat) : Int) + (n : Int) = (v : Int) + ((n + 1 : Nat) : Int) := by omega
section
variable {a b m : Nat} {g k : zv_H}
/-- leaves, counted on both sides -/
theorem za_leaves_l {d D : Nat} {c : Nat → Int} (gL : zt_L g) (U : zt_U a c g) (hM : zm_M k) (hc : zv_I k 348 = c) : ∀ (n i v : Nat), i + n = 48 → v ≤ i → ∃ w : Int, L0_leaves_4 (d + 1) a (v : Int) (i : Int) g = some (some (zv_i w), g) ∧ L9_leaves_4 (D + 3) 347 (v : Int) (i : Int) k = some (some (zv_i w), k)
  | 0, i, v, hi, hv => ⟨v, by rw [qL0_leaves_4, if_neg (by omega)], by rw [qL9_leaves_4, if_neg (by omega)]⟩
  | n + 1, i, v, hi, hv => by
    have w1 : zv_w ((i : Int) + 1) = ((i + 1 : Nat) : Int) := by
      rw [zm_w (by omega)]
      rfl
    have w2 : zv_w ((v : Int) + 1) = ((v + 1 : Nat) : Int) := by
      rw [zm_w (by omega)]
      rfl
    have w0 : zv_w ((v : Int) + 0) = (v : Int) := by
      rw [zm_w (by omega)]
      omega
    have i48 : (i : Int) < 48 := by omega
    rw [qL0_leaves_4, if_pos i48, zm_e (zt_at (d := d) gL U (i : Int)), qL9_leaves_4, if_pos i48, zm_e (zm_isState hM (D + 1) (i : Int)), hc, w0, w1, w2]
    dsimp only
    by_cases hs : zm_st c (i : Int)
    · have lr := zt_r_l (zt_U_la U) hs.1
      have ch := zt_S_ch (zt_U_st U _ hs)
      have cr := zm_childrenOf hM D (i : Int)
      rw [hc] at cr
      rw [if_pos hs, if_neg (zt_r0 U hs), zm_e (zl_gI gL lr 11), ch, if_pos hs, if_neg (show ¬ (1 : Int) = 0 by decide), zm_e cr]
      dsimp only
      by_cases cz : zm_nch c (i : Int) = 0
      · rw [if_pos cz, if_pos cz]
        exact za_leaves_l gL U hM hc n (i + 1) (v + 1) (by omega) (by omega)
      · rw [if_neg cz, if_neg cz]
        exact za_leaves_l gL U hM hc n (i + 1) v (by omega) (by omega)
    · rw [if_neg hs, if_pos rfl, if_neg hs, if_pos rfl]
      exact za_leaves_l gL U hM hc n (i + 1) v (by omega) (by omega)
/-- groups, counted on both sides -/
theorem za_groups_l {d D : Nat} {c : Nat → Int} (hA : zc_A g) (U : zt_U a c g) (hM : zm_M k) (hc : zv_I k 348 = c) : ∀ (l : List Int) (s : Int) (v : Nat), zm_Ln c (s :: l) s → (∀ t ∈ s :: l, zm_st c t) → v + l.length ≤ 100 → ∃ w : Int, L0_groups_7 d a (v : Int) (zt_r a s) g = some (some (zv_i w), g) ∧ L9_groups_7 (D + 1) 347 (v : Int) s k = some (some (zv_i w), k) := by
  have gL := zt_L_A hA
  have la := zt_U_la U
  have a9 := zc_lh la
  have W := zt_U_W U
  have e0 : zv_gR g a 0 0 = some (a + 1) := zl_gF gL la 0 1
  have z0 : zt_r a 0 = a + 1 := rfl
  have wp : ∀ v : Nat, v < 1000 → zv_w ((v : Int) + 1) = ((v + 1 : Nat) : Int) := fun v h => by
    rw [zm_w (by omega)]
    rfl
  have wz : ∀ v : Nat, v < 1000 → zv_w ((v : Int) + 0) = (v : Int) := fun v h => by
    rw [zm_w (by omega)]
    omega
  have big : ∀ {x y : Nat}, ¬ 1000000 ≤ x → ¬ 1000000 ≤ y → ¬ (1000000 ≤ x ∨ 1000000 ≤ y) := fun h1 h2 q => q.elim h1 h2
  have a1000 : ¬ 1000000 ≤ a + 1 := by omega
  have start : ∀ v : Nat, v ≤ 100 → ∃ w : Int, L0_groups_7 d a (v : Int) (zt_r a 0) g = some (some (zv_i w), g) ∧ L9_groups_7 (D + 1) 347 (v : Int) 0 k = some (some (zv_i w), k) := fun v hv => by
    have hs := W.1.2.1.1
    have lr := zt_r_l la hs.1
    have p : zv_R g (zt_r a 0) 4 = 0 := by
      rw [zt_S_pa (zt_U_st U 0 hs), W.1.2.1.2.1]
      rfl
    refine ⟨v, ?_, ?_⟩
    · rw [qL0_groups_7, if_neg (zt_r0 U hs), zm_e e0, if_neg (big (zt_r1000 U hs) a1000), if_pos z0, zm_e (zl_gR gL lr 4), p, wz v (by omega), qL0_groups_7, if_pos rfl]
    · rw [qL9_groups_7, if_pos (by decide)]
  intro l
  induction l with
  | nil =>
    intro s v hl hst hv
    have hs := hst s List.mem_cons_self
    have h0 := (zt_line_u W hs hl).1.2.1
    rw [List.getLast?_singleton] at h0
    have s0 : s = 0 := Option.some.inj h0
    rw [s0]
    exact start v (by rw [List.length_nil] at hv; omega)
  | cons p l ih =>
    intro s v hl hst hv
    rw [List.length_cons] at hv
    by_cases s0 : s = 0
    · rw [s0]
      exact start v (by omega)
    have hs := hst s List.mem_cons_self
    have lr := zt_r_l la hs.1
    obtain ⟨hf, ef⟩ := za_fst hA U hs
    have ne : ¬ zt_r a s = a + 1 := fun q => s0 (zt_r_inj la hs.1 (by decide) (q.trans z0.symm))
    have o6 := zm_of hM D (zm_st48 hs) (w := 6) (by decide)
    have o1 := zm_of hM D (zm_st48 hs) (w := 1) (by decide)
    rw [hc] at o6 o1
    obtain ⟨ep, hl', op⟩ := zt_pa_cons U hs hl
    have hst' : ∀ t ∈ p :: l, zm_st c t := fun t ht => hst t (List.mem_cons_of_mem _ ht)
    have s1 : ¬ s ≤ 0 := by have := hs.1; omega
    rw [qL0_groups_7, if_neg (zt_r0 U hs), zm_e e0, if_neg (big (zt_r1000 U hs) a1000), if_neg ne, zm_e (zl_gR gL lr 5), ef, if_neg (big (zt_r1000 U hf) (zt_r1000 U hs)), qL9_groups_7, if_neg s1, zm_e o6]
    dsimp only
    by_cases cf : zm_o c s 6 = s
    · obtain ⟨w, h1, h2⟩ := ih p (v + 1) hl' hst' (by omega)
      refine ⟨w, ?_, ?_⟩
      · rw [if_pos (show zt_r a (zm_o c s 6) = zt_r a s by rw [cf]), zm_e (zl_gR gL lr 4), ep, wp v (by omega)]
        exact h1
      · rw [if_pos cf, qL9_groups_28, zm_e o1, op]
        dsimp only
        rw [wp v (by omega)]
        exact h2
    · have nf : ¬ zt_r a (zm_o c s 6) = zt_r a s := fun q => cf (zt_r_inj la hf.1 hs.1 q)
      obtain ⟨w, h1, h2⟩ := ih p v hl' hst' (by omega)
      refine ⟨w, ?_, ?_⟩
      · rw [if_neg nf, zm_e (zl_gR gL lr 4), ep, wz v (by omega)]
        exact h1
      · rw [if_neg cf, qL9_groups_28, zm_e o1, op]
        dsimp only
        rw [wz v (by omega)]
        exact h2
/-- who is not in force, counted in the reference -/
def za_out (c : Nat → Int) (L : List Int) (t : Int) : Bool := decide (zm_ed c t) && decide (zm_fc c L t = 0)
theorem za_gone_l {D : Nat} {c : Nat → Int} {L : List Int} (hM : zm_M k) (hc : zv_I k 348 = c) (n2 : zm_Sn k c L) (hl : ∀ t ∈ L, zm_st c t) (hn : L.length ≤ 48) : ∀ (n i : Nat) (v : Nat), i + n = L.length → v ≤ i → L9_gone_12 (D + 2) 347 (v : Int) (i : Int) k = some (some (zv_i ((v : Int) + ((L.reverse.drop i).filter (za_out c L)).length)), k)
  | 0, i, v, hi, hv => by
    rw [qL9_gone_12, zm_e (zm_gI hM 10), n2.1.1, if_neg (by omega), List.drop_eq_nil_of_le (by rw [List.length_reverse]; omega)]
    show some (some (zv_i (v : Int)), k) = some (some (zv_i ((v : Int) + 0)), k)
    rw [Int.add_zero]
  | n + 1, i, v, hi, hv => by
    have w1 : zv_w ((i : Int) + 1) = ((i + 1 : Nat) : Int) := by
      rw [zm_w (by omega)]
      rfl
    have w2 : zv_w ((v : Int) + 1) = ((v + 1 : Nat) : Int) := by
      rw [zm_w (by omega)]
      rfl
    have w0 : zv_w ((v : Int) + 0) = (v : Int) := by
      rw [zm_w (by omega)]
      omega
    have ir : i < L.reverse.length := by rw [List.length_reverse]; omega
    have ht : L.reverse[i] ∈ L := List.mem_reverse.mp (List.getElem_mem ir)
    have e351 := n2.1.2 i _ (List.getElem?_eq_getElem ir)
    have ed := List.drop_eq_getElem_cons ir
    generalize L.reverse[i] = t at ht e351 ed
    have t48 := zm_st48 (hl t ht)
    have fc := n2.2.2.1 t ht
    have ie := zm_isEdit hM D t48
    rw [hc] at ie
    rw [ed, qL9_gone_12, zm_e (zm_gI hM 10), n2.1.1, if_pos (by omega), zm_e (zm_f5 hM), zm_e (zm_aI hM (show zv_lay 351 = (2, 49) from rfl) rfl (by omega) (by omega)), Int.toNat_natCast, e351, zm_e ie, w0, w1, w2]
    dsimp only
    have go := za_gone_l (D := D) hM hc n2 hl hn n (i + 1)
    by_cases c1 : zm_ed c t
    · rw [if_pos c1, if_neg (by decide), zm_e (zm_f8 hM), zm_e (zm_f5 hM), zm_e (zm_aI hM (show zv_lay 351 = (2, 49) from rfl) rfl (by omega) (by omega)), Int.toNat_natCast, e351, zm_e (zm_aB hM zm_l354 (Or.inl rfl) rfl t48.1 (by omega)), fc]
      by_cases c2 : zm_fc c L t = 0
      · have eo : za_out c L t = true := by
          unfold za_out
          rw [decide_eq_true c1, decide_eq_true c2]
          rfl
        rw [if_pos c2, go (v + 1) (by omega) (by omega), List.filter_cons_of_pos eo, List.length_cons]
        exact congrArg (fun z => (some (some (zv_i z), k) : zv_O)) (za_cs5 _ _)
      · have eo : ¬ za_out c L t = true := by
          unfold za_out
          rw [decide_eq_false c2, Bool.and_false]
          decide
        rw [if_neg c2, go v (by omega) (by omega), List.filter_cons_of_neg eo]
    · have eo : ¬ za_out c L t = true := by
        unfold za_out
        rw [decide_eq_false c1, Bool.false_and]
        decide
      rw [if_neg c1, if_pos rfl, go v (by omega) (by omega), List.filter_cons_of_neg eo]
theorem za_gone {c : Nat → Int} {L : List Int} (ok : zt_ln_ok c L) (G : zm_G0 c L) : ((L.reverse.drop 1).filter (za_out c L)).length = (L.filter (za_out c L)).length := by
  have e0 : ¬ za_out c L 0 = true := by
    unfold za_out
    have : ¬ zm_ed c 0 := fun q => by
      have := G.2.2.2.1
      rcases q with q | q <;> omega
    rw [decide_eq_false this, Bool.false_and]
    decide
  have er : L.reverse = 0 :: L.reverse.drop 1 := by
    have h := ok.2.1
    rw [← List.head?_reverse] at h
    cases hr : L.reverse with
    | nil =>
      rw [hr] at h
      cases h
    | cons x r =>
      rw [hr] at h
      have : x = 0 := Option.some.inj h
      rw [this]
      rfl
  have e1 : (L.reverse.filter (za_out c L)).length = (L.filter (za_out c L)).length := by rw [List.filter_reverse, List.length_reverse]
  rw [← e1]
  conv => rhs; rw [er]
  rw [List.filter_cons_of_neg e0]
/-- bits of some of a line, counted -/
theorem za_pop {L : List Int} {v : Int64} {P : Int → Bool} (nd : L.Nodup) (h48 : ∀ t ∈ L, 0 ≤ t ∧ t < 48) (hv : ∀ t : Nat, t < 64 → (zt_b v t = true ↔ (t : Int) ∈ L ∧ P t = true)) : zt_pop v = (L.filter P).length := by
  have nd2 : (L.filter P).Nodup := nd.filter P
  rw [← zt_cnt nd2 (fun x hx => by have := h48 x (List.mem_filter.mp hx).1; omega)]
  unfold zt_pop
  refine zm_sum_cg 64 (fun t ht => ?_)
  by_cases c : (t : Int) ∈ L.filter P
  · rw [if_pos c, (hv t ht).mpr (List.mem_filter.mp c)]
    rfl
  · rw [if_neg c]
    cases e : zt_b v t with
    | true => exact absurd (List.mem_filter.mpr ((hv t ht).mp e)) c
    | false => rfl
theorem zp_many {d D : Nat} (hA : zc_A g) (I : zm_MI k) (S : zt_GG m a b g k) (w : Int) : ∃ v g' k', C8_many (d + 28) 1 w g = some (v, g') ∧ C9_many (D + 28) 347 w k = some (v, k') := by
  have gL := zt_L_A hA
  have hM := I.1
  have l1 : zv_lay 1 = (1, 8) := rfl
  have la := (zt_lab (zt_GG_ab S)).1
  have qC := qE8_many (d + 27) 1 w g
  have qR := qE9_many (D + 27) 347 w k
  rw [zm_e (zm_isIn (h := k) (D + 26) w 0 9)] at qR
  dsimp only at qR
  by_cases cw : 0 ≤ w ∧ w ≤ 9
  rotate_left
  · rw [if_neg (show ¬ w = 0 by omega), if_neg (show ¬ w = 1 by omega), if_neg (show ¬ w = 2 by omega), if_neg (show ¬ w = 3 by omega), if_neg (show ¬ w = 4 by omega), if_neg (show ¬ w = 5 by omega), if_neg (show ¬ w = 6 by omega), if_neg (show ¬ w = 7 by omega), if_neg (show ¬ w = 8 by omega), if_neg (show ¬ w = 9 by omega), za_ref gL] at qC
    rw [if_neg cw, if_pos rfl, qL9_many_16, za_isn hM (by decide)] at qR
    exact ⟨_, _, _, lC8_many (zl_ob gL l1) qC, lC9_many (zm_ob hM) qR⟩
  obtain ⟨k1, i1, F1⟩ := zp_is hM
  have S1 := zt_GG_F S F1
  have M1 := zm_F_M F1 hM
  have H := zt_GG_H S1
  have U := zt_H_U H
  have V := zt_H_V H
  have N := zt_H_N H
  have W := zt_U_W U
  generalize hc : zv_I k1 348 = c at U W V N
  have hs := W.2.1
  obtain ⟨l, hl, ok, G, _, _⟩ := zt_line W hs
  obtain ⟨k2, e2, F2, n2, rl, dl⟩ := za_sees (D := D + 23) M1 hc W hs hl
  have M2 := zm_F_M F2 M1
  have c2 : zv_I k2 348 = c := (zm_F_a F2 348).trans hc
  have lr := zt_r_l la hs.1
  have u := zt_U_st U (c 0) hs
  rw [if_pos cw, if_neg (by decide), qL9_many_16, za_isy i1] at qR
  dsimp only at qR
  rw [zm_e (zm_here M1 _), hc] at qR
  dsimp only at qR
  rw [zm_e e2] at qR
  by_cases w0 : w = 0
  · rw [if_pos w0, zm_e (zp_e3 hA S), zm_e (zl_gI gL la 12), zt_U_ct U, za_giv gL] at qC
    have es := zm_states M2 (D + 25) (by rw [c2]; exact W.1.1)
    rw [c2] at es
    rw [if_pos w0, zm_e es] at qR
    exact ⟨_, _, _, lC8_many (zl_ob gL l1) qC, lC9_many (zm_ob hM) qR⟩
  rw [if_neg w0] at qC qR
  by_cases w1 : w = 1
  · rw [if_pos w1, zm_e (zp_e3 hA S), zm_e (zl_gR gL la 10), zt_U_he U, zm_e (zl_gI gL lr 0), zt_num U hs, za_giv gL] at qC
    rw [if_pos w1, zm_e (zm_here M2 _), c2] at qR
    exact ⟨_, _, _, lC8_many (zl_ob gL l1) qC, lC9_many (zm_ob hM) qR⟩
  rw [if_neg w1] at qC qR
  by_cases w2 : w = 2
  · rw [if_pos w2, zm_e (zp_e3 hA S), zm_e (zl_gI gL la 11), zt_U_nw U, za_giv gL] at qC
    rw [if_pos w2, zm_e (zm_f0 M2), zm_e (zm_aI M2 zm_l348 rfl (by decide) (by decide)), c2] at qR
    exact ⟨_, _, _, lC8_many (zl_ob gL l1) qC, lC9_many (zm_ob hM) qR⟩
  rw [if_neg w2] at qC qR
  by_cases w3 : w = 3
  · rw [if_pos w3, zm_e (zp_e3 hA S), zm_e (zl_gR gL la 10), zt_U_he U, zm_e (zl_gI gL lr 12), zt_S_ln u l hl, za_giv gL] at qC
    rw [if_pos w3, zm_e (zm_gI M2 12), n2.2.2.2.2] at qR
    exact ⟨_, _, _, lC8_many (zl_ob gL l1) qC, lC9_many (zm_ob hM) qR⟩
  rw [if_neg w3] at qC qR
  by_cases w4 : w = 4
  · obtain ⟨g', e1, B, rw_, lo⟩ := za_row (d := d + 22) gL U hl
    have gL' := zt_B_L B
    rw [if_pos w4, zm_e (zp_e3 hA S), zm_e e1] at qC
    dsimp only at qC
    rw [zm_e (zl_gI gL' (zt_row_l la).1 6), zt_rw_sz rw_, za_giv gL'] at qC
    rw [if_pos w4, zm_e (zm_gI M2 11), n2.2.1.1] at qR
    exact ⟨_, _, _, lC8_many (zl_ob gL l1) qC, lC9_many (zm_ob hM) qR⟩
  rw [if_neg w4] at qC qR
  by_cases w5 : w = 5
  · rw [if_pos w5, zm_e (zp_e3 hA S), zm_e (zl_gF gL la 6 14), zm_e (zl_gI gL (zt_nm_l la).1 2), zt_N_sz N, za_giv gL] at qC
    rw [if_pos w5, zm_e (zm_f0 M2), zm_e (zm_aI M2 zm_l348 rfl (by decide) (by decide)), c2] at qR
    exact ⟨_, _, _, lC8_many (zl_ob gL l1) qC, lC9_many (zm_ob hM) qR⟩
  rw [if_neg w5] at qC qR
  by_cases w6 : w = 6
  · obtain ⟨v, h1, h2⟩ := za_leaves_l (d := d + 25) (D := D + 23) gL U M2 c2 48 0 0 rfl (Nat.le_refl _)
    have e1 : C0_leaves (d + 27) a g = some (v, g) := lC0_leaves (zl_ob gL la) (by rw [qE0_leaves]; exact h1)
    have e3 : C9_leaves (D + 27) 347 k2 = some (v, k2) := lC9_leaves (zm_ob M2) (by rw [qE9_leaves]; exact h2)
    rw [if_pos w6, zm_e (zp_e3 hA S), zm_e e1] at qC
    dsimp only at qC
    rw [za_giv gL] at qC
    rw [if_pos w6, zm_e e3] at qR
    exact ⟨_, _, _, lC8_many (zl_ob gL l1) qC, lC9_many (zm_ob hM) qR⟩
  rw [if_neg w6] at qC qR
  by_cases w7 : w = 7
  · have dp := zt_dep W hs hl
    obtain ⟨v, h1, h2⟩ := za_groups_l (d := d + 26) (D := D + 25) hA U M2 c2 l (c 0) 0 hl ok.2.2.1 (by omega)
    have e1 : C0_groups (d + 27) a g = some (v, g) := lC0_groups (zl_ob gL la) (by rw [qE0_groups, zm_e (zl_gR gL la 10), zt_U_he U]; exact h1)
    have e3 : C9_groups (D + 27) 347 k2 = some (v, k2) := lC9_groups (zm_ob M2) (by
      rw [qE9_groups, zm_e (zm_here M2 _), c2]
      exact h2)
    rw [if_pos w7, zm_e (zp_e3 hA S), zm_e e1] at qC
    dsimp only at qC
    rw [za_giv gL] at qC
    rw [if_pos w7, zm_e e3] at qR
    exact ⟨_, _, _, lC8_many (zl_ob gL l1) qC, lC9_many (zm_ob hM) qR⟩
  rw [if_neg w7] at qC qR
  by_cases w8 : w = 8
  · obtain ⟨g', e1, B, rw_, lo⟩ := za_row (d := d + 22) gL U hl
    have gL' := zt_B_L B
    have l8 := (zt_row_l la).1
    have wk := zt_B_wk B
    have eo : C4_outOfForce (d + 27) (a + 8) g' = some (zv_J g' (a + 8) 8 &&& (zv_J g' (a + 8) 9 ^^^ (-1 : Int64)), g') := lC4_outOfForce (zl_ob gL' l8) (by
      rw [qE4_outOfForce, zm_e (zl_gJ gL' l8 8), zm_e (zl_gJ gL' l8 9)])
    have ep : zt_pop (zv_J g' (a + 8) 8 &&& (zv_J g' (a + 8) 9 ^^^ (-1 : Int64))) = (((c 0 :: l).filter (za_out c (c 0 :: l))).length : Int) := by
      refine za_pop ok.1 (fun t ht => by have := (ok.2.2.1 t ht).1; omega) (fun t ht => ?_)
      rw [zt_b_and, zt_b_not _ ht, Bool.and_eq_true]
      have q1 := zt_wk_ac wk t ht
      have q2 := zt_wk_fo wk t ht
      unfold za_out
      rw [Bool.and_eq_true, decide_eq_true_iff, decide_eq_true_iff, q1]
      constructor
      · rintro ⟨⟨p1, p2, p3⟩, p4⟩
        refine ⟨p2, p3, (zm_fc_01 c _ _).resolve_right (fun q => ?_)⟩
        rw [q2.mpr ⟨p1, p2, p3, q⟩] at p4
        cases p4
      · rintro ⟨p2, p3, p4⟩
        have t47 := (ok.2.2.1 _ p2).1
        refine ⟨⟨by omega, p2, p3⟩, ?_⟩
        cases e : zt_b (zv_J g' (a + 8) 9) t with
        | false => rfl
        | true =>
          have := (q2.mp e).2.2.2
          omega
    have sh : zv_I k2 347 10 = ((c 0 :: l).length : Int) := n2.1.1
    obtain ⟨k3, e3, F3, n3, _, _⟩ := za_sees (D := D + 22) M2 c2 W hs hl
    have M3 := zm_F_M F3 M2
    have c3 : zv_I k3 348 = c := (zm_F_a F3 348).trans c2
    have eg := za_gone_l (D := D + 24) M3 c3 n3 ok.2.2.1 ok.2.2.2 l.length 1 0 (by rw [List.length_cons]; omega) (by omega)
    have e4 : C9_gone (D + 27) 347 k2 = some (((((c 0 :: l).reverse.drop 1).filter (za_out c (c 0 :: l))).length : Int), k3) := lC9_gone (zm_ob M2) (by
      rw [qE9_gone, zm_e (zm_here M2 _), c2]
      dsimp only
      rw [zm_e e3]
      have eg' : L9_gone_12 (D + 26) 347 0 1 k3 = some (some (zv_i ((0 : Nat) + ((((c 0 :: l).reverse.drop 1).filter (za_out c (c 0 :: l))).length : Int))), k3) := eg
      rw [eg', show ((0 : Nat) : Int) + ((((c 0 :: l).reverse.drop 1).filter (za_out c (c 0 :: l))).length : Int) = ((((c 0 :: l).reverse.drop 1).filter (za_out c (c 0 :: l))).length : Int) by omega])
    rw [if_pos w8, zm_e (zp_e3 hA S), zm_e e1] at qC
    dsimp only at qC
    rw [zm_e eo] at qC
    dsimp only at qC
    rw [zm_e (zt_bitCount (d := d + 26) _ g'), ep] at qC
    dsimp only at qC
    rw [za_giv gL'] at qC
    rw [if_pos w8, zm_e e4, za_gone ok G] at qR
    exact ⟨_, _, _, lC8_many (zl_ob gL l1) qC, lC9_many (zm_ob hM) qR⟩
  rw [if_neg w8] at qC qR
  rw [if_pos (show w = 9 by omega), zm_e (zp_e3 hA S), zm_e (zl_gF gL la 7 17), zm_e (zl_gI gL (zt_vis_l la).1 4), zt_V_ct V, za_giv gL] at qC
  rw [zm_e (zm_f0 M2), zm_e (zm_aI M2 zm_l348 rfl (by decide) (by decide)), c2] at qR
  exact ⟨_, _, _, lC8_many (zl_ob gL l1) qC, lC9_many (zm_ob hM) qR⟩
end
end
