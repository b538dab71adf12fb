/-! ===== what is asked, answered alike: visits, names, children, lines ===== -/
section
variable {a b m : Nat} {g k : zv_H}
theorem za_ref {d : Nat} (gL : zt_L g) (v : Int) : ((C8_refused (d + 1) 1 v g).bind fun q => (some (some (zv_i q.1), q.2) : zv_O)) = some (some (zv_i (-1)), zv_sI g 1 6 v) := by rw [zm_e (zt_refused gL v)]
theorem za_giv {d : Nat} (gL : zt_L g) (v : Int) : ((C8_given (d + 1) 1 v g).bind fun q => (some (some (zv_i q.1), q.2) : zv_O)) = some (some (zv_i v), zv_sI g 1 6 0) := by rw [zm_e (zt_given gL v)]
/-- the reference refuses, or goes on -/
theorem za_isn {D : Nat} (hM : zm_M k) {w : Int} (hw : w ≠ 0) {T : Int × zv_H → zv_O} : ((C9_is (D + 1) 347 w k).bind fun q => if q.1 = 0 then (some (some (zv_i (-1)), q.2) : zv_O) else T q) = some (some (zv_i (-1)), zv_sI (zv_sI k 347 4 0) 347 3 w) := by
  rw [zm_e (zm_is hM D w)]
  dsimp only
  rw [if_neg hw, if_pos rfl]
theorem za_isy {D : Nat} {k1 : zv_H} (i1 : ∀ D, C9_is (D + 1) 347 0 k = some (1, k1)) {T : Int × zv_H → zv_O} : ((C9_is (D + 1) 347 0 k).bind fun q => if q.1 = 0 then (some (some (zv_i (-1)), q.2) : zv_O) else T q) = T (1, k1) := by
  rw [zm_e (i1 D)]
  exact if_neg (show ¬ (1 : Int) = 0 by decide)
theorem za_rf {D : Nat} (hM : zm_M k) (w : Int) : ((C9_refuse (D + 1) 347 w k).bind fun q => (some (some (zv_i q.1), q.2) : zv_O)) = some (some (zv_i (-1)), zv_sI k 347 3 w) := by rw [zm_e (zm_refuse hM D w)]
/-! the log -/
theorem za_slot {d : Nat} {c : Nat → Int} (gL : zt_L g) (la : zv_lay a = (1, 0)) (V : zt_V a c g) (b2 : c 2 < 2000000000) {i : Nat} (hi : (i : Int) < c 5) : C6_slot (d + 1) (a + 17) i g = some ((c 2 - 1 - i) % 40, g) := by
  have vl := zt_vis_l la
  have c0 := zt_V_c0 V
  have c5 := zt_V_c5 V
  have i2 : (i : Int) < c 2 := by
    split at c5 <;> omega
  refine lC6_slot (zl_ob gL vl.1) ?_
  rw [qE6_slot, zm_e (zl_gI gL vl.1 4), zt_V_ct V, zm_w (show -2147483648 ≤ c 2 - 1 ∧ c 2 - 1 < 2147483648 by omega), zm_w (by omega), Int.tmod_eq_emod_of_nonneg (by omega)]
theorem za_stateAt {d : Nat} {c : Nat → Int} (gL : zt_L g) (la : zv_lay a = (1, 0)) (V : zt_V a c g) (b2 : c 2 < 2000000000) {i : Nat} (hi : (i : Int) < c 5) : C6_stateAt (d + 2) (a + 17) i g = some (c (4156 + 2 * i), g) := by
  have vl := zt_vis_l la
  have e6 : zv_gR g (a + 17) 6 0 = some (a + 17 + 1) := zl_gF gL vl.1 0 1
  refine lC6_stateAt (zl_ob gL vl.1) ?_
  rw [qE6_stateAt, zm_e (za_slot (d := d) gL la V b2 hi)]
  dsimp only
  rw [if_neg (by omega), if_pos (by omega), zm_e e6, zm_e (zl_aI gL vl.2.1 (by omega) (by omega)), zt_V_ls V i hi]
theorem za_timeAt {d : Nat} {c : Nat → Int} (gL : zt_L g) (la : zv_lay a = (1, 0)) (V : zt_V a c g) (b2 : c 2 < 2000000000) {i : Nat} (hi : (i : Int) < c 5) : C6_timeAt (d + 2) (a + 17) i g = some (c (4157 + 2 * i), g) := by
  have vl := zt_vis_l la
  have e6 : zv_gR g (a + 17) 6 1 = some (a + 17 + 2) := zl_gF gL vl.1 1 2
  refine lC6_timeAt (zl_ob gL vl.1) ?_
  rw [qE6_timeAt, zm_e (za_slot (d := d) gL la V b2 hi)]
  dsimp only
  rw [if_neg (by omega), if_pos (by omega), zm_e e6, zm_e (zl_aI gL vl.2.2.1 (by omega) (by omega)), zt_V_lt V i hi]
theorem zp_visit {d D : Nat} (hA : zc_A g) (I : zm_MI k) (S : zt_GG m a b g k) (hm : m ≤ 100000) (x y : Int) : ∃ v g' k', C8_visit (d + 28) 1 x y g = some (v, g') ∧ C9_visit (D + 28) 347 x y k = some (v, k') := by
  have gL := zt_L_A hA
  have hM := I.1
  have l1 : zv_lay 1 = (1, 8) := rfl
  have la := (zt_lab (zt_GG_ab S)).1
  have V := zt_H_V (zt_GG_H S)
  have b2 : zv_I k 348 2 < 2000000000 := by have := (zp_b2 S hm).1; omega
  have c0 := zt_V_c0 V
  have c5 := zt_V_c5 V
  have vl := zt_vis_l la
  have e7 : zv_gR g a 0 7 = some (a + 17) := zl_gF gL la 7 17
  have qC := qE8_visit (d + 27) 1 x y g
  have qR := qE9_visit (D + 27) 347 x y k
  rw [zm_e (zc_within (d := d + 26) g x 0 39)] at qC
  rw [zm_e (zm_isIn (h := k) (D + 26) x 0 39)] at qR
  dsimp only at qC qR
  by_cases c1 : 0 ≤ x ∧ x ≤ 39
  · rw [if_pos c1, if_neg (by decide), zm_e (zc_within (d := d + 26) g y 0 1)] at qC
    rw [if_pos c1, if_neg (by decide), zm_e (zm_isIn (h := k) (D + 26) y 0 1)] at qR
    dsimp only at qC qR
    by_cases c2 : 0 ≤ y ∧ y ≤ 1
    · rw [if_pos c2, if_neg (by decide), zm_e (zp_e3 hA S), zm_e e7, zm_e (zl_gI gL vl.1 4), zt_V_ct V] at qC
      rw [if_pos c2, if_neg (by decide), zm_e (zm_f0 hM), zm_e (zm_aI hM zm_l348 rfl (by decide) (by decide))] at qR
      obtain ⟨i, rfl⟩ : ∃ i : Nat, x = i := ⟨x.toNat, by omega⟩
      by_cases c3 : (i : Int) < zv_I k 348 2
      · have i5 : (i : Int) < zv_I k 348 5 := by split at c5 <;> omega
        obtain ⟨k1, i1, F1⟩ := zp_is hM
        have M1 := zm_F_M F1 hM
        have e348 : zv_I k1 348 = zv_I k 348 := zm_F_a F1 348
        rw [if_pos (show (i : Int) < zv_I k 348 (Int.toNat 5) from i5), qL9_visit_39, za_isy i1] at qR
        dsimp only at qR
        rw [zm_e (zm_f0 M1), zm_w (show -2147483648 ≤ 2 * (i : Int) ∧ 2 * (i : Int) < 2147483648 by omega), zm_w (show -2147483648 ≤ 4156 + 2 * (i : Int) ∧ 4156 + 2 * (i : Int) < 2147483648 by omega), zm_w (by omega), zm_e (zm_aI M1 zm_l348 rfl (by omega) (by omega)), e348] at qR
        rw [if_pos c3] at qC
        by_cases c4 : y = 0
        · rw [if_pos c4, zm_e (zp_e3 hA S), zm_e e7, zm_e (za_stateAt (d := d + 25) gL la V b2 i5)] at qC
          dsimp only at qC
          rw [qL8_visit_75, za_giv gL] at qC
          rw [c4, show (4156 + 2 * (i : Int) + 0).toNat = 4156 + 2 * i by omega] at qR
          subst c4
          exact ⟨_, _, _, lC8_visit (zl_ob gL l1) qC, lC9_visit (zm_ob hM) qR⟩
        · have y1 : y = 1 := by omega
          subst y1
          rw [if_neg c4, zm_e (zp_e3 hA S), zm_e e7, zm_e (za_timeAt (d := d + 25) gL la V b2 i5)] at qC
          dsimp only at qC
          rw [qL8_visit_75, za_giv gL] at qC
          rw [show (4156 + 2 * (i : Int) + 1).toNat = 4157 + 2 * i by omega] at qR
          exact ⟨_, _, _, lC8_visit (zl_ob gL l1) qC, lC9_visit (zm_ob hM) qR⟩
      · have i5 : ¬ (i : Int) < zv_I k 348 5 := by split at c5 <;> omega
        rw [if_neg c3, za_ref gL] at qC
        rw [if_neg (show ¬ (i : Int) < zv_I k 348 (Int.toNat 5) from i5), qL9_visit_39, za_isn hM (by decide)] at qR
        exact ⟨_, _, _, lC8_visit (zl_ob gL l1) qC, lC9_visit (zm_ob hM) qR⟩
    · rw [if_neg c2, if_pos rfl, qL8_visit_19, za_ref gL] at qC
      rw [if_neg c2, if_pos rfl, qL9_visit_20, qL9_visit_39, za_isn hM (by decide)] at qR
      exact ⟨_, _, _, lC8_visit (zl_ob gL l1) qC, lC9_visit (zm_ob hM) qR⟩
  · rw [if_neg c1, if_pos rfl, qL8_visit_19, za_ref gL] at qC
    rw [if_neg c1, if_pos rfl, qL9_visit_20, qL9_visit_39, za_isn hM (by decide)] at qR
    exact ⟨_, _, _, lC8_visit (zl_ob gL l1) qC, lC9_visit (zm_ob hM) qR⟩
theorem zp_named {d D : Nat} (hA : zc_A g) (I : zm_MI k) (S : zt_GG m a b g k) : ∃ v g' k', C8_named (d + 28) 1 g = some (v, g') ∧ C9_named (D + 28) 347 k = some (v, k') := by
  have gL := zt_L_A hA
  have hM := I.1
  have l1 : zv_lay 1 = (1, 8) := rfl
  have la := (zt_lab (zt_GG_ab S)).1
  obtain ⟨x, w1, w2, w3, w4⟩ := zt_GG_wt S
  have ek := zt_C7_key (d := d + 25) gL w3 w4
  have qC := qE8_named (d + 27) 1 g
  rw [zm_e (zp_e1 hA), zm_e ek] at qC
  dsimp only at qC
  have qR := qE9_named (D + 27) 347 k
  rw [zm_e (zm_gI hM 20), w1, zm_e (zm_isIn (D + 26) (x : Int) 1 6)] at qR
  dsimp only at qR
  by_cases c6 : 1 ≤ x ∧ x ≤ 6
  rotate_left
  · have cI : ¬ ((1 : Int) ≤ (x : Int) ∧ (x : Int) ≤ 6) := fun q => c6 (by omega)
    rw [if_neg c6, if_pos rfl, za_ref gL] at qC
    rw [if_neg cI, if_pos rfl, qL9_named_19, za_isn hM (by decide)] at qR
    exact ⟨_, _, _, lC8_named (zl_ob gL l1) qC, lC9_named (zm_ob hM) qR⟩
  have cI : (1 : Int) ≤ (x : Int) ∧ (x : Int) ≤ 6 := by omega
  obtain ⟨k1, i1, F1⟩ := zp_is hM
  have S1 := zt_GG_F S F1
  have M1 := zm_F_M F1 hM
  have H := zt_GG_H S1
  have W := zt_U_W (zt_H_U H)
  have b3 := W.2.2.1
  have e361 : zv_I k1 361 = zv_I k 361 := zm_F_a F1 361
  have ep := zt_packed M1 (D + 26) zm_l361 rfl w2 c6.2 w4 (fun j _ => congrFun e361 j)
  have hnw : zt_nw (zt_ls x (zv_I k 361)) := ⟨by rw [zt_ls_len]; exact c6, zt_lw_m w4⟩
  have k0 : ¬ zt_key (zt_ls x (zv_I k 361)) = 0 := fun e => by
    have e2 : zt_ls x (zv_I k 361) = [] := zt_key_inj _ [] (zt_lw_m w4) (fun x hx => by cases hx) e
    have := congrArg List.length e2
    rw [zt_ls_len] at this
    simp only [List.length_nil] at this
    omega
  obtain ⟨u, e1, u1⟩ := zt_indexOf (d := d + 26) gL H (zt_key (zt_ls x (zv_I k 361)))
  obtain ⟨u', e2, u2⟩ := zt_nameAt M1 rfl W (D + 26) (zt_pkd (zt_ls x (zv_I k 361)))
  have eu := zt_ix_u u2 (zt_ix_N (zt_H_N H) hnw u1)
  subst eu
  rw [if_pos c6, if_neg k0, zm_e (zp_e3 hA S), zm_e (zl_gF gL la 6 14), zm_e e1] at qC
  dsimp only at qC
  rw [if_pos cI, if_neg (by decide), qL9_named_19, za_isy i1] at qR
  dsimp only at qR
  rw [zm_e (zm_f18 M1), zm_e (zm_gI M1 20), zm_F_g F1 20, w1, zm_e ep] at qR
  dsimp only at qR
  rw [zm_e e2] at qR
  dsimp only at qR
  rcases u1 with ⟨q1, q2⟩ | ⟨j, q1, q2, q3, q4⟩
  · rw [if_pos (by omega), za_ref gL] at qC
    rw [if_pos (by omega), za_rf M1] at qR
    exact ⟨_, _, _, lC8_named (zl_ob gL l1) qC, lC9_named (zm_ob hM) qR⟩
  · have eo := zt_ownerAt (d := d + 26) gL H q2
    rw [if_neg (by omega), zm_e (zp_e3 hA S), zm_e (zl_gF gL la 6 14), q1, zm_e eo] at qC
    dsimp only at qC
    rw [za_giv gL] at qC
    rw [if_neg (by omega), zm_e (zm_f0 M1), q1, zm_w (show -2147483648 ≤ 2 * (j : Int) ∧ 2 * (j : Int) < 2147483648 by omega), zm_w (show -2147483648 ≤ 408 + 2 * (j : Int) ∧ 408 + 2 * (j : Int) < 2147483648 by omega), zm_w (by omega), zm_e (zm_aI M1 zm_l348 rfl (by omega) (by omega)), show (408 + 2 * (j : Int) + 1).toNat = 409 + 2 * j by omega] at qR
    exact ⟨_, _, _, lC8_named (zl_ob gL l1) qC, lC9_named (zm_ob hM) qR⟩
/-! a State asked for -/
theorem za_at {d : Nat} (hA : zc_A g) (S : zt_GG m a b g k) (s : Int) : C0_at (d + 1) a s g = some ((if zm_st (zv_I k 348) s then zt_r a s else 0), g) := zt_at (zt_L_A hA) (zt_H_U (zt_GG_H S)) s
theorem za_num (S : zt_GG m a b g k) (hA : zc_A g) {s : Int} (hs : zm_st (zv_I k 348) s) : zv_gI g (zt_r a s) 5 0 = some s := by
  have U := zt_H_U (zt_GG_H S)
  rw [zl_gI (zt_L_A hA) (zt_r_l (zt_U_la U) hs.1) 0, zt_num U hs]
theorem za_r0 (S : zt_GG m a b g k) {s : Int} (hs : zm_st (zv_I k 348) s) : ¬ zt_r a s = 0 := zt_r0 (zt_H_U (zt_GG_H S)) hs
theorem zp_first {d D : Nat} (hA : zc_A g) (I : zm_MI k) (S : zt_GG m a b g k) : ∃ v g' k', C8_first (d + 28) 1 g = some (v, g') ∧ C9_first (D + 28) 347 k = some (v, k') := by
  have gL := zt_L_A hA
  have hM := I.1
  have l1 : zv_lay 1 = (1, 8) := rfl
  obtain ⟨k1, i1, F1⟩ := zp_is hM
  have S1 := zt_GG_F S F1
  have M1 := zm_F_M F1 hM
  obtain ⟨v, hv, h1, h2⟩ := zj_fo (d := d + 25) (D := D + 23) gL (zt_GG_H S1) M1 rfl
  have qC := qE8_first (d + 27) 1 g
  rw [zm_e (zp_e3 hA S), zm_e h1] at qC
  dsimp only at qC
  have qR := qE9_first (D + 27) 347 k
  rw [zm_e (i1 (D + 26))] at qR
  dsimp only at qR
  rw [zm_e h2] at qR
  dsimp only at qR
  rcases hv with e | ⟨hs, h0, hh, hc⟩
  · rw [e] at qC qR
    rw [show zt_ro a (-1) = 0 from rfl, if_pos rfl, za_ref gL] at qC
    rw [if_pos (by decide), za_rf M1] at qR
    exact ⟨_, _, _, lC8_first (zl_ob gL l1) qC, lC9_first (zm_ob hM) qR⟩
  · have v0 := hs.1
    have er : zt_ro a v = zt_r a v := if_neg (by omega)
    rw [er, if_neg (za_r0 S1 hs), zm_e (za_num S1 hA hs), za_giv gL] at qC
    rw [if_neg (by omega)] at qR
    exact ⟨_, _, _, lC8_first (zl_ob gL l1) qC, lC9_first (zm_ob hM) qR⟩
theorem zp_common {d D : Nat} (hA : zc_A g) (I : zm_MI k) (S : zt_GG m a b g k) (s t : Int) : ∃ v g' k', C8_common (d + 28) 1 s t g = some (v, g') ∧ C9_common (D + 28) 347 s t k = some (v, k') := by
  have gL := zt_L_A hA
  have hM := I.1
  have l1 : zv_lay 1 = (1, 8) := rfl
  have qC := qE8_common (d + 27) 1 s t g
  rw [zm_e (zp_e3 hA S), zm_e (za_at (d := d + 26) hA S s)] at qC
  dsimp only at qC
  rw [zm_e (zp_e3 hA S), zm_e (za_at (d := d + 26) hA S t)] at qC
  dsimp only at qC
  have qR := qE9_common (D + 27) 347 s t k
  rw [zm_e (zm_isState hM (D + 25) s)] at qR
  dsimp only at qR
  by_cases hs : zm_st (zv_I k 348) s
  rotate_left
  · rw [if_neg hs, if_pos rfl, qL8_common_28, za_ref gL] at qC
    rw [if_neg hs, if_pos rfl, qL9_common_21, qL9_common_22, za_isn hM (by decide)] at qR
    exact ⟨_, _, _, lC8_common (zl_ob gL l1) qC, lC9_common (zm_ob hM) qR⟩
  rw [if_pos hs, if_neg (za_r0 S hs)] at qC
  rw [if_pos hs, if_neg (by decide), zm_e (zm_isState hM (D + 25) t)] at qR
  dsimp only at qR
  by_cases ht : zm_st (zv_I k 348) t
  rotate_left
  · rw [if_neg ht, if_pos rfl, qL8_common_28, za_ref gL] at qC
    rw [if_neg ht, if_pos rfl, qL9_common_21, qL9_common_22, za_isn hM (by decide)] at qR
    exact ⟨_, _, _, lC8_common (zl_ob gL l1) qC, lC9_common (zm_ob hM) qR⟩
  obtain ⟨k1, i1, F1⟩ := zp_is hM
  have S1 := zt_GG_F S F1
  have M1 := zm_F_M F1 hM
  have U := zt_H_U (zt_GG_H S1)
  have W := zt_U_W U
  have e348 : zv_I k1 348 = zv_I k 348 := zm_F_a F1 348
  have hs1 : zm_st (zv_I k1 348) s := by rw [e348]; exact hs
  have ht1 : zm_st (zv_I k1 348) t := by rw [e348]; exact ht
  obtain ⟨ls, hls, _⟩ := zt_line W hs1
  obtain ⟨lt, hlt, _⟩ := zt_line W ht1
  have en := zt_nearest (d := d + 25) gL U hs1 ht1 hls hlt
  have ec := zt_commonOf M1 rfl W (D + 24) hs1 ht1 hls hlt
  have hn := (zt_near_st W hs1 ht1 hls hlt).2
  rw [if_pos ht, if_neg (za_r0 S ht), zm_e en] at qC
  dsimp only at qC
  rw [zm_e (za_num S1 hA hn), za_giv gL] at qC
  rw [if_pos ht, if_neg (by decide), qL9_common_22, za_isy i1] at qR
  dsimp only at qR
  rw [zm_e ec] at qR
  exact ⟨_, _, _, lC8_common (zl_ob gL l1) qC, lC9_common (zm_ob hM) qR⟩
theorem za_nch48 (c : Nat → Int) (s : Int) : zm_nch c s ≤ 48 := by
  unfold zm_nch
  have : ∀ n : Nat, zm_sum (fun k => if zm_st c k ∧ zm_o c k 1 = s then 1 else 0) n ≤ n := by
    intro n
    induction n with
    | zero => exact Int.le_refl _
    | succ n ih =>
      show zm_sum (fun k => if zm_st c k ∧ zm_o c k 1 = s then 1 else 0) n + (if zm_st c (n : Int) ∧ zm_o c (n : Int) 1 = s then 1 else 0) ≤ _
      split <;> omega
  exact this 48
theorem zp_child {d D : Nat} (hA : zc_A g) (I : zm_MI k) (S : zt_GG m a b g k) (hm : m ≤ 100000) (s : Int) {n : Int} (rn : zv_rg n) : ∃ v g' k', C8_child (d + 28) 1 s n g = some (v, g') ∧ C9_child (D + 28) 347 s n k = some (v, k') := by
  have gL := zt_L_A hA
  have hM := I.1
  have l1 : zv_lay 1 = (1, 8) := rfl
  have qC := qE8_child (d + 27) 1 s n g
  have qR := qE9_child (D + 27) 347 s n k
  by_cases n0 : n < 0
  · rw [if_pos n0, za_ref gL] at qC
    rw [if_pos n0, qL9_child_22, za_isn hM (by decide)] at qR
    exact ⟨_, _, _, lC8_child (zl_ob gL l1) qC, lC9_child (zm_ob hM) qR⟩
  rw [if_neg n0, zm_e (zp_e3 hA S), zm_e (za_at (d := d + 26) hA S s)] at qC
  dsimp only at qC
  rw [if_neg n0, zm_e (zm_isState hM (D + 25) s)] at qR
  dsimp only at qR
  by_cases hs : zm_st (zv_I k 348) s
  rotate_left
  · rw [if_neg hs, if_pos rfl, za_ref gL] at qC
    rw [if_neg hs, if_pos rfl, qL9_child_22, za_isn hM (by decide)] at qR
    exact ⟨_, _, _, lC8_child (zl_ob gL l1) qC, lC9_child (zm_ob hM) qR⟩
  obtain ⟨k1, i1, F1⟩ := zp_is hM
  have S1 := zt_GG_F S F1
  have M1 := zm_F_M F1 hM
  have H1 := zt_GG_H S1
  have U := zt_H_U H1
  have e348 : zv_I k1 348 = zv_I k 348 := zm_F_a F1 348
  have hs1 : zm_st (zv_I k1 348) s := by rw [e348]; exact hs
  rw [if_pos hs, if_neg (za_r0 S hs), zm_e (zp_e3 hA S)] at qC
  rw [if_pos hs, if_neg (by decide), qL9_child_22, za_isy i1] at qR
  dsimp only at qR
  by_cases n48 : n < 48
  · have b2 : zv_I k1 348 2 < 2000000000 := by have := (zp_b2 S1 hm).1; omega
    obtain ⟨v, g', v', h1, h2, h3, h4, h5⟩ := zj_child (d := d + 24) (D := D + 23) hA H1 M1 rfl b2 hs1 rn (by omega)
    have gL' := zt_L_A h3.2
    rw [zm_e h1] at qC
    dsimp only at qC
    rw [if_pos n48, zm_e h4] at qR
    dsimp only at qR
    rcases h5 with ⟨z1, z2⟩ | ⟨z1, z2, z3⟩
    · rw [if_pos z1, za_ref gL'] at qC
      rw [z2, qL9_child_46, if_pos (by decide), za_rf M1] at qR
      exact ⟨_, _, _, lC8_child (zl_ob gL l1) qC, lC9_child (zm_ob hM) qR⟩
    · have S2 : zt_H a (zv_I k1 348) g' := zt_H_q H1 (zt_n14_q h2)
      have v0 := z1.1
      rw [z3, if_neg (zt_r0 U z1), zl_gI gL' (zt_r_l (zt_U_la U) z1.1) 0, zt_num (zt_H_U S2) z1] at qC
      have qC2 := qC
      rw [show ((some v').bind fun v8 => (C8_given (d + 27) 1 v8 g').bind fun q9 => (some (some (zv_i q9.1), q9.2) : zv_O)) = ((C8_given (d + 27) 1 v' g').bind fun q9 => (some (some (zv_i q9.1), q9.2) : zv_O)) from rfl, za_giv gL'] at qC2
      rw [qL9_child_46, if_neg (by omega)] at qR
      exact ⟨_, _, _, lC8_child (zl_ob gL l1) qC2, lC9_child (zm_ob hM) qR⟩
  · have lr := zt_r_l (zt_U_la U) hs1.1
    have ch := zt_S_ch (zt_U_st U s hs1)
    have n4 := za_nch48 (zv_I k1 348) s
    have ec : C0_childOf (d + 27) a (zt_r a s) n g = some (0, g) := lC0_childOf (zl_ob gL (zt_U_la U)) (by
      rw [qE0_childOf, if_neg n0, zm_e (zl_gI gL lr 11), ch, if_neg (by omega)])
    rw [zm_e ec] at qC
    dsimp only at qC
    rw [if_pos rfl, za_ref gL] at qC
    rw [if_neg n48, qL9_child_46, if_pos (by decide), za_rf M1] at qR
    exact ⟨_, _, _, lC8_child (zl_ob gL l1) qC, lC9_child (zm_ob hM) qR⟩
end
