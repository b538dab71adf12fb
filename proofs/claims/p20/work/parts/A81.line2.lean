/-! ===== the tie: a LINE is read ===== -/
section
variable {T : Nat → Int} {n : Nat} {g k : zv_H} {f t E : Nat}
/-- behind the first number -/
def zt_lh (T : Nat → Int) (n : Nat) (D : Nat) (j : Int) (g : zv_H) (k : zv_H) (f : Nat) (o : zv_O) (g' : zv_H) (k' : zv_H) (f' : Nat) (E' : Nat) : Prop := (o = zt_dox D j k') ∧ (zt_gd T n g' k' f' 3 E') ∧ (T f' = 59) ∧ (f ≤ f') ∧ (zm_F [360] [19, 30, 31, 32, 33, 34, 35, 38, 43] k k') ∧ (zm_RI k') ∧ (j = 0 ∨ j = 6 → ∃ m : Nat, zt_wd 7 m (zv_I k' 360) g' ∧ zv_I k' 347 19 = m ∧ 1 ≤ m ∧ m ≤ (if j = 0 then 12 else 6) ∧ zt_lw m (zv_I k' 360)) ∧ (j = 1 → zv_I g' 5 12 = zv_I k' 347 43 ∧ 0 ≤ zv_I k' 347 43 ∧ zv_I k' 347 43 ≤ 999)
theorem zt_lh_o {T : Nat → Int} {n : Nat} {D : Nat} {j : Int} {g : zv_H} {k : zv_H} {f : Nat} {o : zv_O} {g' : zv_H} {k' : zv_H} {f' : Nat} {E' : Nat} (t : zt_lh T n D j g k f o g' k' f' E') : o = zt_dox D j k' := t.1
theorem zt_lh_G {T : Nat → Int} {n : Nat} {D : Nat} {j : Int} {g : zv_H} {k : zv_H} {f : Nat} {o : zv_O} {g' : zv_H} {k' : zv_H} {f' : Nat} {E' : Nat} (t : zt_lh T n D j g k f o g' k' f' E') : zt_gd T n g' k' f' 3 E' := t.2.1
theorem zt_lh_s {T : Nat → Int} {n : Nat} {D : Nat} {j : Int} {g : zv_H} {k : zv_H} {f : Nat} {o : zv_O} {g' : zv_H} {k' : zv_H} {f' : Nat} {E' : Nat} (t : zt_lh T n D j g k f o g' k' f' E') : T f' = 59 := t.2.2.1
theorem zt_lh_p {T : Nat → Int} {n : Nat} {D : Nat} {j : Int} {g : zv_H} {k : zv_H} {f : Nat} {o : zv_O} {g' : zv_H} {k' : zv_H} {f' : Nat} {E' : Nat} (t : zt_lh T n D j g k f o g' k' f' E') : f ≤ f' := t.2.2.2.1
theorem zt_lh_F {T : Nat → Int} {n : Nat} {D : Nat} {j : Int} {g : zv_H} {k : zv_H} {f : Nat} {o : zv_O} {g' : zv_H} {k' : zv_H} {f' : Nat} {E' : Nat} (t : zt_lh T n D j g k f o g' k' f' E') : zm_F [360] [19, 30, 31, 32, 33, 34, 35, 38, 43] k k' := t.2.2.2.2.1
theorem zt_lh_R {T : Nat → Int} {n : Nat} {D : Nat} {j : Int} {g : zv_H} {k : zv_H} {f : Nat} {o : zv_O} {g' : zv_H} {k' : zv_H} {f' : Nat} {E' : Nat} (t : zt_lh T n D j g k f o g' k' f' E') : zm_RI k' := t.2.2.2.2.2.1
theorem zt_lh_w {T : Nat → Int} {n : Nat} {D : Nat} {j : Int} {g : zv_H} {k : zv_H} {f : Nat} {o : zv_O} {g' : zv_H} {k' : zv_H} {f' : Nat} {E' : Nat} (t : zt_lh T n D j g k f o g' k' f' E') : j = 0 ∨ j = 6 → ∃ m : Nat, zt_wd 7 m (zv_I k' 360) g' ∧ zv_I k' 347 19 = m ∧ 1 ≤ m ∧ m ≤ (if j = 0 then 12 else 6) ∧ zt_lw m (zv_I k' 360) := t.2.2.2.2.2.2.1
theorem zt_lh_n2 {T : Nat → Int} {n : Nat} {D : Nat} {j : Int} {g : zv_H} {k : zv_H} {f : Nat} {o : zv_O} {g' : zv_H} {k' : zv_H} {f' : Nat} {E' : Nat} (t : zt_lh T n D j g k f o g' k' f' E') : j = 1 → zv_I g' 5 12 = zv_I k' 347 43 ∧ 0 ≤ zv_I k' 347 43 ∧ zv_I k' 347 43 ≤ 999 := t.2.2.2.2.2.2.2
theorem zt_w5_10 {g g' : zv_H} (w : zt_w5 g g') {i : Nat} (hi : 10 ≤ i) : zv_I g' 5 i = zv_I g 5 i := w.2.2 5 i (fun q => by omega) (fun q => absurd q.1 (by decide)) (by decide)
theorem zt_lh_g {D : Nat} {j : Int} {o : zv_O} {g' k' : zv_H} {f' E' : Nat} (hj : j ≠ 1) (h : zt_lg T n D j g k f o g' k' f' E') : zt_lh T n D j g k f o g' k' f' E' := ⟨zt_lg_o h, zt_lg_G h, zt_lg_s h, zt_lg_p h, zm_F_s (zt_lg_F h) rfl rfl, zt_lg_R h, zt_lg_w h, fun q => absurd q hj⟩
theorem zj_l85 {d D : Nat} (G : zt_gd T n g k f t E) (R : zm_RI k) {j : Int} (hj : zv_I g 5 10 = j) : ∃ (v : Int) (g' : zv_H), L3_line_85 (d + 6) 5 1 g = some (some (zv_i v), g') ∧ zt_ln5 g g' ∧ (zv_I g' 5 10 = j ∧ zv_I g' 5 11 = zv_I g 5 11) ∧ ((v = 1 ∧ ∃ k' f' E', zt_lh T n D j g k f (L9_readsLine_69 (D + 10) 347 j k) g' k' f' E') ∨ (v = 0 ∧ ∃ k', zt_lb T n g' k (L9_readsLine_69 (D + 10) 347 j k) k')) := by
  have gL := zt_tx_L (zt_gd_X G)
  have hM := zt_ty_M (zt_gd_Y G)
  by_cases c1 : j = 1
  · obtain ⟨v, g1, k1, x, a1, a2, a3, a4, a5, a6⟩ := zj_num (d := d + 4) (D := D + 4) (fld := 12) (Or.inr rfl) G R
    have gL1 := zt_L_12 gL a3.1 a3.2.1
    have hM1 := zm_F_M a4 hM
    have k10 : zv_I g1 5 10 = j := (a3.2.2 5 10 (fun q => by omega)).trans hj
    have k11 : zv_I g1 5 11 = zv_I g 5 11 := a3.2.2 5 11 (fun q => by omega)
    have F2 : zm_F [] [43] k1 (zv_sI k1 347 43 x) := zm_F_f (zm_F_r _ _ k1) rfl _
    have x43 : zv_I (zv_sI k1 347 43 x) 347 43 = x := zy_I _ _ _ _
    have F12 : zm_F [360] [19, 30, 31, 32, 33, 34, 35, 38, 43] k (zv_sI k1 347 43 x) := zm_F_t (zm_F_s a4 rfl rfl) (zm_F_s F2 rfl rfl)
    have e85 : L3_line_85 (d + 6) 5 1 g = L3_line_126 (d + 6) 5 v g1 := by
      rw [qL3_line_85, if_neg (by decide), zm_e (zl_gI gL zt_lay5 10), hj, if_pos c1]
      refine (a1 (fun x h => L3_line_125 (d + 6) 5 x h)).trans ?_
      rw [qL3_line_125]
    have e69 : L9_readsLine_69 (D + 10) 347 j k = L9_readsLine_82 (D + 10) 347 j (zv_sI k1 347 43 x) := by
      rw [qL9_readsLine_69, if_pos c1, zm_e a2]
      dsimp only
      rw [zm_e (zm_pI hM1 43 _)]
    have R2 := zm_RI_F a5 F2
    have hM2 := zm_F_M F2 hM1
    rw [e85, e69]
    rcases a6 with ⟨v1, xv, x9, f1, t1, E1, G1, l1⟩ | ⟨v0, B1⟩
    · have G2 : zt_gd T n g1 (zv_sI k1 347 43 x) f1 t1 E1 := zt_gd_x G1 rfl rfl (fun _ _ => rfl) (fun _ => rfl) F2
      generalize zv_sI k1 347 43 x = k2 at F2 x43 F12 R2 hM2 G2
      obtain ⟨v2, g2, y1, y2, y3⟩ := zj_ltail (d := d) (D := D) G2 R2 k10
      rw [v1]
      refine ⟨v2, g2, y1, zt_ln5_t (zt_ln5_l (by decide) a3) (zt_ln5_w y2), ⟨(zt_w5_10 y2 (by decide)).trans k10, (zt_w5_10 y2 (by decide)).trans k11⟩, ?_⟩
      rcases y3 with ⟨z1, k3, f3, E3, h⟩ | ⟨z1, k3, h⟩
      · refine Or.inl ⟨z1, k3, f3, E3, zt_lg_o h, zt_lg_G h, zt_lg_s h, ?_, zm_F_t F12 (zm_F_s (zt_lg_F h) rfl rfl), zt_lg_R h, zt_lg_w h, fun _ => ?_⟩
        · have q1 := zt_lg_p h
          have q2 := (zt_tkn_f l1).1
          have q3 := (zt_gd_f G).1
          omega
        · rw [zt_w5_10 y2 (by decide), zm_F_g (zt_lg_F h) 43, x43, ← xv]
          exact ⟨rfl, x9⟩
      · exact Or.inr ⟨z1, k3, zt_lb_t (zm_F_s F12 rfl rfl) rfl h⟩
    · have B2 : zt_bd T n g1 (zv_sI k1 347 43 x) := zt_bd_x B1 rfl rfl (fun _ _ => rfl) (fun _ => rfl) F2
      obtain ⟨k', h⟩ := zt_b82 (D := D) B2 R2 j
      rw [v0]
      exact ⟨0, g1, zt_c126 g1, zt_ln5_l (by decide) a3, ⟨k10, k11⟩, Or.inr ⟨rfl, k', zt_lb_t (zm_F_s F12 rfl rfl) rfl h⟩⟩
  · have e85 : L3_line_85 (d + 6) 5 1 g = L3_line_126 (d + 6) 5 1 g := by
      rw [qL3_line_85, if_neg (by decide), zm_e (zl_gI gL zt_lay5 10), hj, if_neg c1]
    have e69 : L9_readsLine_69 (D + 10) 347 j k = L9_readsLine_82 (D + 10) 347 j k := by
      rw [qL9_readsLine_69, if_neg c1]
    rw [e85, e69]
    obtain ⟨v2, g2, y1, y2, y3⟩ := zj_ltail (d := d) (D := D) G R hj
    refine ⟨v2, g2, y1, zt_ln5_w y2, ⟨(zt_w5_10 y2 (by decide)).trans hj, zt_w5_10 y2 (by decide)⟩, ?_⟩
    rcases y3 with ⟨z1, k3, f3, E3, h⟩ | ⟨z1, k3, h⟩
    · exact Or.inl ⟨z1, k3, f3, E3, zt_lh_g c1 h⟩
    · exact Or.inr ⟨z1, k3, h⟩
/-- a LINE, up to its ; -/
def zt_ll (T : Nat → Int) (n : Nat) (D : Nat) (j : Nat) (k : zv_H) (f : Nat) (o : zv_O) (g' : zv_H) (k' : zv_H) (f' : Nat) (E' : Nat) : Prop := (j < 12) ∧ (o = zt_dox D j k') ∧ (zt_gd T n g' k' f' 3 E') ∧ (T f' = 59) ∧ (f < f') ∧ (zm_F [360] [19, 30, 31, 32, 33, 34, 35, 38, 42, 43] k k') ∧ (zm_RI k') ∧ ((j : Int) = 0 ∨ (j : Int) = 6 → ∃ m : Nat, zt_wd 7 m (zv_I k' 360) g' ∧ zv_I k' 347 19 = m ∧ 1 ≤ m ∧ m ≤ (if (j : Int) = 0 then 12 else 6) ∧ zt_lw m (zv_I k' 360)) ∧ ((j : Int) = 1 → zv_I g' 5 12 = zv_I k' 347 43 ∧ 0 ≤ zv_I k' 347 43 ∧ zv_I k' 347 43 ≤ 999) ∧ (zv_I g' 5 10 = j) ∧ (¬ ((j : Int) = 3 ∨ (j : Int) = 4 ∨ (j : Int) = 6) → zv_I g' 5 11 = zv_I k' 347 42) ∧ (0 ≤ zv_I k' 347 42 ∧ zv_I k' 347 42 ≤ 999)
theorem zt_ll_j {T : Nat → Int} {n : Nat} {D : Nat} {j : Nat} {k : zv_H} {f : Nat} {o : zv_O} {g' : zv_H} {k' : zv_H} {f' : Nat} {E' : Nat} (t : zt_ll T n D j k f o g' k' f' E') : j < 12 := t.1
theorem zt_ll_o {T : Nat → Int} {n : Nat} {D : Nat} {j : Nat} {k : zv_H} {f : Nat} {o : zv_O} {g' : zv_H} {k' : zv_H} {f' : Nat} {E' : Nat} (t : zt_ll T n D j k f o g' k' f' E') : o = zt_dox D j k' := t.2.1
theorem zt_ll_G {T : Nat → Int} {n : Nat} {D : Nat} {j : Nat} {k : zv_H} {f : Nat} {o : zv_O} {g' : zv_H} {k' : zv_H} {f' : Nat} {E' : Nat} (t : zt_ll T n D j k f o g' k' f' E') : zt_gd T n g' k' f' 3 E' := t.2.2.1
theorem zt_ll_s {T : Nat → Int} {n : Nat} {D : Nat} {j : Nat} {k : zv_H} {f : Nat} {o : zv_O} {g' : zv_H} {k' : zv_H} {f' : Nat} {E' : Nat} (t : zt_ll T n D j k f o g' k' f' E') : T f' = 59 := t.2.2.2.1
theorem zt_ll_p {T : Nat → Int} {n : Nat} {D : Nat} {j : Nat} {k : zv_H} {f : Nat} {o : zv_O} {g' : zv_H} {k' : zv_H} {f' : Nat} {E' : Nat} (t : zt_ll T n D j k f o g' k' f' E') : f < f' := t.2.2.2.2.1
theorem zt_ll_F {T : Nat → Int} {n : Nat} {D : Nat} {j : Nat} {k : zv_H} {f : Nat} {o : zv_O} {g' : zv_H} {k' : zv_H} {f' : Nat} {E' : Nat} (t : zt_ll T n D j k f o g' k' f' E') : zm_F [360] [19, 30, 31, 32, 33, 34, 35, 38, 42, 43] k k' := t.2.2.2.2.2.1
theorem zt_ll_R {T : Nat → Int} {n : Nat} {D : Nat} {j : Nat} {k : zv_H} {f : Nat} {o : zv_O} {g' : zv_H} {k' : zv_H} {f' : Nat} {E' : Nat} (t : zt_ll T n D j k f o g' k' f' E') : zm_RI k' := t.2.2.2.2.2.2.1
theorem zt_ll_w {T : Nat → Int} {n : Nat} {D : Nat} {j : Nat} {k : zv_H} {f : Nat} {o : zv_O} {g' : zv_H} {k' : zv_H} {f' : Nat} {E' : Nat} (t : zt_ll T n D j k f o g' k' f' E') : (j : Int) = 0 ∨ (j : Int) = 6 → ∃ m : Nat, zt_wd 7 m (zv_I k' 360) g' ∧ zv_I k' 347 19 = m ∧ 1 ≤ m ∧ m ≤ (if (j : Int) = 0 then 12 else 6) ∧ zt_lw m (zv_I k' 360) := t.2.2.2.2.2.2.2.1
theorem zt_ll_n2 {T : Nat → Int} {n : Nat} {D : Nat} {j : Nat} {k : zv_H} {f : Nat} {o : zv_O} {g' : zv_H} {k' : zv_H} {f' : Nat} {E' : Nat} (t : zt_ll T n D j k f o g' k' f' E') : (j : Int) = 1 → zv_I g' 5 12 = zv_I k' 347 43 ∧ 0 ≤ zv_I k' 347 43 ∧ zv_I k' 347 43 ≤ 999 := t.2.2.2.2.2.2.2.2.1
theorem zt_ll_v {T : Nat → Int} {n : Nat} {D : Nat} {j : Nat} {k : zv_H} {f : Nat} {o : zv_O} {g' : zv_H} {k' : zv_H} {f' : Nat} {E' : Nat} (t : zt_ll T n D j k f o g' k' f' E') : zv_I g' 5 10 = j := t.2.2.2.2.2.2.2.2.2.1
theorem zt_ll_n1 {T : Nat → Int} {n : Nat} {D : Nat} {j : Nat} {k : zv_H} {f : Nat} {o : zv_O} {g' : zv_H} {k' : zv_H} {f' : Nat} {E' : Nat} (t : zt_ll T n D j k f o g' k' f' E') : ¬ ((j : Int) = 3 ∨ (j : Int) = 4 ∨ (j : Int) = 6) → zv_I g' 5 11 = zv_I k' 347 42 := t.2.2.2.2.2.2.2.2.2.2.1
theorem zt_ll_r1 {T : Nat → Int} {n : Nat} {D : Nat} {j : Nat} {k : zv_H} {f : Nat} {o : zv_O} {g' : zv_H} {k' : zv_H} {f' : Nat} {E' : Nat} (t : zt_ll T n D j k f o g' k' f' E') : 0 ≤ zv_I k' 347 42 ∧ zv_I k' 347 42 ≤ 999 := t.2.2.2.2.2.2.2.2.2.2.2
theorem zj_line {d D : Nat} (G : zt_gd T n g k f t E) (K : zm_K k) (R : zm_RI k) (t0 : t ≠ 0) : ∃ (v : Int) (g' : zv_H), C3_line (d + 7) 5 g = some (v, g') ∧ zt_ln5 g g' ∧ ((v = 1 ∧ ∃ (j : Nat) (k' : zv_H) (f' E' : Nat), zt_ll T n D j k f (E9_readsLine (D + 10) 347 k) g' k' f' E') ∨ (v = 0 ∧ ∃ k', zt_lb T n g' k (E9_readsLine (D + 10) 347 k) k')) := by
  have gL := zt_tx_L (zt_gd_X G)
  have hM := zt_ty_M (zt_gd_Y G)
  obtain ⟨v, ev, er, q⟩ := zt_verb (d := d + 1) (D := D + 9) G K
  have w1 : zt_l5 10 g (zv_sI g 5 10 v) := ⟨rfl, rfl, fun r i q => zy_In _ _ (fun z => q ⟨z.1, Or.inr z.2⟩)⟩
  have G1 : zt_gd T n (zv_sI g 5 10 v) k f t E := zt_gd_x G rfl rfl (fun j hj => zy_In _ _ (fun z => by omega)) (fun j => zy_In _ _ (fun z => by omega)) (zm_F_r [] [] k)
  have v10 : zv_I (zv_sI g 5 10 v) 5 10 = v := zy_I _ _ _ _
  have fin : ∀ {v' : Int} {g' : zv_H}, E3_line (d + 6) 5 g = some (some (zv_i v'), g') → C3_line (d + 7) 5 g = some (v', g') := fun {v' g'} h => lC3_line (zl_ob gL zt_lay5) h
  have qC := qE3_line (d + 6) 5 g
  rw [zm_e ev] at qC
  dsimp only at qC
  rw [zm_e (zl_pI gL zt_lay5 10 v), zm_e (zl_gI (g := zv_sI g 5 10 v) gL zt_lay5 10), v10] at qC
  have qR := qE9_readsLine (D + 10) 347 k
  rw [zm_e (zm_f39 hM), zm_e er] at qR
  dsimp only at qR
  generalize zv_sI g 5 10 v = g1 at w1 G1 v10 qC
  have gL1 := zt_tx_L (zt_gd_X G1)
  have J1 : zt_ln5 g g1 := zt_ln5_l (by decide) w1
  rcases q with q | ⟨j, q1, q2, q3⟩
  · -- no verb
    have bd := zj_fail G1 (w := 2) (by decide)
    have e4 : ¬ ((2 : Int) = 2 ∧ zv_I k 347 34 = 4) := fun q => zt_gd_t4 G (Int.ofNat.inj ((zt_gd_r G).2.1.symm.trans q.2))
    have p30 : zv_I (zt_ms 0 2 k) 347 30 = 2 := by
      rw [zt_ms_0 (zt_gd_f2 G), if_neg e4, zy_In _ _ (fun q => absurd q.2 (by decide)), zy_I]
    have hM2 := zm_F_M (zt_ms_F 0 2 k) hM
    rw [if_pos q, zm_e (zt_fail (d := d + 5) gL1 2)] at qC
    dsimp only at qC
    rw [if_pos (Or.inl rfl)] at qC
    rw [if_pos (by rw [q]; decide), qL9_readsLine_19, zm_e (zt_must hM 0 2), zm_e (zm_gI hM2 30), p30, if_neg (by decide)] at qR
    exact ⟨0, _, fin qC, zt_ln5_t J1 (zt_ln5_rf (zt_rf_fail g1 2)), Or.inr ⟨rfl, zt_ms 0 2 k, qR, zm_F_s (zt_ms_F 0 2 k) rfl rfl, bd, by rw [p30]; decide⟩⟩
  have t1 : t = 1 := q3.1
  obtain ⟨v1, g2, k2, n1, r1, f1, F1, R1, o1⟩ := zj_nx3 (d := d + 4) (D := D + 5) G1 R t0
  have hM2 := zm_F_M F1 hM
  have gL2 := zt_L_12 gL1 f1.1 f1.2.1
  have J2 : zt_ln5 g g2 := zt_ln5_t J1 (zt_ln5_rf f1)
  have k10 : zv_I g2 5 10 = j := by rw [f1.2.2 5 10 (fun q => absurd q.2.2 (by decide)), v10, q1]
  rw [q1] at qC qR v10
  rw [if_neg (by omega), zm_e n1] at qC
  dsimp only at qC
  have F2 : zm_F [] [42, 43] k2 (zv_sI (zv_sI k2 347 42 0) 347 43 0) := zm_F_f (zm_F_f (zm_F_r _ _ k2) rfl _) rfl _
  have z42 : zv_I (zv_sI (zv_sI k2 347 42 0) 347 43 0) 347 42 = 0 := by rw [zy_In _ _ (fun q => absurd q.2 (by decide)), zy_I]
  rw [if_neg (by omega), qL9_readsLine_19, zm_e (zt_must hM 1 2), zt_ms_1 (by decide), zm_e (zm_gI hM 30), zt_gd_f2 G, if_pos (by decide), zm_e r1, zm_e (zm_pI hM2 42 _), zm_e (zm_pI (h := zv_sI k2 347 42 0) hM2 43 _)] at qR
  generalize zv_sI (zv_sI k2 347 42 0) 347 43 0 = k3 at F2 z42 qR
  have F13 : zm_F [360] [19, 30, 31, 32, 33, 34, 35, 38, 42, 43] k k3 := zm_F_t (zm_F_s F1 rfl rfl) (zm_F_s F2 rfl rfl)
  have hM3 := zm_F_M F2 hM2
  have R3 := zm_RI_F R1 F2
  have fE := (zt_gd_f G).2.2.2 t0
  have qR' : E9_readsLine (D + 10) 347 k = if (j : Int) = 3 ∨ (j : Int) = 4 ∨ (j : Int) = 6 then L9_readsLine_69 (D + 10) 347 j k3 else L9_readsLine_61 (D + 10) 347 j k3 := by
    rw [qR]
    by_cases c : (j : Int) = 3 ∨ (j : Int) = 4 ∨ (j : Int) = 6
    · rw [if_pos c, if_neg (by omega), if_neg (by omega), if_pos (by omega)]
    · rw [if_neg c]
      by_cases c1 : (j : Int) < 3
      · rw [if_pos c1]
      · rw [if_neg c1]
        by_cases c2 : (j : Int) = 5
        · rw [if_pos c2]
        · rw [if_neg c2, if_neg (by omega)]
  rcases o1 with ⟨w1', f1', t1', E1', G2, l1⟩ | ⟨w1', B2⟩
  rotate_left
  · -- no TOKEN behind it
    have B3 : zt_bd T n g2 k3 := zt_bd_x B2 rfl rfl (fun _ _ => rfl) (fun _ => rfl) F2
    rw [if_pos w1', w1', zt_c85] at qC
    refine ⟨0, g2, fin qC, J2, Or.inr ⟨rfl, ?_⟩⟩
    by_cases c : (j : Int) = 3 ∨ (j : Int) = 4 ∨ (j : Int) = 6
    · obtain ⟨k', h⟩ := zt_b69 (D := D) B3 R3 j
      exact ⟨k', zt_lb_t F13 (qR'.trans (if_pos c)) h⟩
    · obtain ⟨k', h⟩ := zt_b61 (D := D) B3 R3 j
      exact ⟨k', zt_lb_t F13 (qR'.trans (if_neg c)) h⟩
  have G3 : zt_gd T n g2 k3 f1' t1' E1' := zt_gd_x G2 rfl rfl (fun _ _ => rfl) (fun _ => rfl) F2
  have ff : f < f1' := Nat.lt_of_lt_of_le fE.1 (zt_tkn_f l1).1
  rw [if_neg (by omega)] at qC
  by_cases c : (j : Int) = 3 ∨ (j : Int) = 4 ∨ (j : Int) = 6
  · rw [if_pos c] at qR'
    have qC' : E3_line (d + 6) 5 g = L3_line_85 (d + 6) 5 1 g2 := by
      rw [qC, zm_e (zl_gI gL2 zt_lay5 10), k10, w1']
      by_cases c3 : (j : Int) = 3
      · rw [if_pos c3]
      · rw [if_neg c3, zm_e (zl_gI gL2 zt_lay5 10), k10]
        by_cases c4 : (j : Int) = 4
        · rw [if_pos c4]
        · rw [if_neg c4, zm_e (zl_gI gL2 zt_lay5 10), k10, if_pos (by omega)]
    obtain ⟨v2, g4, y1, y2, y3, y4⟩ := zj_l85 (d := d) (D := D) G3 R3 k10
    refine ⟨v2, g4, fin (qC'.trans y1), zt_ln5_t J2 y2, ?_⟩
    rcases y4 with ⟨z1, k', f', E', h⟩ | ⟨z1, k', h⟩
    · refine Or.inl ⟨z1, j, k', f', E', q2, qR'.trans (zt_lh_o h), zt_lh_G h, zt_lh_s h, Nat.lt_of_lt_of_le ff (zt_lh_p h), zm_F_t F13 (zm_F_s (zt_lh_F h) rfl rfl), zt_lh_R h, zt_lh_w h, zt_lh_n2 h, y3.1, fun z => absurd c z, ?_⟩
      rw [zm_F_g (zt_lh_F h) 42, z42]
      decide
    · exact Or.inr ⟨z1, k', zt_lb_t F13 qR' h⟩
  · rw [if_neg c] at qR'
    rw [zm_e (zl_gI gL2 zt_lay5 10), k10, if_neg (fun z => c (Or.inl z)), zm_e (zl_gI gL2 zt_lay5 10), k10, if_neg (fun z => c (Or.inr (Or.inl z))), zm_e (zl_gI gL2 zt_lay5 10), k10, if_neg (fun z => c (Or.inr (Or.inr z)))] at qC
    obtain ⟨v2, g3, k4, x, a1, a2, a3, a4, a5, a6⟩ := zj_num (d := d + 4) (D := D + 4) (fld := 11) (Or.inl rfl) G3 R3
    have qC' : E3_line (d + 6) 5 g = L3_line_85 (d + 6) 5 v2 g3 := by
      rw [qC]
      refine (a1 (fun x h => L3_line_84 (d + 6) 5 x h)).trans ?_
      rw [qL3_line_84]
    have hM4 := zm_F_M a4 hM3
    have F5 : zm_F [] [42] k4 (zv_sI k4 347 42 x) := zm_F_f (zm_F_r _ _ k4) rfl _
    have x42 : zv_I (zv_sI k4 347 42 x) 347 42 = x := zy_I _ _ _ _
    have qR2 : E9_readsLine (D + 10) 347 k = L9_readsLine_69 (D + 10) 347 j (zv_sI k4 347 42 x) := by
      rw [qR', qL9_readsLine_61, zm_e a2]
      dsimp only
      rw [zm_e (zm_pI hM4 42 _)]
    have F15 : zm_F [360] [19, 30, 31, 32, 33, 34, 35, 38, 42, 43] k (zv_sI k4 347 42 x) := zm_F_t F13 (zm_F_t (zm_F_s a4 rfl rfl) (zm_F_s F5 rfl rfl))
    have R5 := zm_RI_F a5 F5
    have k10' : zv_I g3 5 10 = j := (a3.2.2 5 10 (fun q => by omega)).trans k10
    have J3 : zt_ln5 g g3 := zt_ln5_t J2 (zt_ln5_l (by decide) a3)
    rcases a6 with ⟨v1', xv, x9, f2, t2, E2, G4, l2⟩ | ⟨v0, B4⟩
    · have G5 : zt_gd T n g3 (zv_sI k4 347 42 x) f2 t2 E2 := zt_gd_x G4 rfl rfl (fun _ _ => rfl) (fun _ => rfl) F5
      generalize zv_sI k4 347 42 x = k5 at F5 x42 qR2 F15 R5 G5
      obtain ⟨v3, g4, y1, y2, y3, y4⟩ := zj_l85 (d := d) (D := D) G5 R5 k10'
      rw [v1'] at qC'
      refine ⟨v3, g4, fin (qC'.trans y1), zt_ln5_t J3 y2, ?_⟩
      rcases y4 with ⟨z1, k', f', E', h⟩ | ⟨z1, k', h⟩
      · have e42 : zv_I k' 347 42 = x := by rw [zm_F_g (zt_lh_F h) 42, x42]
        refine Or.inl ⟨z1, j, k', f', E', q2, qR2.trans (zt_lh_o h), zt_lh_G h, zt_lh_s h, ?_, zm_F_t F15 (zm_F_s (zt_lh_F h) rfl rfl), zt_lh_R h, zt_lh_w h, zt_lh_n2 h, y3.1, fun _ => ?_, by rw [e42]; exact x9⟩
        · have q1 := zt_lh_p h
          have q2 := (zt_tkn_f l2).1
          have q3 := (zt_gd_f G3).1
          omega
        · rw [e42, xv]
          exact y3.2
      · exact Or.inr ⟨z1, k', zt_lb_t F15 qR2 h⟩
    · have B5 : zt_bd T n g3 (zv_sI k4 347 42 x) := zt_bd_x B4 rfl rfl (fun _ _ => rfl) (fun _ => rfl) F5
      obtain ⟨k', h⟩ := zt_b69 (D := D) B5 R5 j
      rw [v0, zt_c85] at qC'
      exact ⟨0, g3, fin qC', J3, Or.inr ⟨rfl, k', zt_lb_t F15 qR2 h⟩⟩
end
