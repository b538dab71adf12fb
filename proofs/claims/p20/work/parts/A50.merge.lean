/-! ===== the tie: merging ===== -/
/-- beside zt_Z: what a merge on paper asks -/
def zt_mg (a : Nat) (c : Nat → Int) (g : zv_H) (q : Int × zv_H) (q' : Int × zv_H) : Prop := (∀ n j : Nat, (n = 20 ∨ n = 21 ∨ (n = 17 ∧ j = 5)) → zv_I q.2 (a + n) j = zv_I g (a + n) j) ∧ (q.1 < 0 → q.2 = g) ∧ (0 ≤ q.1 → zv_I q.2 a 13 = zv_I q'.2 347 24 ∧ zt_cn c q.1.toNat (zv_I q'.2 348) ∧ q.1 ≤ 48 ∧ 0 ≤ zv_I q'.2 347 24)
theorem zt_mg_kp {a : Nat} {c : Nat → Int} {g : zv_H} {q : Int × zv_H} {q' : Int × zv_H} (t : zt_mg a c g q q') : ∀ n j : Nat, (n = 20 ∨ n = 21 ∨ (n = 17 ∧ j = 5)) → zv_I q.2 (a + n) j = zv_I g (a + n) j := t.1
theorem zt_mg_no {a : Nat} {c : Nat → Int} {g : zv_H} {q : Int × zv_H} {q' : Int × zv_H} (t : zt_mg a c g q q') : q.1 < 0 → q.2 = g := t.2.1
theorem zt_mg_so {a : Nat} {c : Nat → Int} {g : zv_H} {q : Int × zv_H} {q' : Int × zv_H} (t : zt_mg a c g q q') : 0 ≤ q.1 → zv_I q.2 a 13 = zv_I q'.2 347 24 ∧ zt_cn c q.1.toNat (zv_I q'.2 348) ∧ q.1 ≤ 48 ∧ 0 ≤ zv_I q'.2 347 24 := t.2.2
theorem zt_mg_rf {a : Nat} {c : Nat → Int} {g : zv_H} {v : Int} (hv : v < 0) (q' : Int × zv_H) : zt_mg a c g (v, g) q' := ⟨fun _ _ _ => rfl, fun _ => rfl, fun h => absurd hv (Int.not_lt.mpr h)⟩
theorem zt_u9w {u : Int} (h : u < 1999999000) : u + 48 < 2000000000 := by omega
theorem zj_merge {d D : Nat} {a : Nat} {c : Nat → Int} {g k : zv_H} (hA : zc_A g) (H : zt_H a c g) (hM : zm_M k) (hc : zv_I k 348 = c) (b : c 2 < 1999999000) {s : Int} (rs : zv_rg s) : ∃ q q', C0_mergeIn (d + 6) a s g = some q ∧ C9_mergeNow (D + 9) 347 s k = some q' ∧ zt_Z a 48 g k q q' ∧ zt_mg a c g q q' := by
  have U := zt_H_U H
  have W := zt_U_W U
  have la := zt_U_la U
  have gL := zt_L_A hA
  have hh := W.2.1
  have ea := zt_at (d := d + 4) gL U s
  have ei := zm_isState hM (D + 6) s
  rw [hc] at ei
  by_cases hs : zm_st c s
  · rw [if_pos hs] at ea ei
    obtain ⟨lh, hlh, okh, _⟩ := zt_line W hh
    obtain ⟨l, hl, ok, g0, gt, W1⟩ := zt_line W hs
    have eo := zt_onLine (d := d + 4) gL U hs hh hlh
    have io := zm_isOfLine hM (D + 6) s (l := c 0 :: lh) (s := c 0) (by rw [hc]; exact hlh)
    by_cases hi : s ∈ c 0 :: lh
    · rw [if_pos hi] at eo io
      refine ⟨(-4, g), (-1, zv_sI k 347 3 4), lC0_mergeIn (zl_ob gL la) ?_, lC9_mergeNow (zm_ob hM) ?_, zt_Z_rf (by decide) hA H hc (by decide) 4, zt_mg_rf (by decide) _⟩
      · rw [qE0_mergeIn, zm_e ea]
        dsimp only
        rw [if_neg (zt_r0 U hs), zm_e (zl_gR gL la 10), zt_U_he U, zm_e eo]
        dsimp only
        rw [if_neg (by decide)]
      · rw [qE9_mergeNow, zm_e ei]
        dsimp only
        rw [if_neg (by decide), zm_e (zm_here hM _), hc]
        dsimp only
        rw [zm_e io]
        dsimp only
        rw [if_neg (by decide), zm_e (zm_refuse hM _ 4)]
    · rw [if_neg hi] at eo io
      have s48 := zm_st48 hs
      -- the class walks
      obtain ⟨g1, e1, gL1, Q1, wk1⟩ := zt_walk (d := d + 3) gL U hh hlh
      have hA1 : zc_A g1 := by
        obtain ⟨q, e, w⟩ := zc_C4_walk (d := d + 3) hA (zt_row_l la).1 (zt_U_V U hh)
        rw [e1] at e
        cases e
        exact w.2
      have U1 := zt_U_q U Q1
      obtain ⟨g2, e2, gL2, Q2, wk2⟩ := zt_walk (d := d + 3) gL1 U1 hs hl
      have hA2 : zc_A g2 := by
        obtain ⟨q, e, w⟩ := zc_C4_walk (d := d + 3) hA1 (zt_row_l la).1 (zt_U_V U1 hs)
        rw [e2] at e
        cases e
        exact w.2
      obtain ⟨g3, e3, f3, o3, w3⟩ := zt_stand (d := d + 4) la gL2
      have hA3 : zc_A g3 := by
        obtain ⟨q, e, w⟩ := zc_C0_standForThemselves (d := d + 4) hA2 la
        rw [e3] at e
        cases e
        exact w.2
      have gL3 := zt_L_A hA3
      have f4 : zt_hy a g2 (zv_sI g3 a 13 0) := zt_hy_sI f3 (Or.inl ⟨rfl, rfl⟩) _
      have hA4 : zc_A (zv_sI g3 a 13 0) := zt_A13 hA3 la (by unfold zv_rg; decide)
      have H4 : zt_H a c (zv_sI g3 a 13 0) := zt_H_y (zt_H_q (zt_H_q H Q1) Q2) f4
      have kk : zt_k a g (zv_sI g3 a 13 0) := zt_k_t (zt_q_k a (zt_q_t Q1 Q2)) (zt_hy_k la f4)
      have oq := zt_oh_q la (zt_q_t Q1 Q2)
      have kp : ∀ n j : Nat, (n = 20 ∨ n = 21 ∨ (n = 17 ∧ j = 5)) → zv_I (zv_sI g3 a 13 0) (a + n) j = zv_I g (a + n) j := fun n j z => (zy_In _ _ (fun w => zt_u7w z w)).trans ((o3 _ _ (fun w => zt_u8w z (Nat.add_left_cancel w))).trans (oq n j (Or.inr (Or.inr z))))
      have st4 : ∀ i : Nat, i < 48 → zv_I (zv_sI g3 a 13 0) (a + 6) i = i := fun i hi => (zy_In _ _ (fun w => absurd w.1 (by omega))).trans (w3 i hi)
      -- the reference looks
      obtain ⟨k1, es, Fs, Sn⟩ := zm_sees hM hc (D + 4) (s := s) hs.1.1 hl (Nat.le_succ_of_le ok.2.2.2) g0 gt
      have hM1 := zm_F_M Fs hM
      have c1 : zv_I k1 348 = c := (zm_F_a Fs 348).trans hc
      obtain ⟨k2, i2, F2, fl⟩ := zt_merge44 (D + 5) W hlh ok.2.2.1 ok.2.2.2 (s :: l).reverse [] rfl k1 hM1 c1 Sn.1.2 Sn.2.2.1 (fun j x hj => absurd hj (Nat.not_lt_zero _))
      have hM2 := zm_F_M F2 hM1
      have c2 : zv_I k2 348 = c := (zm_F_a F2 348).trans c1
      obtain ⟨k3, e5, F3, w5⟩ := zm_plain hM2 (D + 7)
      have hM3 := zm_F_M F3 hM2
      have F4 := zt_f24 hM3 0
      have hM4 := zm_F_M F4 hM3
      have c4 : zv_I (zv_sI k3 347 24 0) 348 = c := (zm_F_a F4 348).trans ((zm_F_a F3 348).trans c2)
      have n24 : zv_I (zv_sI k3 347 24 0) 347 24 = 0 := zy_I _ _ _ _
      have n13 : zv_I (zv_sI g3 a 13 0) a 13 = 0 := zy_I _ _ _ _
      have l48 := ok.2.2.2
      have bB : c 2 + (l.length : Int) ≤ c 2 + 48 := Int.add_le_add_left (Int.ofNat_le.mpr (Nat.le_of_succ_le l48)) _
      have b2 : c 2 + 48 < 2000000000 := zt_u9w b
      obtain ⟨v, g', k', y1, y2, ml⟩ := zj_mloop (d := d) (D := D) (B := c 2 + 48) W hs hl b2 (wd := zv_J g2 (a + 8) 9 &&& (zv_J g1 (a + 8) 8 ^^^ (-1 : Int64))) (fun x hx => zt_wf_b wk2.2.2.2 wk1.2.2.1 (ok.2.2.1 x hx).1 hx) l.length 1 0 c (zv_sI g3 a 13 0) (zv_sI k3 347 24 0) zt_id0 (Nat.add_comm 1 l.length) (Nat.le_refl 1) (Nat.lt_succ_self 0) hA4 H4 hM4 c4 (zm_ex_r c) (zt_sd_0 st4 (fun i hi => by rw [zm_F_a F4 362]; exact w5 i hi)) (fun j x hx => by rw [zm_F_a F4 363, zm_F_a F4 364, zm_F_a F3 363, zm_F_a F3 364]; exact fl j x hx) (by rw [n24]; decide) (by rw [n13, n24]) (Int.le_refl _) bB rfl rfl
      have z1 : C0_mergeIn (d + 6) a s g = some (v, g') := by
        refine lC0_mergeIn (zl_ob gL la) ?_
        rw [qE0_mergeIn, zm_e ea]
        dsimp only
        rw [if_neg (zt_r0 U hs), zm_e (zl_gR gL la 10), zt_U_he U, zm_e eo]
        dsimp only
        rw [if_pos rfl, zm_e (zl_gF gL la 5 8), zm_e (zl_gR gL la 10), zt_U_he U, zm_e e1, zm_e (zl_gF gL1 la 5 8), zm_e (zl_gJ gL1 (zt_row_l la).1 8), zm_e (zl_gF gL1 la 5 8), zm_e e2, zm_e (zl_gF gL2 la 5 8), zm_e (zl_gJ gL2 (zt_row_l la).1 9), zm_e e3, zm_e (zl_pI gL3 la 13 0)]
        exact y1
      have z2 : C9_mergeNow (D + 9) 347 s k = some (v, k') := by
        refine lC9_mergeNow (zm_ob hM) ?_
        rw [qE9_mergeNow, zm_e ei]
        dsimp only
        rw [if_neg (by decide), zm_e (zm_here hM _), hc]
        dsimp only
        rw [zm_e io]
        dsimp only
        rw [if_pos rfl, zm_e es, zm_e (zm_gI hM1 10), Sn.1.1, show L9_mergeNow_44 (D + 8) 347 _ 0 k1 = _ from i2, qL9_mergeNow_44, if_neg (Int.lt_irrefl _), zm_e e5, zm_e (zm_pI hM3 24 _)]
        exact y2
      obtain ⟨p, ep, X, _⟩ := zc_C0_mergeIn (d := d) hA la rs
      have ee : p = (v, g') := Option.some.inj (ep.symm.trans z1)
      rw [ee] at X
      obtain ⟨p', ep', Fm, _⟩ := zm_mergeNow hM hc W D s
      have ee' : p' = (v, k') := Option.some.inj (ep'.symm.trans z2)
      rw [ee'] at Fm
      have v0 := (zt_ml_v ml).1
      refine ⟨(v, g'), (v, k'), z1, z2, ⟨X.1, zt_k_t kk (zt_ml_k ml), zm_F_s Fm rfl rfl, Or.inr ⟨v0, rfl⟩, zt_ml_H ml, ?_, ?_⟩, fun n j z => (zt_ml_kp ml n j z).trans (kp n j z), fun h => absurd h (Int.not_lt.mpr v0), fun _ => ⟨zt_ml_lo ml, zt_ml_n ml, (zt_ml_v ml).2, zt_ml_l0 ml⟩⟩
      · rw [hc]
        have e := zt_ml_g1 ml
        dsimp only
        rw [e]
        exact ⟨Int.le_refl _, Int.le_add_of_nonneg_right (by decide)⟩
      · rw [hc]
        exact zt_ml_g2 ml
  · rw [if_neg hs] at ea ei
    refine ⟨(-2, g), (-1, zv_sI k 347 3 2), lC0_mergeIn (zl_ob gL la) ?_, lC9_mergeNow (zm_ob hM) ?_, zt_Z_rf (by decide) hA H hc (by decide) 2, zt_mg_rf (by decide) _⟩
    · rw [qE0_mergeIn, zm_e ea]
      rfl
    · rw [qE9_mergeNow, zm_e ei]
      dsimp only
      rw [if_pos rfl, zm_e (zm_refuse hM _ 2)]
