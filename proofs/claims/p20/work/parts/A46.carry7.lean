/-! ===== the tie: carrying one, a put; carrying ===== -/
section
variable {a : Nat} {c : Nat → Int} {g k : zv_H} {sf : Nat → Int}
theorem zt_co74 {d : Nat} (hA : zc_A g) (U : zt_U a c g) {s : Int} (hs : zm_st c s) (hk : zm_o c s 2 = 0) {m : Nat} (hm : zm_o c s 5 = m) (h12 : m ≤ 12) {pl : Int} (np : pl ≠ -1) : ∃ g', L0_carryOne_74 (d + 1) a (zt_r a s) pl g = ((C0_putWord (d + 1) a pl (a + 26) g').bind fun q8 => (some (some (zv_i q8.1), q8.2) : zv_O)) ∧ zc_A g' ∧ zt_U a c g' ∧ zt_q g g' ∧ zt_wd (a + 26) m (fun j => zm_o c s (12 + (j : Int))) g' := by
  have la := zt_U_la U
  have gL := zt_L_A hA
  obtain ⟨_, l26, l27⟩ := zt_sta_l la
  have xb : zt_x (a + 26) 1 := by
    rcases zc_lh la with e | e
    · exact Or.inr (Or.inr (Or.inr ⟨9, Or.inl rfl, by omega⟩))
    · exact Or.inr (Or.inr (Or.inr ⟨178, Or.inr rfl, by omega⟩))
  have ec := zt_C7_clear (d := d) gL l26
  have hA2 : zc_A (zv_sI g (a + 26) 1 0) := by
    obtain ⟨q, e, w⟩ := zc_C7_clear (d := d) hA l26
    rw [ec] at e
    cases e
    exact w.2
  have q2 : zt_q g (zv_sI g (a + 26) 1 0) := zt_q_sI _ xb
  obtain ⟨g', e, r⟩ := zt_co91 (d := d) (g0 := g) hs hk hm h12 pl m 0 (zv_sI g (a + 26) 1 0) (Nat.zero_add _) hA2 (zt_U_q U q2) q2 (zy_I _ _ _ _) (fun j hj => absurd hj (Nat.not_lt_zero _))
  refine ⟨g', ?_, r⟩
  rw [qL0_carryOne_74, if_neg np, zm_e (zl_gF gL la 9 26), zm_e ec]
  exact e
theorem zt_at_in {p : Int × Int} : ∀ {r : List (Int × Int)}, 0 ≤ zm_at r p → p ∈ r
  | [], h => absurd h (by unfold zm_at; decide)
  | x :: r, h => by
    unfold zm_at at h
    by_cases e : x = p
    · rw [e]; exact List.mem_cons_self
    · rw [if_neg e] at h
      refine List.mem_cons_of_mem _ (zt_at_in ?_)
      by_cases z : zm_at r p < 0
      · rw [if_pos z] at h
        exact absurd h (by decide)
      · exact Int.not_lt.mp z
theorem zt_ca104 {D : Nat} {h : zv_H} (hM : zm_M h) (hc : zv_I h 348 = c) {s : Int} (hs : zm_st c s) {m : Nat} (hm : zm_o c s 5 = m) (h12 : m ≤ 12) (pl : Int) : ∃ h', L9_carries_104 (D + 1) 347 s pl h = ((C9_putNow (D + 1) 347 pl h').bind fun q5 => (some (some (zv_i q5.1), q5.2) : zv_O)) ∧ zm_F [360] [19] h h' ∧ zv_I h' 347 19 = m ∧ ∀ j : Nat, j < m → zv_I h' 360 j = zm_o c s (12 + (j : Int)) := by
  have s48 := zm_st48 hs
  have h19 : zv_I (zv_sI h 347 19 (m : Int)) 347 19 = m := zy_I _ _ _ _
  obtain ⟨h', e, F, w⟩ := zt_ca116 (d := D) hs pl h12 m 0 (zv_sI h 347 19 (m : Int)) (Nat.zero_add _) hM ((zm_so h _ _).trans hc) h19 (fun j hj => absurd hj (Nat.not_lt_zero _))
  refine ⟨h', ?_, zm_F_t (zm_F_f (zm_F_r _ _ h) rfl _) (zm_F_s F rfl rfl), (zm_F_g F 19).trans h19, w⟩
  rw [qL9_carries_104, zm_e (zm_of hM _ s48 (by decide)), hc, hm]
  dsimp only
  rw [zm_e (zm_pI hM 19 _)]
  exact e
/-- both put, at one place -/
theorem zj_co_fin {d D : Nat} {g1 k1 : zv_H} (hA : zc_A g) (H : zt_H a c g) (hM : zm_M k) (hc : zv_I k 348 = c) (b : c 2 < 2000000000) (Ds : zt_sd a sf g k) {s : Int} (hs : zm_st c s) (hk : zm_o c s 2 = 0) (hA1 : zc_A g1) (Q1 : zt_q g g1) (F1 : zm_F [351, 352, 353, 354, 355] [10, 11, 12] k k1) {pl : Int} (np : pl ≠ -1) (rp : zv_rg pl) (e1 : ∀ {q}, L0_carryOne_74 (d + 4) a (zt_r a s) pl g1 = some (some (zv_i q.1), q.2) → C0_carryOne (d + 5) a (zt_r a s) g = some q) (e2 : ∀ {q}, L9_carries_104 (D + 7) 347 s pl k1 = some (some (zv_i q.1), q.2) → C9_carries (D + 8) 347 s k = some q) : ∃ q q', C0_carryOne (d + 5) a (zt_r a s) g = some q ∧ C9_carries (D + 8) 347 s k = some q' ∧ zt_cy a c sf g k q q' := by
  have U := zt_H_U H
  have W := zt_U_W U
  have la := zt_U_la U
  have hM1 := zm_F_M F1 hM
  have c1 : zv_I k1 348 = c := (zm_F_a F1 348).trans hc
  obtain ⟨m, h12, em⟩ := zm_ed_n W.1 hs (Or.inl hk)
  have hm := em _ rfl
  obtain ⟨g2, f1, hA2, U2, Q2, wd⟩ := zt_co74 (d := d + 3) hA1 (zt_U_q U Q1) hs hk hm h12 np
  obtain ⟨k2, f2, F2, h19, wd2⟩ := zt_ca104 (D := D + 6) hM1 c1 hs hm h12 pl
  have hM2 := zm_F_M F2 hM1
  have c2 : zv_I k2 348 = c := (zm_F_a F2 348).trans c1
  have Q := zt_q_t Q1 Q2
  have wd' : zt_wd (a + 26) m (zv_I k2 360) g2 := ⟨wd.1, wd.2.1, wd.2.2.1, wd.2.2.2.1, fun j hj => (wd.2.2.2.2 j hj).trans (wd2 j hj).symm⟩
  obtain ⟨q, q', z1, z2, Z, oh⟩ := zj_put (d := d) (D := D + 1) hA2 (zt_H_q H Q) hM2 c2 b wd' h12 (Or.inr (Or.inr rfl)) h19 rp
  have y1 := e1 (q := q) (by rw [f1, zm_e z1])
  have y2 := e2 (q := q') (by rw [f2, zm_e z2])
  obtain ⟨p, er, Fr, Dn⟩ := zm_carries hM hc W D hs (Or.inl hk)
  have ee : p = q' := Option.some.inj (er.symm.trans y2)
  rw [ee] at Fr Dn
  obtain ⟨p2, ep, O⟩ := zc_C0_carryOne (d := d) hA la (zt_U_V U hs)
  have ee2 : p2 = q := Option.some.inj (ep.symm.trans y1)
  rw [ee2] at O
  have ohq := zt_oh_t (zt_oh_q la Q) oh
  exact ⟨q, q', y1, y2, zt_Z_com O.1 (zt_q_k a Q) (zm_F_t (zm_F_s F1 rfl rfl) (zm_F_s F2 rfl rfl)) (c2.trans hc.symm) Z, ohq, zt_sd_t Ds ohq Fr rfl, Fr, Dn⟩
theorem zj_co_put {d D : Nat} (hA : zc_A g) (H : zt_H a c g) (hM : zm_M k) (hc : zv_I k 348 = c) (b : c 2 < 2000000000) (Ds : zt_sd a sf g k) {s : Int} (hs : zm_st c s) (hk : zm_o c s 2 = 0) : ∃ q q', C0_carryOne (d + 5) a (zt_r a s) g = some q ∧ C9_carries (D + 8) 347 s k = some q' ∧ zt_cy a c sf g k q q' := by
  have U := zt_H_U H
  have W := zt_U_W U
  have la := zt_U_la U
  have gL := zt_L_A hA
  have lS := zt_r_l la hs.1
  have S := zt_U_st U s hs
  have s48 := zm_st48 hs
  have n1 : ¬ zm_o c s 2 = 1 := by rw [hk]; decide
  obtain ⟨l, hl, ok, g0, gt, W1⟩ := zt_line W W.2.1
  obtain ⟨k1, es, Fs, Sn⟩ := zm_sees hM hc (D + 3) (s := c 0) W.2.1.1.1 hl (Nat.le_succ_of_le ok.2.2.2) g0 gt
  have hM1 := zm_F_M Fs hM
  have c1 : zv_I k1 348 = c := (zm_F_a Fs 348).trans hc
  have hrl := zm_row_le g0
  have l48 := ok.2.2.2
  have r604 : (zm_row c (c 0 :: l)).length ≤ 604 := by clear hs hk n1; omega
  have hrl2 : (zm_row c (c 0 :: l)).length ≤ 640 := Nat.le_trans r604 (by decide)
  have an := zt_S_an S
  have ref : ∀ {R : zv_O}, (if zm_o c s 8 < 0 then L9_carries_104 (D + 7) 347 s 0 k1 else (if zm_at (zm_row c (c 0 :: l)) (sf (zm_o c s 8).toNat, zm_o c s 9) < 0 then (some (some (zv_i (-1)), zv_sI k1 347 3 10) : zv_O) else L9_carries_74 (D + 7) 347 s 0 (zm_at (zm_row c (c 0 :: l)) (sf (zm_o c s 8).toNat, zm_o c s 9)) 0 k1)) = R → ∀ {q : Int × zv_H}, R = some (some (zv_i q.1), q.2) → C9_carries (D + 8) 347 s k = some q := by
    intro R hR q hq
    refine lC9_carries (zm_ob hM) ?_
    rw [qE9_carries, zm_e (zm_of hM _ s48 (by decide)), hc]
    dsimp only
    rw [if_neg n1, zm_e (zm_here hM _), hc]
    dsimp only
    rw [zm_e es, zm_e (zm_of hM1 _ s48 (by decide)), c1]
    dsimp only
    by_cases h8 : zm_o c s 8 < 0
    · rw [if_pos h8] at hR ⊢
      exact hR.trans hq
    · have bh := zm_bh W.1 hs h8
      have a362 : zv_aI k1 362 (zm_o c s 8) = some (sf (zm_o c s 8).toNat) := by
        rw [zm_aI hM1 zm_l362 rfl bh.1 bh.2, zm_F_a Fs 362, zt_sd_rf Ds _ (by omega)]
      rw [if_neg h8] at hR ⊢
      rw [zm_e (zm_f21 hM1), zm_e (zm_of hM1 _ s48 (by decide)), c1]
      dsimp only
      rw [zm_e a362, zm_e (zm_of hM1 _ s48 (by decide)), c1]
      dsimp only
      rw [zm_e (zm_rowOf hM1 _ _ _ Sn.2.1 hrl2)]
      dsimp only
      by_cases h9 : zm_at (zm_row c (c 0 :: l)) (sf (zm_o c s 8).toNat, zm_o c s 9) < 0
      · rw [if_pos h9] at hR ⊢
        rw [zm_e (zm_refuse hM1 _ 10)]
        exact hR.trans hq
      · rw [if_neg h9] at hR ⊢
        exact hR.trans hq
  have cls : ∀ {R : zv_O}, ((C0_carryOne (d + 5) a (zt_r a s) g) = (C0_carryOne (d + 5) a (zt_r a s) g)) → E0_carryOne (d + 4) a (zt_r a s) g = R → ∀ {q : Int × zv_H}, R = some (some (zv_i q.1), q.2) → C0_carryOne (d + 5) a (zt_r a s) g = some q := by
    intro R _ hR q hq
    exact lC0_carryOne (zl_ob gL la) (hR.trans hq)
  by_cases h8 : zm_o c s 8 < 0
  · rw [if_neg (show ¬ (zm_o c s 2 = 0 ∧ 0 ≤ zm_o c s 8) from fun q => absurd q.2 (Int.not_le.mpr h8))] at an
    refine zj_co_fin (d := d) (D := D) (pl := 0) (g1 := g) (k1 := k1) hA H hM hc b Ds hs hk hA (zt_q_r g) Fs (by decide) (by unfold zv_rg; decide) (fun {q} e => cls rfl ?_ e) (fun {q} e => ref (if_pos h8) e)
    rw [qE0_carryOne, zm_e (zl_gI gL lS 6), zt_S_ac S, if_neg n1, zm_e (zl_gI gL lS 15), an, if_pos rfl]
  · have h8' : 0 ≤ zm_o c s 8 := Int.not_lt.mp h8
    rw [if_pos ⟨hk, h8'⟩] at an
    obtain ⟨ls, hls, oks, gs, _⟩ := zt_line W hs
    have pm := zt_cw_an (zt_S_cw S) ls hls hk h8'
    have pok : zt_ok (zm_o c s 8, zm_o c s 9) := by
      by_cases e : ls = []
      · rw [e] at pm
        cases pm
      · exact zt_row_ok (fun t ht => oks.2.2.1 t (List.mem_cons_of_mem _ ht)) (zm_G0_t e gs).1 _ pm
    have xok := zt_so_ok Ds pok
    obtain ⟨g1, el, B, rw1, lo⟩ := zt_lay (d := d) gL U W.2.1 hl
    obtain ⟨gL1, U1, Q1, wk⟩ := B
    have hA1 : zc_A g1 := by
      obtain ⟨q, e, w⟩ := zc_C4_lay (d := d + 1) hA (zt_row_l la).1 (zt_U_V U W.2.1)
      rw [el] at e
      cases e
      exact w.2
    have D1 : zt_sd a sf g1 k := ⟨fun i hi => (zt_oh_q la Q1 6 i (Or.inr (Or.inl rfl))).trans (zt_sd_cl Ds i hi), zt_sd_rf Ds, zt_sd_z Ds, zt_sd_r Ds⟩
    have S1 := zt_U_st U1 s hs
    have an1 := zt_S_an S1
    rw [if_pos ⟨hk, h8'⟩] at an1
    have idr := zt_id_r pok
    have est := zt_standOf (d := d + 2) gL1 la D1 pok
    have B' : zt_B a c (c 0 :: l) g g1 := ⟨gL1, U1, Q1, wk⟩
    have se : ∀ (i : Nat) (p : Int × Int), (zm_row c (c 0 :: l))[i]? = some p → zv_I g1 (a + 11) i = if zm_sn c (c 0 :: l) p = true then 1 else 0 := fun i p hp => by
      rw [lo.1 i p hp, zt_lay_sn W.2.1 hl B' (List.mem_of_getElem? hp)]
    obtain ⟨v, ev, R⟩ := zt_seenUpTo (d := d + 1) gL1 la (zt_rw_sz rw1) (zt_rw_id rw1) se r604 (fun x hx => zt_row_ok ok.2.2.1 g0 x hx) xok
    have top : E0_carryOne (d + 4) a (zt_r a s) g = L0_carryOne_74 (d + 4) a (zt_r a s) v g1 := by
      rw [qE0_carryOne, zm_e (zl_gI gL lS 6), zt_S_ac S, if_neg n1, zm_e (zl_gI gL lS 15), an, if_neg (by clear hs hk n1; omega), zm_e (zl_gF gL la 5 8), zm_e (zl_gR gL la 10), zt_U_he U, zm_e el, zm_e (zl_gF gL1 la 5 8), zm_e (zl_gI gL1 lS 15), an1, zm_e est]
      dsimp only
      rw [zm_e ev]
    have atge := zm_at_ge (sf (zm_o c s 8).toNat, zm_o c s 9) (zm_row c (c 0 :: l))
    rcases R with ⟨v1, nm⟩ | ⟨i, hi, v1⟩
    · -- no such letter here
      have neg : zm_at (zm_row c (c 0 :: l)) (sf (zm_o c s 8).toNat, zm_o c s 9) < 0 := by
        exact Int.not_le.mp (fun q => nm (zt_at_in q))
      have e1 : C0_carryOne (d + 5) a (zt_r a s) g = some (-10, g1) := cls rfl top (by rw [v1, qL0_carryOne_74, if_pos rfl])
      have e2 : C9_carries (D + 8) 347 s k = some (-1, zv_sI k1 347 3 10) := ref ((if_neg h8).trans (if_pos neg)) rfl
      obtain ⟨p, er, Fr, Dn⟩ := zm_carries hM hc W D hs (Or.inl hk)
      have ee : p = (-1, zv_sI k1 347 3 10) := Option.some.inj (er.symm.trans e2)
      rw [ee] at Fr Dn
      have ohq := zt_oh_q la Q1
      obtain ⟨p2, ep, O⟩ := zc_C0_carryOne (d := d) hA la (zt_U_V U hs)
      have ee2 : p2 = (-10, g1) := Option.some.inj (ep.symm.trans e1)
      rw [ee2] at O
      exact ⟨_, _, e1, e2, zt_Z_no (by decide) H hc O.1 (zt_q_k a Q1) (zt_H_q H Q1) (zm_F_s Fr rfl rfl) (by decide) ((zm_so k1 _ _).trans c1), ohq, zt_sd_t Ds ohq Fr rfl, Fr, Dn⟩
    · have pin : (sf (zm_o c s 8).toNat, zm_o c s 9) ∈ zm_row c (c 0 :: l) := List.mem_of_getElem? hi
      obtain ⟨at0, ate⟩ := zm_at_mem pin
      have nd : (zm_row c (c 0 :: l)).Nodup := zm_row_nd g0.1
      have il := zm_lt_of_get hi
      have ei : (zm_at (zm_row c (c 0 :: l)) (sf (zm_o c s 8).toNat, zm_o c s 9)).toNat = i := (List.getElem?_inj (zm_lt_of_get ate) nd).mp (ate.trans hi.symm)
      have ei2 : zm_at (zm_row c (c 0 :: l)) (sf (zm_o c s 8).toNat, zm_o c s 9) = (i : Int) := by rw [← ei, Int.toNat_of_nonneg at0]
      have go := zt_ca74 (d := D + 7) (s := s) hM1 (R := zm_row c (c 0 :: l)) (sn := zm_sn c (c 0 :: l)) Sn.2.2.2.1 hrl2 il (i + 1) 0 (Nat.zero_add _)
      have fl : (((zm_row c (c 0 :: l)).take (i + 1)).filter (zm_sn c (c 0 :: l))).length ≤ 640 := Nat.le_trans (List.length_filter_le _ _) (Nat.le_trans (List.length_take_le' _ _) hrl2)
      refine zj_co_fin (d := d) (D := D) (pl := v) (g1 := g1) (k1 := k1) hA H hM hc b Ds hs hk hA1 Q1 Fs ?_ ?_ (fun {q} e => cls rfl top e) (fun {q} e => ref ((if_neg h8).trans ((if_neg (by rw [ei2]; exact Int.not_lt.mpr (Int.natCast_nonneg _))).trans (by rw [ei2, v1]; exact go))) e)
      · rw [v1]
        exact fun q => absurd (q ▸ Int.natCast_nonneg _ : (0 : Int) ≤ -1) (by decide)
      · rw [v1]
        unfold zv_rg
        generalize (((zm_row c (c 0 :: l)).take (i + 1)).filter (zm_sn c (c 0 :: l))).length = F at *
        clear hs hk n1
        omega
theorem zj_carryOne {d D : Nat} (hA : zc_A g) (H : zt_H a c g) (hM : zm_M k) (hc : zv_I k 348 = c) (b : c 2 < 2000000000) (Ds : zt_sd a sf g k) {s : Int} (hs : zm_st c s) (he : zm_ed c s) : ∃ q q', C0_carryOne (d + 5) a (zt_r a s) g = some q ∧ C9_carries (D + 8) 347 s k = some q' ∧ zt_cy a c sf g k q q' := by
  rcases he with hk | hk
  · exact zj_co_put hA H hM hc b Ds hs hk
  · exact zj_co_cut hA H hM hc b Ds hs hk
end
