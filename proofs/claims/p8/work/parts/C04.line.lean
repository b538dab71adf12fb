/-! ===== what is asked, answered alike: the way; blame; how many ===== -/
section
variable {a b m : Nat} {g k : zv_H}
/-- up from one, in the reference -/
theorem za_up {D : Nat} (hM : zm_M k) {c : Nat → Int} (hc : zv_I k 348 = c) : ∀ (j : Nat) (l : List Int) (s : Int), zm_Ln c (s :: l) s → (∀ t ∈ s :: l, zm_st c t) → (hj : j ≤ l.length) → j ≤ 100 → L9_way_105 (D + 1) 347 s j k = some (some (zv_i ((s :: l)[j]'(by rw [List.length_cons]; omega))), k)
  | 0, l, s, hl, hst, hj, _ => by rw [qL9_way_105, if_pos (by omega)]; rfl
  | j + 1, [], s, hl, hst, hj, _ => by
    rw [List.length_nil] at hj
    omega
  | j + 1, p :: l, s, hl, hst, hj, h100 => by
    have hs := hst s List.mem_cons_self
    obtain ⟨⟨_, h48⟩, hl'⟩ := hl
    have ep : zm_o c s 1 = p := by
      have h2 := hl'
      obtain ⟨⟨e, _⟩, _⟩ := h2
      exact e
    rw [ep] at hl'
    rw [qL9_way_105, if_neg (by omega), zm_e (zm_of hM D (zm_st48 hs) (by decide)), hc, ep]
    dsimp only
    rw [zm_w (by omega), show ((j + 1 : Nat) : Int) + -1 = (j : Int) by omega, za_up hM hc j l p hl' (fun t ht => hst t (List.mem_cons_of_mem _ ht)) (by rw [List.length_cons] at hj; omega) (by omega)]
    rfl
/-- the one of a line so many up, in the class -/
theorem za_abv {d : Nat} {c : Nat → Int} (gL : zt_L g) (U : zt_U a c g) {s : Int} {l : List Int} (hs : zm_st c s) (hl : zm_Ln c (s :: l) s) {j : Nat} (hj : j ≤ l.length) : C0_above (d + 1) (zt_r a s) ((l.length : Int) - j) g = some (zt_r a ((s :: l)[j]'(by rw [List.length_cons]; omega)), g) := by
  have hj' : j < (s :: l).length := by rw [List.length_cons]; omega
  have e : s :: l = (s :: l).take j ++ (s :: l)[j] :: (s :: l).drop (j + 1) := by
    rw [← List.drop_eq_getElem_cons hj', List.take_append_drop]
  have h := zt_above (d := d) gL U hs hl e
  rw [List.length_drop, List.length_cons] at h
  rw [show ((l.length : Int) - j) = ((l.length + 1 - (j + 1) : Nat) : Int) by omega]
  exact h
theorem zp_way {d D : Nat} (hA : zc_A g) (I : zm_MI k) (S : zt_GG m a b g k) (s t i : Int) : ∃ v g' k', C8_way (d + 28) 1 s t i g = some (v, g') ∧ C9_way (D + 28) 347 s t i k = some (v, k') := by
  have gL := zt_L_A hA
  have hM := I.1
  have l1 : zv_lay 1 = (1, 8) := rfl
  have qC := qE8_way (d + 27) 1 s t i g
  have qR := qE9_way (D + 27) 347 s t i k
  by_cases i0 : i < 0
  · rw [if_pos i0, za_ref gL] at qC
    rw [if_pos i0, qL9_way_30, za_isn hM (by decide)] at qR
    exact ⟨_, _, _, lC8_way (zl_ob gL l1) qC, lC9_way (zm_ob hM) qR⟩
  rw [if_neg i0, zm_e (zp_e3 hA S), zm_e (za_at (d := d + 26) hA S s)] at qC
  dsimp only at qC
  rw [zm_e (zp_e3 hA S), zm_e (za_at (d := d + 26) hA S t)] at qC
  dsimp only at qC
  rw [if_neg i0, zm_e (zm_isState hM (D + 25) s)] at qR
  dsimp only at qR
  by_cases hs : zm_st (zv_I k 348) s
  rotate_left
  · rw [if_neg hs, if_pos rfl, qL8_way_40, za_ref gL] at qC
    rw [if_neg hs, if_pos rfl, qL9_way_25, qL9_way_30, za_isn hM (by decide)] at qR
    exact ⟨_, _, _, lC8_way (zl_ob gL l1) qC, lC9_way (zm_ob hM) qR⟩
  rw [if_pos hs, if_neg (za_r0 S hs)] at qC
  rw [if_pos hs, if_neg (by decide), zm_e (zm_isState hM (D + 25) t)] at qR
  dsimp only at qR
  by_cases ht : zm_st (zv_I k 348) t
  rotate_left
  · rw [if_neg ht, if_pos rfl, qL8_way_40, za_ref gL] at qC
    rw [if_neg ht, if_pos rfl, qL9_way_25, qL9_way_30, za_isn hM (by decide)] at qR
    exact ⟨_, _, _, lC8_way (zl_ob gL l1) qC, lC9_way (zm_ob hM) qR⟩
  obtain ⟨k1, i1, F1⟩ := zp_is hM
  have S1 := zt_GG_F S F1
  have M1 := zm_F_M F1 hM
  have U := zt_H_U (zt_GG_H S1)
  have la := zt_U_la U
  have W := zt_U_W U
  have e348 : zv_I k1 348 = zv_I k 348 := zm_F_a F1 348
  have hs1 : zm_st (zv_I k1 348) s := by rw [e348]; exact hs
  have ht1 : zm_st (zv_I k1 348) t := by rw [e348]; exact ht
  obtain ⟨ls, hls, oks, _⟩ := zt_line W hs1
  obtain ⟨lt, hlt, okt, _⟩ := zt_line W ht1
  have en := zt_nearest (d := d + 24) gL U hs1 ht1 hls hlt
  have ec := zt_commonOf M1 rfl W (D + 24) hs1 ht1 hls hlt
  obtain ⟨⟨mn1, mn2⟩, hn⟩ := zt_near_st W hs1 ht1 hls hlt
  obtain ⟨ln, hln, _⟩ := zt_line W hn
  obtain ⟨w, ew, wl⟩ := zt_wayLength (d := d + 23) gL U hs1 ht1
  obtain ⟨w', ew', wl'⟩ := zt_wayMany M1 rfl W (D + 23) hs1 ht1
  have eww := zt_wl_u wl' wl
  subst eww
  have b1 := zt_dep W hs1 hls
  have b2 := zt_dep W ht1 hlt
  obtain ⟨p1, ep1⟩ := zt_in_suf hls hln mn1
  obtain ⟨p2, ep2⟩ := zt_in_suf hlt hln mn2
  have n1 := congrArg List.length ep1
  have n2 := congrArg List.length ep2
  rw [List.length_append, List.length_cons, List.length_cons] at n1 n2
  have ev : w' = (ls.length : Int) + lt.length - 2 * ln.length := by
    obtain ⟨x1, x2, x3, y1, y2, y3, y4⟩ := wl'
    have z1 := (List.cons.inj (zm_Ln_u y1 hls)).2
    have z2 := (List.cons.inj (zm_Ln_u y2 hlt)).2
    subst z1
    subst z2
    have z3 := (List.cons.inj (zm_Ln_u y3 hln)).2
    subst z3
    exact y4
  have ds := zm_depthOf M1 (D + 25) hls (by omega)
  have dn := zm_depthOf M1 (D + 25) hln (by omega)
  have us := zt_U_st U s hs1
  have ut := zt_U_st U t ht1
  have un := zt_U_st U _ hn
  have lrs := zt_r_l la hs1.1
  have lrt := zt_r_l la ht1.1
  have lrn := zt_r_l la hn.1
  have head : E0_onWay (d + 26) (zt_r a s) (zt_r a t) i g = if i ≤ w' then (if i ≤ (ls.length : Int) - ln.length then ((C0_above (d + 26) (zt_r a s) ((ls.length : Int) - i) g).bind fun q6 => (some (some (zv_r q6.1), q6.2) : zv_O)) else ((C0_above (d + 26) (zt_r a t) ((lt.length : Int) - (w' - i)) g).bind fun q8 => (some (some (zv_r q8.1), q8.2) : zv_O))) else some (some (zv_r 0), g) := by
    rw [qE0_onWay, zm_e (zl_gI gL lrs 10), zt_S_de us ls hls, zm_e en]
    dsimp only
    rw [zm_e (zl_gI gL lrn 10), zt_S_de un ln hln, zm_e ew]
    dsimp only
    rw [if_neg i0]
    by_cases ci : i ≤ w'
    · rw [if_pos ci, if_pos ci, zm_w (show -2147483648 ≤ (ls.length : Int) - ln.length ∧ (ls.length : Int) - ln.length < 2147483648 by omega)]
      by_cases cu : i ≤ (ls.length : Int) - ln.length
      · rw [if_pos cu, if_pos cu, zm_e (zl_gI gL lrs 10), zt_S_de us ls hls, zm_w (by omega)]
      · rw [if_neg cu, if_neg cu, zm_e (zl_gI gL lrt 10), zt_S_de ut lt hlt, zm_w (show -2147483648 ≤ w' - i ∧ w' - i < 2147483648 by omega), zm_w (by omega)]
    · rw [if_neg ci, if_neg ci]
  have bot : E9_way (D + 27) 347 s t i k = if i ≤ w' then (if i ≤ (ls.length : Int) - ln.length then L9_way_105 (D + 27) 347 s i k1 else L9_way_105 (D + 27) 347 t (w' - i) k1) else some (some (zv_i (-1)), zv_sI k1 347 3 5) := by
    rw [qR, if_pos ht, if_neg (by decide), qL9_way_30, za_isy i1]
    dsimp only
    rw [zm_e ds]
    dsimp only
    rw [zm_e ec]
    dsimp only
    rw [zm_e dn]
    dsimp only
    rw [zm_e ew']
    dsimp only
    rw [zm_w (show -2147483648 ≤ (ls.length : Int) - ln.length ∧ (ls.length : Int) - ln.length < 2147483648 by omega)]
    by_cases ci : i ≤ w'
    · rw [if_pos ci, if_pos ci]
      by_cases cu : i ≤ (ls.length : Int) - ln.length
      · rw [if_pos cu, if_pos cu, qL9_way_87, if_pos cu]
      · rw [if_neg cu, if_neg cu, qL9_way_87, if_neg cu, zm_w (by omega)]
    · rw [if_neg ci, if_neg ci, za_rf M1]
  rw [if_pos ht, if_neg (za_r0 S ht)] at qC
  have fin : ∀ (x : Int), zm_st (zv_I k1 348) x → E0_onWay (d + 26) (zt_r a s) (zt_r a t) i g = some (some (zv_r (zt_r a x)), g) → E9_way (D + 27) 347 s t i k = some (some (zv_i x), k1) → ∃ v g' k', C8_way (d + 28) 1 s t i g = some (v, g') ∧ C9_way (D + 28) 347 s t i k = some (v, k') := fun x hx e1 e2 => by
    rw [zm_e (lC0_onWay e1)] at qC
    dsimp only at qC
    rw [if_neg (zt_r0 U hx), zm_e (za_num S1 hA hx), za_giv gL] at qC
    exact ⟨_, _, _, lC8_way (zl_ob gL l1) qC, lC9_way (zm_ob hM) e2⟩
  by_cases ci : i ≤ w'
  · rw [if_pos ci] at head bot
    by_cases cu : i ≤ (ls.length : Int) - ln.length
    · obtain ⟨j, rfl⟩ : ∃ j : Nat, i = j := ⟨i.toNat, by omega⟩
      have hj : j ≤ ls.length := by omega
      rw [if_pos cu, zm_e (za_abv (d := d + 25) gL U hs1 hls hj)] at head
      rw [if_pos cu] at bot
      have bu := za_up (D := D + 26) M1 rfl j ls s hls oks.2.2.1 hj (by omega)
      exact fin _ (oks.2.2.1 _ (List.getElem_mem _)) head (bot.trans bu)
    · obtain ⟨j, ej⟩ : ∃ j : Nat, w' - i = j := ⟨(w' - i).toNat, by omega⟩
      have hj : j ≤ lt.length := by omega
      rw [if_neg cu, ej, zm_e (za_abv (d := d + 25) gL U ht1 hlt hj)] at head
      rw [if_neg cu, ej] at bot
      have bu := za_up (D := D + 26) M1 rfl j lt t hlt okt.2.2.1 hj (by omega)
      exact fin _ (okt.2.2.1 _ (List.getElem_mem _)) head (bot.trans bu)
  · rw [if_neg ci] at head bot
    rw [zm_e (lC0_onWay head)] at qC
    dsimp only at qC
    rw [if_pos rfl, za_ref gL] at qC
    exact ⟨_, _, _, lC8_way (zl_ob gL l1) qC, lC9_way (zm_ob hM) bot⟩
/-! the row of HERE -/
theorem za_row {d : Nat} {c : Nat → Int} (gL : zt_L g) (U : zt_U a c g) {l : List Int} (hl : zm_Ln c (c 0 :: l) (c 0)) : ∃ g', C0_rowOfHere (d + 5) a g = some (a + 8, g') ∧ zt_B a c (c 0 :: l) g g' ∧ zt_rw a c (c 0 :: l) g' ∧ zt_lo a c (c 0 :: l) (zv_J g' (a + 8) 9) g' := by
  have la := zt_U_la U
  have hs := (zt_U_W U).2.1
  obtain ⟨g', e, B, w, lo⟩ := zt_lay (d := d) gL U hs hl
  refine ⟨g', lC0_rowOfHere (zl_ob gL la) ?_, B, w, lo⟩
  rw [qE0_rowOfHere, zm_e (zl_gF gL la 5 8), zm_e (zl_gR gL la 10), zt_U_he U, zm_e e, zm_e (zl_gF (zt_B_L B) la 5 8)]
theorem za_putok {c : Nat → Int} {L : List Int} (ok : zt_ln_ok c L) (G : zm_G0 c L) {x : Int × Int} (hx : x ∈ zm_row c L) : zt_ok x := zt_row_ok ok.2.2.1 G x hx
theorem zp_blame {d D : Nat} (hA : zc_A g) (I : zm_MI k) (S : zt_GG m a b g k) (p w : Int) : ∃ v g' k', C8_blame (d + 28) 1 p w g = some (v, g') ∧ C9_blame (D + 28) 347 p w k = some (v, k') := by
  have gL := zt_L_A hA
  have hM := I.1
  have l1 : zv_lay 1 = (1, 8) := rfl
  have la := (zt_lab (zt_GG_ab S)).1
  have qC := qE8_blame (d + 27) 1 p w g
  have qR := qE9_blame (D + 27) 347 p w k
  by_cases p0 : p < 0
  · rw [if_pos p0, qL8_blame_13, za_ref gL] at qC
    rw [if_pos p0, qL9_blame_18, qL9_blame_19, za_isn hM (by decide)] at qR
    exact ⟨_, _, _, lC8_blame (zl_ob gL l1) qC, lC9_blame (zm_ob hM) qR⟩
  rw [if_neg p0, zm_e (zc_within (d := d + 26) g w 0 2)] at qC
  dsimp only at qC
  rw [if_neg p0, zm_e (zm_isIn (h := k) (D + 26) w 0 2)] at qR
  dsimp only at qR
  by_cases cw : 0 ≤ w ∧ w ≤ 2
  rotate_left
  · rw [if_neg cw, if_pos rfl, qL8_blame_13, za_ref gL] at qC
    rw [if_neg cw, if_pos rfl, qL9_blame_18, qL9_blame_19, za_isn hM (by decide)] at qR
    exact ⟨_, _, _, lC8_blame (zl_ob gL l1) qC, lC9_blame (zm_ob hM) qR⟩
  obtain ⟨i, rfl⟩ : ∃ i : Nat, p = i := ⟨p.toNat, by omega⟩
  obtain ⟨k1, i1, F1⟩ := zp_is hM
  have S1 := zt_GG_F S F1
  have M1 := zm_F_M F1 hM
  have U := zt_H_U (zt_GG_H S1)
  have W := zt_U_W U
  generalize hc : zv_I k1 348 = c at U W
  have hs := W.2.1
  obtain ⟨l, hl, ok, G, _, _⟩ := zt_line W hs
  obtain ⟨k2, e2, F2, n2, rl, dl⟩ := za_sees (D := D + 23) M1 hc W hs hl
  have M2 := zm_F_M F2 M1
  have e12 : zv_I k2 347 12 = ((zt_dc c (c 0 :: l)).length : Int) := n2.2.2.2.2
  have lr := zt_r_l la hs.1
  have u := zt_U_st U (c 0) hs
  have en := zt_S_ln u l hl
  have ei := zt_C5_idAt (d := d + 26) gL lr (by rw [en]; omega) (i : Int)
  rw [if_pos cw, if_neg (by decide), zm_e (zp_e3 hA S), zm_e (zl_gR gL la 10), zt_U_he U, zm_e ei, en] at qC
  dsimp only at qC
  rw [if_pos cw, if_neg (by decide), qL9_blame_19, za_isy i1] at qR
  dsimp only at qR
  rw [zm_e (zm_here M1 _), hc] at qR
  dsimp only at qR
  rw [zm_e e2, zm_e (zm_gI M2 12), e12] at qR
  by_cases ci : i < (zt_dc c (c 0 :: l)).length
  rotate_left
  · rw [if_neg (show ¬ ((0 : Int) ≤ i ∧ (i : Int) < ((zt_dc c (c 0 :: l)).length : Int)) by omega), if_pos rfl, za_ref gL] at qC
    rw [if_neg (by omega), za_rf M2] at qR
    exact ⟨_, _, _, lC8_blame (zl_ob gL l1) qC, lC9_blame (zm_ob hM) qR⟩
  have hx : (zt_dc c (c 0 :: l))[i]? = some (zt_dc c (c 0 :: l))[i] := List.getElem?_eq_getElem ci
  generalize (zt_dc c (c 0 :: l))[i] = x at hx
  have hm : x ∈ zm_row c (c 0 :: l) := (List.mem_filter.mp (List.mem_of_getElem? hx)).1
  have xok := za_putok ok G hm
  have xr := zt_id_r xok
  obtain ⟨r1, r2⟩ := zm_rp_in (zm_sn c (c 0 :: l)) (zm_row c (c 0 :: l)) i ci
  have r3 : (zm_row c (c 0 :: l))[(zm_rp (zm_sn c (c 0 :: l)) (zm_row c (c 0 :: l)) i).toNat]? = some x := r2.trans hx
  have rp := zm_rowPlace M2 (D + 26) n2 (by omega) (n := (i : Int)) (by omega) (by omega)
  generalize zm_rp (zm_sn c (c 0 :: l)) (zm_row c (c 0 :: l)) (i : Int) = q at r1 r3 rp
  obtain ⟨j, rfl⟩ : ∃ j : Nat, q = j := ⟨q.toNat, by omega⟩
  rw [Int.toNat_natCast] at r3
  have jl : j < (zm_row c (c 0 :: l)).length := by
    by_cases z : j < (zm_row c (c 0 :: l)).length
    · exact z
    · rw [List.getElem?_eq_none (by omega)] at r3
      cases r3
  obtain ⟨by1, by2⟩ := n2.2.1.2 j x r3
  rw [if_pos (show (0 : Int) ≤ i ∧ (i : Int) < ((zt_dc c (c 0 :: l)).length : Int) by omega), Int.toNat_natCast, zt_S_dc u l hl i x hx, if_neg (by omega)] at qC
  rw [if_pos (by omega), zm_e rp] at qR
  dsimp only at qR
  by_cases w0 : w = 0
  · rw [if_pos w0, zm_e (zt_C4_putter (d := d + 26) xok)] at qC
    dsimp only at qC
    rw [za_giv gL] at qC
    rw [if_pos w0, zm_e (zm_gR M2 rfl rfl : zv_gR k2 347 9 6 = some 352), zm_e (zm_aI M2 (show zv_lay 352 = (2, 640) from rfl) rfl (by omega) (by omega)), Int.toNat_natCast, by1] at qR
    exact ⟨_, _, _, lC8_blame (zl_ob gL l1) qC, lC9_blame (zm_ob hM) qR⟩
  rw [if_neg w0] at qC qR
  by_cases w1 : w = 1
  · rw [if_pos w1, zm_e (zt_C4_order (d := d + 26) xok)] at qC
    dsimp only at qC
    rw [za_giv gL] at qC
    rw [if_pos w1, zm_e (zm_gR M2 rfl rfl : zv_gR k2 347 9 7 = some 353), zm_e (zm_aI M2 (show zv_lay 353 = (2, 640) from rfl) rfl (by omega) (by omega)), Int.toNat_natCast, by2] at qR
    exact ⟨_, _, _, lC8_blame (zl_ob gL l1) qC, lC9_blame (zm_ob hM) qR⟩
  obtain ⟨g', e1, B, rw_, lo⟩ := za_row (d := d + 22) gL U hl
  have gL' := zt_B_L B
  obtain ⟨v, ev, hv⟩ := zt_placeOf_l (d := d + 25) gL' la (zt_rw_sz rw_) (zt_rw_id rw_) rl (fun y hy => za_putok ok G hy) xok (zm_row c (c 0 :: l)) [] rfl (fun y hy => by cases hy)
  have ep : C4_placeOf (d + 27) (a + 8) (zt_id x) g' = some (v, g') := lC4_placeOf (zl_ob gL' (zt_row_l la).1) (by rw [qE4_placeOf]; exact ev)
  have vj : v = (j : Int) := by
    rcases hv with ⟨_, z⟩ | ⟨j', z1, z2⟩
    · exact absurd hm z
    · have nd := zm_row_nd (c := c) ok.1
      have jl' : j' < (zm_row c (c 0 :: l)).length := by
        by_cases z : j' < (zm_row c (c 0 :: l)).length
        · exact z
        · rw [List.getElem?_eq_none (by omega)] at z2
          cases z2
      rw [List.getElem?_eq_getElem jl'] at z2
      rw [List.getElem?_eq_getElem jl] at r3
      have := (List.getElem_inj nd).mp ((Option.some.inj z2).trans (Option.some.inj r3).symm)
      rw [z1, this]
  rw [if_neg w1, zm_e (zp_e3 hA S), zm_e e1] at qC
  dsimp only at qC
  rw [zm_e ep, vj] at qC
  dsimp only at qC
  rw [za_giv gL'] at qC
  rw [if_neg w1] at qR
  exact ⟨_, _, _, lC8_blame (zl_ob gL l1) qC, lC9_blame (zm_ob hM) qR⟩
end
