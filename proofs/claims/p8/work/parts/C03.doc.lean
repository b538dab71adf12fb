/-! ===== what is asked, answered alike: documents, letter by letter ===== -/
/-- the letters of a document -/
def za_D (c : Nat → Int) (s : Int) (A : List Int) : Prop := ∃ l, zm_Ln c (s :: l) s ∧ A = (zt_dc c (s :: l)).map (zm_lt c)
theorem za_D_u {c : Nat → Int} {s : Int} {A B : List Int} (h1 : za_D c s A) (h2 : za_D c s B) : A = B := by
  obtain ⟨l, h3, h4⟩ := h1
  obtain ⟨l', h5, h6⟩ := h2
  rw [h4, h6, zm_Ln_u h3 h5]
/-- the i-th, or none -/
def za_nth (A : List Int) (i : Nat) : Int := if h : i < A.length then A[i] else -1
theorem za_nth_in {A : List Int} {i : Nat} (h : i < A.length) : za_nth A i = A[i] := dif_pos h
theorem za_nth_out {A : List Int} {i : Nat} (h : ¬ i < A.length) : za_nth A i = -1 := dif_neg h
section
variable {a b m : Nat} {g k : zv_H}
/-- a letter of a row, in the class -/
theorem za_glyph {d : Nat} {c : Nat → Int} (gL : zt_L g) (U : zt_U a c g) {s : Int} {l : List Int} (hs : zm_st c s) (hl : zm_Ln c (s :: l) s) {x : Int × Int} (hx : x ∈ zm_row c (s :: l)) : C0_glyph (d + 1) a (zt_id x) g = some (zm_lt c x, g) := by
  have la := zt_U_la U
  have W := zt_U_W U
  obtain ⟨ok, G, _, _⟩ := zt_line_u W hs hl
  have xok := zt_row_ok ok.2.2.1 G x hx
  have xr := zt_id_r xok
  obtain ⟨m1, m2, m3⟩ := zm_row_mem hx
  have hx1 := ok.2.2.1 x.1 m1
  have lgl : zv_lay (a + 5) = (2, 604) := by rcases zc_lh la with e | e <;> rw [e] <;> rfl
  have gl := zt_S_gl (zt_U_st U x.1 hx1) (by
    by_cases z : x.1 = 0
    · exact Or.inr z
    · exact Or.inl (zt_row_ed hx G.2.1 z)) x.2.toNat (by omega)
  have e2 : ((x.2.toNat : Nat) : Int) = x.2 := by omega
  rw [e2] at gl
  refine lC0_glyph (zl_ob gL la) ?_
  rw [qE0_glyph, if_neg (by omega), if_pos (by omega), zm_e (zl_gF gL la 2 5), zm_e (zl_aI gL lgl (by omega) (by omega)), show (zt_id x) = zt_id (x.1, x.2) from rfl, gl]
  rfl
/-- the class's document -/
theorem za_D_ex (S : zt_GG m a b g k) {s : Int} (hs : zm_st (zv_I k 348) s) : ∃ A, za_D (zv_I k 348) s A ∧ A.length ≤ 120 := by
  have W := zt_U_W (zt_H_U (zt_GG_H S))
  obtain ⟨l, h1, _⟩ := zm_W_l W.1 hs
  refine ⟨_, ⟨l, h1.1, rfl⟩, ?_⟩
  rw [List.length_map]
  exact h1.2.2.2.2.2.2
theorem za_D_n (S : zt_GG m a b g k) {s : Int} (hs : zm_st (zv_I k 348) s) {A : List Int} (hA : za_D (zv_I k 348) s A) : zv_I g (zt_r a s) 12 = A.length ∧ A.length ≤ 120 := by
  obtain ⟨B, hB, hn⟩ := za_D_ex S hs
  have e := za_D_u hB hA
  subst e
  obtain ⟨l, h1, h2⟩ := hB
  refine ⟨?_, hn⟩
  rw [zt_S_ln (zt_U_st (zt_H_U (zt_GG_H S)) s hs) l h1, h2, List.length_map]
theorem za_letterAt {d : Nat} {c : Nat → Int} (gL : zt_L g) (U : zt_U a c g) {s : Int} (hs : zm_st c s) {A : List Int} (hD : za_D c s A) (i : Nat) : C0_letterAt (d + 2) a (zt_r a s) (i : Int) g = some (za_nth A i, g) := by
  obtain ⟨l, hl, e⟩ := hD
  have la := zt_U_la U
  have W := zt_U_W U
  have lr := zt_r_l la hs.1
  have u := zt_U_st U s hs
  obtain ⟨l2, h1, _⟩ := zm_W_l W.1 hs
  have e2 : l2 = l := (List.cons.inj (zm_Ln_u h1.1 hl)).2
  subst e2
  have h120 : (zt_dc c (s :: l2)).length ≤ 120 := h1.2.2.2.2.2.2
  have e12 := zt_S_ln u l2 hl
  have ei := zt_C5_idAt (d := d) gL lr (by rw [e12]; omega) (i : Int)
  refine lC0_letterAt (zl_ob gL la) ?_
  rw [qE0_letterAt, zm_e ei, e12]
  dsimp only
  by_cases c1 : i < (zt_dc c (s :: l2)).length
  · have hx : (zt_dc c (s :: l2))[i]? = some (zt_dc c (s :: l2))[i] := List.getElem?_eq_getElem c1
    have hm : (zt_dc c (s :: l2))[i] ∈ zm_row c (s :: l2) := (List.mem_filter.mp (List.mem_of_getElem? hx)).1
    have en : za_nth A i = zm_lt c (zt_dc c (s :: l2))[i] := by
      subst e
      rw [za_nth_in (by rw [List.length_map]; exact c1), List.getElem_map]
    rw [if_pos (by omega), Int.toNat_natCast, zt_S_dc u l2 hl i _ hx, zm_e (za_glyph (d := d) gL U hs hl hm), en]
  · have eg : C0_glyph (d + 1) a (-1) g = some (-1, g) := lC0_glyph (zl_ob gL la) (by rw [qE0_glyph, if_pos (by decide)])
    have en : za_nth A i = -1 := by
      subst e
      exact za_nth_out (by rw [List.length_map]; exact c1)
    rw [if_neg (by omega), zm_e eg, en]
/-- the reference's document, in its cells -/
theorem za_copies {D : Nat} (hM : zm_M k) {c : Nat → Int} (hc : zv_I k 348 = c) (W : zm_W c) {s : Int} (hs : zm_st c s) {A : List Int} (hD : za_D c s A) {r : Nat} (hr : r = 356 ∨ r = 357) : ∃ k', C9_copies (D + 5) 347 s r k = some ((A.length : Int), k') ∧ zm_F [r, 351, 352, 353, 354, 355] [10, 11, 12] k k' ∧ ∀ i (hi : i < A.length), zv_I k' r i = A[i] := by
  obtain ⟨l, hl, e⟩ := hD
  obtain ⟨l2, h1, h2, h3, h4⟩ := zm_W_l W.1 hs
  have e2 : l2 = l := (List.cons.inj (zm_Ln_u h1.1 hl)).2
  subst e2
  have ok := (zt_line_u W hs hl).1
  obtain ⟨⟨n, k'⟩, e1, en, F, _, hx⟩ := zm_copies hM hc D (l := s :: l2) (fun t ht => zm_st48 (ok.2.2.1 t ht)) h3 (by rw [List.length_cons]; omega) (zm_sees_st hM hc D h1 h2 h3 h4) hr
  have en' : n = ((zt_dc c (s :: l2)).length : Int) := en
  subst e
  refine ⟨k', by rw [e1, en', List.length_map], F, fun i hi => ?_⟩
  have hi' : i < (zt_dc c (s :: l2)).length := by rw [List.length_map] at hi; exact hi
  rw [List.getElem_map]
  exact hx i _ (List.getElem?_eq_getElem hi')
/-- what the reference sees of one -/
theorem za_sees {D : Nat} (hM : zm_M k) {c : Nat → Int} (hc : zv_I k 348 = c) (W : zm_W c) {s : Int} {l : List Int} (hs : zm_st c s) (hl : zm_Ln c (s :: l) s) : ∃ k', C9_sees (D + 4) 347 s k = some k' ∧ zm_F [351, 352, 353, 354, 355] [10, 11, 12] k k' ∧ zm_Sn k' c (s :: l) ∧ (zm_row c (s :: l)).length ≤ 604 ∧ (zt_dc c (s :: l)).length ≤ 120 := by
  obtain ⟨l2, h1, h2, h3, h4⟩ := zm_W_l W.1 hs
  have e2 : l2 = l := (List.cons.inj (zm_Ln_u h1.1 hl)).2
  subst e2
  obtain ⟨k', e, F, n⟩ := zm_sees_st hM hc D h1 h2 h3 h4
  have rl := zm_row_le h3
  rw [List.length_cons] at rl
  exact ⟨k', e, F, n, by omega, h1.2.2.2.2.2.2⟩
theorem zp_letter {d D : Nat} (hA : zc_A g) (I : zm_MI k) (S : zt_GG m a b g k) (s p : Int) : ∃ v g' k', C8_letter (d + 28) 1 s p g = some (v, g') ∧ C9_letter (D + 28) 347 s p k = some (v, k') := by
  have gL := zt_L_A hA
  have hM := I.1
  have l1 : zv_lay 1 = (1, 8) := rfl
  have la := (zt_lab (zt_GG_ab S)).1
  have qC := qE8_letter (d + 27) 1 s p g
  have qR := qE9_letter (D + 27) 347 s p k
  by_cases p0 : p < 0
  · rw [if_pos p0, za_ref gL] at qC
    rw [if_pos p0, qL9_letter_22, za_isn hM (by decide)] at qR
    exact ⟨_, _, _, lC8_letter (zl_ob gL l1) qC, lC9_letter (zm_ob hM) qR⟩
  rw [if_neg p0, zm_e (zp_e3 hA S), zm_e (za_at (d := d + 26) hA S s)] at qC
  dsimp only at qC
  rw [if_neg p0, zm_e (zm_isState hM (D + 25) s)] at qR
  dsimp only at qR
  by_cases hs : zm_st (zv_I k 348) s
  rotate_left
  · rw [if_neg hs, if_pos rfl, za_ref gL] at qC
    rw [if_neg hs, if_pos rfl, qL9_letter_22, za_isn hM (by decide)] at qR
    exact ⟨_, _, _, lC8_letter (zl_ob gL l1) qC, lC9_letter (zm_ob hM) qR⟩
  obtain ⟨k1, i1, F1⟩ := zp_is hM
  have S1 := zt_GG_F S F1
  have M1 := zm_F_M F1 hM
  have U := zt_H_U (zt_GG_H S1)
  have W := zt_U_W U
  have e348 : zv_I k1 348 = zv_I k 348 := zm_F_a F1 348
  have hs1 : zm_st (zv_I k1 348) s := by rw [e348]; exact hs
  have lr := zt_r_l la hs.1
  obtain ⟨l, hl⟩ := (zt_line W hs1)
  obtain ⟨hl, _⟩ := hl
  have hD : za_D (zv_I k1 348) s ((zt_dc (zv_I k1 348) (s :: l)).map (zm_lt (zv_I k1 348))) := ⟨l, hl, rfl⟩
  obtain ⟨k2, e2, F2, n2, rl, dl⟩ := za_sees (D := D + 23) M1 rfl W hs1 hl
  have M2 := zm_F_M F2 M1
  have c2 : zv_I k2 348 = zv_I k1 348 := zm_F_a F2 348
  obtain ⟨en, _⟩ := za_D_n S1 hs1 hD
  rw [List.length_map] at en
  obtain ⟨i, rfl⟩ : ∃ i : Nat, p = i := ⟨p.toNat, by omega⟩
  have e12 : zv_I k2 347 12 = ((zt_dc (zv_I k1 348) (s :: l)).length : Int) := n2.2.2.2.2
  rw [if_pos hs, if_neg (za_r0 S hs), zm_e (zl_gI gL lr 12), en] at qC
  rw [if_pos hs, if_neg (by decide), qL9_letter_22, za_isy i1] at qR
  dsimp only at qR
  rw [zm_e e2, zm_e (zm_gI M2 12), e12] at qR
  by_cases ci : (i : Int) < ((zt_dc (zv_I k1 348) (s :: l)).length : Int)
  · have ci' : i < (zt_dc (zv_I k1 348) (s :: l)).length := by omega
    have hx : (zt_dc (zv_I k1 348) (s :: l))[i]? = some (zt_dc (zv_I k1 348) (s :: l))[i] := List.getElem?_eq_getElem ci'
    generalize (zt_dc (zv_I k1 348) (s :: l))[i] = x at hx
    have hm : x ∈ zm_row (zv_I k1 348) (s :: l) := (List.mem_filter.mp (List.mem_of_getElem? hx)).1
    have ok := (zt_line_u W hs1 hl)
    obtain ⟨r1, r2⟩ := zm_rp_in (zm_sn (zv_I k1 348) (s :: l)) (zm_row (zv_I k1 348) (s :: l)) i ci'
    have r3 : (zm_row (zv_I k1 348) (s :: l))[(zm_rp (zm_sn (zv_I k1 348) (s :: l)) (zm_row (zv_I k1 348) (s :: l)) i).toNat]? = some x := r2.trans hx
    have rp := zm_rowPlace M2 (D + 26) n2 (by omega) (n := (i : Int)) (by omega) (by omega)
    have xok := zm_row_ok (fun t ht => zm_st48 (ok.1.2.2.1 t ht)) ok.2.1 x hm
    have li := zm_letterIn M2 c2 (D + 25) n2.2.1 (by omega) r3 xok.1 (by omega)
    have e3 := za_letterAt (d := d + 25) gL U hs1 hD i
    have ev : za_nth ((zt_dc (zv_I k1 348) (s :: l)).map (zm_lt (zv_I k1 348))) i = zm_lt (zv_I k1 348) x := by
      rw [za_nth_in (by rw [List.length_map]; exact ci'), List.getElem_map]
      rw [List.getElem?_eq_getElem ci'] at hx
      rw [Option.some.inj hx]
    rw [if_pos ci, zm_e (zp_e3 hA S), zm_e e3, ev] at qC
    dsimp only at qC
    rw [za_giv gL] at qC
    rw [if_pos ci, zm_e rp] at qR
    dsimp only at qR
    rw [show ((zm_rp (zm_sn (zv_I k1 348) (s :: l)) (zm_row (zv_I k1 348) (s :: l)) i).toNat : Int) = zm_rp (zm_sn (zv_I k1 348) (s :: l)) (zm_row (zv_I k1 348) (s :: l)) i by omega] at li
    rw [zm_e li] at qR
    exact ⟨_, _, _, lC8_letter (zl_ob gL l1) qC, lC9_letter (zm_ob hM) qR⟩
  · rw [if_neg ci, za_ref gL] at qC
    rw [if_neg ci, za_rf M2] at qR
    exact ⟨_, _, _, lC8_letter (zl_ob gL l1) qC, lC9_letter (zm_ob hM) qR⟩
/-- in force -/
theorem zp_force {d D : Nat} (hA : zc_A g) (I : zm_MI k) (S : zt_GG m a b g k) (s t : Int) : ∃ v g' k', C8_force (d + 28) 1 s t g = some (v, g') ∧ C9_force (D + 28) 347 s t k = some (v, k') := by
  have gL := zt_L_A hA
  have hM := I.1
  have l1 : zv_lay 1 = (1, 8) := rfl
  have la := (zt_lab (zt_GG_ab S)).1
  have qC := qE8_force (d + 27) 1 s t g
  rw [zm_e (zp_e3 hA S), zm_e (za_at (d := d + 26) hA S s)] at qC
  dsimp only at qC
  rw [zm_e (zp_e3 hA S), zm_e (za_at (d := d + 26) hA S t)] at qC
  dsimp only at qC
  have qR := qE9_force (D + 27) 347 s t k
  rw [zm_e (zm_isState hM (D + 25) s)] at qR
  dsimp only at qR
  by_cases hs : zm_st (zv_I k 348) s
  rotate_left
  · rw [if_neg hs, if_pos rfl, qL8_force_28, za_ref gL] at qC
    rw [if_neg hs, if_pos rfl, qL9_force_17, qL9_force_43, za_isn hM (by decide)] at qR
    exact ⟨_, _, _, lC8_force (zl_ob gL l1) qC, lC9_force (zm_ob hM) qR⟩
  rw [if_pos hs, if_neg (za_r0 S hs)] at qC
  rw [if_pos hs, if_neg (by decide), zm_e (zm_isState hM (D + 25) t)] at qR
  dsimp only at qR
  by_cases ht : zm_st (zv_I k 348) t
  rotate_left
  · rw [if_neg ht, if_pos rfl, qL8_force_28, za_ref gL] at qC
    rw [if_neg ht, if_pos rfl, qL9_force_17, qL9_force_43, za_isn hM (by decide)] at qR
    exact ⟨_, _, _, lC8_force (zl_ob gL l1) qC, lC9_force (zm_ob hM) qR⟩
  have U := zt_H_U (zt_GG_H S)
  have W := zt_U_W U
  obtain ⟨l, hl, ok, G, _, _⟩ := zt_line W ht
  obtain ⟨g', ew, gL', q', wk⟩ := zt_walk (d := d + 25) gL U ht hl
  have U' := zt_U_q U q'
  have e5 : zv_gR g a 0 5 = some (a + 8) := zl_gF gL la 5 8
  have l8 := (zt_row_l la).1
  have s47 := hs.1
  have sb : (s.toNat : Int) = s := by omega
  rw [if_pos ht, if_neg (za_r0 S ht), zm_e (zp_e3 hA S), zm_e e5, zm_e ew, zm_e (zl_gJ gL' l8 8), zm_e (zt_bitr (d := d + 26) gL' U' hs)] at qC
  dsimp only at qC
  rw [if_pos ht, if_neg (by decide), zm_e (zm_isEdit hM (D + 25) (zm_st48 hs))] at qR
  dsimp only at qR
  have bt := zt_lcmp_bt (zv_J g' (a + 8) 8) (n := s.toNat) (by omega)
  have ac := zt_wk_ac wk s.toNat (by omega)
  rw [sb] at ac
  by_cases he : zm_ed (zv_I k 348) s
  rotate_left
  · have nb : zt_b (zv_J g' (a + 8) 8) s.toNat = false := by
      cases e : zt_b (zv_J g' (a + 8) 8) s.toNat with
      | false => rfl
      | true => exact absurd (ac.mp e).2.2 he
    rw [if_pos (bt.mpr nb), za_ref gL'] at qC
    rw [if_neg he, if_pos rfl, qL9_force_38, qL9_force_43, za_isn hM (by decide)] at qR
    exact ⟨_, _, _, lC8_force (zl_ob gL l1) qC, lC9_force (zm_ob hM) qR⟩
  rw [if_pos he, if_neg (by decide), zm_e (zm_isOfLine hM (D + 25) s hl)] at qR
  dsimp only at qR
  by_cases hi : s ∈ t :: l
  rotate_left
  · have nb : zt_b (zv_J g' (a + 8) 8) s.toNat = false := by
      cases e : zt_b (zv_J g' (a + 8) 8) s.toNat with
      | false => rfl
      | true => exact absurd (ac.mp e).2.1 hi
    rw [if_pos (bt.mpr nb), za_ref gL'] at qC
    rw [if_neg hi, if_pos rfl, qL9_force_38, qL9_force_43, za_isn hM (by decide)] at qR
    exact ⟨_, _, _, lC8_force (zl_ob gL l1) qC, lC9_force (zm_ob hM) qR⟩
  have yb : zt_b (zv_J g' (a + 8) 8) s.toNat = true := ac.mpr ⟨by omega, hi, he⟩
  obtain ⟨k1, i1, F1⟩ := zp_is hM
  have M1 := zm_F_M F1 hM
  have e348 : zv_I k1 348 = zv_I k 348 := zm_F_a F1 348
  obtain ⟨k2, e2, F2, n2, _, _⟩ := za_sees (D := D + 23) M1 e348 W ht hl
  have M2 := zm_F_M F2 M1
  have fc := n2.2.2.1 s hi
  have bt9 := zt_lcmp_bt (zv_J g' (a + 8) 9) (n := s.toNat) (by omega)
  have fo := zt_wk_fo wk s.toNat (by omega)
  rw [sb] at fo
  rw [if_neg (fun q => by rw [bt.mp q] at yb; cases yb), zm_e (zl_gJ gL' l8 9), zm_e (zt_bitr (d := d + 26) gL' U' hs)] at qC
  dsimp only at qC
  rw [if_pos hi, if_neg (by decide), qL9_force_43, za_isy i1] at qR
  dsimp only at qR
  rw [zm_e e2, zm_e (zm_gR M2 rfl rfl : zv_gR k2 347 9 8 = some 354), zm_e (zm_aB M2 (show zv_lay 354 = (3, 49) from rfl) (Or.inl rfl) rfl (by omega) (by omega)), fc] at qR
  by_cases hf : zm_fc (zv_I k 348) (t :: l) s = 1
  · have fb : zt_b (zv_J g' (a + 8) 9) s.toNat = true := fo.mpr ⟨by omega, hi, he, hf⟩
    rw [if_neg (fun q => by rw [bt9.mp q] at fb; cases fb), qL8_force_92, za_giv gL'] at qC
    rw [hf, if_neg (by decide)] at qR
    exact ⟨_, _, _, lC8_force (zl_ob gL l1) qC, lC9_force (zm_ob hM) qR⟩
  · have fb : zt_b (zv_J g' (a + 8) 9) s.toNat = false := by
      cases e : zt_b (zv_J g' (a + 8) 9) s.toNat with
      | false => rfl
      | true => exact absurd (fo.mp e).2.2.2 hf
    have f0 := (zm_fc_01 (zv_I k 348) s (t :: l)).resolve_right hf
    rw [if_pos (bt9.mpr fb), qL8_force_92, za_giv gL'] at qC
    rw [f0, if_pos rfl] at qR
    exact ⟨_, _, _, lC8_force (zl_ob gL l1) qC, lC9_force (zm_ob hM) qR⟩
end
