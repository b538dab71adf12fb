/-! ===== the tie: turning, in the class ===== -/
section
variable {a : Nat} {c : Nat → Int} {g : zv_H}
theorem zt_C4_idAt {d : Nat} (gL : zt_L g) (la : zv_lay a = (1, 0)) {R : List (Int × Int)} (sz : zv_I g (a + 8) 6 = R.length) (id : ∀ (k : Nat) (p : Int × Int), R[k]? = some p → zv_I g (a + 10) k = zt_id p) (hn : R.length ≤ 604) {i : Nat} {x : Int × Int} (hx : R[i]? = some x) : C4_idAt (d + 1) (a + 8) i g = some (zt_id x, g) := by
  obtain ⟨l8, _, l10, _⟩ := zt_row_l la
  have il := zm_lt_of_get hx
  refine lC4_idAt (zl_ob gL l8) ?_
  rw [qE4_idAt, if_neg (by omega), zm_e (zl_gI gL l8 6), sz, if_pos (by omega), if_pos (by omega), zm_e (zl_gF gL l8 1 2), show a + 8 + 2 = a + 10 from rfl, zm_e (zl_aI gL l10 (by omega) (by omega)), show ((i : Nat) : Int).toNat = i by omega, id i x hx]
theorem zt_C4_seesAt {d : Nat} (gL : zt_L g) (la : zv_lay a = (1, 0)) {R : List (Int × Int)} (sz : zv_I g (a + 8) 6 = R.length) {f : Int × Int → Bool} (se : ∀ (k : Nat) (p : Int × Int), R[k]? = some p → zv_I g (a + 11) k = if f p = true then 1 else 0) (hn : R.length ≤ 604) {i : Nat} {x : Int × Int} (hx : R[i]? = some x) : C4_seesAt (d + 1) (a + 8) i g = some ((if f x = true then 1 else 0), g) := by
  obtain ⟨l8, _, l10, l11, _⟩ := zt_row_l la
  have il := zm_lt_of_get hx
  refine lC4_seesAt (zl_ob gL l8) ?_
  rw [qE4_seesAt, if_neg (by omega), zm_e (zl_gI gL l8 6), sz, if_pos (by omega), if_pos (by omega), zm_e (zl_gF gL l8 2 3), show a + 8 + 3 = a + 11 from rfl, zm_e (zl_aB gL l11 (by omega) (by omega)), show ((i : Nat) : Int).toNat = i by omega, se i x hx]
  by_cases e : f x = true
  · rw [if_pos e, if_neg (by decide)]
  · rw [if_neg e, if_pos rfl]
theorem zt_turn65 {d : Nat} {g0 : zv_H} {S : Nat} {R : List (Int × Int)} {f : Int × Int → Bool} {num : Int} (gL : zt_L g0) (la : zv_lay a = (1, 0)) (lS : zv_lay S = (1, 5)) (nS : ∀ n, n ≤ 27 → n ≠ 1 → n ≠ 2 → n ≠ 3 → a + n ≠ S ∧ a + n ≠ S + 2) (hn : R.length ≤ 604) (h120 : (R.filter f).length ≤ 120) (n0 : zv_I g0 S 0 = num) (sz : zv_I g0 (a + 8) 6 = R.length) (id : ∀ (k : Nat) (p : Int × Int), R[k]? = some p → zv_I g0 (a + 10) k = zt_id p) (se : ∀ (k : Nat) (p : Int × Int), R[k]? = some p → zv_I g0 (a + 11) k = if f p = true then 1 else 0) : ∀ (b A : List (Int × Int)), A ++ b = R → ∀ g, zt_ad a g0 S (A.filter f) (fun k => zv_I g0 (a + 5) k) g → ∃ g', L0_turn_65 (d + 1) a S A.length g = some (some (zv_i num), g') ∧ zt_ad a g0 S (R.filter f) (fun k => zv_I g0 (a + 5) k) g' := by
  intro b
  induction b with
  | nil =>
    intro A e g D
    rw [List.append_nil] at e
    subst e
    have L1 := zt_ad_L D gL
    have l8 := (zt_row_l la).1
    have i6 : zv_I g (a + 8) 6 = A.length := (zt_ad_i D _ _ (fun q => (nS 8 (by decide) (by decide) (by decide) (by decide)).1 q.1) (nS 8 (by decide) (by decide) (by decide) (by decide)).2 (by omega)).trans sz
    refine ⟨g, ?_, D⟩
    rw [qL0_turn_65, zm_e (zl_gF L1 la 5 8), zm_e (zl_gI L1 l8 6), i6, if_neg (by omega), zm_e (zl_gI L1 lS 0), zt_ad_i D S 0 (fun q => absurd q.2 (by decide)) (by omega) (fun q => (nS 5 (by decide) (by decide) (by decide) (by decide)).1 q.symm), n0]
  | cons x b ih =>
    intro A e g D
    have L1 := zt_ad_L D gL
    have l8 := (zt_row_l la).1
    have hx : R[A.length]? = some x := by
      rw [← e, List.getElem?_append_right (Nat.le_refl _), Nat.sub_self]
      rfl
    have il := zm_lt_of_get hx
    have fr : ∀ n k, n = 8 ∨ n = 10 ∨ n = 11 → zv_I g (a + n) k = zv_I g0 (a + n) k := fun n k hn => zt_ad_i D _ _ (fun q => (nS n (by omega) (by omega) (by omega) (by omega)).1 q.1) (nS n (by omega) (by omega) (by omega) (by omega)).2 (by omega)
    have sz1 : zv_I g (a + 8) 6 = R.length := (fr 8 6 (by omega)).trans sz
    have id1 : ∀ (k : Nat) (p : Int × Int), R[k]? = some p → zv_I g (a + 10) k = zt_id p := fun k p hp => (fr 10 k (by omega)).trans (id k p hp)
    have se1 : ∀ (k : Nat) (p : Int × Int), R[k]? = some p → zv_I g (a + 11) k = if f p = true then 1 else 0 := fun k p hp => (fr 11 k (by omega)).trans (se k p hp)
    have e' : (A ++ [x]) ++ b = R := by rw [List.append_assoc]; exact e
    have w1 : zv_w ((A.length : Int) + 1) = (((A ++ [x]).length : Nat) : Int) := by
      rw [List.length_append, zm_w (by omega)]
      rfl
    rw [qL0_turn_65, zm_e (zl_gF L1 la 5 8), zm_e (zl_gI L1 l8 6), sz1, if_pos (by omega), zm_e (zl_gF L1 la 5 8), zm_e (zt_C4_seesAt L1 la sz1 se1 hn hx), w1]
    dsimp only
    by_cases fx : f x = true
    · have ef : (A ++ [x]).filter f = A.filter f ++ [x] := by rw [List.filter_append, List.filter_cons_of_pos fx]; rfl
      have lt : (A.filter f).length < 120 := by
        have e2 : R.filter f = (A.filter f ++ [x]) ++ b.filter f := by rw [← e', List.filter_append, ef]
        rw [e2, List.length_append, List.length_append, List.length_singleton] at h120
        omega
      rw [if_pos fx, if_neg (by decide), zm_e (zl_gF L1 la 5 8), zm_e (zt_C4_idAt L1 la sz1 id1 hn hx)]
      dsimp only
      rw [zm_e (zt_C5_addId L1 lS (zt_ad_n D) lt _)]
      refine ih (A ++ [x]) e' _ ?_
      rw [ef]
      exact zt_ad_a D (fun q => (nS 5 (by decide) (by decide) (by decide) (by decide)).2 q.symm) (fun q => (nS 5 (by decide) (by decide) (by decide) (by decide)).1 q.symm) x
    · have ef : (A ++ [x]).filter f = A.filter f := by rw [List.filter_append, List.filter_cons_of_neg fx, List.filter_nil, List.append_nil]
      rw [if_neg fx, if_pos rfl]
      refine ih (A ++ [x]) e' _ ?_
      rw [ef]
      exact D
/-- a turned State's own -/
def zt_tn (a : Nat) (h : zv_H) (s : Int) (nm : Int64) (E : List (Int × Int)) (g : zv_H) : Prop := (zv_I g (zt_r a s) 15 = -1) ∧ (zv_J g (zt_r a s) 16 = nm) ∧ (zv_J g (zt_r a s) 17 = Int64.ofNat 0) ∧ (zv_I g (zt_r a s) 12 = E.length) ∧ (∀ (k : Nat) (x : Int × Int), E[k]? = some x → zv_I g (zt_r a s + 2) k = zt_id x) ∧ (∀ k, zv_I g (a + 5) k = zv_I h (a + 5) k)
theorem zt_tn_an {a : Nat} {h : zv_H} {s : Int} {nm : Int64} {E : List (Int × Int)} {g : zv_H} (t : zt_tn a h s nm E g) : zv_I g (zt_r a s) 15 = -1 := t.1
theorem zt_tn_nd {a : Nat} {h : zv_H} {s : Int} {nm : Int64} {E : List (Int × Int)} {g : zv_H} (t : zt_tn a h s nm E g) : zv_J g (zt_r a s) 16 = nm := t.2.1
theorem zt_tn_bs {a : Nat} {h : zv_H} {s : Int} {nm : Int64} {E : List (Int × Int)} {g : zv_H} (t : zt_tn a h s nm E g) : zv_J g (zt_r a s) 17 = Int64.ofNat 0 := t.2.2.1
theorem zt_tn_ln {a : Nat} {h : zv_H} {s : Int} {nm : Int64} {E : List (Int × Int)} {g : zv_H} (t : zt_tn a h s nm E g) : zv_I g (zt_r a s) 12 = E.length := t.2.2.2.1
theorem zt_tn_dc {a : Nat} {h : zv_H} {s : Int} {nm : Int64} {E : List (Int × Int)} {g : zv_H} (t : zt_tn a h s nm E g) : ∀ (k : Nat) (x : Int × Int), E[k]? = some x → zv_I g (zt_r a s + 2) k = zt_id x := t.2.2.2.2.1
theorem zt_tn_gl {a : Nat} {h : zv_H} {s : Int} {nm : Int64} {E : List (Int × Int)} {g : zv_H} (t : zt_tn a h s nm E g) : ∀ k, zv_I g (a + 5) k = zv_I h (a + 5) k := t.2.2.2.2.2
theorem zt_turn {d : Nat} {h : zv_H} {l : List Int} (hl : zm_Ln c (c 0 :: l) (c 0)) (B : zt_B a c (c 0 :: l) h g) (w : zt_rw a c (c 0 :: l) g) (h0 : 0 ≤ zv_I h (a + 17) 4) (act : Int) (nm v : Int64) (hJ : ∀ t ∈ c 0 :: l, zt_b v t.toNat = true → zm_ed c t) : zm_R (C0_turn (d + 4) a act nm v g) (fun q => (q.1 < 0 ∧ zt_B a c (c 0 :: l) h q.2 ∧ ¬ (zm_nst c ≠ 48 ∧ ((zm_row c (c 0 :: l)).filter (zt_sj c (c 0 :: l) v)).length ≤ 120)) ∨ ((zm_nst c ≠ 48 ∧ ((zm_row c (c 0 :: l)).filter (zt_sj c (c 0 :: l) v)).length ≤ 120) ∧ ∃ g5 s, zt_B a c (c 0 :: l) h g5 ∧ zt_free c s ∧ q.1 = s ∧ zt_nn a c g5 s act (-1) (zt_pop nm) s q.2 ∧ zt_tn a g5 s nm ((zm_row c (c 0 :: l)).filter (zt_sj c (c 0 :: l) v)) q.2)) := by
  have gL := zt_B_L B
  have U := zt_B_U B
  have la := zt_U_la U
  have W := zt_U_W U
  have l8 := (zt_row_l la).1
  obtain ⟨ok, g0, gt, W1⟩ := zt_line_u W W.2.1 hl
  have nst := zt_nst_le W
  refine zm_cI (P := fun x q2 => (x < 0 ∧ zt_B a c (c 0 :: l) h q2 ∧ ¬ (zm_nst c ≠ 48 ∧ ((zm_row c (c 0 :: l)).filter (zt_sj c (c 0 :: l) v)).length ≤ 120)) ∨ ((zm_nst c ≠ 48 ∧ ((zm_row c (c 0 :: l)).filter (zt_sj c (c 0 :: l) v)).length ≤ 120) ∧ ∃ g5 s, zt_B a c (c 0 :: l) h g5 ∧ zt_free c s ∧ x = s ∧ zt_nn a c g5 s act (-1) (zt_pop nm) s q2 ∧ zt_tn a g5 s nm ((zm_row c (c 0 :: l)).filter (zt_sj c (c 0 :: l) v)) q2)) (fun e => lC0_turn (zl_ob gL la) e) ?_
  rw [qE0_turn, zm_e (zl_gI gL la 12), zt_U_ct U]
  refine zm_if (fun c48 => ?_) (fun q => zm_iI (Or.inl ⟨by decide, B, fun z => by have := z.1; omega⟩))
  obtain ⟨g5, e5, B5, w5, lo5⟩ := zt_look (d := d) v B w ok g0 gt hJ
  have L5 := zt_B_L B5
  have U5 := zt_B_U B5
  rw [zm_e (zl_gF gL la 5 8), zm_e e5, zm_e (zl_gF L5 la 5 8), zm_e (zl_gI L5 l8 7), zt_lo_sn lo5]
  refine zm_if (fun c120 => ?_) (fun q => zm_iI (Or.inl ⟨by decide, B5, fun z => q (by have := z.2; omega)⟩))
  have okp : zm_nst c ≠ 48 ∧ ((zm_row c (c 0 :: l)).filter (zt_sj c (c 0 :: l) v)).length ≤ 120 := ⟨by omega, by omega⟩
  obtain ⟨s, fr⟩ := zt_free_ex W okp.1
  have h05 : 0 ≤ zv_I g5 (a + 17) 4 := by
    rw [(zt_B_q B5).2.2.1 _ _ (zt_xN la (by omega)) (zt_in0 _)]
    exact h0
  have pr := zt_pop_r nm
  obtain ⟨⟨q1, g1⟩, e1, eq1, G⟩ := zt_grow (d := d + 1) (x := act) (y := -1) (z := zt_pop nm) L5 U5 h05 fr
  dsimp only at eq1 G
  subst eq1
  have L1 := zt_gw_L G
  have lS := zt_r_l la fr.1
  have ers : zt_r a s = zc_stt a s.toNat := zt_r_p fr.1.1
  rw [zm_e (zt_bitCount nm g5)]
  dsimp only
  rw [zm_e e1]
  dsimp only
  rw [if_neg (zc_nz lS), zm_e (zl_pJ L1 lS 16 _)]
  have eh := zt_U_he U5
  have eP : zt_r a (c 0) = zc_stt a (c 0).toNat := zt_r_p W.2.1.1.1
  have hb : ∀ j x n, n ≤ 27 → n ≠ 1 → n ≠ 2 → n ≠ 3 → x ≤ 2 → a + n ≠ zc_stt a j + x := fun j x n n0 n1 n2 n3 hx => zt_sepH n0 hx n1 n2 n3
  have fr8 : ∀ n k, n = 5 ∨ n = 8 ∨ n = 10 ∨ n = 11 → zv_I (zv_sJ g1 (zt_r a s) 16 nm) (a + n) k = zv_I g5 (a + n) k := fun n k hn => by
    show zv_I g1 (a + n) k = _
    refine zt_gw_oI G _ k (fun q => hb s.toNat 0 n (by omega) (by omega) (by omega) (by omega) (by decide) q) (fun q => ?_) (fun q => by omega) (fun q => by omega) (by omega) (by omega)
    rw [eh, eP] at q
    exact hb (c 0).toNat 0 n (by omega) (by omega) (by omega) (by omega) (by decide) q.1
  have n0 : zv_I (zv_sJ g1 (zt_r a s) 16 nm) (zt_r a s) 0 = s := by
    show zv_I g1 (zt_r a s) 0 = s
    rw [ers, zt_gw_s0 G]
    have := fr.1
    omega
  have r604 : (zm_row c (c 0 :: l)).length ≤ 604 := by
    have h1 := zm_row_le g0
    have h2 := ok.2.2.2
    omega
  have D0 : zt_ad a (zv_sJ g1 (zt_r a s) 16 nm) (zt_r a s) (([] : List (Int × Int)).filter (zt_sj c (c 0 :: l) v)) (fun k => zv_I (zv_sJ g1 (zt_r a s) 16 nm) (a + 5) k) (zv_sJ g1 (zt_r a s) 16 nm) := ⟨rfl, rfl, fun _ _ _ _ _ => rfl, by
    show zv_I g1 (zt_r a s) 12 = 0
    rw [ers]
    exact zt_gw_sc G, fun k x hx => (by cases hx), fun _ => rfl⟩
  obtain ⟨g', e6, D⟩ := zt_turn65 (d := d + 2) (g0 := zv_sJ g1 (zt_r a s) 16 nm) (S := zt_r a s) (R := zm_row c (c 0 :: l)) (f := zt_sj c (c 0 :: l) v) (num := s) L1 la lS (fun n m0 m1 m2 m3 => by
    rw [ers]
    exact ⟨hb s.toNat 0 n m0 m1 m2 m3 (by decide), hb s.toNat 2 n m0 m1 m2 m3 (by decide)⟩) r604 okp.2 n0 ((fr8 8 6 (by omega)).trans (zt_rw_sz w5)) (fun k p hp => (fr8 10 k (by omega)).trans (zt_rw_id w5 k p hp)) (fun k p hp => (fr8 11 k (by omega)).trans (zt_lo_se lo5 k p hp)) (zm_row c (c 0 :: l)) [] (List.nil_append _) _ D0
  rw [show L0_turn_65 (d + 3) a (zt_r a s) 0 (zv_sJ g1 (zt_r a s) 16 nm) = _ from e6]
  have D' := D
  rw [ers] at D'
  have f1 := zt_ad_f1 D
  have f2 := zt_ad_f2 D
  have iD := zt_ad_i D'
  have N : zt_nn a c g5 s act (-1) (zt_pop nm) s g' := zt_nn_gen U5 fr rfl G (fun r k c1 _ c3 c4 _ => iD r k (fun q => c1 q.1) c3 c4) (fun k c1 _ => iD _ k (fun q => c1 q.2) (by omega) (fun q => hb s.toNat 0 5 (by decide) (by decide) (by decide) (by decide) (by decide) q.symm)) (fun r k c1 => by
    show g'.2.2.1 r k = _
    rw [f2]
    exact zy_Jn _ _ (fun q => c1 (by rw [q.1, ers]))) (fun r k => by
    show g'.2.2.2.1 r k = _
    rw [f2]; rfl) f1 (by rw [f2]; rfl)
  refine zm_iI (Or.inr ⟨okp, g5, s, B5, fr, rfl, N, ?_, ?_, ?_, zt_ad_n D, zt_ad_d D, fun k => (zt_ad_g D k).trans (fr8 5 k (by omega))⟩)
  · rw [zt_ad_i D _ 15 (fun q => absurd q.2 (by decide)) (by omega) (fun q => hb s.toNat 0 5 (by decide) (by decide) (by decide) (by decide) (by decide) (by rw [← ers]; exact q.symm))]
    show zv_I g1 (zt_r a s) 15 = -1
    rw [ers]
    exact zt_gw_sf G
  · show g'.2.2.1 _ _ = _
    rw [f2]
    exact zy_J _ _ _ _
  · show g'.2.2.1 _ _ = _
    rw [f2]
    refine (zy_Jn _ _ (fun q => absurd q.2 (by decide))).trans ?_
    rw [ers]
    exact zt_gw_jh G
end
