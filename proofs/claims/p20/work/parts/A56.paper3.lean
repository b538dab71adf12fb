/-! ===== the tie: merging on paper, both sides ===== -/
theorem zt_H_eq {a : Nat} {c c' : Nat → Int} {g : zv_H} (hA : zc_A g) (H : zt_H a c g) (e : ∀ k : Nat, k < 4236 → c' k = c k) : zt_H a c' g := by
  have U := zt_H_U H
  have W := zt_U_W U
  exact zt_H_hd H hA (zm_W_eq W e) (fun k _ k2 _ => e k k2) (e 0 (by decide)) (e 2 (by decide)) (e 4 (by decide)) (e 5 (by decide)) (fun k _ k2 => e k (Nat.lt_trans k2 (by decide))) (fun _ _ _ _ _ _ => rfl) (fun _ _ => rfl) (fun _ _ => rfl) ((zt_U_nw U).trans (e 1 (by decide)).symm) (zt_N_c (zt_H_N H) W.2.2.1.2 (e 3 (by decide)) (fun k _ k2 => e k (Nat.lt_trans k2 (by decide))) (fun _ _ _ _ => rfl))
theorem zm_mg_c {h : zv_H} {c : Nat → Int} (hM : zm_M h) (hc : zv_I h 348 = c) (W : zm_W c) (D : Nat) (s : Int) {q : Int × zv_H} (e : C9_mergeNow (D + 9) 347 s h = some q) : zv_I q.2 348 = c ∨ 0 ≤ q.1 := by
  obtain ⟨p, ep, _, _, w⟩ := zm_mergeNow hM hc W D s
  have ee : p = q := Option.some.inj (ep.symm.trans e)
  rw [ee] at w
  rcases w with w | w
  · exact Or.inl w.2
  · exact Or.inr w.1
/-- a merge on paper, on both sides -/
def zt_pp (a : Nat) (g : zv_H) (k : zv_H) (v : Int) (g' : zv_H) (v' : Int) (k' : zv_H) : Prop := (zt_a1 v v') ∧ (zc_X g g') ∧ (zt_k a g g') ∧ (zt_H a (zv_I k' 348) g') ∧ (zv_I k' 348 1 = zv_I k 348 1 ∧ zv_I k' 348 2 = zv_I k 348 2) ∧ (zm_F [348, 350, 351, 352, 353, 354, 355, 358, 359, 360, 362, 363, 364] [3, 10, 11, 12, 19, 24] k k')
theorem zt_pp_a1 {a : Nat} {g : zv_H} {k : zv_H} {v : Int} {g' : zv_H} {v' : Int} {k' : zv_H} (t : zt_pp a g k v g' v' k') : zt_a1 v v' := t.1
theorem zt_pp_X {a : Nat} {g : zv_H} {k : zv_H} {v : Int} {g' : zv_H} {v' : Int} {k' : zv_H} (t : zt_pp a g k v g' v' k') : zc_X g g' := t.2.1
theorem zt_pp_k {a : Nat} {g : zv_H} {k : zv_H} {v : Int} {g' : zv_H} {v' : Int} {k' : zv_H} (t : zt_pp a g k v g' v' k') : zt_k a g g' := t.2.2.1
theorem zt_pp_H {a : Nat} {g : zv_H} {k : zv_H} {v : Int} {g' : zv_H} {v' : Int} {k' : zv_H} (t : zt_pp a g k v g' v' k') : zt_H a (zv_I k' 348) g' := t.2.2.2.1
theorem zt_pp_g {a : Nat} {g : zv_H} {k : zv_H} {v : Int} {g' : zv_H} {v' : Int} {k' : zv_H} (t : zt_pp a g k v g' v' k') : zv_I k' 348 1 = zv_I k 348 1 ∧ zv_I k' 348 2 = zv_I k 348 2 := t.2.2.2.2.1
theorem zt_pp_F {a : Nat} {g : zv_H} {k : zv_H} {v : Int} {g' : zv_H} {v' : Int} {k' : zv_H} (t : zt_pp a g k v g' v' k') : zm_F [348, 350, 351, 352, 353, 354, 355, 358, 359, 360, 362, 363, 364] [3, 10, 11, 12, 19, 24] k k' := t.2.2.2.2.2
theorem zj_paper {d D : Nat} {a : Nat} {c : Nat → Int} {g k : zv_H} (hA : zc_A g) (H : zt_H a c g) (hM : zm_M k) (hc : zv_I k 348 = c) (b : c 2 < 1999999000) {s : Int} (rs : zv_rg s) (w : Int) : ∃ v g' v' k', C0_mergeOnPaper (d + 7) a s w g = some (v, g') ∧ L9_merges_25 (D + 9) 347 s w 0 k = some (some (zv_i v'), k') ∧ zt_pp a g k v g' v' k' := by
  have U := zt_H_U H
  have W := zt_U_W U
  have la := zt_U_la U
  have gL := zt_L_A hA
  obtain ⟨g1, e1, f1, kp1, kp2, kp3⟩ := zt_keep (d := d + 5) la gL
  have hA1 : zc_A g1 := by
    obtain ⟨q, e, w⟩ := zc_C6_keep (d := d + 5) hA (zt_vl la).1
    rw [e1] at e
    cases e
    exact w.2
  have H1 := zt_H_y H f1
  obtain ⟨k1, e2, F1, p1⟩ := zm_merges25 (D + 9) s w 4236 0 k rfl hM (fun x hx => absurd hx (Nat.not_lt_zero _))
  have hM1 := zm_F_M F1 hM
  have c1 : zv_I k1 348 = c := (zm_F_a F1 348).trans hc
  obtain ⟨⟨v, g2⟩, ⟨v', k2⟩, z1, z2, Z, mg⟩ := zj_merge (d := d) (D := D) hA1 H1 hM1 c1 b rs
  have hA2 : zc_A g2 := (zt_Z_X Z).2
  have gL2 := zt_L_A hA2
  obtain ⟨p, ep, Fm, W2, _⟩ := zm_mergeNow hM1 c1 W D s
  have ee' : p = (v', k2) := Option.some.inj (ep.symm.trans z2)
  rw [ee'] at Fm W2
  dsimp only at Fm W2
  have hM2 := zm_F_M Fm hM1
  have H2 := zt_Z_H Z
  have U2 := zt_H_U H2
  have kk2 := zt_Z_k Z
  dsimp only at H2 U2 kk2
  have F12 : zm_F [348, 350, 351, 352, 353, 354, 355, 358, 359, 360, 362, 363, 364] [3, 10, 11, 12, 19, 24] k k2 := zm_F_t (zm_F_s F1 rfl rfl) (zm_F_s Fm rfl rfl)
  have p2 : ∀ x : Nat, x < 4236 → zv_I k2 350 x = c x := fun x hx => by rw [zm_F_a Fm 350, p1 x hx, hc]
  obtain ⟨q0, eq0, X0, _⟩ := zc_C0_mergeOnPaper (d := d) (y := w) hA la rs
  have top : ∀ {R1 R2 : zv_O} {r : Int × zv_H} {r' : Int × zv_H}, (if v < 0 then (some (some (zv_i v), g2) : zv_O) else (if w = 0 then L0_mergeOnPaper_60 (d + 6) a (zt_r a (c 0)) v v 0 g2 else (if w = 1 then ((zv_gI g2 a 0 13).bind fun v5 => L0_mergeOnPaper_60 (d + 6) a (zt_r a (c 0)) v v5 0 g2) else ((zv_gR g2 a 0 10).bind fun v6 => ((zv_gI g2 v6 5 12).bind fun v7 => L0_mergeOnPaper_60 (d + 6) a (zt_r a (c 0)) v v7 0 g2))))) = R1 → R1 = some (some (zv_i r.1), r.2) → (if v' < 0 then (some (some (zv_i (-1)), k2) : zv_O) else (if w = 0 then L9_merges_94 (D + 9) 347 v' 0 k2 else (if w = 1 then ((zv_gI k2 347 9 24).bind fun v6 => L9_merges_94 (D + 9) 347 v6 0 k2) else ((C9_here (D + 9) 347 k2).bind fun q7 => ((C9_lettersOf (D + 9) 347 q7.1 q7.2).bind fun q8 => L9_merges_94 (D + 9) 347 q8.1 0 q8.2))))) = R2 → R2 = some (some (zv_i r'.1), r'.2) → C0_mergeOnPaper (d + 7) a s w g = some r ∧ L9_merges_25 (D + 9) 347 s w 0 k = some (some (zv_i r'.1), r'.2) := fun {R1 R2 r r'} h1 h2 h3 h4 => by
    constructor
    · refine lC0_mergeOnPaper (zl_ob gL la) ?_
      rw [qE0_mergeOnPaper, zm_e (zl_gR gL la 10), zt_U_he U, zm_e (zl_gF gL la 7 17), zm_e e1, zm_e z1]
      exact h1.trans h2
    · rw [show L9_merges_25 (D + 9) 347 s w 0 k = _ from e2, qL9_merges_25, if_neg (by decide), zm_e z2]
      exact h3.trans h4
  rcases zt_Z_a1 Z with ⟨v0, v1⟩ | ⟨v0, v1⟩
  · dsimp only at v0 v1
    have eg : g2 = g1 := zt_mg_no mg v0
    have ec : zv_I k2 348 = c := by
      rcases zm_mg_c hM1 c1 W D s z2 with q | q
      · exact q
      · exact absurd (v1 ▸ q : (0 : Int) ≤ -1) (by decide)
    obtain ⟨y1, y2⟩ := top (r := (v, g2)) (r' := (-1, k2)) rfl (if_pos v0) rfl (if_pos (by rw [v1]; decide))
    have ee : q0 = (v, g2) := Option.some.inj (eq0.symm.trans y1)
    rw [ee] at X0
    exact ⟨v, g2, -1, k2, y1, y2, Or.inl ⟨v0, rfl⟩, X0, zt_k_t (zt_hy_k la f1) kk2, H2, by rw [ec, hc]; exact ⟨rfl, rfl⟩, F12⟩
  · dsimp only at v0 v1
    obtain ⟨lo, cn, v48, lo0⟩ := zt_mg_so mg v0
    dsimp only at lo cn v48 lo0
    have kpm := zt_mg_kp mg
    dsimp only at kpm
    obtain ⟨m, em⟩ : ∃ m : Nat, v = m := ⟨v.toNat, (Int.toNat_of_nonneg v0).symm⟩
    have em2 : v.toNat = m := by rw [em]; exact Int.toNat_natCast m
    rw [em2] at cn
    have m48 : m ≤ 48 := by rw [em] at v48; exact Int.ofNat_le.mp v48
    have nv : ¬ v < 0 := Int.not_lt.mpr v0
    have nv' : ¬ v' < 0 := by rw [v1]; exact nv
    -- the class gives all back
    have back : ∀ x : Int, ∃ g', L0_mergeOnPaper_60 (d + 6) a (zt_r a (c 0)) v x 0 g2 = some (some (zv_i x), g') ∧ zt_H a c g' ∧ zt_k a g g' ∧ zc_A g' := fun x => by
      obtain ⟨g3, y1, y2, y3, y4, y5, y6, y7⟩ := zt_paper_l (d := d) (a := a) (c0 := c) W.2.1 x m48 m 0 (zv_I k2 348) g2 (Nat.zero_add _) cn hA2 U2 (zt_H_J H2) (zt_H_N H2)
      have gL3 := zt_L_A y2
      obtain ⟨g4, e4, B⟩ := zt_giveB (d := d + 5) la gL3
      have hA4 : zc_A g4 := by
        obtain ⟨q, e, w⟩ := zc_C6_giveBack (d := d + 5) y2 (zt_vl la).1
        rw [e4] at e
        cases e
        exact w.2
      refine ⟨g4, ?_, zt_H_gb H y3 y4 y5 B (fun j hj => ?_) (fun j hj => ?_) ?_, zt_k_t (zt_hy_k la f1) (zt_k_t kk2 (zt_k_t y6 (zt_gb_k la B))), hA4⟩
      · rw [em]
        refine (show L0_mergeOnPaper_60 (d + 6) a (zt_r a (c 0)) (m : Int) x 0 g2 = _ from y1).trans ?_
        rw [qL0_mergeOnPaper_112, zm_e (zl_gF gL3 la 7 17), zm_e e4]
      · rw [y7 20 j (Or.inl rfl), kpm 20 j (Or.inl rfl), kp1 j hj]
      · rw [y7 21 j (Or.inr (Or.inl rfl)), kpm 21 j (Or.inr (Or.inl rfl)), kp2 j hj]
      · rw [y7 17 5 (Or.inr (Or.inr ⟨rfl, rfl⟩)), kpm 17 5 (Or.inr (Or.inr ⟨rfl, rfl⟩)), kp3]
    -- so does the reference
    have rback : ∀ (x : Int) (k3 : zv_H), zm_F [351, 352, 353, 354, 355] [10, 11, 12] k2 k3 → ∃ k', L9_merges_94 (D + 9) 347 x 0 k3 = some (some (zv_i x), k') ∧ (∀ j : Nat, j < 4236 → zv_I k' 348 j = c j) ∧ zm_F [348, 350, 351, 352, 353, 354, 355, 358, 359, 360, 362, 363, 364] [3, 10, 11, 12, 19, 24] k k' := fun x k3 F3 => by
      obtain ⟨k5, e5, F5, q5⟩ := zm_merges94 (D + 9) x 4236 0 k3 rfl (zm_F_M F3 hM2) (fun x hx => absurd hx (Nat.not_lt_zero _))
      exact ⟨k5, e5, fun j hj => by rw [q5 j hj, zm_F_a F3 350]; exact p2 j hj, zm_F_t F12 (zm_F_t (zm_F_s F3 rfl rfl) (zm_F_s F5 rfl rfl))⟩
    have fin : ∀ (x : Int) (k3 : zv_H), 0 ≤ x → zm_F [351, 352, 353, 354, 355] [10, 11, 12] k2 k3 → (∀ {r : Int × zv_H} {r' : Int × zv_H}, L0_mergeOnPaper_60 (d + 6) a (zt_r a (c 0)) v x 0 g2 = some (some (zv_i r.1), r.2) → L9_merges_94 (D + 9) 347 x 0 k3 = some (some (zv_i r'.1), r'.2) → C0_mergeOnPaper (d + 7) a s w g = some r ∧ L9_merges_25 (D + 9) 347 s w 0 k = some (some (zv_i r'.1), r'.2)) → ∃ v g' v' k', C0_mergeOnPaper (d + 7) a s w g = some (v, g') ∧ L9_merges_25 (D + 9) 347 s w 0 k = some (some (zv_i v'), k') ∧ zt_pp a g k v g' v' k' := fun x k3 x0 F3 how => by
      obtain ⟨g', y1, y2, y3, y4⟩ := back x
      obtain ⟨k', u1, u2, u3⟩ := rback x k3 F3
      obtain ⟨t1, t2⟩ := how (r := (x, g')) (r' := (x, k')) y1 u1
      have ee : q0 = (x, g') := Option.some.inj (eq0.symm.trans t1)
      rw [ee] at X0
      exact ⟨x, g', x, k', t1, t2, Or.inr ⟨x0, rfl⟩, X0, y3, zt_H_eq y4 y2 u2, ⟨by rw [u2 1 (by decide), hc], by rw [u2 2 (by decide), hc]⟩, u3⟩
    by_cases w0 : w = 0
    · exact fin v k2 v0 (zm_F_r _ _ k2) (fun h1 h2 => top rfl (by rw [if_neg nv, if_pos w0]; exact h1) rfl (by rw [if_neg nv', if_pos w0, v1]; exact h2))
    · by_cases w1 : w = 1
      · exact fin (zv_I k2 347 24) k2 lo0 (zm_F_r _ _ k2) (fun h1 h2 => top rfl (by rw [if_neg nv, if_neg w0, if_pos w1, zm_e (zl_gI gL2 la 13), lo]; exact h1) rfl (by rw [if_neg nv', if_neg w0, if_pos w1, zm_e (zm_gI hM2 24)]; exact h2))
      · have hh2 := W2.2.1
        obtain ⟨l, hl, ok, g0, gt, WW⟩ := zt_line W2 hh2
        have S2 := zt_U_st U2 _ hh2
        have ln := zt_S_ln S2 l hl
        have l48 := ok.2.2.2
        obtain ⟨⟨n4, k4⟩, e4, a4, F4, _⟩ := zm_lettersOf hM2 (D + 4) (zm_sees hM2 rfl (D + 4) (s := zv_I k2 348 0) hh2.1.1 hl (Nat.le_succ_of_le l48) g0 gt)
        dsimp only at a4 F4
        have a4' : n4 = ((zt_dc (zv_I k2 348) (zv_I k2 348 0 :: l)).length : Int) := a4
        exact fin n4 k4 (by rw [a4']; exact Int.natCast_nonneg _) F4 (fun h1 h2 => top rfl (by rw [if_neg nv, if_neg w0, if_neg w1, zm_e (zl_gR gL2 la 10), zt_U_he U2, zm_e (zl_gI gL2 (zt_r_l la hh2.1) 12), ln, ← a4']; exact h1) rfl (by rw [if_neg nv', if_neg w0, if_neg w1, zm_e (zm_here hM2 _)]; dsimp only; rw [zm_e e4]; exact h2))
