/-! A50.merge -/
section
/-! ===== the tie: merging ===== -/
/-- beside zt_Z: what a merge on paper asks -/
def zt_mg (a : Nat) (c : Nat → Int) (g : zv_H) (q : Int × zv_H) (q' : Int × zv_H) : Prop := (∀ n j : Nat, (n = 20 ∨ n = 21 ∨ (n = 17 ∧ j = 5)) → zv_I q.2 (a + n) j = zv_I g (a + n) j) ∧ (q.1 < 0 → q.2 = g) ∧ (0 ≤ q.1 → zv_I q.2 a 13 = zv_I q'.2 347 24 ∧ zt_cn c q.1.toNat (zv_I q'.2 348) ∧ q.1 ≤ 48 ∧ 0 ≤ zv_I q'.2 347 24)
theorem zt_mg_kp {a : Nat} {c : Nat → Int} {g : zv_H} {q : Int × zv_H} {q' : Int × zv_H} (t : zt_mg a c g q q') : ∀ n j : Nat, (n = 20 ∨ n = 21 ∨ (n = 17 ∧ j = 5)) → zv_I q.2 (a + n) j = zv_I g (a + n) j := t.1
theorem zt_mg_no {a : Nat} {c : Nat → Int} {g : zv_H} {q : Int × zv_H} {q' : Int × zv_H} (t : zt_mg a c g q q') : q.1 < 0 → q.2 = g := t.2.1
theorem zt_mg_so {a : Nat} {c : Nat → Int} {g : zv_H} {q : Int × zv_H} {q' : Int × zv_H} (t : zt_mg a c g q q') : 0 ≤ q.1 → zv_I q.2 a 13 = zv_I q'.2 347 24 ∧ zt_cn c q.1.toNat (zv_I q'.2 348) ∧ q.1 ≤ 48 ∧ 0 ≤ zv_I q'.2 347 24 := t.2.2
theorem zt_mg_rf {a : Nat} {c : Nat → Int} {g : zv_H} {v : Int} (hv : v < 0) (q' : Int × zv_H) : zt_mg a c g (v, g) q' := ⟨fun _ _ _ => rfl, fun _ => rfl, fun h => absurd hv (Int.not_lt.mpr h)⟩
theorem zt_u9w {u : Int} (h : u < 1999999000) : u + 48 < 2000000000 := by omega
theorem zj_merge {d D : Nat} {a : Nat} {c : Nat → Int} {g k : zv_H} (hA : zc_A g) (H : zt_H a c g) (hM : zm_M k) (hc : zv_I k 348 = c) (b : c 2 < 1999999000) {s : Int} (rs : zv_rg s) : ∃ q q', C0_mergeIn (d + 6) a s g = some q ∧ C9_mergeNow (D + 9) 347 s k = some q' ∧ zt_Z a 48 g k q q' ∧ zt_mg a c g q q' := by
  have U := zt_H_U H
  have W := zt_U_W U
  have la := zt_U_la U
  have gL := zt_L_A hA
  have hh := W.2.1
  have ea := zt_at (d := d + 4) gL U s
  have ei := zm_isState hM (D + 6) s
  rw [hc] at ei
  by_cases hs : zm_st c s
  · rw [if_pos hs] at ea ei
    obtain ⟨lh, hlh, okh, _⟩ := zt_line W hh
    obtain ⟨l, hl, ok, g0, gt, W1⟩ := zt_line W hs
    have eo := zt_onLine (d := d + 4) gL U hs hh hlh
    have io := zm_isOfLine hM (D + 6) s (l := c 0 :: lh) (s := c 0) (by rw [hc]; exact hlh)
    by_cases hi : s ∈ c 0 :: lh
    · rw [if_pos hi] at eo io
      refine ⟨(-4, g), (-1, zv_sI k 347 3 4), lC0_mergeIn (zl_ob gL la) ?_, lC9_mergeNow (zm_ob hM) ?_, zt_Z_rf (by decide) hA H hc (by decide) 4, zt_mg_rf (by decide) _⟩
      · rw [qE0_mergeIn, zm_e ea]
        dsimp only
        rw [if_neg (zt_r0 U hs), zm_e (zl_gR gL la 10), zt_U_he U, zm_e eo]
        dsimp only
        rw [if_neg (by decide)]
      · rw [qE9_mergeNow, zm_e ei]
        dsimp only
        rw [if_neg (by decide), zm_e (zm_here hM _), hc]
        dsimp only
        rw [zm_e io]
        dsimp only
        rw [if_neg (by decide), zm_e (zm_refuse hM _ 4)]
    · rw [if_neg hi] at eo io
      have s48 := zm_st48 hs
      -- the class walks
      obtain ⟨g1, e1, gL1, Q1, wk1⟩ := zt_walk (d := d + 3) gL U hh hlh
      have hA1 : zc_A g1 := by
        obtain ⟨q, e, w⟩ := zc_C4_walk (d := d + 3) hA (zt_row_l la).1 (zt_U_V U hh)
        rw [e1] at e
        cases e
        exact w.2
      have U1 := zt_U_q U Q1
      obtain ⟨g2, e2, gL2, Q2, wk2⟩ := zt_walk (d := d + 3) gL1 U1 hs hl
      have hA2 : zc_A g2 := by
        obtain ⟨q, e, w⟩ := zc_C4_walk (d := d + 3) hA1 (zt_row_l la).1 (zt_U_V U1 hs)
        rw [e2] at e
        cases e
        exact w.2
      obtain ⟨g3, e3, f3, o3, w3⟩ := zt_stand (d := d + 4) la gL2
      have hA3 : zc_A g3 := by
        obtain ⟨q, e, w⟩ := zc_C0_standForThemselves (d := d + 4) hA2 la
        rw [e3] at e
        cases e
        exact w.2
      have gL3 := zt_L_A hA3
      have f4 : zt_hy a g2 (zv_sI g3 a 13 0) := zt_hy_sI f3 (Or.inl ⟨rfl, rfl⟩) _
      have hA4 : zc_A (zv_sI g3 a 13 0) := zt_A13 hA3 la (by unfold zv_rg; decide)
      have H4 : zt_H a c (zv_sI g3 a 13 0) := zt_H_y (zt_H_q (zt_H_q H Q1) Q2) f4
      have kk : zt_k a g (zv_sI g3 a 13 0) := zt_k_t (zt_q_k a (zt_q_t Q1 Q2)) (zt_hy_k la f4)
      have oq := zt_oh_q la (zt_q_t Q1 Q2)
      have kp : ∀ n j : Nat, (n = 20 ∨ n = 21 ∨ (n = 17 ∧ j = 5)) → zv_I (zv_sI g3 a 13 0) (a + n) j = zv_I g (a + n) j := fun n j z => (zy_In _ _ (fun w => zt_u7w z w)).trans ((o3 _ _ (fun w => zt_u8w z (Nat.add_left_cancel w))).trans (oq n j (Or.inr (Or.inr z))))
      have st4 : ∀ i : Nat, i < 48 → zv_I (zv_sI g3 a 13 0) (a + 6) i = i := fun i hi => (zy_In _ _ (fun w => absurd w.1 (by omega))).trans (w3 i hi)
      -- the reference looks
      obtain ⟨k1, es, Fs, Sn⟩ := zm_sees hM hc (D + 4) (s := s) hs.1.1 hl (Nat.le_succ_of_le ok.2.2.2) g0 gt
      have hM1 := zm_F_M Fs hM
      have c1 : zv_I k1 348 = c := (zm_F_a Fs 348).trans hc
      obtain ⟨k2, i2, F2, fl⟩ := zt_merge44 (D + 5) W hlh ok.2.2.1 ok.2.2.2 (s :: l).reverse [] rfl k1 hM1 c1 Sn.1.2 Sn.2.2.1 (fun j x hj => absurd hj (Nat.not_lt_zero _))
      have hM2 := zm_F_M F2 hM1
      have c2 : zv_I k2 348 = c := (zm_F_a F2 348).trans c1
      obtain ⟨k3, e5, F3, w5⟩ := zm_plain hM2 (D + 7)
      have hM3 := zm_F_M F3 hM2
      have F4 := zt_f24 hM3 0
      have hM4 := zm_F_M F4 hM3
      have c4 : zv_I (zv_sI k3 347 24 0) 348 = c := (zm_F_a F4 348).trans ((zm_F_a F3 348).trans c2)
      have n24 : zv_I (zv_sI k3 347 24 0) 347 24 = 0 := zy_I _ _ _ _
      have n13 : zv_I (zv_sI g3 a 13 0) a 13 = 0 := zy_I _ _ _ _
      have l48 := ok.2.2.2
      have bB : c 2 + (l.length : Int) ≤ c 2 + 48 := Int.add_le_add_left (Int.ofNat_le.mpr (Nat.le_of_succ_le l48)) _
      have b2 : c 2 + 48 < 2000000000 := zt_u9w b
      obtain ⟨v, g', k', y1, y2, ml⟩ := zj_mloop (d := d) (D := D) (B := c 2 + 48) W hs hl b2 (wd := zv_J g2 (a + 8) 9 &&& (zv_J g1 (a + 8) 8 ^^^ (-1 : Int64))) (fun x hx => zt_wf_b wk2.2.2.2 wk1.2.2.1 (ok.2.2.1 x hx).1 hx) l.length 1 0 c (zv_sI g3 a 13 0) (zv_sI k3 347 24 0) zt_id0 (Nat.add_comm 1 l.length) (Nat.le_refl 1) (Nat.lt_succ_self 0) hA4 H4 hM4 c4 (zm_ex_r c) (zt_sd_0 st4 (fun i hi => by rw [zm_F_a F4 362]; exact w5 i hi)) (fun j x hx => by rw [zm_F_a F4 363, zm_F_a F4 364, zm_F_a F3 363, zm_F_a F3 364]; exact fl j x hx) (by rw [n24]; decide) (by rw [n13, n24]) (Int.le_refl _) bB rfl rfl
      have z1 : C0_mergeIn (d + 6) a s g = some (v, g') := by
        refine lC0_mergeIn (zl_ob gL la) ?_
        rw [qE0_mergeIn, zm_e ea]
        dsimp only
        rw [if_neg (zt_r0 U hs), zm_e (zl_gR gL la 10), zt_U_he U, zm_e eo]
        dsimp only
        rw [if_pos rfl, zm_e (zl_gF gL la 5 8), zm_e (zl_gR gL la 10), zt_U_he U, zm_e e1, zm_e (zl_gF gL1 la 5 8), zm_e (zl_gJ gL1 (zt_row_l la).1 8), zm_e (zl_gF gL1 la 5 8), zm_e e2, zm_e (zl_gF gL2 la 5 8), zm_e (zl_gJ gL2 (zt_row_l la).1 9), zm_e e3, zm_e (zl_pI gL3 la 13 0)]
        exact y1
      have z2 : C9_mergeNow (D + 9) 347 s k = some (v, k') := by
        refine lC9_mergeNow (zm_ob hM) ?_
        rw [qE9_mergeNow, zm_e ei]
        dsimp only
        rw [if_neg (by decide), zm_e (zm_here hM _), hc]
        dsimp only
        rw [zm_e io]
        dsimp only
        rw [if_pos rfl, zm_e es, zm_e (zm_gI hM1 10), Sn.1.1, show L9_mergeNow_44 (D + 8) 347 _ 0 k1 = _ from i2, qL9_mergeNow_44, if_neg (Int.lt_irrefl _), zm_e e5, zm_e (zm_pI hM3 24 _)]
        exact y2
      obtain ⟨p, ep, X, _⟩ := zc_C0_mergeIn (d := d) hA la rs
      have ee : p = (v, g') := Option.some.inj (ep.symm.trans z1)
      rw [ee] at X
      obtain ⟨p', ep', Fm, _⟩ := zm_mergeNow hM hc W D s
      have ee' : p' = (v, k') := Option.some.inj (ep'.symm.trans z2)
      rw [ee'] at Fm
      have v0 := (zt_ml_v ml).1
      refine ⟨(v, g'), (v, k'), z1, z2, ⟨X.1, zt_k_t kk (zt_ml_k ml), zm_F_s Fm rfl rfl, Or.inr ⟨v0, rfl⟩, zt_ml_H ml, ?_, ?_⟩, fun n j z => (zt_ml_kp ml n j z).trans (kp n j z), fun h => absurd h (Int.not_lt.mpr v0), fun _ => ⟨zt_ml_lo ml, zt_ml_n ml, (zt_ml_v ml).2, zt_ml_l0 ml⟩⟩
      · rw [hc]
        have e := zt_ml_g1 ml
        dsimp only
        rw [e]
        exact ⟨Int.le_refl _, Int.le_add_of_nonneg_right (by decide)⟩
      · rw [hc]
        exact zt_ml_g2 ml
  · rw [if_neg hs] at ea ei
    refine ⟨(-2, g), (-1, zv_sI k 347 3 2), lC0_mergeIn (zl_ob gL la) ?_, lC9_mergeNow (zm_ob hM) ?_, zt_Z_rf (by decide) hA H hc (by decide) 2, zt_mg_rf (by decide) _⟩
    · rw [qE0_mergeIn, zm_e ea]
      rfl
    · rw [qE9_mergeNow, zm_e ei]
      dsimp only
      rw [if_pos rfl, zm_e (zm_refuse hM _ 2)]
end
/-! A51.rm -/
section
/-! ===== the tie: removing a State ===== -/
theorem zt_forget_l {d : Nat} {r : Nat} (lr : zv_lay r = (1, 6)) (lr1 : zv_lay (r + 1) = (2, 40)) (s : Int) : ∀ (n i : Nat) (g : zv_H), i + n = 40 → zt_L g → ∃ g', L6_forget_2 d r s i g = some (none, g') ∧ zt_o [r + 1] g g' ∧ ∀ k : Nat, k < 40 → zv_I g' (r + 1) k = if i ≤ k ∧ zv_I g (r + 1) k = s then -1 else zv_I g (r + 1) k := by
  intro n
  induction n with
  | zero =>
    intro i g hi gL
    have e : i = 40 := hi
    subst e
    refine ⟨g, ?_, zt_o_r _ g, fun k hk => ?_⟩
    · rw [qL6_forget_2, if_neg (by decide)]
    · rw [if_neg (fun q => by omega)]
  | succ n ih =>
    intro i g hi gL
    have w1 : zv_w ((i : Int) + 1) = ((i + 1 : Nat) : Int) := by
      rw [zm_w (by omega)]
      rfl
    have i40 : (i : Int) < ((40 : Nat) : Int) := by omega
    have e1 : zv_aI g (r + 1) (i : Int) = some (zv_I g (r + 1) i) := by rw [zl_aI gL lr1 (Int.natCast_nonneg _) i40, Int.toNat_natCast]
    by_cases c : zv_I g (r + 1) i = s
    · have o1 : zt_o [r + 1] g (zv_sI g (r + 1) i (-1)) := zt_o_I (zt_o_r _ g) (by simp) _ _
      obtain ⟨g', e, o, w⟩ := ih (i + 1) (zv_sI g (r + 1) i (-1)) (by omega) gL
      refine ⟨g', ?_, zt_o_t o1 o, fun k hk => ?_⟩
      · rw [qL6_forget_2, if_pos (show (i : Int) < 40 from i40), zm_e (zl_gF gL lr 0 1), zm_e e1, if_pos c, zm_e (zl_gF gL lr 0 1), zm_e (zl_wI gL lr1 (Int.natCast_nonneg _) i40 _), Int.toNat_natCast, w1]
        exact e
      · rw [w k hk]
        by_cases z : k = i
        · rw [z, zy_I, if_pos (show i ≤ i ∧ zv_I g (r + 1) i = s from ⟨Nat.le_refl _, c⟩), if_neg (fun q => absurd q.1 (Nat.not_succ_le_self _))]
        · rw [zy_In _ _ (fun q => z q.2)]
          by_cases y : i ≤ k ∧ zv_I g (r + 1) k = s
          · rw [if_pos y, if_pos ⟨Nat.lt_of_le_of_ne y.1 (fun q => z q.symm), y.2⟩]
          · rw [if_neg y, if_neg (fun q => y ⟨Nat.le_of_succ_le q.1, q.2⟩)]
    · obtain ⟨g', e, o, w⟩ := ih (i + 1) g (by omega) gL
      refine ⟨g', ?_, o, fun k hk => ?_⟩
      · rw [qL6_forget_2, if_pos (show (i : Int) < 40 from i40), zm_e (zl_gF gL lr 0 1), zm_e e1, if_neg c, w1]
        exact e
      · rw [w k hk]
        by_cases z : k = i
        · rw [z, if_neg (fun q => absurd q.1 (Nat.not_succ_le_self _)), if_neg (fun q => c q.2)]
        · by_cases y : i ≤ k ∧ zv_I g (r + 1) k = s
          · rw [if_pos y, if_pos ⟨Nat.lt_of_le_of_ne y.1 (fun q => z q.symm), y.2⟩]
          · rw [if_neg y, if_neg (fun q => y ⟨Nat.le_of_succ_le q.1, q.2⟩)]
/-- a State removed -/
def zt_rm (a : Nat) (S : Nat) (P : Nat) (s : Int) (g : zv_H) (g' : zv_H) : Prop := (zv_lay P = (1, 5)) ∧ (g'.1 = g.1) ∧ (g'.2.2.2.2 = g.2.2.2.2) ∧ (g'.2.2.1 = g.2.2.1) ∧ (∀ r k, ¬ (r = S ∧ k = 4) → zv_R g' r k = zv_R g r k) ∧ (∀ r k, ¬ (r = S ∧ k = 3) → ¬ (r = P ∧ k = 11) → r ≠ a + 18 → ¬ (r = a ∧ k = 12) → zv_I g' r k = zv_I g r k) ∧ (zv_I g' S 3 = 0) ∧ (zv_I g' a 12 = zv_w (zv_I g a 12 - 1)) ∧ (∀ k : Nat, k < 40 → zv_I g' (a + 18) k = if zv_I g (a + 18) k = s then -1 else zv_I g (a + 18) k)
theorem zt_rm_p {a : Nat} {S : Nat} {P : Nat} {s : Int} {g : zv_H} {g' : zv_H} (t : zt_rm a S P s g g') : zv_lay P = (1, 5) := t.1
theorem zt_rm_n {a : Nat} {S : Nat} {P : Nat} {s : Int} {g : zv_H} {g' : zv_H} (t : zt_rm a S P s g g') : g'.1 = g.1 := t.2.1
theorem zt_rm_c {a : Nat} {S : Nat} {P : Nat} {s : Int} {g : zv_H} {g' : zv_H} (t : zt_rm a S P s g g') : g'.2.2.2.2 = g.2.2.2.2 := t.2.2.1
theorem zt_rm_J {a : Nat} {S : Nat} {P : Nat} {s : Int} {g : zv_H} {g' : zv_H} (t : zt_rm a S P s g g') : g'.2.2.1 = g.2.2.1 := t.2.2.2.1
theorem zt_rm_R {a : Nat} {S : Nat} {P : Nat} {s : Int} {g : zv_H} {g' : zv_H} (t : zt_rm a S P s g g') : ∀ r k, ¬ (r = S ∧ k = 4) → zv_R g' r k = zv_R g r k := t.2.2.2.2.1
theorem zt_rm_I {a : Nat} {S : Nat} {P : Nat} {s : Int} {g : zv_H} {g' : zv_H} (t : zt_rm a S P s g g') : ∀ r k, ¬ (r = S ∧ k = 3) → ¬ (r = P ∧ k = 11) → r ≠ a + 18 → ¬ (r = a ∧ k = 12) → zv_I g' r k = zv_I g r k := t.2.2.2.2.2.1
theorem zt_rm_l3 {a : Nat} {S : Nat} {P : Nat} {s : Int} {g : zv_H} {g' : zv_H} (t : zt_rm a S P s g g') : zv_I g' S 3 = 0 := t.2.2.2.2.2.2.1
theorem zt_rm_ct {a : Nat} {S : Nat} {P : Nat} {s : Int} {g : zv_H} {g' : zv_H} (t : zt_rm a S P s g g') : zv_I g' a 12 = zv_w (zv_I g a 12 - 1) := t.2.2.2.2.2.2.2.1
theorem zt_rm_lg {a : Nat} {S : Nat} {P : Nat} {s : Int} {g : zv_H} {g' : zv_H} (t : zt_rm a S P s g g') : ∀ k : Nat, k < 40 → zv_I g' (a + 18) k = if zv_I g (a + 18) k = s then -1 else zv_I g (a + 18) k := t.2.2.2.2.2.2.2.2
theorem zt_remove {d : Nat} {a : Nat} {g : zv_H} (gL : zt_L g) (la : zv_lay a = (1, 0)) {S P : Nat} {s : Int} (lS : zv_lay S = (1, 5)) (lP : zv_lay P = (1, 5)) (hP : zv_R g S 4 = P) (hn : zv_I g S 0 = s) (ne : P ≠ S) : ∃ g', C0_remove (d + 2) a S g = some g' ∧ zt_rm a S P s g g' := by
  have l17 := (zc_y0_7 la).1
  have l18 : zv_lay (a + 18) = (2, 40) := by rcases zc_lh la with e | e <;> rw [e] <;> rfl
  have nS : a + 18 ≠ S := fun e => by rw [e] at l18; rw [l18] at lS; exact absurd lS (by decide)
  have nP : a + 18 ≠ P := fun e => by rw [e] at l18; rw [l18] at lP; exact absurd lP (by decide)
  have naS : a ≠ S := fun e => by rw [e] at la; rw [la] at lS; exact absurd lS (by decide)
  have naP : a ≠ P := fun e => by rw [e] at la; rw [la] at lP; exact absurd lP (by decide)
  have na : a ≠ a + 18 := by omega
  have gL3 : zt_L (zv_sR (zv_sI (zv_sI g S 3 0) P 11 (zv_w (zv_I g P 11 - 1))) S 4 0) := zl_sR (hL := gL) (fun _ => by rw [lS]; rfl) (fun e => by rw [e] at lS; exact absurd lS (by decide)) (fun e => by rw [e] at lS; exact absurd lS (by decide))
  obtain ⟨g4, e4, o4, w4⟩ := zt_forget_l (d := d) l17 l18 s 40 0 (zv_sR (zv_sI (zv_sI g S 3 0) P 11 (zv_w (zv_I g P 11 - 1))) S 4 0) (Nat.zero_add _) gL3
  have gL4 := zt_o_L o4 gL3
  have o4i : ∀ r k, r ≠ a + 18 → zv_I g4 r k = zv_I (zv_sI (zv_sI g S 3 0) P 11 (zv_w (zv_I g P 11 - 1))) r k := fun r k hr => zt_o_i o4 (by simp; exact hr) k
  have i12 : zv_I g4 a 12 = zv_I g a 12 := by
    rw [o4i a 12 na, zy_In _ _ (fun q => naP q.1), zy_In _ _ (fun q => naS q.1)]
  refine ⟨zv_sI g4 a 12 (zv_w (zv_I g a 12 - 1)), lC0_remove (zl_ob gL la) ?_, lP, ?_, ?_, ?_, ?_, ?_, ?_, ?_, ?_⟩
  · have en : zv_I (zv_sR (zv_sI (zv_sI g S 3 0) P 11 (zv_w (zv_I g P 11 - 1))) S 4 0) S 0 = s := by
      show zv_I (zv_sI (zv_sI g S 3 0) P 11 (zv_w (zv_I g P 11 - 1))) S 0 = s
      rw [zy_In _ _ (fun q => ne q.1.symm), zy_In _ _ (fun q => absurd q.2 (by decide)), hn]
    have e11 : zv_I (zv_sI g S 3 0) P 11 = zv_I g P 11 := zy_In _ _ (fun q => ne q.1)
    have ef : C6_forget (d + 1) (a + 17) s (zv_sR (zv_sI (zv_sI g S 3 0) P 11 (zv_w (zv_I g P 11 - 1))) S 4 0) = some g4 := by
      refine lC6_forget (zl_ob gL3 l17) ?_
      rw [qE6_forget]
      exact e4
    rw [qE0_remove, zm_e (zl_pZ gL lS 3 (Or.inl rfl)), zm_e (zl_gR (g := zv_sI g S 3 0) gL lS 4), show zv_R (zv_sI g S 3 0) S 4 = P from hP, if_neg (zc_nz lP), zm_e (zl_gR (g := zv_sI g S 3 0) gL lS 4), show zv_R (zv_sI g S 3 0) S 4 = P from hP, zm_e (zl_gI (g := zv_sI g S 3 0) gL lP 11), e11, zm_e (zl_pI (g := zv_sI g S 3 0) gL lP 11 _), qL0_remove_25, zm_e (zl_pR (g := zv_sI (zv_sI g S 3 0) P 11 (zv_w (zv_I g P 11 - 1))) gL lS 4 0), zm_e (zl_gF gL3 la 7 17), zm_e (zl_gI gL3 lS 0), en, zm_e ef, zm_e (zl_gI gL4 la 12), i12, zm_e (zl_pI gL4 la 12 _)]
  · exact o4.1
  · show g4.2.2.2.2 = _
    rw [o4.2.1]
    rfl
  · show g4.2.2.1 = _
    rw [o4.2.1]
    rfl
  · intro r k hr
    show zv_R g4 r k = _
    unfold zv_R
    rw [o4.2.1]
    exact if_neg hr
  · intro r k h1 h2 h3 h4
    rw [zy_In _ _ h4, o4i r k h3, zy_In _ _ h2, zy_In _ _ h1]
  · rw [zy_In _ _ (fun q => naS q.1.symm), o4i S 3 (fun q => nS q.symm), zy_In _ _ (fun q => ne q.1.symm), zy_I]
  · exact zy_I _ _ _ _
  · intro k hk
    have e0 : zv_I (zv_sR (zv_sI (zv_sI g S 3 0) P 11 (zv_w (zv_I g P 11 - 1))) S 4 0) (a + 18) k = zv_I g (a + 18) k := by
      show zv_I (zv_sI (zv_sI g S 3 0) P 11 (zv_w (zv_I g P 11 - 1))) (a + 18) k = _
      rw [zy_In _ _ (fun q => nP q.1), zy_In _ _ (fun q => nS q.1)]
    rw [zy_In _ _ (fun q => na q.1.symm)]
    have := w4 k hk
    rw [show a + 17 + 1 = a + 18 from rfl, e0] at this
    rw [this]
    by_cases c : zv_I g (a + 18) k = s
    · rw [if_pos c, if_pos ⟨Nat.zero_le _, c⟩]
    · rw [if_neg c, if_neg (fun q => c q.2)]
/-- the relation behind it -/
theorem zt_U_rm {a : Nat} {c c' : Nat → Int} {g g' g0 : zv_H} {s : Int} (U : zt_U a c g) (R : zt_rm a (zt_r a s) (zt_r a (zm_o c s 1)) s g0 g') (h0 : ∀ r k, zv_I g0 r k = zv_I g r k) (hR0 : ∀ r k, ¬ (r = a ∧ k = 10) → zv_R g0 r k = zv_R g r k) (hJ0 : ∀ r k, zv_J g0 r k = zv_J g r k) (hA' : zc_A g') (hs : zm_st c s) (W' : zm_W c') (st : ∀ t, zm_st c' t → zm_st c t ∧ t ≠ s) (lv : ∀ i : Nat, i < 48 → zm_o c' i 0 = if (i : Int) = s then 0 else zm_o c i 0) (ag : ∀ t, zm_st c' t → zm_ag c' c t ∧ zm_o c' t 7 = zm_o c t 7) (he : zv_R g0 a 10 = zt_r a (c' 0)) (nw : c 1 = c' 1) (ct : zm_nst c' = zm_nst c - 1) : zt_U a c' g' := by
  have la := zt_U_la U
  have W := zt_U_W U
  have rs := zt_r_p (a := a) hs.1.1
  have l18 : zv_lay (a + 18) = (2, 40) := by rcases zc_lh la with e | e <;> rw [e] <;> rfl
  have nst := zt_nst_le W
  have iS : ∀ (i x k : Nat), i < 48 → x ≤ 2 → k ≠ 11 → ¬ (x = 0 ∧ k = 3) → zv_I g' (zc_stt a i + x) k = zv_I g (zc_stt a i + x) k := fun i x k hi hx hk h3 => by
    have b := fun n (n0 : n ≤ 27) (n1 : n ≠ 1) (n2 : n ≠ 2) (n3 : n ≠ 3) => zt_sepH (a := a) (i := i) (n := n) (x := x) n0 hx n1 n2 n3
    refine (zt_rm_I R _ k (fun q => ?_) (fun q => hk q.2) (fun q => b 18 (by decide) (by decide) (by decide) (by decide) q.symm) (fun q => b 0 (by decide) (by decide) (by decide) (by decide) q.1.symm)).trans (h0 _ _)
    rw [rs] at q
    by_cases e : i = s.toNat
    · rw [e] at q
      exact h3 ⟨by omega, q.2⟩
    · exact zt_sep (a := a) e hx (show 0 ≤ 2 by decide) q.1
  have n11 : ∀ k, k ≠ 11 → k ≠ 14 → k ≠ 3 → k ≠ 13 → k ≠ 11 := fun _ h _ _ _ => h
  refine zt_U_mk la W' hA' (fun i hi => ?_) (fun t ht => ?_) ?_ ?_ ?_
  · rw [lv i hi]
    by_cases e : (i : Int) = s
    · rw [if_pos e]
      have := zt_rm_l3 R
      rw [rs, ← e, Int.toNat_natCast] at this
      exact this
    · rw [if_neg e]
      have b := fun n (n0 : n ≤ 27) (n1 : n ≠ 1) (n2 : n ≠ 2) (n3 : n ≠ 3) => zt_sepH (a := a) (i := i) (n := n) (x := 0) n0 (by decide) n1 n2 n3
      refine (zt_rm_I R _ 3 (fun q => ?_) (fun q => absurd q.2 (by decide)) (fun q => b 18 (by decide) (by decide) (by decide) (by decide) q.symm) (fun q => absurd q.2 (by decide))).trans ((h0 _ _).trans (zt_U_lv U i hi))
      rw [rs] at q
      exact zt_sep (a := a) (i := i) (j := s.toNat) (x := 0) (y := 0) (fun z => e (by rw [z, Int.toNat_of_nonneg hs.1.1])) (by decide) (by decide) q.1
  · obtain ⟨tc, tn⟩ := st t ht
    obtain ⟨l, hl', ok', _⟩ := zt_line W' ht
    have hl : zm_Ln c (t :: l) t := zm_Ln_cg (fun u hu => (ag u (ok'.2.2.1 u hu)).1) hl'
    have t48 : t.toNat < 48 := by have := tc.1; omega
    have rt := zt_r_p (a := a) tc.1.1
    have S := zt_U_st U t tc
    have cell : ∀ x k, x ≤ 2 → k ≠ 11 → ¬ (x = 0 ∧ k = 3) → zv_I g' (zt_r a t + x) k = zv_I g (zt_r a t + x) k := fun x k hx hk h3 => by
      rw [rt]
      exact iS _ x k t48 hx hk h3
    have nts : zt_r a t ≠ zt_r a s := fun e => tn (zt_r_inj la tc.1 hs.1 e)
    have cell2 : ∀ x k, x = 1 ∨ x = 2 → zv_I g' (zt_r a t + x) k = zv_I g (zt_r a t + x) k := fun x k hx => by
      have b := fun n (n0 : n ≤ 27) (n1 : n ≠ 1) (n2 : n ≠ 2) (n3 : n ≠ 3) => zt_sepH (a := a) (i := t.toNat) (n := n) (x := x) n0 (by omega) n1 n2 n3
      rw [rt]
      have l5 := zc_l5 (zt_r_l la tc.1)
      have lS := zt_r_l la hs.1
      rw [rt] at l5
      have no : ∀ Q : Nat, zv_lay Q = (1, 5) → ¬ (zc_stt a t.toNat + x = Q) := fun Q lQ e => by
        rcases hx with q | q <;> subst q
        · rw [← e] at lQ; exact absurd (l5.1.symm.trans lQ) (by decide)
        · rw [← e] at lQ; exact absurd (l5.2.symm.trans lQ) (by decide)
      refine (zt_rm_I R _ k (fun q => no _ lS q.1) (fun q => ?_) (fun q => b 18 (by decide) (by decide) (by decide) (by decide) q.symm) (fun q => b 0 (by decide) (by decide) (by decide) (by decide) q.1.symm)).trans (h0 _ _)
      have z := zt_rm_p R
      exact no _ z q.1
    refine zt_S0_cg W tc (zt_S_0 S) hl (fun u hu w w0 w1 w7 => ((ag u (ok'.2.2.1 u hu)).1 w w0 w1 w7).symm) ?_ (fun k k1 _ k3 _ => cell 0 k (by decide) k1 (fun q => k3 q.2)) (fun k => cell2 1 k (Or.inl rfl)) (fun k => cell2 2 k (Or.inr rfl)) (fun k => ?_) (fun k => ?_) (fun _ k _ => ?_)
    · rw [(ag t ht).2]
      exact (cell 0 13 (by decide) (by decide) (fun q => absurd q.2 (by decide))).trans (zt_S_vi S)
    · unfold zv_J
      rw [zt_rm_J R]
      exact hJ0 _ _
    · rw [zt_rm_R R _ _ (fun q => nts q.1)]
      exact hR0 _ _ (fun q => by have := zt_r_l la tc.1; rw [q.1] at this; rw [this] at la; exact absurd la (by decide))
    · have l5 : zv_lay (a + 5) = (2, 604) := by rcases zc_lh la with e | e <;> rw [e] <;> rfl
      have lS := zt_r_l la hs.1
      have lP := zt_rm_p R
      refine (zt_rm_I R _ _ (fun q => ?_) (fun q => ?_) (by omega) (fun q => by omega)).trans (h0 _ _)
      · rw [← q.1] at lS; rw [l5] at lS; exact absurd lS (by decide)
      · rw [← q.1] at lP; rw [l5] at lP; exact absurd lP (by decide)
  · rw [zt_rm_R R _ _ (fun q => by have := zt_r_l la hs.1; rw [← q.1] at this; rw [this] at la; exact absurd la (by decide))]
    exact he
  · have lS := zt_r_l la hs.1
    have lP := zt_rm_p R
    rw [← nw]
    refine (zt_rm_I R a 11 (fun q => absurd q.2 (by decide)) (fun q => ?_) (by omega) (fun q => absurd q.2 (by decide))).trans ((h0 _ _).trans (zt_U_nw U))
    rw [← q.1] at lP; rw [la] at lP; exact absurd lP (by decide)
  · rw [zt_rm_ct R, h0, zt_U_ct U, ct]
    clear hs
    exact zm_w (by omega)
end
/-! A52.prune -/
section
/-! ===== the tie: which State goes first ===== -/
theorem zt_nch0 (c : Nat → Int) (s : Int) : 0 ≤ zm_nch c s := by
  have := (zm_sum_le (f := fun k => if zm_st c k ∧ zm_o c k 1 = s then (1 : Int) else 0) (a := 0) (b := 1) (fun k => by
    by_cases q : zm_st c k ∧ zm_o c k 1 = s
    · rw [if_pos q]; decide
    · rw [if_neg q]; decide) 48).1
  rw [Int.mul_zero] at this
  exact this
section
variable {a : Nat} {c : Nat → Int} {g k : zv_H}
theorem zt_count_l {d D : Nat} (gL : zt_L g) (la : zv_lay a = (1, 0)) (N : zt_N a c g) (hM : zm_M k) (hc : zv_I k 348 = c) (x : Int) {m : Nat} (hm : c 3 = m) (h12 : m ≤ 12) : ∀ (n j : Nat) (v : Nat), j + n = m → v ≤ j → ∃ w : Nat, L2_countOf_4 d (a + 14) x v j g = some (some (zv_i w), g) ∧ L9_namesOf_4 D 347 x v j k = some (some (zv_i w), k) := by
  subst hc
  have l14 : zv_lay (a + 14) = (1, 2) := by rcases zc_lh la with e | e <;> rw [e] <;> rfl
  have l16 : zv_lay (a + 14 + 2) = (2, 12) := by rcases zc_lh la with e | e <;> rw [e] <;> rfl
  have i3 : zv_aI k 348 3 = some (m : Int) := by rw [zm_aI hM zm_l348 rfl (by decide) (by decide), show zv_I k 348 (Int.toNat 3) = _ from hm]
  have sz := zt_N_sz N
  rw [hm] at sz
  intro n
  induction n with
  | zero =>
    intro j v hj hv
    have e : j = m := hj
    subst e
    refine ⟨v, ?_, ?_⟩
    · rw [qL2_countOf_4, zm_e (zl_gI gL l14 2), sz, if_neg (Int.lt_irrefl _)]
    · rw [qL9_namesOf_4, zm_e (zm_f0 hM), zm_e i3, if_neg (Int.lt_irrefl _)]
  | succ n ih =>
    intro j v hj hv
    have jm : j < m := by omega
    have jI : (j : Int) < (m : Int) := Int.ofNat_lt.mpr jm
    have j12 : (j : Int) < ((12 : Nat) : Int) := Int.ofNat_lt.mpr (Nat.lt_of_lt_of_le jm h12)
    have w1 : zv_w ((j : Int) + 1) = ((j + 1 : Nat) : Int) := by
      clear sz i3 hm
      rw [zm_w (by omega)]
      rfl
    have v1 : zv_w ((v : Int) + 1) = ((v + 1 : Nat) : Int) := by
      clear sz i3 hm
      rw [zm_w (by omega)]
      rfl
    have v0 : zv_w ((v : Int) + 0) = (v : Int) := by
      clear sz i3 hm
      rw [zm_w (by omega), Int.add_zero]
    have w2 : zv_w (zv_w (408 + zv_w (2 * (j : Int))) + 1) = 409 + 2 * (j : Int) := by
      clear sz i3 hm
      rw [zm_w (x := 2 * (j : Int)) (by omega), zm_w (x := 408 + 2 * (j : Int)) (by omega), zm_w (by omega)]
      omega
    have b1 : 0 ≤ 409 + 2 * (j : Int) ∧ 409 + 2 * (j : Int) < ((4236 : Nat) : Int) ∧ (409 + 2 * (j : Int)).toNat = 409 + 2 * j := by
      clear sz i3 hm
      omega
    have e1 : zv_aI k 348 (409 + 2 * (j : Int)) = some (zv_I k 348 (409 + 2 * j)) := by rw [zm_aI hM zm_l348 rfl b1.1 b1.2.1, b1.2.2]
    have ow := zt_N_ow N j (by rw [hm]; exact jI)
    have e2 : zv_aI g (a + 14 + 2) (j : Int) = some (zv_I k 348 (409 + 2 * j)) := by rw [zl_aI gL l16 (Int.natCast_nonneg _) j12, Int.toNat_natCast, ← ow]
    have j12' : (j : Int) < 12 := j12
    by_cases q : zv_I k 348 (409 + 2 * j) = x
    · obtain ⟨w, y1, y2⟩ := ih (j + 1) (v + 1) (by omega) (by omega)
      refine ⟨w, ?_, ?_⟩
      · rw [qL2_countOf_4, zm_e (zl_gI gL l14 2), sz, if_pos jI, if_pos j12', zm_e (zl_gF gL l14 1 2), zm_e e2, if_pos q, v1, w1]
        exact y1
      · rw [qL9_namesOf_4, zm_e (zm_f0 hM), zm_e i3, if_pos jI, zm_e (zm_f0 hM), w2, zm_e e1, if_pos q, v1, w1]
        exact y2
    · obtain ⟨w, y1, y2⟩ := ih (j + 1) v (by omega) (by omega)
      refine ⟨w, ?_, ?_⟩
      · rw [qL2_countOf_4, zm_e (zl_gI gL l14 2), sz, if_pos jI, if_pos j12', zm_e (zl_gF gL l14 1 2), zm_e e2, if_neg q, v0, w1]
        exact y1
      · rw [qL9_namesOf_4, zm_e (zm_f0 hM), zm_e i3, if_pos jI, zm_e (zm_f0 hM), w2, zm_e e1, if_neg q, v0, w1]
        exact y2
theorem zt_count {d D : Nat} (gL : zt_L g) (la : zv_lay a = (1, 0)) (N : zt_N a c g) (hM : zm_M k) (hc : zv_I k 348 = c) (h3 : 0 ≤ c 3 ∧ c 3 ≤ 12) (x : Int) : ∃ w : Nat, C2_countOf (d + 1) (a + 14) x g = some ((w : Int), g) ∧ C9_namesOf (D + 1) 347 x k = some ((w : Int), k) := by
  have l14 : zv_lay (a + 14) = (1, 2) := by rcases zc_lh la with e | e <;> rw [e] <;> rfl
  obtain ⟨w, y1, y2⟩ := zt_count_l (d := d) (D := D) gL la N hM hc x (m := (c 3).toNat) (by omega) (by omega) _ 0 0 (Nat.zero_add _) (Nat.le_refl _)
  refine ⟨w, lC2_countOf (zl_ob gL l14) ?_, lC9_namesOf (zm_ob hM) ?_⟩
  · rw [qE2_countOf]
    exact y1
  · rw [qE9_namesOf]
    exact y2
theorem zt_fo1000 {x y : Nat} (h1 : ¬ 1000000 ≤ x) (h2 : ¬ 1000000 ≤ y) : ¬ (1000000 ≤ x ∨ 1000000 ≤ y) := by omega
/-- a State's cell, or none -/
def zt_ro (a : Nat) (b : Int) : Nat := if b < 0 then 0 else zt_r a b
theorem zj_fo_l {d D : Nat} (gL : zt_L g) (H : zt_H a c g) (hM : zm_M k) (hc : zv_I k 348 = c) : ∀ (n i : Nat) (b : Int), i + n = 48 → 1 ≤ i → zm_Go c b → ∃ v : Int, zm_Go c v ∧ L0_nextToGo_4 (d + 1) a (zt_ro a b) i g = some (some (zv_r (zt_ro a v)), g) ∧ L9_firstOut_4 (D + 3) 347 b i k = some (some (zv_i v), k) := by
  have U := zt_H_U H
  have W := zt_U_W U
  have la := zt_U_la U
  have hh := W.2.1
  have h3 := W.2.2.1
  intro n
  induction n with
  | zero =>
    intro i b hi h1 hb
    have e : i = 48 := hi
    subst e
    refine ⟨b, hb, ?_, ?_⟩
    · rw [qL0_nextToGo_4, if_neg (by decide)]
    · rw [qL9_firstOut_4, if_neg (by decide)]
  | succ n ih =>
    intro i b hi h1 hb
    have w1 : zv_w ((i : Int) + 1) = ((i + 1 : Nat) : Int) := by
      rw [zm_w (by clear h3; omega)]
      rfl
    have j1 : (i : Int) < 48 := by clear h3; omega
    have j2 : 0 ≤ (i : Int) ∧ (i : Int) ≤ 48 := by clear h3; omega
    have j3 : (i : Int) ≠ 0 := by clear h3; omega
    have hi' : (i + 1) + n = 48 := by clear h3; omega
    obtain ⟨v, gv, y1, y2⟩ := ih (i + 1) b hi' (Nat.le_succ_of_le h1) hb
    have ea := zt_at (d := d) gL U (i : Int)
    have ei := zm_isState hM (D + 1) (i : Int)
    rw [hc] at ei
    by_cases c1 : zm_st c i
    · rw [if_pos c1] at ea ei
      have lS := zt_r_l la c1.1
      have S := zt_U_st U _ c1
      have top : ∀ {R1 R2 : zv_O}, (if zt_r a (i : Int) = zt_r a (c 0) then L0_nextToGo_4 (d + 1) a (zt_ro a b) ((i + 1 : Nat) : Int) g else (if zm_nch c i = 0 then ((C2_countOf (d + 1) (a + 14) (i : Int) g).bind fun q5 => (if q5.1 = 0 then (if zt_ro a b = 0 then L0_nextToGo_4 (d + 1) a (zt_r a (i : Int)) ((i + 1 : Nat) : Int) q5.2 else ((zv_gI q5.2 (zt_r a (i : Int)) 5 13).bind fun v6 => ((zv_gI q5.2 (zt_ro a b) 5 13).bind fun v7 => (if v6 < v7 then L0_nextToGo_4 (d + 1) a (zt_r a (i : Int)) ((i + 1 : Nat) : Int) q5.2 else L0_nextToGo_4 (d + 1) a (zt_ro a b) ((i + 1 : Nat) : Int) q5.2)))) else L0_nextToGo_4 (d + 1) a (zt_ro a b) ((i + 1 : Nat) : Int) q5.2)) else L0_nextToGo_4 (d + 1) a (zt_ro a b) ((i + 1 : Nat) : Int) g)) = R1 → (if (i : Int) = c 0 then L9_firstOut_4 (D + 3) 347 b ((i + 1 : Nat) : Int) k else (if zm_nch c i ≤ 0 then ((C9_namesOf (D + 3) 347 (i : Int) k).bind fun q4 => (if q4.1 ≤ 0 then (if b < 0 then L9_firstOut_4 (D + 3) 347 (i : Int) ((i + 1 : Nat) : Int) q4.2 else ((C9_of (D + 3) 347 (i : Int) 7 q4.2).bind fun q5 => ((C9_of (D + 3) 347 b 7 q5.2).bind fun q6 => (if q5.1 < q6.1 then L9_firstOut_4 (D + 3) 347 (i : Int) ((i + 1 : Nat) : Int) q6.2 else L9_firstOut_4 (D + 3) 347 b ((i + 1 : Nat) : Int) q6.2)))) else L9_firstOut_4 (D + 3) 347 b ((i + 1 : Nat) : Int) q4.2)) else L9_firstOut_4 (D + 3) 347 b ((i + 1 : Nat) : Int) k)) = R2 → L0_nextToGo_4 (d + 1) a (zt_ro a b) i g = R1 ∧ L9_firstOut_4 (D + 3) 347 b i k = R2 := fun {R1 R2} h1 h2 => by
        constructor
        · rw [qL0_nextToGo_4, if_pos j1, zm_e ea]
          dsimp only
          rw [if_neg (zt_r0 U c1), zm_e (zl_gR gL la 10), zt_U_he U, if_neg (zt_fo1000 (zt_r1000 U c1) (zt_r1000 U hh)), w1, zm_e (zl_gI gL lS 11), zt_S_ch S, zm_e (zl_gF gL la 6 14)]
          exact h1
        · rw [qL9_firstOut_4, if_pos j1, zm_e ei]
          dsimp only
          rw [if_neg (by decide), zm_e (zm_here hM _), hc]
          dsimp only
          rw [zm_e (zm_childrenOf hM D i), hc, w1]
          exact h2
      by_cases c2 : (i : Int) = c 0
      · obtain ⟨t1, t2⟩ := top rfl rfl
        rw [if_pos (by rw [c2])] at t1
        rw [if_pos c2] at t2
        exact ⟨v, gv, t1.trans y1, t2.trans y2⟩
      · have c2' : ¬ zt_r a (i : Int) = zt_r a (c 0) := fun q => c2 (zt_r_inj la c1.1 hh.1 q)
        by_cases c3 : zm_nch c i ≤ 0
        · have c3' : zm_nch c i = 0 := Int.le_antisymm c3 (zt_nch0 c i)
          have ok : zm_Go c i := Or.inr ⟨c1, j3, c2, c3⟩
          obtain ⟨v', gv', z1, z2⟩ := ih (i + 1) i hi' (Nat.le_succ_of_le h1) ok
          have ero : zt_ro a (i : Int) = zt_r a (i : Int) := if_neg (Int.not_lt.mpr j2.1)
          rw [ero] at z1
          obtain ⟨u, u1, u2⟩ := zt_count (d := d) (D := D + 2) gL la (zt_H_N H) hM hc h3 (i : Int)
          obtain ⟨t1, t2⟩ := top rfl rfl
          rw [if_neg c2', if_pos c3', zm_e u1] at t1
          rw [if_neg c2, if_pos c3, zm_e u2] at t2
          dsimp only at t1 t2
          by_cases c4 : u = 0
          · rw [if_pos (by rw [c4]; rfl)] at t1
            rw [if_pos (by rw [c4]; decide)] at t2
            by_cases c5 : b < 0
            · have eb : zt_ro a b = 0 := if_pos c5
              rw [if_pos eb] at t1
              rw [if_pos c5] at t2
              exact ⟨v', gv', t1.trans z1, t2.trans z2⟩
            · have eb : zt_ro a b = zt_r a b := if_neg c5
              have bg := hb.resolve_left (fun q => c5 (by rw [q]; decide))
              have lB := zt_r_l la bg.1.1
              have SB := zt_U_st U _ bg.1
              rw [eb] at y1 t1
              rw [if_neg (zt_r0 U bg.1), zm_e (zl_gI gL lS 13), zm_e (zl_gI gL lB 13), zt_S_vi S, zt_S_vi SB] at t1
              rw [if_neg c5, zm_e (zm_of hM _ j2 (by decide))] at t2
              dsimp only at t2
              rw [zm_e (zm_of hM _ (zm_st48 bg.1) (by decide)), hc] at t2
              dsimp only at t2
              rw [eb]
              by_cases c6 : zm_o c i 7 < zm_o c b 7
              · rw [if_pos c6] at t1 t2
                exact ⟨v', gv', t1.trans z1, t2.trans z2⟩
              · rw [if_neg c6] at t1 t2
                exact ⟨v, gv, t1.trans y1, t2.trans y2⟩
          · rw [if_neg (show ¬ (u : Int) = 0 from fun q => c4 (Int.ofNat.inj q))] at t1
            rw [if_neg (show ¬ (u : Int) ≤ 0 from fun q => c4 (Nat.le_zero.mp (Int.ofNat_le.mp q)))] at t2
            exact ⟨v, gv, t1.trans y1, t2.trans y2⟩
        · obtain ⟨t1, t2⟩ := top rfl rfl
          rw [if_neg c2', if_neg (fun q => c3 (Int.le_of_eq q))] at t1
          rw [if_neg c2, if_neg c3] at t2
          exact ⟨v, gv, t1.trans y1, t2.trans y2⟩
    · rw [if_neg c1] at ea ei
      refine ⟨v, gv, ?_, ?_⟩
      · rw [qL0_nextToGo_4, if_pos j1, zm_e ea]
        dsimp only
        rw [if_pos rfl, w1]
        exact y1
      · rw [qL9_firstOut_4, if_pos j1, zm_e ei]
        dsimp only
        rw [if_pos rfl, w1]
        exact y2
theorem zj_fo {d D : Nat} (gL : zt_L g) (H : zt_H a c g) (hM : zm_M k) (hc : zv_I k 348 = c) : ∃ v : Int, zm_Go c v ∧ C0_nextToGo (d + 2) a g = some (zt_ro a v, g) ∧ C9_firstOut (D + 4) 347 k = some (v, k) := by
  obtain ⟨v, gv, y1, y2⟩ := zj_fo_l (d := d) (D := D) gL H hM hc 47 1 (-1) rfl (Nat.le_refl _) (Or.inl rfl)
  refine ⟨v, gv, lC0_nextToGo (zl_ob gL (zt_U_la (zt_H_U H))) ?_, lC9_firstOut (zm_ob hM) ?_⟩
  · rw [qE0_nextToGo]
    exact y1
  · rw [qE9_firstOut]
    exact y2
end
end
/-! A53.prune2 -/
section
/-! ===== the tie: pruning ===== -/
theorem zt_pr45 (D : Nat) (many a2 s : Int) {m : Nat} (hm : m ≤ 40) : ∀ (n i : Nat) (h : zv_H), i + n = m → zm_M h → zv_I h 348 5 = m → ∃ h', L9_pruneNow_45 D 347 many a2 s i h = L9_pruneNow_45 D 347 many a2 s m h' ∧ zm_F [348] [] h h' ∧ (∀ k : Nat, (∀ j : Nat, i ≤ j → j < m → k ≠ 4156 + 2 * j) → zv_I h' 348 k = zv_I h 348 k) ∧ ∀ j : Nat, i ≤ j → j < m → zv_I h' 348 (4156 + 2 * j) = if zv_I h 348 (4156 + 2 * j) = s then -1 else zv_I h 348 (4156 + 2 * j) := by
  intro n
  induction n with
  | zero =>
    intro i h hi hM h5
    have e : i = m := hi
    subst e
    exact ⟨h, rfl, zm_F_r _ _ h, fun _ _ => rfl, fun j h1 h2 => absurd h2 (Nat.not_lt.mpr h1)⟩
  | succ n ih =>
    intro i h hi hM h5
    have w1 : zv_w ((i : Int) + 1) = ((i + 1 : Nat) : Int) := by
      rw [zm_w (by omega)]
      rfl
    have w2 : zv_w (4156 + zv_w (2 * (i : Int))) = 4156 + 2 * (i : Int) := by
      rw [zm_w (x := 2 * (i : Int)) (by omega), zm_w (by omega)]
    have b1 : 0 ≤ 4156 + 2 * (i : Int) ∧ 4156 + 2 * (i : Int) < ((4236 : Nat) : Int) ∧ (4156 + 2 * (i : Int)).toNat = 4156 + 2 * i := by omega
    have im : (i : Int) < (m : Int) := by omega
    have hi' : (i + 1) + n = m := by omega
    have iM : i < m := by omega
    have e1 : zv_aI h 348 (4156 + 2 * (i : Int)) = some (zv_I h 348 (4156 + 2 * i)) := by rw [zm_aI hM zm_l348 rfl b1.1 b1.2.1, b1.2.2]
    rw [qL9_pruneNow_45, zm_e (zm_f0 hM), zm_e (zm_aI hM zm_l348 rfl (by decide) (by decide)), show zv_I h 348 (Int.toNat 5) = _ from h5, if_pos im, zm_e (zm_f0 hM), w2, zm_e e1, w1]
    by_cases c1 : zv_I h 348 (4156 + 2 * i) = s
    · have ne : ∀ k : Nat, k ≠ 4156 + 2 * i → zv_I (zv_sI h 348 (4156 + 2 * i) (-1)) 348 k = zv_I h 348 k := fun k hk => zy_In _ _ (fun q => hk q.2)
      obtain ⟨h', i1, i2, i3, i4⟩ := ih (i + 1) (zv_sI h 348 (4156 + 2 * i) (-1)) hi' hM (by rw [ne 5 (by omega)]; exact h5)
      refine ⟨h', ?_, zm_F_t (zm_F_I (zm_F_r _ _ h) rfl _ _) i2, fun k hk => ?_, fun j h1 h2 => ?_⟩
      · rw [if_pos c1, zm_e (zm_f0 hM), zm_e (zm_wI hM zm_l348 rfl b1.1 b1.2.1 _), b1.2.2]
        exact i1
      · rw [i3 k (fun j h1 h2 => hk j (Nat.le_of_succ_le h1) h2), ne k (hk i (Nat.le_refl _) iM)]
      · by_cases z : j = i
        · subst z
          rw [i3 _ (fun j' h1' h2' => by omega), zy_I, if_pos c1]
        · rw [i4 j (Nat.lt_of_le_of_ne h1 (fun q => z q.symm)) h2, ne _ (by omega)]
    · obtain ⟨h', i1, i2, i3, i4⟩ := ih (i + 1) h hi' hM h5
      refine ⟨h', ?_, i2, fun k hk => i3 k (fun j h1 h2 => hk j (Nat.le_of_succ_le h1) h2), fun j h1 h2 => ?_⟩
      · rw [if_neg c1]
        exact i1
      · by_cases z : j = i
        · subst z
          rw [i3 _ (fun j' h1' h2' => by omega), if_neg c1]
        · exact i4 j (Nat.lt_of_le_of_ne h1 (fun q => z q.symm)) h2
theorem zt_pr4 {t w : Int} (ht : 0 ≤ t ∧ t ≤ 47) (hw : 0 ≤ w ∧ w < 76) : 432 + 76 * t.toNat + w.toNat < 4156 := by omega
theorem zt_pr5 (x : Int) : (x % 40).toNat < 40 := by omega
theorem zt_pr6 {m : Nat} {x many : Int} (hm : 1 ≤ many) (le : ¬ x ≤ many) (h : (m : Int) + x ≤ 48) : (m : Int) < 48 := by omega
theorem zt_pr7 {m : Nat} (h : (m : Int) < 48) : zv_w ((m : Int) + 1) = ((m + 1 : Nat) : Int) := by
  rw [zm_w (by omega)]
  rfl
theorem zt_pr8 {x y : Int} {n : Nat} (e : x = y - 1) (h : y ≤ ((n + 1 : Nat) : Int)) : x ≤ (n : Int) := by omega
theorem zt_pr9 {x y : Int} {m : Nat} (e : x = y - 1) (h : (m : Int) + y ≤ 48) : ((m + 1 : Nat) : Int) + x ≤ 48 := by omega
theorem zt_pa {c : Nat → Int} (W : zm_W c) {s : Int} (hs : zm_st c s) (s0 : s ≠ 0) : zm_st c (zm_o c s 1) ∧ zm_o c s 1 ≠ s := by
  obtain ⟨l, hl, ok, _⟩ := zt_line W hs
  cases l with
  | nil => exact absurd (Option.some.inj ok.2.1) s0
  | cons p l =>
    have e : zm_o c s 1 = p := hl.2.1.1
    rw [e]
    exact ⟨ok.2.2.1 p (List.mem_cons_of_mem _ List.mem_cons_self), fun q => (List.nodup_cons.mp ok.1).1 (by rw [← q]; exact List.mem_cons_self)⟩
theorem zt_H_pr {a : Nat} {c c' : Nat → Int} {g g' : zv_H} {s : Int} (H : zt_H a c g) (hA' : zc_A g') (R : zt_rm a (zt_r a s) (zt_r a (zm_o c s 1)) s g g') (hs : zm_st c s) (s0 : s ≠ 0) (sh : s ≠ c 0) (W' : zm_W c') (l1 : ∀ k : Nat, (∀ j : Nat, (j : Int) < c 5 → k ≠ 4156 + 2 * j) → c' k = zm_os c s 0 0 k) (l2 : ∀ j : Nat, (j : Int) < c 5 → c' (4156 + 2 * j) = if c (4156 + 2 * j) = s then -1 else c (4156 + 2 * j)) : zt_H a c' g' := by
  have U := zt_H_U H
  have W := zt_U_W U
  have la := zt_U_la U
  have V := zt_H_V H
  have s47 := hs.1
  have sN : s.toNat < 48 := by clear hs sh; omega
  have ec : ∀ k : Nat, k < 4156 → c' k = zm_os c s 0 0 k := fun k hk => l1 k (fun j _ => by clear hs sh; omega)
  have hd : ∀ k : Nat, k < 432 → c' k = c k := fun k hk => (ec k (by clear hs sh; omega)).trans (zm_u_o _ _ (by clear hs sh; omega))
  have o : ∀ t w : Int, (0 ≤ t ∧ t ≤ 47) → 0 ≤ w → w < 76 → ¬ (t = s ∧ w = 0) → zm_o c' t w = zm_o c t w := fun t w ht w0 w1 q => (ec _ (zt_pr4 ht ⟨w0, w1⟩)).trans (zm_os_o c 0 s47.1 (by decide) ht.1 ⟨w0, w1⟩ q)
  have os : zm_o c' s 0 = 0 := (ec _ (zt_pr4 s47 ⟨by decide, by decide⟩)).trans (zm_os_s _ _ _ _)
  have st : ∀ t, zm_st c' t → zm_st c t ∧ t ≠ s := fun t q => by
    by_cases e : t = s
    · have h1 := q.2
      rw [e, os] at h1
      cases h1
    · exact ⟨⟨q.1, by rw [← o t 0 q.1 (by decide) (by decide) (fun z => e z.1)]; exact q.2⟩, e⟩
  have oS := zt_rm_l3 R
  have I := zt_rm_I R
  have lS := zt_r_l la s47
  have lP := zt_rm_p R
  have hI : ∀ n k, n ≤ 27 → n ≠ 1 → n ≠ 2 → n ≠ 3 → n ≠ 18 → ¬ (n = 0 ∧ k = 12) → zv_I g' (a + n) k = zv_I g (a + n) k := fun n k n0 n1 n2 n3 n18 n12 => by
    refine I _ k (fun q => zt_hs (a := a) (x := 0) s47 n0 (by decide) n1 n2 n3 q.1) (fun q => ?_) (fun q => n18 (Nat.add_left_cancel q)) (fun q => n12 ⟨Nat.add_left_cancel (q.1.trans (Nat.add_zero a).symm), q.2⟩)
    have ps := zt_pa W hs s0
    exact zt_hs (a := a) (x := 0) ps.1.1 n0 (by decide) n1 n2 n3 q.1
  refine ⟨?_, ?_, ?_, ?_⟩
  · refine zt_U_rm (g0 := g) U R (fun _ _ => rfl) (fun _ _ _ => rfl) (fun _ _ => rfl) hA' hs W' st (fun i hi => ?_) (fun t ht => ?_) ?_ ?_ ?_
    · by_cases e : (i : Int) = s
      · rw [if_pos e, e]; exact os
      · rw [if_neg e]
        exact o _ 0 ⟨Int.natCast_nonneg _, Int.ofNat_le.mpr (Nat.le_of_lt_succ hi)⟩ (by decide) (by decide) (fun z => e z.1)
    · obtain ⟨t1, t2⟩ := st t ht
      exact ⟨fun w w0 w1 _ => (o t w t1.1 (Int.le_trans (by decide) w0) w1 (fun z => t2 z.1)).symm, o t 7 t1.1 (by decide) (by decide) (fun z => t2 z.1)⟩
    · rw [hd 0 (by decide)]; exact zt_U_he U
    · exact (hd 1 (by decide)).symm
    · rw [← zm_nst_rm hs]
      exact zm_sum_cg 48 (fun k hk => ec _ (zt_pr4 ⟨Int.natCast_nonneg _, Int.ofNat_le.mpr (Nat.le_of_lt_succ hk)⟩ ⟨by decide, by decide⟩))
  · exact zt_J_c (zt_J_cg (zt_H_J H) (fun r k r1 r2 => by
      obtain ⟨n, rfl⟩ : ∃ n, r = a + n := ⟨r - a, by clear hs sh; omega⟩
      clear hs sh
      exact hI n k (by omega) (by omega) (by omega) (by omega) (by omega) (by omega))) W.2.2.2.1.2 (hd 4 (by decide)) (fun k _ h2 => hd k (Nat.lt_trans h2 (by decide)))
  · have e2 := hd 2 (by decide)
    have e5 := hd 5 (by decide)
    have v5 := zt_V_c5 V
    refine ⟨?_, ?_, ?_, fun i hi => ?_, fun i hi => ?_, fun t ht => ?_, fun t u ht hu e => ?_⟩
    · rw [e2, hI 17 4 (by decide) (by decide) (by decide) (by decide) (by decide) (fun q => absurd q.1 (by decide))]
      exact zt_V_ct V
    · rw [e2]; exact zt_V_c0 V
    · rw [e5, e2]; exact v5
    · rw [e5] at hi
      rw [l2 i hi, zt_V_ls V i hi, e2, zt_rm_lg R _ (zt_pr5 _)]
    · rw [e5] at hi
      rw [l1 _ (fun j _ => by clear hs sh; omega), e2, hI 19 _ (by decide) (by decide) (by decide) (by decide) (by decide) (fun q => absurd q.1 (by decide)), ← zt_V_lt V i hi]
      exact zm_u_o _ _ (by clear hs sh; omega)
    · obtain ⟨t1, t2⟩ := st t ht
      rw [o t 7 t1.1 (by decide) (by decide) (fun z => t2 z.1), e2]
      exact zt_V_vb V t t1
    · obtain ⟨t1, t2⟩ := st t ht
      obtain ⟨u1, u2⟩ := st u hu
      rw [o t 7 t1.1 (by decide) (by decide) (fun z => t2 z.1), o u 7 u1.1 (by decide) (by decide) (fun z => u2 z.1)] at e
      exact zt_V_vd V t u t1 u1 e
  · exact zt_N_c (zt_H_N H) W.2.2.1.2 (hd 3 (by decide)) (fun k _ h2 => hd k h2) (fun r k r1 r2 => by
      obtain ⟨n, rfl⟩ : ∃ n, r = a + n := ⟨r - a, by clear hs sh; omega⟩
      clear hs sh
      exact hI n k (by omega) (by omega) (by omega) (by omega) (by omega) (by omega))
theorem zt_rm_k {a S P : Nat} {s : Int} {g g' : zv_H} (la : zv_lay a = (1, 0)) (R : zt_rm a S P s g g') (hS : zt_in a S) (hP : zt_in a P) : zt_k a g g' := by
  refine zt_k_of (zt_rm_n R) (zt_rm_c R) (fun r k hr => zt_rm_I R r k (fun q => hr (by rw [q.1]; exact hS)) (fun q => hr (by rw [q.1]; exact hP)) (fun q => hr (by rw [q]; exact zt_inA la (by decide))) (fun q => hr (by rw [q.1]; exact zt_inA la (n := 0) (by decide)))) (fun r k _ => by unfold zv_J; rw [zt_rm_J R]) (fun r k hr => zt_rm_R R r k (fun q => hr (by rw [q.1]; exact hS)))
theorem zj_prloop {d D : Nat} {a : Nat} {many : Int} (hm : 1 ≤ many) : ∀ (n m : Nat) (c : Nat → Int) (g k : zv_H) (v : Int), zc_A g → zt_H a c g → zm_M k → zv_I k 348 = c → zm_nst c ≤ (n : Int) → (m : Int) + zm_nst c ≤ 48 → zm_Go c v → C0_nextToGo (d + 2) a g = some (zt_ro a v, g) → ∃ (w : Int) (g' k' : zv_H), L0_pruneTo_14 (d + 2) a many m g = some (some (zv_i w), g') ∧ L9_pruneNow_23 (D + 4) 347 many m v k = some (some (zv_i w), k') ∧ 0 ≤ w ∧ zt_k a g g' ∧ zt_H a (zv_I k' 348) g' ∧ zv_I k' 348 1 = c 1 ∧ zv_I k' 348 2 = c 2 := by
  intro n
  induction n with
  | zero =>
    intro m c g k v hA H hM hc hn hmn gv en
    have U := zt_H_U H
    have W := zt_U_W U
    have la := zt_U_la U
    have gL := zt_L_A hA
    have le : zm_nst c ≤ many := Int.le_trans hn (Int.le_trans (by decide) hm)
    refine ⟨m, g, k, ?_, ?_, Int.natCast_nonneg _, zt_k_r a g, by rw [hc]; exact H, by rw [hc], by rw [hc]⟩
    · rw [qL0_pruneTo_14, zm_e (zl_gI gL la 12), zt_U_ct U, if_pos le]
    · rw [qL9_pruneNow_23]
      by_cases v0 : v < 0
      · rw [if_pos v0]
      · rw [if_neg v0, zm_e (zm_states hM _ (by rw [hc]; exact W.1.1)), hc]
        dsimp only
        rw [if_pos le]
  | succ n ih =>
    intro m c g k v hA H hM hc hn hmn gv en
    have U := zt_H_U H
    have W := zt_U_W U
    have la := zt_U_la U
    have gL := zt_L_A hA
    by_cases le : zm_nst c ≤ many
    · refine ⟨m, g, k, ?_, ?_, Int.natCast_nonneg _, zt_k_r a g, by rw [hc]; exact H, by rw [hc], by rw [hc]⟩
      · rw [qL0_pruneTo_14, zm_e (zl_gI gL la 12), zt_U_ct U, if_pos le]
      · rw [qL9_pruneNow_23]
        by_cases v0 : v < 0
        · rw [if_pos v0]
        · rw [if_neg v0, zm_e (zm_states hM _ (by rw [hc]; exact W.1.1)), hc]
          dsimp only
          rw [if_pos le]
    · have m48 : (m : Int) < 48 := zt_pr6 hm le hmn
      rcases gv with v1 | ⟨hs, s0, sh, nch⟩
      · have v0 : v < 0 := by rw [v1]; decide
        refine ⟨m, g, k, ?_, ?_, Int.natCast_nonneg _, zt_k_r a g, by rw [hc]; exact H, by rw [hc], by rw [hc]⟩
        · rw [qL0_pruneTo_14, zm_e (zl_gI gL la 12), zt_U_ct U, if_neg le, if_pos m48, zm_e en]
          dsimp only
          rw [if_pos (show zt_ro a v = 0 from if_pos v0)]
        · rw [qL9_pruneNow_23, if_pos v0]
      · have v0 : ¬ v < 0 := Int.not_lt.mpr hs.1.1
        have ero : zt_ro a v = zt_r a v := if_neg v0
        have ps := zt_pa W hs s0
        have lS := zt_r_l la hs.1
        have lP := zt_r_l la ps.1.1
        have S := zt_U_st U v hs
        have nch0 : zm_nch c v = 0 := Int.le_antisymm nch (zt_nch0 c v)
        have neP : zt_r a (zm_o c v 1) ≠ zt_r a v := fun q => ps.2 (zt_r_inj la ps.1.1 hs.1 q)
        obtain ⟨g1, e1, R⟩ := zt_remove (d := d) gL la lS lP (zt_S_pa S) (zt_num U hs) neP
        have inS : zt_in a (zt_r a v) := zt_inr la hs.1 (n := 0) (by decide)
        have inP : zt_in a (zt_r a (zm_o c v 1)) := zt_inr la ps.1.1 (n := 0) (by decide)
        have hA1 : zc_A g1 := by
          obtain ⟨q, e, w⟩ := zc_C0_remove (d := d) hA la (zt_U_V U hs) inS.2.2 ((zt_S_ch S).trans nch0) (by rw [zt_U_he U]; exact fun q => sh (zt_r_inj la W.2.1.1 hs.1 q).symm)
          rw [e1] at e
          cases e
          exact w.1.2
        -- the reference
        have w1 := zm_W_rm W hs s0 sh nch
        have es : C9_sets (D + 4) 347 v 0 0 k = some (zv_sI k 348 (432 + 76 * v.toNat + Int.toNat 0) 0) := zm_sets hM _ (zm_st48 hs) (by decide) _
        have f1 : zm_F [348] [] k (zv_sI k 348 (432 + 76 * v.toNat + Int.toNat 0) 0) := zm_F_I (zm_F_r _ _ k) rfl _ _
        have ek1 : zv_I (zv_sI k 348 (432 + 76 * v.toNat + Int.toNat 0) 0) 348 = zm_os c v 0 0 := by rw [← hc]; exact zm_ss _ _ _ _
        generalize zv_sI k 348 (432 + 76 * v.toNat + Int.toNat 0) 0 = k1 at es f1 ek1
        have hM1 := zm_F_M f1 hM
        have c5 : zm_os c v 0 0 5 = c 5 := zm_u_o _ _ (by clear hs sh; omega)
        have h5 := W.2.2.2.2.2
        obtain ⟨p, ep⟩ : ∃ p : Nat, c 5 = p := ⟨(c 5).toNat, (Int.toNat_of_nonneg h5.1).symm⟩
        have p40 : p ≤ 40 := by rw [ep] at h5; exact Int.ofNat_le.mp h5.2
        obtain ⟨k2, i1, f2, i3, i4⟩ := zt_pr45 (D + 4) many (m : Int) v p40 p 0 k1 (Nat.zero_add _) hM1 (by rw [ek1, c5, ep])
        have hM2 := zm_F_M f2 hM1
        rw [ek1] at i3 i4
        have oc : ∀ k : Nat, 4156 ≤ k → zm_os c v 0 0 k = c k := fun k hk => zm_u_o _ _ (by have := hs.1; clear hs sh; omega)
        have k25 : zv_I k2 348 5 = p := (i3 5 (fun j _ _ => by omega)).trans (c5.trans ep)
        have i3' : ∀ x : Nat, x < 4156 → zv_I k2 348 x = zm_os c v 0 0 x := fun x hx => i3 x (fun j _ _ => by omega)
        have W2 : zm_W (zv_I k2 348) := zm_W_alt w1 (fun k _ h1 => i3' k (by omega)) (by rw [i3' 0 (by decide)]; exact w1.2.1) (by rw [i3' 3 (by decide)]; exact w1.2.2.1) (i3' 4 (by decide)) (fun k _ h1 => i3' k (by omega)) (by rw [i3' 5 (by decide)]; exact w1.2.2.2.2.2)
        have n1 := zm_nst_rm hs
        have n2 : zm_nst (zv_I k2 348) = zm_nst (zm_os c v 0 0) := zm_sum_cg 48 (fun k hk => i3' _ (by omega))
        have H1 : zt_H a (zv_I k2 348) g1 := zt_H_pr H hA1 R hs s0 sh W2 (fun x hx => i3 x (fun j _ j2 => hx j (by rw [ep]; exact Int.ofNat_lt.mpr j2))) (fun j hj => by
          rw [ep] at hj
          have := i4 j (Nat.zero_le _) (Int.ofNat_lt.mp hj)
          rw [oc _ (Nat.le_add_right _ _)] at this
          exact this)
        obtain ⟨v', gv', en', fo'⟩ := zj_fo (d := d) (D := D) (zt_L_A hA1) H1 hM2 rfl
        have nst1 : zm_nst (zv_I k2 348) = zm_nst c - 1 := n2.trans n1
        have wm := zt_pr7 m48
        obtain ⟨w, g', k', y1, y2, y3, y4, y5, y6, y7⟩ := ih (m + 1) (zv_I k2 348) g1 k2 v' hA1 H1 hM2 rfl (zt_pr8 nst1 hn) (zt_pr9 nst1 hmn) gv' en'
        have x1 : zv_I k2 348 1 = c 1 := (i3' 1 (by decide)).trans (zm_u_o _ _ (by clear hs sh; omega))
        have x2 : zv_I k2 348 2 = c 2 := (i3' 2 (by decide)).trans (zm_u_o _ _ (by clear hs sh; omega))
        refine ⟨w, g', k', ?_, ?_, y3, zt_k_t (zt_rm_k la R inS inP) y4, y5, y6.trans x1, y7.trans x2⟩
        · rw [qL0_pruneTo_14, zm_e (zl_gI gL la 12), zt_U_ct U, if_neg le, if_pos m48, zm_e en]
          dsimp only
          rw [ero, if_neg (zt_r0 U hs), zm_e e1, wm]
          exact y1
        · rw [qL9_pruneNow_23, if_neg v0, zm_e (zm_states hM _ (by rw [hc]; exact W.1.1)), hc]
          dsimp only
          rw [if_neg le, zm_e es, show L9_pruneNow_45 (D + 4) 347 many (m : Int) v 0 k1 = _ from i1, qL9_pruneNow_45, zm_e (zm_f0 hM2), zm_e (zm_aI hM2 zm_l348 rfl (by decide) (by decide)), show zv_I k2 348 (Int.toNat 5) = _ from k25, if_neg (Int.lt_irrefl _), zm_e fo', wm]
          exact y2
theorem zj_prune {d D : Nat} {a : Nat} {c : Nat → Int} {g k : zv_H} (hA : zc_A g) (H : zt_H a c g) (hM : zm_M k) (hc : zv_I k 348 = c) {many : Int} (rm : zv_rg many) : ∃ q q', C0_pruneTo (d + 3) a many g = some q ∧ C9_pruneNow (D + 5) 347 many k = some q' ∧ zt_Z a 0 g k q q' := by
  have U := zt_H_U H
  have W := zt_U_W U
  have la := zt_U_la U
  have gL := zt_L_A hA
  have ew := zc_within (d := d + 1) g many 1 48
  have ei := zm_isIn (h := k) (D + 3) many 1 48
  by_cases hm : 1 ≤ many ∧ many ≤ 48
  · rw [if_pos hm] at ew ei
    obtain ⟨v, gv, en, fo⟩ := zj_fo (d := d) (D := D) gL H hM hc
    have nst := zt_nst_le W
    obtain ⟨w, g', k', y1, y2, y3, y4, y5, y6, y7⟩ := zj_prloop (d := d) (D := D) hm.1 48 0 c g k v hA H hM hc nst.2 (by rw [show ((0 : Nat) : Int) = 0 from rfl, Int.zero_add]; exact nst.2) gv en
    have z1 : C0_pruneTo (d + 3) a many g = some (w, g') := by
      refine lC0_pruneTo (zl_ob gL la) ?_
      rw [qE0_pruneTo, zm_e ew]
      dsimp only
      rw [if_neg (by decide)]
      exact y1
    have z2 : C9_pruneNow (D + 5) 347 many k = some (w, k') := by
      refine lC9_pruneNow (zm_ob hM) ?_
      rw [qE9_pruneNow, zm_e ei]
      dsimp only
      rw [if_neg (by decide), zm_e fo]
      exact y2
    obtain ⟨p, ep, X, _⟩ := zc_C0_pruneTo (d := d) hA la rm
    have ee : p = (w, g') := Option.some.inj (ep.symm.trans z1)
    rw [ee] at X
    obtain ⟨p', ep', Fm, _⟩ := zm_pruneNow hM hc W D many
    have ee' : p' = (w, k') := Option.some.inj (ep'.symm.trans z2)
    rw [ee'] at Fm
    refine ⟨(w, g'), (w, k'), z1, z2, ⟨X, y4, zm_F_s Fm rfl rfl, Or.inr ⟨y3, rfl⟩, y5, ?_, ?_⟩⟩
    · rw [hc]
      dsimp only
      rw [y6]
      exact ⟨Int.le_refl _, Int.le_add_of_nonneg_right (by decide)⟩
    · rw [hc]
      dsimp only
      rw [y7]
      exact ⟨Int.le_refl _, Int.le_add_of_nonneg_right (by decide)⟩
  · rw [if_neg hm] at ew ei
    refine ⟨(-1, g), (-1, zv_sI k 347 3 1), lC0_pruneTo (zl_ob gL la) ?_, lC9_pruneNow (zm_ob hM) ?_, zt_Z_rf (by decide) hA H hc (by decide) 1⟩
    · rw [qE0_pruneTo, zm_e ew]
      rfl
    · rw [qE9_pruneNow, zm_e ei]
      dsimp only
      rw [if_pos rfl, zm_e (zm_refuse hM _ 1)]
end
/-! A54.paper -/
section
/-! ===== the tie: merging on paper, the class ===== -/
theorem zt_cy40 {g : zv_H} (gL : zt_L g) {s t : Nat} (ls : zv_lay s = (2, 40)) (lt : zv_lay t = (2, 40)) (ne : s ≠ t) : ∃ g', zv_cy g s 0 t 0 40 = some g' ∧ zt_o [t] g g' ∧ ∀ k : Nat, k < 40 → zv_I g' t k = zv_I g s k := by
  refine ⟨zv_cp g s 0 t 0 40, ?_, ⟨rfl, rfl, fun r hr => ?_⟩, fun k hk => ?_⟩
  · unfold zv_cy
    rw [if_pos ⟨⟨zl_n gL (by rw [ls]; decide), zl_n gL (by rw [lt]; decide), by rw [ls], by rw [lt]⟩, ⟨by decide, by decide, by decide⟩, by rw [ls]; decide, by rw [lt]; decide, ne⟩]
    rfl
  · have ne : ¬ r = t := by simpa using hr
    funext k
    exact if_neg (fun q => ne q.1)
  · show (if t = t ∧ 0 ≤ k ∧ k < 0 + 40 then g.2.1 s (0 + (k - 0)) else g.2.1 t k) = _
    rw [if_pos ⟨rfl, Nat.zero_le _, by omega⟩, Nat.sub_zero, Nat.zero_add]
    rfl
theorem zt_vl {a : Nat} (la : zv_lay a = (1, 0)) : zv_lay (a + 17) = (1, 6) ∧ zv_lay (a + 17 + 1) = (2, 40) ∧ zv_lay (a + 17 + 2) = (2, 40) ∧ zv_lay (a + 17 + 3) = (2, 40) ∧ zv_lay (a + 17 + 4) = (2, 40) := by
  rcases zc_lh la with e | e <;> rw [e] <;> exact ⟨rfl, rfl, rfl, rfl, rfl⟩
theorem zt_cp4 {d : Nat} {r : Nat} {g : zv_H} (gL : zt_L g) (l0 : zv_lay r = (1, 6)) {s1 t1 s2 t2 : Nat} (a1 : zv_lay s1 = (2, 40)) (b1 : zv_lay t1 = (2, 40)) (n1 : s1 ≠ t1) (a2 : zv_lay s2 = (2, 40)) (b2 : zv_lay t2 = (2, 40)) (n2 : s2 ≠ t2) (n3 : s2 ≠ t1) (n4 : t1 ≠ t2) (x y : Nat) : ∃ g3 g6, zv_cy g s1 0 t1 0 40 = some g3 ∧ zv_cy g3 s2 0 t2 0 40 = some g6 ∧ zt_L g3 ∧ zt_L g6 ∧ (zv_sI g6 r y (zv_I g r x)).1 = g.1 ∧ (zv_sI g6 r y (zv_I g r x)).2.2 = g.2.2 ∧ zv_I g6 r x = zv_I g r x ∧ (∀ q k, q ≠ t1 → q ≠ t2 → ¬ (q = r ∧ k = y) → zv_I (zv_sI g6 r y (zv_I g r x)) q k = zv_I g q k) ∧ (∀ k : Nat, k < 40 → zv_I (zv_sI g6 r y (zv_I g r x)) t1 k = zv_I g s1 k) ∧ (∀ k : Nat, k < 40 → zv_I (zv_sI g6 r y (zv_I g r x)) t2 k = zv_I g s2 k) ∧ zv_I (zv_sI g6 r y (zv_I g r x)) r y = zv_I g r x := by
  obtain ⟨g3, e3, o3, w3⟩ := zt_cy40 gL a1 b1 n1
  have gL3 := zt_o_L o3 gL
  obtain ⟨g6, e6, o6, w6⟩ := zt_cy40 gL3 a2 b2 n2
  have gL6 := zt_o_L o6 gL3
  have nr : ∀ t : Nat, zv_lay t = (2, 40) → t ≠ r := fun t ht e => by rw [e, l0] at ht; exact absurd ht (by decide)
  have f3 : ∀ q k, q ≠ t1 → zv_I g3 q k = zv_I g q k := fun q k hq => zt_o_i o3 (by simpa using hq) k
  have f6 : ∀ q k, q ≠ t2 → zv_I g6 q k = zv_I g3 q k := fun q k hq => zt_o_i o6 (by simpa using hq) k
  refine ⟨g3, g6, e3, e6, gL3, gL6, o6.1.trans o3.1, o6.2.1.trans o3.2.1, ?_, fun q k q1 q2 q3 => ?_, fun k hk => ?_, fun k hk => ?_, zy_I _ _ _ _⟩
  · rw [f6 _ _ (fun q => nr t2 b2 q.symm), f3 _ _ (fun q => nr t1 b1 q.symm)]
  · rw [zy_In _ _ q3, f6 q k q2, f3 q k q1]
  · rw [zy_In _ _ (fun q => nr t1 b1 q.1), f6 _ _ n4, w3 k hk]
  · rw [zy_In _ _ (fun q => nr t2 b2 q.1), w6 k hk, f3 _ _ n3]
theorem zt_keep {d : Nat} {a : Nat} (la : zv_lay a = (1, 0)) {g : zv_H} (gL : zt_L g) : ∃ g', C6_keep (d + 1) (a + 17) g = some g' ∧ zt_hy a g g' ∧ (∀ k : Nat, k < 40 → zv_I g' (a + 20) k = zv_I g (a + 18) k) ∧ (∀ k : Nat, k < 40 → zv_I g' (a + 21) k = zv_I g (a + 19) k) ∧ zv_I g' (a + 17) 5 = zv_I g (a + 17) 4 := by
  obtain ⟨l0, l1, l2, l3, l4⟩ := zt_vl la
  obtain ⟨g3, g6, e3, e6, gL3, gL6, q1, q2, q3, q4, q5, q6, q7⟩ := zt_cp4 (d := d) (r := a + 17) gL l0 l1 l3 (by omega) l2 l4 (by omega) (by omega) (by omega) 4 5
  refine ⟨_, lC6_keep (zl_ob gL l0) ?_, ⟨q1, q2, fun r k hy => q4 r k (fun z => hy (Or.inr (Or.inr (Or.inl z)))) (fun z => hy (Or.inr (Or.inr (Or.inr (Or.inl z))))) (fun z => hy (Or.inr (Or.inr (Or.inr (Or.inr z)))))⟩, q5, q6, q7⟩
  rw [qE6_keep, zm_e (zl_gF gL l0 0 1), zm_e (zl_gF gL l0 2 3), zm_e e3, zm_e (zl_gF gL3 l0 1 2), zm_e (zl_gF gL3 l0 3 4), zm_e e6, zm_e (zl_gI gL6 l0 4), q3, zm_e (zl_pI gL6 l0 5 _)]
/-- what giving back changes -/
def zt_gb (a : Nat) (g : zv_H) (g' : zv_H) : Prop := (g'.1 = g.1) ∧ (g'.2.2 = g.2.2) ∧ (∀ r k, r ≠ a + 18 → r ≠ a + 19 → ¬ (r = a + 17 ∧ k = 4) → zv_I g' r k = zv_I g r k) ∧ (∀ k : Nat, k < 40 → zv_I g' (a + 18) k = zv_I g (a + 20) k) ∧ (∀ k : Nat, k < 40 → zv_I g' (a + 19) k = zv_I g (a + 21) k) ∧ (zv_I g' (a + 17) 4 = zv_I g (a + 17) 5)
theorem zt_gb_n {a : Nat} {g : zv_H} {g' : zv_H} (t : zt_gb a g g') : g'.1 = g.1 := t.1
theorem zt_gb_q {a : Nat} {g : zv_H} {g' : zv_H} (t : zt_gb a g g') : g'.2.2 = g.2.2 := t.2.1
theorem zt_gb_i {a : Nat} {g : zv_H} {g' : zv_H} (t : zt_gb a g g') : ∀ r k, r ≠ a + 18 → r ≠ a + 19 → ¬ (r = a + 17 ∧ k = 4) → zv_I g' r k = zv_I g r k := t.2.2.1
theorem zt_gb_s {a : Nat} {g : zv_H} {g' : zv_H} (t : zt_gb a g g') : ∀ k : Nat, k < 40 → zv_I g' (a + 18) k = zv_I g (a + 20) k := t.2.2.2.1
theorem zt_gb_t {a : Nat} {g : zv_H} {g' : zv_H} (t : zt_gb a g g') : ∀ k : Nat, k < 40 → zv_I g' (a + 19) k = zv_I g (a + 21) k := t.2.2.2.2.1
theorem zt_gb_c {a : Nat} {g : zv_H} {g' : zv_H} (t : zt_gb a g g') : zv_I g' (a + 17) 4 = zv_I g (a + 17) 5 := t.2.2.2.2.2
theorem zt_giveB {d : Nat} {a : Nat} (la : zv_lay a = (1, 0)) {g : zv_H} (gL : zt_L g) : ∃ g', C6_giveBack (d + 1) (a + 17) g = some g' ∧ zt_gb a g g' := by
  obtain ⟨l0, l1, l2, l3, l4⟩ := zt_vl la
  obtain ⟨g3, g6, e3, e6, gL3, gL6, q1, q2, q3, q4, q5, q6, q7⟩ := zt_cp4 (d := d) (r := a + 17) gL l0 l3 l1 (by omega) l4 l2 (by omega) (by omega) (by omega) 5 4
  refine ⟨_, lC6_giveBack (zl_ob gL l0) ?_, ⟨q1, q2, fun r k h1 h2 h3 => q4 r k h1 h2 h3, q5, q6, q7⟩⟩
  rw [qE6_giveBack, zm_e (zl_gF gL l0 2 3), zm_e (zl_gF gL l0 0 1), zm_e e3, zm_e (zl_gF gL3 l0 3 4), zm_e (zl_gF gL3 l0 1 2), zm_e e6, zm_e (zl_gI gL6 l0 5), q3, zm_e (zl_pI gL6 l0 4 _)]
theorem zt_U_fr {a : Nat} {c : Nat → Int} {h h' : zv_H} (t : zt_U a c h) (f : h'.2.2 = h.2.2) (eC : ∀ i x k : Nat, i < 48 → x ≤ 2 → zv_I h' (zc_stt a i + x) k = zv_I h (zc_stt a i + x) k) (h5 : ∀ k, zv_I h' (a + 5) k = zv_I h (a + 5) k) (e11 : zv_I h' a 11 = zv_I h a 11) (e12 : zv_I h' a 12 = zv_I h a 12) : zt_U a c h' := by
  have la := zt_U_la t
  have hR : ∀ r k, zv_R h' r k = zv_R h r k := fun r k => by
    unfold zv_R
    rw [f]
  have sN : ∀ s, zm_st c s → s.toNat < 48 := fun s hs => by have := hs.1; omega
  have eS : ∀ i, i < 48 → ∀ k, k ≠ 14 → zv_I h' (zc_stt a i) k = zv_I h (zc_stt a i) k := fun i hi k _ => eC i 0 k hi (by decide)
  have eI : ∀ s, zm_st c s → ∀ k, k ≠ 14 → zv_I h' (zt_r a s) k = zv_I h (zt_r a s) k := fun s hs k hk => by
    rw [zt_r_p hs.1.1]
    exact eC _ 0 k (sN s hs) (by decide)
  have eJ : ∀ s, zm_st c s → ∀ k, zv_J h' (zt_r a s) k = zv_J h (zt_r a s) k := fun s hs k => by
    unfold zv_J
    rw [f]
  have eR : ∀ s, zm_st c s → ∀ k, zv_R h' (zt_r a s) k = zv_R h (zt_r a s) k := fun s hs k => hR _ _
  have eA : ∀ s, zm_st c s → ∀ x k, x = 1 ∨ x = 2 → zv_I h' (zt_r a s + x) k = zv_I h (zt_r a s + x) k := fun s hs x k hx => by
    rw [zt_r_p hs.1.1]
    exact eC _ x k (sN s hs) (by omega)
  refine ⟨la, zt_U_W t, fun i hi => (eS i hi 3 (by decide)).trans (zt_U_lv t i hi), fun i hi => (eS i hi 0 (by decide)).trans (zt_U_nr t i hi), fun s hs => ?_, ?_, ?_, ?_⟩
  · have u := zt_U_st t s hs
    refine ⟨(eR s hs 4).trans (zt_S_pa u), (eR s hs 5).trans (zt_S_fi u), (eI s hs 6 (by decide)).trans (zt_S_ac u), (eI s hs 7 (by decide)).trans (zt_S_ti u), (eI s hs 8 (by decide)).trans (zt_S_pl u), (eI s hs 9 (by decide)).trans (zt_S_sz u), (eI s hs 13 (by decide)).trans (zt_S_vi u), (eI s hs 15 (by decide)).trans (zt_S_an u), fun k hk => by rw [eJ s hs]; exact zt_S_nm u k hk, fun k hk => by rw [eJ s hs]; exact zt_S_bs u k hk, fun q k x hx => (eA s hs 1 k (Or.inl rfl)).trans (zt_S_tk u q k x hx), fun q k hk => ?_, fun l hl => (eI s hs 12 (by decide)).trans (zt_S_ln u l hl), fun l hl n x hx => (eA s hs 2 n (Or.inr rfl)).trans (zt_S_dc u l hl n x hx), fun l hl => (eI s hs 10 (by decide)).trans (zt_S_de u l hl), (eI s hs 11 (by decide)).trans (zt_S_ch u), zt_S_cw u⟩
    rw [h5]
    exact zt_S_gl u q k hk
  · exact (hR a 10).trans (zt_U_he t)
  · exact e11.trans (zt_U_nw t)
  · exact e12.trans (zt_U_ct t)
/-- half a given back: all holds again -/
theorem zt_H_gb {a : Nat} {c : Nat → Int} {g g2 g' : zv_H} (H : zt_H a c g) (U : zt_U a c g2) (J : zt_J a c g2) (N : zt_N a c g2) (B : zt_gb a g2 g') (k1 : ∀ k : Nat, k < 40 → zv_I g2 (a + 20) k = zv_I g (a + 18) k) (k2 : ∀ k : Nat, k < 40 → zv_I g2 (a + 21) k = zv_I g (a + 19) k) (k3 : zv_I g2 (a + 17) 5 = zv_I g (a + 17) 4) : zt_H a c g' := by
  have la := zt_U_la U
  have V := zt_H_V H
  have hI : ∀ n k, n ≤ 27 → n ≠ 17 → n ≠ 18 → n ≠ 19 → zv_I g' (a + n) k = zv_I g2 (a + n) k := fun n k n0 n1 n2 n3 => zt_gb_i B _ k (fun q => n2 (Nat.add_left_cancel q)) (fun q => n3 (Nat.add_left_cancel q)) (fun q => n1 (Nat.add_left_cancel q.1))
  refine ⟨zt_U_fr U (zt_gb_q B) (fun i x k hi hx => ?_) (fun k => hI 5 k (by decide) (by decide) (by decide) (by decide)) (hI 0 11 (by decide) (by decide) (by decide) (by decide)) (hI 0 12 (by decide) (by decide) (by decide) (by decide)), zt_J_cg J (fun r k r1 r2 => ?_), ⟨?_, zt_V_c0 V, zt_V_c5 V, fun i hi => ?_, fun i hi => ?_, zt_V_vb V, zt_V_vd V⟩, zt_N_c N (zt_U_W U).2.2.1.2 rfl (fun _ _ _ => rfl) (fun r k r1 r2 => ?_)⟩
  · have b := fun n (n0 : n ≤ 27) (n1 : n ≠ 1) (n2 : n ≠ 2) (n3 : n ≠ 3) => zt_sepH (a := a) (i := i) (n := n) (x := x) n0 hx n1 n2 n3
    exact zt_gb_i B _ k (fun q => b 18 (by decide) (by decide) (by decide) (by decide) q.symm) (fun q => b 19 (by decide) (by decide) (by decide) (by decide) q.symm) (fun q => b 17 (by decide) (by decide) (by decide) (by decide) q.1.symm)
  · obtain ⟨n, rfl⟩ : ∃ n, r = a + n := ⟨r - a, by omega⟩
    exact hI n k (by omega) (by omega) (by omega) (by omega)
  · rw [zt_gb_c B, k3]; exact zt_V_ct V
  · rw [zt_gb_s B _ (zt_pr5 _), k1 _ (zt_pr5 _)]; exact zt_V_ls V i hi
  · rw [zt_gb_t B _ (zt_pr5 _), k2 _ (zt_pr5 _)]; exact zt_V_lt V i hi
  · obtain ⟨n, rfl⟩ : ∃ n, r = a + n := ⟨r - a, by omega⟩
    exact hI n k (by omega) (by omega) (by omega) (by omega)
theorem zt_gb_k {a : Nat} (la : zv_lay a = (1, 0)) {g g' : zv_H} (B : zt_gb a g g') : zt_k a g g' := zt_k_of (zt_gb_n B) (by rw [zt_gb_q B]) (fun r k hr => zt_gb_i B r k (fun q => hr (by rw [q]; exact zt_inA la (by decide))) (fun q => hr (by rw [q]; exact zt_inA la (by decide))) (fun q => hr (by rw [q.1]; exact zt_inA la (by decide)))) (fun r k _ => by unfold zv_J; rw [zt_gb_q B]) (fun r k _ => by unfold zv_R; rw [zt_gb_q B])
end
/-! A55.paper2 -/
section
/-! ===== the tie: merging on paper ===== -/
theorem zt_nst_nw {c c' : Nat → Int} {s : Int} (W : zm_W c) (h1 : 0 ≤ s ∧ s ≤ 47) (dead : zm_o c s 0 ≠ 1) (n : zm_Nw c c' s) : zm_nst c = zm_nst c' - 1 := by
  have e := zt_sum_up (f := fun k => zm_o c' k 0) (g := fun k => zm_o c k 0) (j := s.toNat) (by
    show zm_o c ((s.toNat : Nat) : Int) 0 = zm_o c' ((s.toNat : Nat) : Int) 0 - 1
    have h0 := (W.1.1 s h1.1 h1.2).resolve_right dead
    rw [show ((s.toNat : Nat) : Int) = s by omega, n.2.2.1, h0]
    rfl) 48 (fun k hk1 hk => (n.2.1 (k : Int) 0 (by omega) (by omega) (fun z => hk (by omega)) (by decide) (by decide)).symm)
  rw [if_pos (show s.toNat < 48 by omega)] at e
  exact e
theorem zt_cn_ex {c0 : Nat → Int} : ∀ (n : Nat) (c : Nat → Int), zt_cn c0 n c → zm_ex c0 c
  | 0, c, h => by
    have e : c = c0 := h
    rw [e]
    exact zm_ex_r c0
  | n + 1, c, h => by
    obtain ⟨c1, s, cn, W1, sr, dead, nw⟩ := h
    exact zm_ex_t (zt_cn_ex n c1 cn) (zm_ex_n ⟨Int.le_trans (by decide) sr.1, sr.2⟩ dead nw)
theorem zt_nch_no {c : Nat → Int} {s : Int} (h : ∀ t, zm_st c t → zm_o c t 1 ≠ s) : zm_nch c s = 0 := by
  have e : zm_nch c s = zm_sum (fun _ => 0) 48 := zm_sum_cg 48 (fun k _ => if_neg (fun q => h k q.1 q.2))
  rw [e]
  decide
theorem zt_dir {c : Nat → Int} (W : zm_W c) {t s : Int} (ht : zm_st c t) (hs : ¬ zm_st c s) (s0 : 0 ≤ s) : zm_o c t 1 ≠ s := by
  by_cases e : t = 0
  · rw [e, W.1.2.1.2.1]
    exact fun q => absurd (q ▸ s0 : (0 : Int) ≤ -1) (by decide)
  · exact fun q => hs (by rw [← q]; exact (zt_pa W ht e).1)
theorem zt_paper_l {d : Nat} {a : Nat} {c0 : Nat → Int} (st0 : zm_st c0 (c0 0)) (w : Int) {M : Nat} (M48 : M ≤ 48) : ∀ (n i : Nat) (c : Nat → Int) (g : zv_H), i + n = M → zt_cn c0 n c → zc_A g → zt_U a c g → zt_J a c g → zt_N a c g → ∃ g', L0_mergeOnPaper_60 (d + 6) a (zt_r a (c0 0)) M w i g = L0_mergeOnPaper_112 (d + 6) a w g' ∧ zc_A g' ∧ zt_U a c0 g' ∧ zt_J a c0 g' ∧ zt_N a c0 g' ∧ zt_k a g g' ∧ ∀ n j : Nat, (n = 20 ∨ n = 21 ∨ (n = 17 ∧ j = 5)) → zv_I g' (a + n) j = zv_I g (a + n) j := by
  intro n
  induction n with
  | zero =>
    intro i c g hi cn hA U J N
    have e : i = M := hi
    have ec : c = c0 := cn
    subst ec
    refine ⟨g, ?_, hA, U, J, N, zt_k_r a g, fun _ _ _ => rfl⟩
    rw [qL0_mergeOnPaper_60, e, if_neg (Int.lt_irrefl _)]
  | succ n ih =>
    intro i c g hi cn hA U J N
    obtain ⟨c1, s, cn1, W1, sr, dead, nw⟩ := cn
    have la := zt_U_la U
    have gL := zt_L_A hA
    have W := zt_U_W U
    have s47 : 0 ≤ s ∧ s ≤ 47 := ⟨Int.le_trans (by decide) sr.1, sr.2⟩
    have hst := fun {t : Int} => zm_Nw_st s47 nw (t := t)
    have hs : zm_st c s := hst.mpr (Or.inl rfl)
    have hdead : ¬ zm_st c1 s := fun q => dead q.2
    have ex1 := zt_cn_ex n c1 cn1
    have b1 := (ex1 _ st0).1
    have nsb : s ≠ c0 0 := fun q => hdead (by rw [q]; exact b1)
    have c00 : c 0 = s := (nw.1 0 (Or.inl (by decide)) (by decide)).trans (zm_vc_0 _ s47)
    have pa : zm_o c s 1 = c1 0 := nw.2.2.2
    have p1 := W1.2.1
    have pns : c1 0 ≠ s := fun q => hdead (by rw [← q]; exact p1)
    have p2 : zm_st c (c1 0) := hst.mpr (Or.inr ⟨pns, p1⟩)
    have lS := zt_r_l la s47
    have lP := zt_r_l la p1.1
    have S := zt_U_st U s hs
    have he : zv_R g a 10 = zt_r a s := by rw [zt_U_he U, c00]
    have epa : zv_R g (zt_r a s) 4 = zt_r a (c1 0) := by rw [zt_S_pa S, pa]
    have hA2 := zc_hereA hA la (zt_U_V U p2) (zt_inr la p1.1 (n := 0) (by decide)).2.2
    have gL2 := zt_L_A hA2
    have na : ∀ Q : Nat, zv_lay Q = (1, 5) → Q ≠ a := fun Q lQ q => by rw [q] at lQ; rw [lQ] at la; exact absurd la (by decide)
    have hR2 : ∀ r k, ¬ (r = a ∧ k = 10) → zv_R (zv_sR g a 10 (zt_r a (c1 0))) r k = zv_R g r k := fun r k q => if_neg q
    have r10 : zv_R (zv_sR g a 10 (zt_r a (c1 0))) a 10 = zt_r a (c1 0) := if_pos ⟨rfl, rfl⟩
    have nch : zm_nch c s = 0 := zt_nch_no (fun t ht => by
      rcases hst.mp ht with q | ⟨q1, q2⟩
      · rw [q, pa]; exact pns
      · rw [nw.2.1 t 1 q2.1.1 (Int.le_trans q2.1.2 (by decide)) q1 (by decide) (by decide)]
        exact zt_dir W1 q2 hdead s47.1)
    have neP : zt_r a (c1 0) ≠ zt_r a s := fun q => pns (zt_r_inj la p1.1 s47 q)
    obtain ⟨g7, e7, R⟩ := zt_remove (d := d + 4) (s := s) gL2 la lS lP ((hR2 _ _ (fun q => na _ lS q.1)).trans epa) (show zv_I g (zt_r a s) 0 = s from zt_num U hs) neP
    obtain ⟨hA7, X7⟩ : zc_A g7 ∧ True := by
      obtain ⟨q, e, w⟩ := zc_C0_remove (d := d + 4) hA2 la (s := zt_r a s) ⟨lS, (zt_U_V U hs).2⟩ (zt_inr la s47 (n := 0) (by decide)).2.2 ((zt_S_ch S).trans nch) (by rw [r10]; exact neP)
      rw [e7] at e
      cases e
      exact ⟨w.1.2, trivial⟩
    have R' : zt_rm a (zt_r a s) (zt_r a (zm_o c s 1)) s (zv_sR g a 10 (zt_r a (c1 0))) g7 := by rw [pa]; exact R
    have U7 : zt_U a c1 g7 := by
      refine zt_U_rm (c' := c1) (g0 := zv_sR g a 10 (zt_r a (c1 0))) U R' (fun _ _ => rfl) hR2 (fun _ _ => rfl) hA7 hs W1 (fun t ht => ?_) (fun j hj => ?_) (fun t ht => ?_) r10 ?_ ?_
      · have tn : t ≠ s := fun q => hdead (by rw [← q]; exact ht)
        exact ⟨hst.mpr (Or.inr ⟨tn, ht⟩), tn⟩
      · by_cases e : (j : Int) = s
        · rw [if_pos e, e]
          exact (W1.1.1 s s47.1 s47.2).resolve_right dead
        · rw [if_neg e]
          exact (nw.2.1 (j : Int) 0 (Int.natCast_nonneg _) (Int.ofNat_le.mpr (Nat.le_of_lt hj)) e (by decide) (by decide)).symm
      · have tn : t ≠ s := fun q => hdead (by rw [← q]; exact ht)
        exact ⟨zm_Nw_ag nw ht.1.1 (Int.le_trans ht.1.2 (by decide)) tn, (nw.2.1 t 7 ht.1.1 (Int.le_trans ht.1.2 (by decide)) tn (by decide) (by decide)).symm⟩
      · rw [nw.1 1 (Or.inl (by decide)) (by decide), zt_vc_1]
      · exact zt_nst_nw W1 s47 dead nw
    have hd := zm_Nw_hd s47 nw
    have hI : ∀ n k, n ≤ 27 → n ≠ 1 → n ≠ 2 → n ≠ 3 → n ≠ 18 → ¬ (n = 0 ∧ k = 12) → zv_I g7 (a + n) k = zv_I g (a + n) k := fun n k n0 n1 n2 n3 n18 n12 => by
      refine zt_rm_I R _ k (fun q => zt_hs (a := a) (x := 0) s47 n0 (by decide) n1 n2 n3 q.1) (fun q => ?_) (fun q => n18 (Nat.add_left_cancel q)) (fun q => n12 ⟨Nat.add_left_cancel (q.1.trans (Nat.add_zero a).symm), q.2⟩)
      exact zt_hs (a := a) (x := 0) p1.1 n0 (by decide) n1 n2 n3 q.1
    have J7 : zt_J a c1 g7 := zt_J_c (zt_J_cg J (fun r k r1 r2 => by
      obtain ⟨n, rfl⟩ : ∃ n, r = a + n := ⟨r - a, (Nat.add_sub_cancel' (Nat.le_trans (Nat.le_add_right _ _) r1)).symm⟩
      exact hI n k (by clear hs hst; omega) (by clear hs hst; omega) (by clear hs hst; omega) (by clear hs hst; omega) (by clear hs hst; omega) (by clear hs hst; omega))) W.2.2.2.1.2 hd.2.1.symm (fun k k1 k2 => (hd.2.2.1 k k1 (Nat.lt_trans k2 (by decide))).symm)
    have N7 : zt_N a c1 g7 := zt_N_c N W.2.2.1.2 hd.1.symm (fun k k1 k2 => (hd.2.2.1 k (Nat.le_trans (by decide) k1) k2).symm) (fun r k r1 r2 => by
      obtain ⟨n, rfl⟩ : ∃ n, r = a + n := ⟨r - a, (Nat.add_sub_cancel' (Nat.le_trans (Nat.le_add_right _ _) r1)).symm⟩
      exact hI n k (by clear hs hst; omega) (by clear hs hst; omega) (by clear hs hst; omega) (by clear hs hst; omega) (by clear hs hst; omega) (by clear hs hst; omega))
    have iM : i < M := by clear hs hst; omega
    have wi : zv_w ((i : Int) + 1) = ((i + 1 : Nat) : Int) := zt_pr7 (Int.lt_of_lt_of_le (Int.ofNat_lt.mpr iM) (Int.ofNat_le.mpr M48))
    obtain ⟨g', y1, y2, y3, y4, y5, y6, y7⟩ := ih (i + 1) c1 g7 (by clear hs hst; omega) cn1 hA7 U7 J7 N7
    have k2 : zt_k a g (zv_sR g a 10 (zt_r a (c1 0))) := zt_k_of rfl rfl (fun _ _ _ => rfl) (fun _ _ _ => rfl) (fun r k hr => hR2 r k (fun q => hr (by rw [q.1]; exact zt_inA la (n := 0) (by decide))))
    have k7 : zt_k a (zv_sR g a 10 (zt_r a (c1 0))) g7 := zt_rm_k la R (show zt_in a (zt_r a s) from zt_inr la s47 (n := 0) (by decide)) (show zt_in a (zt_r a (c1 0)) from zt_inr la p1.1 (n := 0) (by decide))
    refine ⟨g', ?_, y2, y3, y4, y5, zt_k_t (zt_k_t k2 k7) y6, fun n j q => (y7 n j q).trans (hI n j (by clear hs hst; omega) (by clear hs hst; omega) (by clear hs hst; omega) (by clear hs hst; omega) (by clear hs hst; omega) (by clear hs hst; omega))⟩
    rw [qL0_mergeOnPaper_60, if_pos (Int.ofNat_lt.mpr iM), zm_e (zl_gR gL la 10), he, if_neg (zt_fo1000 (zt_r1000 U hs) (zt_r1000 U (zt_cn_ex (n + 1) c ⟨c1, s, cn1, W1, sr, dead, nw⟩ _ st0).1)), if_neg (fun q => nsb (zt_r_inj la s47 st0.1 q)), zm_e (zl_gR gL la 10), he, zm_e (zl_gR gL lS 4), epa, if_neg (zc_nz lP), zm_e (zl_gR gL la 10), he, zm_e (zl_gR gL lS 4), epa, zm_e (zl_pR gL la 10 _), zm_e e7, wi]
    exact y1
end
/-! A56.paper3 -/
section
/-! ===== the tie: merging on paper, both sides ===== -/
theorem zt_H_eq {a : Nat} {c c' : Nat → Int} {g : zv_H} (hA : zc_A g) (H : zt_H a c g) (e : ∀ k : Nat, k < 4236 → c' k = c k) : zt_H a c' g := by
  have U := zt_H_U H
  have W := zt_U_W U
  exact zt_H_hd H hA (zm_W_eq W e) (fun k _ k2 _ => e k k2) (e 0 (by decide)) (e 2 (by decide)) (e 4 (by decide)) (e 5 (by decide)) (fun k _ k2 => e k (Nat.lt_trans k2 (by decide))) (fun _ _ _ _ _ _ => rfl) (fun _ _ => rfl) (fun _ _ => rfl) ((zt_U_nw U).trans (e 1 (by decide)).symm) (zt_N_c (zt_H_N H) W.2.2.1.2 (e 3 (by decide)) (fun k _ k2 => e k (Nat.lt_trans k2 (by decide))) (fun _ _ _ _ => rfl))
theorem zm_mg_c {h : zv_H} {c : Nat → Int} (hM : zm_M h) (hc : zv_I h 348 = c) (W : zm_W c) (D : Nat) (s : Int) {q : Int × zv_H} (e : C9_mergeNow (D + 9) 347 s h = some q) : zv_I q.2 348 = c ∨ 0 ≤ q.1 := by
  obtain ⟨p, ep, _, _, w⟩ := zm_mergeNow hM hc W D s
  have ee : p = q := Option.some.inj (ep.symm.trans e)
  rw [ee] at w
  rcases w with w | w
  · exact Or.inl w.2
  · exact Or.inr w.1
/-- a merge on paper, on both sides -/
def zt_pp (a : Nat) (g : zv_H) (k : zv_H) (v : Int) (g' : zv_H) (v' : Int) (k' : zv_H) : Prop := (zt_a1 v v') ∧ (zc_X g g') ∧ (zt_k a g g') ∧ (zt_H a (zv_I k' 348) g') ∧ (zv_I k' 348 1 = zv_I k 348 1 ∧ zv_I k' 348 2 = zv_I k 348 2) ∧ (zm_F [348, 350, 351, 352, 353, 354, 355, 358, 359, 360, 362, 363, 364] [3, 10, 11, 12, 19, 24] k k')
theorem zt_pp_a1 {a : Nat} {g : zv_H} {k : zv_H} {v : Int} {g' : zv_H} {v' : Int} {k' : zv_H} (t : zt_pp a g k v g' v' k') : zt_a1 v v' := t.1
theorem zt_pp_X {a : Nat} {g : zv_H} {k : zv_H} {v : Int} {g' : zv_H} {v' : Int} {k' : zv_H} (t : zt_pp a g k v g' v' k') : zc_X g g' := t.2.1
theorem zt_pp_k {a : Nat} {g : zv_H} {k : zv_H} {v : Int} {g' : zv_H} {v' : Int} {k' : zv_H} (t : zt_pp a g k v g' v' k') : zt_k a g g' := t.2.2.1
theorem zt_pp_H {a : Nat} {g : zv_H} {k : zv_H} {v : Int} {g' : zv_H} {v' : Int} {k' : zv_H} (t : zt_pp a g k v g' v' k') : zt_H a (zv_I k' 348) g' := t.2.2.2.1
theorem zt_pp_g {a : Nat} {g : zv_H} {k : zv_H} {v : Int} {g' : zv_H} {v' : Int} {k' : zv_H} (t : zt_pp a g k v g' v' k') : zv_I k' 348 1 = zv_I k 348 1 ∧ zv_I k' 348 2 = zv_I k 348 2 := t.2.2.2.2.1
theorem zt_pp_F {a : Nat} {g : zv_H} {k : zv_H} {v : Int} {g' : zv_H} {v' : Int} {k' : zv_H} (t : zt_pp a g k v g' v' k') : zm_F [348, 350, 351, 352, 353, 354, 355, 358, 359, 360, 362, 363, 364] [3, 10, 11, 12, 19, 24] k k' := t.2.2.2.2.2
theorem zj_paper {d D : Nat} {a : Nat} {c : Nat → Int} {g k : zv_H} (hA : zc_A g) (H : zt_H a c g) (hM : zm_M k) (hc : zv_I k 348 = c) (b : c 2 < 1999999000) {s : Int} (rs : zv_rg s) (w : Int) : ∃ v g' v' k', C0_mergeOnPaper (d + 7) a s w g = some (v, g') ∧ L9_merges_25 (D + 9) 347 s w 0 k = some (some (zv_i v'), k') ∧ zt_pp a g k v g' v' k' := by
  have U := zt_H_U H
  have W := zt_U_W U
  have la := zt_U_la U
  have gL := zt_L_A hA
  obtain ⟨g1, e1, f1, kp1, kp2, kp3⟩ := zt_keep (d := d + 5) la gL
  have hA1 : zc_A g1 := by
    obtain ⟨q, e, w⟩ := zc_C6_keep (d := d + 5) hA (zt_vl la).1
    rw [e1] at e
    cases e
    exact w.2
  have H1 := zt_H_y H f1
  obtain ⟨k1, e2, F1, p1⟩ := zm_merges25 (D + 9) s w 4236 0 k rfl hM (fun x hx => absurd hx (Nat.not_lt_zero _))
  have hM1 := zm_F_M F1 hM
  have c1 : zv_I k1 348 = c := (zm_F_a F1 348).trans hc
  obtain ⟨⟨v, g2⟩, ⟨v', k2⟩, z1, z2, Z, mg⟩ := zj_merge (d := d) (D := D) hA1 H1 hM1 c1 b rs
  have hA2 : zc_A g2 := (zt_Z_X Z).2
  have gL2 := zt_L_A hA2
  obtain ⟨p, ep, Fm, W2, _⟩ := zm_mergeNow hM1 c1 W D s
  have ee' : p = (v', k2) := Option.some.inj (ep.symm.trans z2)
  rw [ee'] at Fm W2
  dsimp only at Fm W2
  have hM2 := zm_F_M Fm hM1
  have H2 := zt_Z_H Z
  have U2 := zt_H_U H2
  have kk2 := zt_Z_k Z
  dsimp only at H2 U2 kk2
  have F12 : zm_F [348, 350, 351, 352, 353, 354, 355, 358, 359, 360, 362, 363, 364] [3, 10, 11, 12, 19, 24] k k2 := zm_F_t (zm_F_s F1 rfl rfl) (zm_F_s Fm rfl rfl)
  have p2 : ∀ x : Nat, x < 4236 → zv_I k2 350 x = c x := fun x hx => by rw [zm_F_a Fm 350, p1 x hx, hc]
  obtain ⟨q0, eq0, X0, _⟩ := zc_C0_mergeOnPaper (d := d) (y := w) hA la rs
  have top : ∀ {R1 R2 : zv_O} {r : Int × zv_H} {r' : Int × zv_H}, (if v < 0 then (some (some (zv_i v), g2) : zv_O) else (if w = 0 then L0_mergeOnPaper_60 (d + 6) a (zt_r a (c 0)) v v 0 g2 else (if w = 1 then ((zv_gI g2 a 0 13).bind fun v5 => L0_mergeOnPaper_60 (d + 6) a (zt_r a (c 0)) v v5 0 g2) else ((zv_gR g2 a 0 10).bind fun v6 => ((zv_gI g2 v6 5 12).bind fun v7 => L0_mergeOnPaper_60 (d + 6) a (zt_r a (c 0)) v v7 0 g2))))) = R1 → R1 = some (some (zv_i r.1), r.2) → (if v' < 0 then (some (some (zv_i (-1)), k2) : zv_O) else (if w = 0 then L9_merges_94 (D + 9) 347 v' 0 k2 else (if w = 1 then ((zv_gI k2 347 9 24).bind fun v6 => L9_merges_94 (D + 9) 347 v6 0 k2) else ((C9_here (D + 9) 347 k2).bind fun q7 => ((C9_lettersOf (D + 9) 347 q7.1 q7.2).bind fun q8 => L9_merges_94 (D + 9) 347 q8.1 0 q8.2))))) = R2 → R2 = some (some (zv_i r'.1), r'.2) → C0_mergeOnPaper (d + 7) a s w g = some r ∧ L9_merges_25 (D + 9) 347 s w 0 k = some (some (zv_i r'.1), r'.2) := fun {R1 R2 r r'} h1 h2 h3 h4 => by
    constructor
    · refine lC0_mergeOnPaper (zl_ob gL la) ?_
      rw [qE0_mergeOnPaper, zm_e (zl_gR gL la 10), zt_U_he U, zm_e (zl_gF gL la 7 17), zm_e e1, zm_e z1]
      exact h1.trans h2
    · rw [show L9_merges_25 (D + 9) 347 s w 0 k = _ from e2, qL9_merges_25, if_neg (by decide), zm_e z2]
      exact h3.trans h4
  rcases zt_Z_a1 Z with ⟨v0, v1⟩ | ⟨v0, v1⟩
  · dsimp only at v0 v1
    have eg : g2 = g1 := zt_mg_no mg v0
    have ec : zv_I k2 348 = c := by
      rcases zm_mg_c hM1 c1 W D s z2 with q | q
      · exact q
      · exact absurd (v1 ▸ q : (0 : Int) ≤ -1) (by decide)
    obtain ⟨y1, y2⟩ := top (r := (v, g2)) (r' := (-1, k2)) rfl (if_pos v0) rfl (if_pos (by rw [v1]; decide))
    have ee : q0 = (v, g2) := Option.some.inj (eq0.symm.trans y1)
    rw [ee] at X0
    exact ⟨v, g2, -1, k2, y1, y2, Or.inl ⟨v0, rfl⟩, X0, zt_k_t (zt_hy_k la f1) kk2, H2, by rw [ec, hc]; exact ⟨rfl, rfl⟩, F12⟩
  · dsimp only at v0 v1
    obtain ⟨lo, cn, v48, lo0⟩ := zt_mg_so mg v0
    dsimp only at lo cn v48 lo0
    have kpm := zt_mg_kp mg
    dsimp only at kpm
    obtain ⟨m, em⟩ : ∃ m : Nat, v = m := ⟨v.toNat, (Int.toNat_of_nonneg v0).symm⟩
    have em2 : v.toNat = m := by rw [em]; exact Int.toNat_natCast m
    rw [em2] at cn
    have m48 : m ≤ 48 := by rw [em] at v48; exact Int.ofNat_le.mp v48
    have nv : ¬ v < 0 := Int.not_lt.mpr v0
    have nv' : ¬ v' < 0 := by rw [v1]; exact nv
    -- the class gives all back
    have back : ∀ x : Int, ∃ g', L0_mergeOnPaper_60 (d + 6) a (zt_r a (c 0)) v x 0 g2 = some (some (zv_i x), g') ∧ zt_H a c g' ∧ zt_k a g g' ∧ zc_A g' := fun x => by
      obtain ⟨g3, y1, y2, y3, y4, y5, y6, y7⟩ := zt_paper_l (d := d) (a := a) (c0 := c) W.2.1 x m48 m 0 (zv_I k2 348) g2 (Nat.zero_add _) cn hA2 U2 (zt_H_J H2) (zt_H_N H2)
      have gL3 := zt_L_A y2
      obtain ⟨g4, e4, B⟩ := zt_giveB (d := d + 5) la gL3
      have hA4 : zc_A g4 := by
        obtain ⟨q, e, w⟩ := zc_C6_giveBack (d := d + 5) y2 (zt_vl la).1
        rw [e4] at e
        cases e
        exact w.2
      refine ⟨g4, ?_, zt_H_gb H y3 y4 y5 B (fun j hj => ?_) (fun j hj => ?_) ?_, zt_k_t (zt_hy_k la f1) (zt_k_t kk2 (zt_k_t y6 (zt_gb_k la B))), hA4⟩
      · rw [em]
        refine (show L0_mergeOnPaper_60 (d + 6) a (zt_r a (c 0)) (m : Int) x 0 g2 = _ from y1).trans ?_
        rw [qL0_mergeOnPaper_112, zm_e (zl_gF gL3 la 7 17), zm_e e4]
      · rw [y7 20 j (Or.inl rfl), kpm 20 j (Or.inl rfl), kp1 j hj]
      · rw [y7 21 j (Or.inr (Or.inl rfl)), kpm 21 j (Or.inr (Or.inl rfl)), kp2 j hj]
      · rw [y7 17 5 (Or.inr (Or.inr ⟨rfl, rfl⟩)), kpm 17 5 (Or.inr (Or.inr ⟨rfl, rfl⟩)), kp3]
    -- so does the reference
    have rback : ∀ (x : Int) (k3 : zv_H), zm_F [351, 352, 353, 354, 355] [10, 11, 12] k2 k3 → ∃ k', L9_merges_94 (D + 9) 347 x 0 k3 = some (some (zv_i x), k') ∧ (∀ j : Nat, j < 4236 → zv_I k' 348 j = c j) ∧ zm_F [348, 350, 351, 352, 353, 354, 355, 358, 359, 360, 362, 363, 364] [3, 10, 11, 12, 19, 24] k k' := fun x k3 F3 => by
      obtain ⟨k5, e5, F5, q5⟩ := zm_merges94 (D + 9) x 4236 0 k3 rfl (zm_F_M F3 hM2) (fun x hx => absurd hx (Nat.not_lt_zero _))
      exact ⟨k5, e5, fun j hj => by rw [q5 j hj, zm_F_a F3 350]; exact p2 j hj, zm_F_t F12 (zm_F_t (zm_F_s F3 rfl rfl) (zm_F_s F5 rfl rfl))⟩
    have fin : ∀ (x : Int) (k3 : zv_H), 0 ≤ x → zm_F [351, 352, 353, 354, 355] [10, 11, 12] k2 k3 → (∀ {r : Int × zv_H} {r' : Int × zv_H}, L0_mergeOnPaper_60 (d + 6) a (zt_r a (c 0)) v x 0 g2 = some (some (zv_i r.1), r.2) → L9_merges_94 (D + 9) 347 x 0 k3 = some (some (zv_i r'.1), r'.2) → C0_mergeOnPaper (d + 7) a s w g = some r ∧ L9_merges_25 (D + 9) 347 s w 0 k = some (some (zv_i r'.1), r'.2)) → ∃ v g' v' k', C0_mergeOnPaper (d + 7) a s w g = some (v, g') ∧ L9_merges_25 (D + 9) 347 s w 0 k = some (some (zv_i v'), k') ∧ zt_pp a g k v g' v' k' := fun x k3 x0 F3 how => by
      obtain ⟨g', y1, y2, y3, y4⟩ := back x
      obtain ⟨k', u1, u2, u3⟩ := rback x k3 F3
      obtain ⟨t1, t2⟩ := how (r := (x, g')) (r' := (x, k')) y1 u1
      have ee : q0 = (x, g') := Option.some.inj (eq0.symm.trans t1)
      rw [ee] at X0
      exact ⟨x, g', x, k', t1, t2, Or.inr ⟨x0, rfl⟩, X0, y3, zt_H_eq y4 y2 u2, ⟨by rw [u2 1 (by decide), hc], by rw [u2 2 (by decide), hc]⟩, u3⟩
    by_cases w0 : w = 0
    · exact fin v k2 v0 (zm_F_r _ _ k2) (fun h1 h2 => top rfl (by rw [if_neg nv, if_pos w0]; exact h1) rfl (by rw [if_neg nv', if_pos w0, v1]; exact h2))
    · by_cases w1 : w = 1
      · exact fin (zv_I k2 347 24) k2 lo0 (zm_F_r _ _ k2) (fun h1 h2 => top rfl (by rw [if_neg nv, if_neg w0, if_pos w1, zm_e (zl_gI gL2 la 13), lo]; exact h1) rfl (by rw [if_neg nv', if_neg w0, if_pos w1, zm_e (zm_gI hM2 24)]; exact h2))
      · have hh2 := W2.2.1
        obtain ⟨l, hl, ok, g0, gt, WW⟩ := zt_line W2 hh2
        have S2 := zt_U_st U2 _ hh2
        have ln := zt_S_ln S2 l hl
        have l48 := ok.2.2.2
        obtain ⟨⟨n4, k4⟩, e4, a4, F4, _⟩ := zm_lettersOf hM2 (D + 4) (zm_sees hM2 rfl (D + 4) (s := zv_I k2 348 0) hh2.1.1 hl (Nat.le_succ_of_le l48) g0 gt)
        dsimp only at a4 F4
        have a4' : n4 = ((zt_dc (zv_I k2 348) (zv_I k2 348 0 :: l)).length : Int) := a4
        exact fin n4 k4 (by rw [a4']; exact Int.natCast_nonneg _) F4 (fun h1 h2 => top rfl (by rw [if_neg nv, if_neg w0, if_neg w1, zm_e (zl_gR gL2 la 10), zt_U_he U2, zm_e (zl_gI gL2 (zt_r_l la hh2.1) 12), ln, ← a4']; exact h1) rfl (by rw [if_neg nv', if_neg w0, if_neg w1, zm_e (zm_here hM2 _)]; dsimp only; rw [zm_e e4]; exact h2))
end
