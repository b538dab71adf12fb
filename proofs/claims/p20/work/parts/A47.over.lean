/-! ===== the tie: carrying; what merging keeps beside ===== -/
/-- cells of half a of which nothing is asked -/
def zt_y (a r k : Nat) : Prop := (r = a ∧ k = 13) ∨ r = a + 6 ∨ r = a + 20 ∨ r = a + 21 ∨ (r = a + 17 ∧ k = 5)
def zt_hy (a : Nat) (h : zv_H) (h' : zv_H) : Prop := (h'.1 = h.1) ∧ (h'.2.2 = h.2.2) ∧ (∀ r k, ¬ zt_y a r k → zv_I h' r k = zv_I h r k)
theorem zt_hy_n {a : Nat} {h : zv_H} {h' : zv_H} (t : zt_hy a h h') : h'.1 = h.1 := t.1
theorem zt_hy_q {a : Nat} {h : zv_H} {h' : zv_H} (t : zt_hy a h h') : h'.2.2 = h.2.2 := t.2.1
theorem zt_hy_i {a : Nat} {h : zv_H} {h' : zv_H} (t : zt_hy a h h') : ∀ r k, ¬ zt_y a r k → zv_I h' r k = zv_I h r k := t.2.2
theorem zt_hy_r (a : Nat) (h : zv_H) : zt_hy a h h := ⟨rfl, rfl, fun _ _ _ => rfl⟩
theorem zt_hy_t {a : Nat} {h h1 h2 : zv_H} (f : zt_hy a h h1) (g : zt_hy a h1 h2) : zt_hy a h h2 := ⟨(zt_hy_n g).trans (zt_hy_n f), (zt_hy_q g).trans (zt_hy_q f), fun r k q => (zt_hy_i g r k q).trans (zt_hy_i f r k q)⟩
theorem zt_y_S {a i x k : Nat} (hx : x ≤ 2) : ¬ zt_y a (zc_stt a i + x) k := by
  intro q
  rcases q with q | q | q | q | q
  · exact zt_sepH (a := a) (n := 0) (i := i) (x := x) (by decide) hx (by decide) (by decide) (by decide) q.1.symm
  · exact zt_sepH (a := a) (n := 6) (i := i) (x := x) (by decide) hx (by decide) (by decide) (by decide) q.symm
  · exact zt_sepH (a := a) (n := 20) (i := i) (x := x) (by decide) hx (by decide) (by decide) (by decide) q.symm
  · exact zt_sepH (a := a) (n := 21) (i := i) (x := x) (by decide) hx (by decide) (by decide) (by decide) q.symm
  · exact zt_sepH (a := a) (n := 17) (i := i) (x := x) (by decide) hx (by decide) (by decide) (by decide) q.1.symm
theorem zt_y_H {a n k : Nat} (h0 : ¬ (n = 0 ∧ k = 13)) (h6 : n ≠ 6) (h20 : n ≠ 20) (h21 : n ≠ 21) (h17 : ¬ (n = 17 ∧ k = 5)) : ¬ zt_y a (a + n) k := by
  intro q
  rcases q with q | q | q | q | q
  · exact h0 ⟨by omega, q.2⟩
  · exact h6 (by omega)
  · exact h20 (by omega)
  · exact h21 (by omega)
  · exact h17 ⟨by omega, q.2⟩
theorem zt_U_y {a : Nat} {c : Nat → Int} {h h' : zv_H} (t : zt_U a c h) (f : zt_hy a h h') : zt_U a c h' := by
  have la := zt_U_la t
  have hI : ∀ n k, n ≤ 27 → ¬ (n = 0 ∧ k = 13) → n ≠ 6 → n ≠ 20 → n ≠ 21 → ¬ (n = 17 ∧ k = 5) → zv_I h' (a + n) k = zv_I h (a + n) k := fun n k _ h0 h6 h20 h21 h17 => zt_hy_i f _ _ (zt_y_H h0 h6 h20 h21 h17)
  have hR : ∀ r k, zv_R h' r k = zv_R h r k := fun r k => by
    unfold zv_R
    rw [zt_hy_q f]
  have eS : ∀ i, i < 48 → ∀ k, k ≠ 14 → zv_I h' (zc_stt a i) k = zv_I h (zc_stt a i) k := fun i _ k _ => zt_hy_i f _ _ (zt_y_S (x := 0) (by decide))
  have eI : ∀ s, zm_st c s → ∀ k, k ≠ 14 → zv_I h' (zt_r a s) k = zv_I h (zt_r a s) k := fun s hs k hk => by
    rw [zt_r_p hs.1.1]
    exact zt_hy_i f _ _ (zt_y_S (x := 0) (by decide))
  have eJ : ∀ s, zm_st c s → ∀ k, zv_J h' (zt_r a s) k = zv_J h (zt_r a s) k := fun s hs k => by
    unfold zv_J
    rw [zt_hy_q f]
  have eR : ∀ s, zm_st c s → ∀ k, zv_R h' (zt_r a s) k = zv_R h (zt_r a s) k := fun s hs k => hR _ _
  have eA : ∀ s, zm_st c s → ∀ x k, x = 1 ∨ x = 2 → zv_I h' (zt_r a s + x) k = zv_I h (zt_r a s + x) k := fun s hs x k hx => by
    rw [zt_r_p hs.1.1]
    exact zt_hy_i f _ _ (zt_y_S (by omega))
  have h5 : ∀ k, zv_I h' (a + 5) k = zv_I h (a + 5) k := fun k => hI 5 k (by decide) (fun q => absurd q.1 (by decide)) (by decide) (by decide) (by decide) (fun q => absurd q.1 (by decide))
  refine ⟨la, zt_U_W t, fun i hi => (eS i hi 3 (by decide)).trans (zt_U_lv t i hi), fun i hi => (eS i hi 0 (by decide)).trans (zt_U_nr t i hi), fun s hs => ?_, ?_, ?_, ?_⟩
  · have u := zt_U_st t s hs
    refine ⟨(eR s hs 4).trans (zt_S_pa u), (eR s hs 5).trans (zt_S_fi u), (eI s hs 6 (by decide)).trans (zt_S_ac u), (eI s hs 7 (by decide)).trans (zt_S_ti u), (eI s hs 8 (by decide)).trans (zt_S_pl u), (eI s hs 9 (by decide)).trans (zt_S_sz u), (eI s hs 13 (by decide)).trans (zt_S_vi u), (eI s hs 15 (by decide)).trans (zt_S_an u), fun k hk => by rw [eJ s hs]; exact zt_S_nm u k hk, fun k hk => by rw [eJ s hs]; exact zt_S_bs u k hk, fun q k x hx => (eA s hs 1 k (Or.inl rfl)).trans (zt_S_tk u q k x hx), fun q k hk => ?_, fun l hl => (eI s hs 12 (by decide)).trans (zt_S_ln u l hl), fun l hl n x hx => (eA s hs 2 n (Or.inr rfl)).trans (zt_S_dc u l hl n x hx), fun l hl => (eI s hs 10 (by decide)).trans (zt_S_de u l hl), (eI s hs 11 (by decide)).trans (zt_S_ch u), zt_S_cw u⟩
    rw [h5]
    exact zt_S_gl u q k hk
  · exact (hR a 10).trans (zt_U_he t)
  · exact (hI 0 11 (by decide) (fun q => absurd q.2 (by decide)) (by decide) (by decide) (by decide) (by decide)).trans (zt_U_nw t)
  · exact (hI 0 12 (by decide) (fun q => absurd q.2 (by decide)) (by decide) (by decide) (by decide) (by decide)).trans (zt_U_ct t)
theorem zt_H_y {a : Nat} {c : Nat → Int} {h h' : zv_H} (H : zt_H a c h) (f : zt_hy a h h') : zt_H a c h' := by
  have e : ∀ n k, (n = 14 ∨ n = 15 ∨ n = 16 ∨ (n = 17 ∧ k = 4) ∨ n = 18 ∨ n = 19 ∨ n = 22 ∨ n = 23 ∨ n = 24) → zv_I h' (a + n) k = zv_I h (a + n) k := fun n k hk => zt_hy_i f _ _ (zt_y_H (fun q => by omega) (by omega) (by omega) (by omega) (fun q => by omega))
  have V := zt_H_V H
  refine ⟨zt_U_y (zt_H_U H) f, zt_J_cg (zt_H_J H) (fun r k r1 r2 => ?_), ⟨?_, zt_V_c0 V, zt_V_c5 V, fun i hi => ?_, fun i hi => ?_, zt_V_vb V, zt_V_vd V⟩, zt_N_c (zt_H_N H) ((zt_U_W (zt_H_U H)).2.2.1.2) rfl (fun _ _ _ => rfl) (fun r k r1 r2 => ?_)⟩
  · obtain ⟨n, rfl⟩ : ∃ n, r = a + n := ⟨r - a, by omega⟩
    exact e n k (by omega)
  · rw [e 17 4 (by omega)]; exact zt_V_ct V
  · rw [e 18 _ (by omega)]; exact zt_V_ls V i hi
  · rw [e 19 _ (by omega)]; exact zt_V_lt V i hi
  · obtain ⟨n, rfl⟩ : ∃ n, r = a + n := ⟨r - a, by omega⟩
    exact e n k (by omega)
theorem zt_hy_k {a : Nat} (la : zv_lay a = (1, 0)) {h h' : zv_H} (f : zt_hy a h h') : zt_k a h h' := by
  refine ⟨zt_hy_n f, by rw [zt_hy_q f], fun r k _ n => zt_hy_i f r k (fun q => ?_), fun r _ _ => by rw [zt_hy_q f], fun r _ _ _ => by rw [zt_hy_q f]⟩
  rcases q with q | q | q | q | q
  · rw [q.1] at n; exact n (zt_inA la (n := 0) (by decide))
  · rw [q] at n; exact n (zt_inA la (by decide))
  · rw [q] at n; exact n (zt_inA la (by decide))
  · rw [q] at n; exact n (zt_inA la (by decide))
  · rw [q.1] at n; exact n (zt_inA la (by decide))
theorem zt_hy_sI {a : Nat} {h g : zv_H} (f : zt_hy a h g) {r k : Nat} (q : zt_y a r k) (v : Int) : zt_hy a h (zv_sI g r k v) := ⟨f.1, f.2.1, fun r' k' n => (zy_In _ _ (fun z => n (by rw [z.1, z.2]; exact q))).trans (zt_hy_i f r' k' n)⟩
/-- each stands for itself -/
theorem zt_stand_l {d : Nat} {a : Nat} (la : zv_lay a = (1, 0)) : ∀ (n i : Nat) (g : zv_H), i + n = 48 → zt_L g → (∀ k : Nat, k < i → zv_I g (a + 6) k = k) → ∃ g', L0_standForThemselves_2 d a i g = some (none, g') ∧ zt_hy a g g' ∧ (∀ r k, r ≠ a + 6 → zv_I g' r k = zv_I g r k) ∧ ∀ k : Nat, k < 48 → zv_I g' (a + 6) k = k := by
  have l6 := (zt_sta_l la).1
  intro n
  induction n with
  | zero =>
    intro i g hi gL hk
    have e : i = 48 := hi
    subst e
    refine ⟨g, ?_, zt_hy_r _ _, fun _ _ _ => rfl, hk⟩
    rw [qL0_standForThemselves_2, if_neg (by decide)]
  | succ n ih =>
    intro i g hi gL hk
    have w1 : zv_w ((i : Int) + 1) = ((i + 1 : Nat) : Int) := by
      rw [zm_w (by omega)]
      rfl
    obtain ⟨g', e, f, o, w⟩ := ih (i + 1) (zv_sI g (a + 6) i i) (by omega) gL (fun k hk2 => by
      by_cases z : k = i
      · rw [z, zy_I]
      · rw [zy_In _ _ (fun q => z q.2)]
        exact hk k (by omega))
    refine ⟨g', ?_, zt_hy_t (zt_hy_sI (zt_hy_r a g) (Or.inr (Or.inl rfl)) _) f, fun r k q => (o r k q).trans (zy_In _ _ (fun z => q z.1)), w⟩
    rw [qL0_standForThemselves_2, if_pos (by omega), zm_e (zl_gF gL la 3 6), zm_e (zl_wI gL l6 (by omega) (by omega) _), Int.toNat_natCast, w1]
    exact e
theorem zt_stand {d : Nat} {a : Nat} (la : zv_lay a = (1, 0)) {g : zv_H} (gL : zt_L g) : ∃ g', C0_standForThemselves (d + 1) a g = some g' ∧ zt_hy a g g' ∧ (∀ r k, r ≠ a + 6 → zv_I g' r k = zv_I g r k) ∧ ∀ k : Nat, k < 48 → zv_I g' (a + 6) k = k := by
  obtain ⟨g', e, r⟩ := zt_stand_l (d := d) la 48 0 g (Nat.zero_add _) gL (fun k hk => absurd hk (Nat.not_lt_zero _))
  refine ⟨g', lC0_standForThemselves (zl_ob gL la) ?_, r⟩
  rw [qE0_standForThemselves]
  exact e
def zt_id0 (i : Nat) : Int := i
theorem zt_sd_0 {a : Nat} {g k : zv_H} (h1 : ∀ i : Nat, i < 48 → zv_I g (a + 6) i = i) (h2 : ∀ i : Nat, i < 48 → zv_I k 362 i = i) : zt_sd a zt_id0 g k := ⟨h1, h2, rfl, fun i h1 h2 => ⟨by unfold zt_id0; omega, by unfold zt_id0; omega⟩⟩
theorem zj_carry {d D : Nat} {a : Nat} {c : Nat → Int} {g k : zv_H} (hA : zc_A g) (H : zt_H a c g) (hM : zm_M k) (hc : zv_I k 348 = c) (b : c 2 < 2000000000) {s : Int} (rs : zv_rg s) : ∃ q q', C0_carryOver (d + 6) a s g = some q ∧ C9_carryNow (D + 9) 347 s k = some q' ∧ zt_Z a 1 g k q q' := by
  have U := zt_H_U H
  have W := zt_U_W U
  have la := zt_U_la U
  have gL := zt_L_A hA
  have hh := W.2.1
  have ea := zt_at (d := d + 4) gL U s
  have ei := zm_isState hM (D + 6) s
  rw [hc] at ei
  by_cases hs : zm_st c s
  · rw [if_pos hs] at ea ei
    obtain ⟨l, hl, ok, _⟩ := zt_line W hh
    have lS := zt_r_l la hs.1
    have S := zt_U_st U s hs
    have ee := zt_C5_edits (d := d + 4) gL lS
    rw [zt_S_ac S] at ee
    have eo := zt_onLine (d := d + 4) gL U hs hh hl
    have io := zm_isOfLine hM (D + 6) s (l := c 0 :: l) (s := c 0) (by rw [hc]; exact hl)
    have ie := zm_isEdit hM (D + 6) (zm_st48 hs)
    rw [hc] at ie
    have no : ¬ (zm_ed c s ∧ ¬ s ∈ c 0 :: l) → C0_carryOver (d + 6) a s g = some (-7, g) ∧ C9_carryNow (D + 9) 347 s k = some (-1, zv_sI k 347 3 7) := fun nq => by
      refine ⟨lC0_carryOver (zl_ob gL la) ?_, lC9_carryNow (zm_ob hM) ?_⟩
      · rw [qE0_carryOver, zm_e ea]
        dsimp only
        rw [if_neg (zt_r0 U hs), zm_e ee]
        dsimp only
        by_cases he : zm_ed c s
        · have hi : s ∈ c 0 :: l := Classical.byContradiction (fun z => nq ⟨he, z⟩)
          rw [if_pos hi] at eo
          rw [if_pos he, if_neg (by decide), zm_e (zl_gR gL la 10), zt_U_he U, zm_e eo]
          dsimp only
          rw [if_neg (by decide)]
        · rw [if_neg he, if_pos rfl]
      · rw [qE9_carryNow, zm_e ei]
        dsimp only
        rw [if_neg (by decide), zm_e (zm_here hM _), hc]
        dsimp only
        rw [zm_e io]
        dsimp only
        by_cases hi : s ∈ c 0 :: l
        · rw [if_pos hi, if_neg (by decide), qL9_carryNow_34, zm_e (zm_refuse hM _ 7)]
        · have he : ¬ zm_ed c s := fun z => nq ⟨z, hi⟩
          rw [if_neg he] at ie
          rw [if_neg hi, if_pos rfl, zm_e ie]
          dsimp only
          rw [if_pos rfl, qL9_carryNow_34, zm_e (zm_refuse hM _ 7)]
    by_cases q : zm_ed c s ∧ ¬ s ∈ c 0 :: l
    · obtain ⟨he, hi⟩ := q
      obtain ⟨g1, e1, f1, _, w1⟩ := zt_stand (d := d + 4) la gL
      obtain ⟨k1, e2, F2, w2⟩ := zm_plain hM (D + 7)
      have hA1 : zc_A g1 := by
        obtain ⟨q, e, w⟩ := zc_C0_standForThemselves (d := d + 4) hA la
        rw [e1] at e
        cases e
        exact w.2
      have c1 : zv_I k1 348 = c := (zm_F_a F2 348).trans hc
      obtain ⟨q, q', z1, z2, cy⟩ := zj_carryOne (d := d) (D := D) hA1 (zt_H_y H f1) (zm_F_M F2 hM) c1 b (zt_sd_0 w1 w2) hs he
      rw [if_neg hi] at eo io
      rw [if_pos he] at ie
      have y1 : C0_carryOver (d + 6) a s g = some q := by
        refine lC0_carryOver (zl_ob gL la) ?_
        rw [qE0_carryOver, zm_e ea]
        dsimp only
        rw [if_neg (zt_r0 U hs), zm_e ee]
        dsimp only
        rw [if_pos he, if_neg (by decide), zm_e (zl_gR gL la 10), zt_U_he U, zm_e eo]
        dsimp only
        rw [if_pos rfl, zm_e e1, zm_e z1]
      have y2 : C9_carryNow (D + 9) 347 s k = some q' := by
        refine lC9_carryNow (zm_ob hM) ?_
        rw [qE9_carryNow, zm_e ei]
        dsimp only
        rw [if_neg (by decide), zm_e (zm_here hM _), hc]
        dsimp only
        rw [zm_e io]
        dsimp only
        rw [if_pos rfl, zm_e ie]
        dsimp only
        rw [if_neg (by decide), zm_e e2, zm_e z2]
      obtain ⟨p, ep, O⟩ := zc_C0_carryOver (d := d) hA la rs
      have e3 : p = q := Option.some.inj (ep.symm.trans y1)
      rw [e3] at O
      exact ⟨q, q', y1, y2, zt_Z_com O.1 (zt_hy_k la f1) (zm_F_s F2 rfl rfl) (c1.trans hc.symm) (zt_cy_Z cy)⟩
    · exact ⟨_, _, (no q).1, (no q).2, zt_Z_rf (by decide) hA H hc (by decide) 7⟩
  · rw [if_neg hs] at ea ei
    refine ⟨(-2, g), (-1, zv_sI k 347 3 2), lC0_carryOver (zl_ob gL la) ?_, lC9_carryNow (zm_ob hM) ?_, zt_Z_rf (by decide) hA H hc (by decide) 2⟩
    · rw [qE0_carryOver, zm_e ea]
      rfl
    · rw [qE9_carryNow, zm_e ei]
      dsimp only
      rw [if_pos rfl, zm_e (zm_refuse hM _ 2)]
