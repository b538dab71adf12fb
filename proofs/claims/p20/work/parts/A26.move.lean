/-! ===== the tie: going about ===== -/
theorem zt_inA {a n : Nat} (ha : zv_lay a = (1, 0)) (hn : n ≤ 27) : zt_in a (a + n) := by
  have h9 := zc_lh ha
  exact ⟨by omega, by omega, by unfold zc_hf; split <;> omega⟩
theorem zt_inSt {a j n : Nat} (ha : zv_lay a = (1, 0)) (hj : j < 48) (hn : n ≤ 2) : zt_in a (zc_stt a j + n) := by
  have h9 := zc_lh ha
  refine ⟨?_, ?_, ?_⟩
  · unfold zc_stt; split <;> omega
  · unfold zc_stt; split <;> omega
  · unfold zc_hf zc_stt
    split <;> split <;> omega
theorem zt_inr {a : Nat} {s : Int} (ha : zv_lay a = (1, 0)) (hs : 0 ≤ s ∧ s ≤ 47) {n : Nat} (hn : n ≤ 2) : zt_in a (zt_r a s + n) := by
  rw [zt_r_p hs.1]
  exact zt_inSt ha (by omega) hn
theorem zt_out {a r r' : Nat} (h1 : ¬ zt_in a r) (h2 : zt_in a r') : r ≠ r' := fun e => h1 (by rw [e]; exact h2)
theorem zt_hs {a n x : Nat} {s : Int} (hs : 0 ≤ s ∧ s ≤ 47) (hn : n ≤ 27) (hx : x ≤ 2) (h1 : n ≠ 1) (h2 : n ≠ 2) (h3 : n ≠ 3) : a + n ≠ zt_r a s + x := by
  rw [zt_r_p hs.1]
  exact zt_sepH hn hx h1 h2 h3
theorem zt_ss {a x y : Nat} {s t : Int} (hs : 0 ≤ s ∧ s ≤ 47) (ht : 0 ≤ t ∧ t ≤ 47) (hx : x ≤ 2) (hy : y ≤ 2) (hn : s ≠ t) : zt_r a s + x ≠ zt_r a t + y := by
  rw [zt_r_p hs.1, zt_r_p ht.1]
  exact zt_sep (by omega) hx hy
section
variable {a : Nat} {c : Nat → Int} {h g : zv_H}
theorem zt_sRh {v : Nat} (gL : zt_L h) (la : zv_lay a = (1, 0)) : zt_L (zv_sR h a 10 v) := by
  have h9 := zc_lh la
  exact zl_sR gL (fun _ => by rw [la]; rfl) (by omega) (by omega)
/-- the heap behind a move -/
def zt_mv (a : Nat) (c : Nat → Int) (s : Int) (h : zv_H) : zv_H := zt_vh a (zt_r a s) (c 1) (zv_sR h a 10 (zt_r a s))
theorem zt_C0_moveTo {d : Nat} (gL : zt_L h) (U : zt_U a c h) (h0 : 0 ≤ zv_I h (a + 17) 4) {s : Int} (hs : zm_st c s) : C0_moveTo (d + 2) a (zt_r a s) h = some (zt_mv a c s h) := by
  have la := zt_U_la U
  have L' := zt_sRh (v := zt_r a s) gL la
  refine lC0_moveTo (zl_ob gL la) ?_
  rw [qE0_moveTo, zm_e (zl_pR gL la 10 _), zm_e (zl_gF L' la 7 17), zm_e (zl_gI L' la 11), show zv_I (zv_sR h a 10 (zt_r a s)) a 11 = c 1 from (zt_U_nw U : zv_I h a 11 = c 1), zm_e (zt_C6_add L' la (zt_r_l la hs.1) h0)]
  rfl
theorem zt_move {s : Int} (H : zt_H a c h) (b : c 2 < 2000000000) (hs : zm_st c s) (ne : s ≠ c 0) (hA' : zc_A (zt_mv a c s h)) : zt_H a (zm_vc c s) (zt_mv a c s h) ∧ zt_k a h (zt_mv a c s h) ∧ zm_vc c s 2 = c 2 + 1 ∧ zm_vc c s 1 = c 1 := by
  have U := zt_H_U H
  have W := zt_U_W U
  have la := zt_U_la U
  have h9 := zc_lh la
  have VV := zt_H_V H
  have c0 := zt_V_c0 VV
  have W' : zm_W (zm_vc c s) := by
    have := zm_W_vc W hs
    rw [if_neg ne] at this
    exact this
  have iS : ∀ n, n ≤ 2 → zt_in a (zt_r a s + n) := fun n hn => zt_inr la hs.1 hn
  have hS : ∀ n, n ≤ 27 → n ≠ 1 → n ≠ 2 → n ≠ 3 → a + n ≠ zt_r a s := fun n n0 n1 n2 n3 => zt_hs (x := 0) hs.1 n0 (by decide) n1 n2 n3
  have I : ∀ r k, ¬ (r = zt_r a s ∧ k = 13) → ¬ (r = a + 17 ∧ k = 4) → r ≠ a + 18 → r ≠ a + 19 → zv_I (zt_mv a c s h) r k = zv_I h r k := fun r k c1 c2 c3 c4 => by
    unfold zt_mv zt_vh
    rw [zy_In _ _ c1, zy_In _ _ c2, zy_In _ _ (fun q => c4 q.1), zy_In _ _ (fun q => c3 q.1)]
    rfl
  have v4 : zv_I (zt_mv a c s h) (a + 17) 4 = zv_w (zv_I h (a + 17) 4 + 1) := by
    unfold zt_mv zt_vh
    rw [zy_In _ _ (fun q => hS 17 (by decide) (by decide) (by decide) (by decide) q.1), zy_I]
    rfl
  have s13 : zv_I (zt_mv a c s h) (zt_r a s) 13 = zv_w (zv_I h (a + 17) 4 + 1) := by
    unfold zt_mv zt_vh
    rw [zy_I]
    rfl
  have n0 : zv_I h (zt_r a s) 0 = s := by
    have h1 := hs.1
    rw [zt_r_p hs.1.1, zt_U_nr U _ (by omega)]
    omega
  have vs : ∀ k, zv_I (zt_mv a c s h) (a + 18) k = if k = (zv_I h (a + 17) 4 % 40).toNat then s else zv_I h (a + 18) k := fun k => by
    unfold zt_mv zt_vh
    rw [zy_In _ _ (fun q => hS 18 (by decide) (by decide) (by decide) (by decide) q.1), zy_In _ _ (fun q => absurd q.1 (by omega)), zy_In _ _ (fun q => absurd q.1 (by omega))]
    by_cases e : k = (zv_I h (a + 17) 4 % 40).toNat
    · rw [if_pos e, e]
      exact (zy_I _ _ _ _).trans n0
    · rw [if_neg e]
      exact zy_In _ _ (fun q => e q.2)
  have vt : ∀ k, zv_I (zt_mv a c s h) (a + 19) k = if k = (zv_I h (a + 17) 4 % 40).toNat then c 1 else zv_I h (a + 19) k := fun k => by
    unfold zt_mv zt_vh
    rw [zy_In _ _ (fun q => hS 19 (by decide) (by decide) (by decide) (by decide) q.1), zy_In _ _ (fun q => absurd q.1 (by omega))]
    by_cases e : k = (zv_I h (a + 17) 4 % 40).toNat
    · rw [if_pos e, e]
      exact zy_I _ _ _ _
    · rw [if_neg e]
      exact (zy_In _ _ (fun q => e q.2)).trans ((zy_In _ _ (fun q => absurd q.1 (by omega))).trans rfl)
  have J : ∀ r k, zv_J (zt_mv a c s h) r k = zv_J h r k := fun _ _ => rfl
  have R : ∀ r k, ¬ (r = a ∧ k = 10) → zv_R (zt_mv a c s h) r k = zv_R h r k := fun r k q => zy_Rn _ _ q
  have st : ∀ {t : Int}, zm_st (zm_vc c s) t ↔ zm_st c t := by
    intro t
    constructor
    · intro q
      refine ⟨q.1, ?_⟩
      rw [← zm_vc_o (w := 0) hs.1 (show 0 ≤ t ∧ t ≤ 48 by have := q.1; omega) (by decide) (by omega)]
      exact q.2
    · intro q
      refine ⟨q.1, ?_⟩
      rw [zm_vc_o (w := 0) hs.1 (show 0 ≤ t ∧ t ≤ 48 by have := q.1; omega) (by decide) (by omega)]
      exact q.2
  have ag : ∀ t, zm_st c t → zm_ag c (zm_vc c s) t := fun t q w w0 w1 w7 => zm_vc_o hs.1 (by have := q.1; omega) (by omega) (fun z => w7 z.2)
  have hc0 : zm_vc c s 0 = s := zm_vc_0 c hs.1
  have hc1 : zm_vc c s 1 = c 1 := zm_vc_h hs.1 (by decide) (by decide) (by decide) (by decide)
  have V' := zt_V_vc (c' := zm_vc c s) VV b (fun _ _ _ => rfl) v4 vs vt (fun t ht => by
    have ht' := st.mp ht
    by_cases e : t = s
    · refine Or.inl ⟨e, ?_⟩
      rw [e, zt_vc7 c hs.1, zm_w (by omega)]
    · refine Or.inr ⟨e, ht', ?_⟩
      exact zm_vc_o hs.1 (by have := ht'.1; omega) (by decide) (fun z => e z.1))
  refine ⟨⟨?_, ?_, V'.1, ?_⟩, ?_, V'.2⟩
  · refine zt_U_mk la W' hA' (fun i hi => ?_) (fun t ht => ?_) ?_ ?_ ?_
    · rw [I (zc_stt a i) 3 (fun q => absurd q.2 (by decide)) (fun q => absurd q.2 (by decide)) (fun q => zt_sepH (a := a) (i := i) (n := 18) (x := 0) (by decide) (by decide) (by decide) (by decide) (by decide) q.symm) (fun q => zt_sepH (a := a) (i := i) (n := 19) (x := 0) (by decide) (by decide) (by decide) (by decide) (by decide) q.symm), zt_U_lv U i hi]
      exact (zm_vc_o hs.1 (by omega) (by decide) (by omega)).symm
    · have ht' := st.mp ht
      obtain ⟨l, hl, ok, _⟩ := zt_line W ht'
      have S := zt_U_st U t ht'
      have cell : ∀ x k, x ≤ 2 → ¬ (x = 0 ∧ k = 13) → zv_I (zt_mv a c s h) (zt_r a t + x) k = zv_I h (zt_r a t + x) k := fun x k hx hk => by
        refine I _ k (fun q => ?_) (fun q => zt_hs (a := a) (n := 17) ht'.1 (by decide) hx (by decide) (by decide) (by decide) q.1.symm) (fun q => zt_hs (a := a) (n := 18) ht'.1 (by decide) hx (by decide) (by decide) (by decide) q.symm) (fun q => zt_hs (a := a) (n := 19) ht'.1 (by decide) hx (by decide) (by decide) (by decide) q.symm)
        by_cases e : t = s
        · rw [e] at q
          exact hk ⟨by omega, q.2⟩
        · exact zt_ss (a := a) (x := x) (y := 0) ht'.1 hs.1 hx (by decide) e q.1
      refine zt_S0_cg W ht' (zt_S_0 S) hl (fun u hu => ag u (ok.2.2.1 u hu)) ?_ (fun k _ _ _ k13 => cell 0 k (by decide) (fun q => k13 q.2)) (fun k => cell 1 k (by decide) (fun q => by omega)) (fun k => cell 2 k (by decide) (fun q => by omega)) (fun k => J _ k) (fun k => R _ k (fun q => zt_hs (a := a) (n := 0) (x := 0) ht'.1 (by decide) (by decide) (by decide) (by decide) (by decide) q.1.symm)) (fun _ k _ => I _ _ (fun q => hS 5 (by decide) (by decide) (by decide) (by decide) q.1) (by omega) (by omega) (by omega))
      by_cases e : t = s
      · rw [e, s13, zt_vc7 c hs.1, zt_V_ct VV]
      · rw [I (zt_r a t) 13 (fun q => zt_ss (a := a) (x := 0) (y := 0) ht'.1 hs.1 (by decide) (by decide) e q.1) (fun q => absurd q.2 (by decide)) (fun q => zt_hs (a := a) (n := 18) (x := 0) ht'.1 (by decide) (by decide) (by decide) (by decide) (by decide) q.symm) (fun q => zt_hs (a := a) (n := 19) (x := 0) ht'.1 (by decide) (by decide) (by decide) (by decide) (by decide) q.symm), zt_S_vi S]
        exact (zm_vc_o hs.1 (by have := ht'.1; omega) (by decide) (fun z => e z.1)).symm
    · rw [hc0]
      exact zy_R _ _ _ _
    · rw [hc1, I a 11 (fun q => absurd q.2 (by decide)) (by omega) (by omega) (by omega)]
      exact zt_U_nw U
    · rw [I a 12 (fun q => absurd q.2 (by decide)) (by omega) (by omega) (by omega), zt_U_ct U]
      exact zm_sum_cg 48 (fun j hj => (zm_vc_o hs.1 (by omega) (by decide) (by omega)).symm)
  · exact zt_J_c (zt_J_cg (zt_H_J H) (fun r k r1 r2 => by
      obtain ⟨n, rfl⟩ : ∃ n, r = a + n := ⟨r - a, by omega⟩
      exact I _ k (fun q => hS n (by omega) (by omega) (by omega) (by omega) q.1) (by omega) (by omega) (by omega))) W.2.2.2.1.2 (zm_vc_h hs.1 (by decide) (by decide) (by decide) (by decide)) (fun k k1 k2 => zm_vc_h hs.1 (by omega) (by omega) (by omega) (by omega))
  · exact zt_N_c (zt_H_N H) W.2.2.1.2 (zm_vc_h hs.1 (by decide) (by decide) (by decide) (by decide)) (fun k k1 k2 => zm_vc_h hs.1 k2 (by omega) (by omega) (by omega)) (fun r k r1 r2 => by
      obtain ⟨n, rfl⟩ : ∃ n, r = a + n := ⟨r - a, by omega⟩
      exact I _ k (fun q => hS n (by omega) (by omega) (by omega) (by omega) q.1) (by omega) (by omega) (by omega))
  · refine ⟨rfl, rfl, fun r k _ hr => ?_, fun r _ hr => rfl, fun r _ _ hr => ?_⟩
    · exact I r k (fun q => zt_out hr (iS 0 (by decide)) q.1) (fun q => zt_out hr (zt_inA la (n := 17) (by decide)) q.1) (zt_out hr (zt_inA la (n := 18) (by decide))) (zt_out hr (zt_inA la (n := 19) (by decide)))
    · funext k
      exact R r k (fun q => zt_out hr (zt_inA la (n := 0) (by decide)) q.1)
/-- a state by its number -/
theorem zt_at {d : Nat} (gL : zt_L h) (U : zt_U a c h) (i : Int) : C0_at (d + 1) a i h = some ((if zm_st c i then zt_r a i else 0), h) := by
  have la := zt_U_la U
  refine lC0_at (zl_ob gL la) ?_
  rw [qE0_at]
  by_cases i0 : i < 0
  · rw [if_pos i0, if_neg (fun q => by have := q.1; omega)]
  · rw [if_neg i0]
    by_cases i1 : i < 48
    · have lS := (zc_stl la (show i.toNat < 48 by omega)).1
      have lv := zt_U_lv U i.toNat (by omega)
      rw [show ((i.toNat : Nat) : Int) = i by omega] at lv
      rw [if_pos i1, zm_e (zl_gF gL la 1 4), zm_e (zl_aS gL la (by omega) i1), if_neg (zc_nz lS), zm_e (zl_gI gL lS 3), lv]
      rcases (zt_U_W U).1.1 i (by omega) (by omega) with z | z
      · rw [if_neg (show ¬ zm_st c i from fun q => by have := q.2; omega), z, if_pos rfl]
      · rw [if_pos (show zm_st c i from ⟨by omega, z⟩), z, if_neg (by decide), zt_r_p (by omega)]
    · rw [if_neg i1, if_neg (fun q => by have := q.1; omega)]
/-- the parent of the first of one's group -/
def zt_fpp (c : Nat → Int) (s : Int) : Int := if s = 0 then -1 else zm_o c (zm_o c s 6) 1
theorem zt_fp {s : Int} (hA : zc_A h) (U : zt_U a c h) (hs : zm_st c s) : zv_lay (zv_R h (zt_r a s) 5) = (1, 5) ∧ zv_R h (zv_R h (zt_r a s) 5) 4 = zt_r a (zt_fpp c s) ∧ (zt_fpp c s = -1 ∨ zm_st c (zt_fpp c s)) := by
  have la := zt_U_la U
  have W := zt_U_W U
  unfold zt_fpp
  by_cases z : s = 0
  · subst z
    have lS := zt_r_l la hs.1
    have e4 : zv_R h (zt_r a 0) 4 = 0 := by
      rw [zt_S_pa (zt_U_st U 0 hs), W.1.2.1.2.1]
      rfl
    rw [if_pos rfl]
    rcases hA.2.1 _ lS with t | t
    · have h1 := zt_U_lv U 0 (by decide)
      have h2 := t.1
      rw [zt_r_p (by decide)] at h2
      have h3 : zv_I h (zc_stt a 0) 3 = 0 := h2
      rw [h1] at h3
      have h4 : zm_o c 0 0 = 1 := hs.2
      have h5 : zm_o c ((0 : Nat) : Int) 0 = zm_o c 0 0 := rfl
      omega
    · rcases t.2.2.2.1 with u | u
      · rw [u]
        exact ⟨lS, e4, Or.inl rfl⟩
      · exact absurd e4 u.1
  · rw [if_neg z]
    obtain ⟨f1, f2⟩ := zm_fp W.1 hs z
    rw [zt_S_fi (zt_U_st U s hs)]
    exact ⟨zt_r_l la f1.1, zt_S_pa (zt_U_st U _ f1), Or.inr f2⟩
theorem zt_fpp_ne (W : zm_W c) {s : Int} (hs : zm_st c s) : zt_fpp c s ≠ s := by
  unfold zt_fpp
  by_cases z : s = 0
  · rw [if_pos z, z]; decide
  · rw [if_neg z]
    obtain ⟨l, hl, ok, _, _, W1⟩ := zt_line W hs
    obtain ⟨m1, m2⟩ := W1.2.2.1 z
    obtain ⟨p, b, e, hb⟩ := zm_Ln_s hl _ m1
    have hst := (zm_fp W.1 hs z).2
    have nd := ok.1
    rw [e] at nd
    cases b with
    | nil =>
      have : zm_o c (zm_o c s 6) 1 < 0 := hb.2
      have := hst.1
      omega
    | cons y b =>
      have ey : zm_o c (zm_o c s 6) 1 = y := hb.2.1.1
      rw [ey]
      intro q
      cases p with
      | nil =>
        obtain ⟨e1, _⟩ := List.cons.inj e
        have h1 := (List.nodup_cons.mp nd).1
        exact h1 (by rw [← e1, ← q]; exact List.mem_cons_self)
      | cons x p =>
        obtain ⟨e1, _⟩ := List.cons.inj e
        rw [List.cons_append] at nd
        have h1 := (List.nodup_cons.mp nd).1
        exact h1 (by rw [← e1, ← q]; exact List.mem_append_right _ (List.mem_cons_of_mem _ List.mem_cons_self))
theorem zt_behind1 {d : Nat} (hA : zc_A h) (U : zt_U a c h) : C0_behind (d + 1) a 1 h = some (zt_r a (zt_fpp c (c 0)), h) := by
  have la := zt_U_la U
  have gL := zt_L_A hA
  have hs := (zt_U_W U).2.1
  have lH := zt_r_l la hs.1
  obtain ⟨f1, f2, _⟩ := zt_fp hA U hs
  refine lC0_behind (zl_ob gL la) ?_
  rw [qE0_behind, zm_e (zl_gR gL la 10), zt_U_he U, qL0_behind_7, if_pos (by decide), if_neg (zt_r0 U hs), zm_e (zl_gR gL lH 5), if_neg (zc_nz f1), zm_e (zl_gR gL lH 5), zm_e (zl_gR gL f1 4), f2, qL0_behind_7, if_neg (by decide)]
theorem zt_num {s : Int} (U : zt_U a c h) (hs : zm_st c s) : zv_I h (zt_r a s) 0 = s := by
  have h1 := hs.1
  rw [zt_r_p hs.1.1, zt_U_nr U _ (by omega)]
  omega
theorem zt_mv_L {s : Int} (gL : zt_L h) (la : zv_lay a = (1, 0)) : zt_L (zt_mv a c s h) := zt_L_of (g0 := zv_sR h a 10 (zt_r a s)) rfl (fun _ _ => rfl) (zt_sRh gL la)
theorem zt_mv_num {s : Int} (U : zt_U a c h) (hs : zm_st c s) : zv_I (zt_mv a c s h) (zt_r a s) 0 = s := by
  have hh : ∀ n, n ≤ 27 → n ≠ 1 → n ≠ 2 → n ≠ 3 → zt_r a s ≠ a + n := fun n n0 n1 n2 n3 q => zt_hs (x := 0) hs.1 n0 (by decide) n1 n2 n3 q.symm
  unfold zt_mv zt_vh
  rw [zy_In _ _ (fun q => absurd q.2 (by decide)), zy_In _ _ (fun q => absurd q.2 (by decide)), zy_In _ _ (fun q => hh 19 (by decide) (by decide) (by decide) (by decide) q.1), zy_In _ _ (fun q => hh 18 (by decide) (by decide) (by decide) (by decide) q.1)]
  exact (zt_num U hs : zv_I h (zt_r a s) 0 = s)
theorem zt_h0 (H : zt_H a c h) : 0 ≤ zv_I h (a + 17) 4 := by
  rw [zt_V_ct (zt_H_V H)]
  exact zt_V_c0 (zt_H_V H)
/-- a move, in both -/
theorem zt_Z_mv {s : Int} {k k' : zv_H} {v : Int} (hA : zc_A h) (H : zt_H a c h) (hc : zv_I k 348 = c) (b : c 2 < 2000000000) (hs : zm_st c s) (ne : s ≠ c 0) (F : zm_F [348] [] k k') (hc' : zv_I k' 348 = zm_vc c s) (hv : 0 ≤ v) : zt_Z a 1 h k (v, zt_mv a c s h) (v, k') := by
  have U := zt_H_U H
  have la := zt_U_la U
  obtain ⟨g', e, Y⟩ := zc_C0_moveTo (d := 0) hA la (s := zt_r a s) (zt_r_l la hs.1 |> fun l => ⟨l, by
    have h1 := hs.1
    rw [zt_r_p hs.1.1, zt_U_lv U _ (by omega), show ((s.toNat : Nat) : Int) = s by omega]
    exact hs.2⟩) (zt_r_h la hs.1)
  rw [zt_C0_moveTo (zt_L_A hA) U (zt_h0 H) hs] at e
  cases e
  obtain ⟨H', kk, g2, g1⟩ := zt_move H b hs ne Y.1.2
  refine ⟨Y.1, kk, zm_F_s F rfl rfl, Or.inr ⟨hv, rfl⟩, ?_, ?_, ?_⟩
  · show zt_H a (zv_I k' 348) _
    rw [hc']; exact H'
  · dsimp only
    rw [hc, hc', g1]; omega
  · dsimp only
    rw [hc, hc', g2]; omega
theorem zt_Z_rf {k : zv_H} {y v : Int} (hy : 0 ≤ y) (hA : zc_A h) (H : zt_H a c h) (hc : zv_I k 348 = c) (hv : v < 0) (w : Int) : zt_Z a y h k (v, h) (-1, zv_sI k 347 3 w) :=
  zt_Z_no hy H hc (zc_X_r hA) (zt_k_r a h) H (zm_F_f (zm_F_r _ _ k) rfl w) hv ((zm_so k _ _).trans hc)
end
theorem zj_undo {d D : Nat} {a : Nat} {c : Nat → Int} {g k : zv_H} (hA : zc_A g) (H : zt_H a c g) (hM : zm_M k) (hc : zv_I k 348 = c) (b : c 2 < 2000000000) : ∃ q q', C0_stepBack (d + 3) a g = some q ∧ C9_undoNow (D + 3) 347 k = some q' ∧ zt_Z a 1 g k q q' := by
  have U := zt_H_U H
  have W := zt_U_W U
  have la := zt_U_la U
  have gL := zt_L_A hA
  have hs := W.2.1
  obtain ⟨f1, f2, f3⟩ := zt_fp hA U hs
  have bh := zt_behind1 (d := d + 1) hA U
  by_cases z : c 0 = 0
  · have e0 : zt_fpp c (c 0) = -1 := if_pos z
    rw [e0] at bh
    refine ⟨(-5, g), (-1, zv_sI k 347 3 5), lC0_stepBack (zl_ob gL la) ?_, lC9_undoNow (zm_ob hM) ?_, zt_Z_rf (by decide) hA H hc (by decide) 5⟩
    · rw [qE0_stepBack, zm_e bh]
      rfl
    · rw [qE9_undoNow, zm_e (zm_here hM _), hc]
      dsimp only
      rw [if_pos z, zm_e (zm_refuse hM _ 5)]
  · have e0 : zt_fpp c (c 0) = zm_o c (zm_o c (c 0) 6) 1 := if_neg z
    obtain ⟨p1, p2⟩ := zm_fp W.1 hs z
    have ne := zt_fpp_ne W hs
    rw [e0] at ne bh
    have p47 := p2.1
    obtain ⟨k', e1, F1, c1⟩ := zm_visits hM hc D p2.1
    rw [if_neg ne] at c1
    refine ⟨(zm_o c (zm_o c (c 0) 6) 1, zt_mv a c (zm_o c (zm_o c (c 0) 6) 1) g), (zm_o c (zm_o c (c 0) 6) 1, k'), lC0_stepBack (zl_ob gL la) ?_, lC9_undoNow (zm_ob hM) ?_, zt_Z_mv hA H hc b p2 ne F1 c1 p47.1⟩
    · rw [qE0_stepBack, zm_e bh]
      dsimp only
      rw [if_neg (zt_r0 U p2), zm_e (zt_C0_moveTo gL U (zt_h0 H) p2), zm_e (zl_gI (zt_mv_L gL la) (zt_r_l la p2.1) 0), zt_mv_num U p2]
    · rw [qE9_undoNow, zm_e (zm_here hM _), hc]
      dsimp only
      rw [if_neg z, zm_e (zm_here hM _), hc]
      dsimp only
      rw [zm_e (zm_of hM _ (zm_st48 hs) (by decide)), hc]
      dsimp only
      rw [zm_e (zm_of hM _ (zm_st48 p1) (by decide)), hc]
      dsimp only
      rw [zm_e e1, zm_e (zm_here (zm_F_M F1 hM) _), c1, zm_vc_0 c p2.1]
theorem zj_go {d D : Nat} {a : Nat} {c : Nat → Int} {g k : zv_H} (hA : zc_A g) (H : zt_H a c g) (hM : zm_M k) (hc : zv_I k 348 = c) (b : c 2 < 2000000000) (s : Int) : ∃ q q', C0_goTo (d + 4) a s g = some q ∧ C9_goNow (D + 5) 347 s k = some q' ∧ zt_Z a 1 g k q q' := by
  have U := zt_H_U H
  have W := zt_U_W U
  have la := zt_U_la U
  have gL := zt_L_A hA
  have hh := W.2.1
  have ea := zt_at (d := d + 2) gL U s
  have ei := zm_isState hM (D + 2) s
  rw [hc] at ei
  by_cases hs : zm_st c s
  · rw [if_pos hs] at ea ei
    by_cases z : s = c 0
    · refine ⟨(-4, g), (-1, zv_sI k 347 3 4), lC0_goTo (zl_ob gL la) ?_, lC9_goNow (zm_ob hM) ?_, zt_Z_rf (by decide) hA H hc (by decide) 4⟩
      · rw [qE0_goTo, zm_e ea]
        dsimp only
        rw [if_neg (zt_r0 U hs), zm_e (zl_gR gL la 10), zt_U_he U, if_neg (fun q => by have := zt_r1000 U hs; have := zt_r1000 U hh; omega), if_pos (by rw [z])]
      · rw [qE9_goNow, zm_e ei]
        dsimp only
        rw [if_neg (by decide), zm_e (zm_here hM _), hc]
        dsimp only
        rw [if_pos z, zm_e (zm_refuse hM _ 4)]
    · obtain ⟨v, ev, wv⟩ := zt_wayLength (d := d) gL U hh hs
      obtain ⟨v', ev', wv'⟩ := zt_wayMany hM hc W D hh hs
      have e2 := zt_wl_u wv' wv
      subst e2
      obtain ⟨k', e1, F1, c1⟩ := zm_visits hM hc (D + 2) hs.1
      rw [if_neg z] at c1
      refine ⟨(v', zt_mv a c s g), (v', k'), lC0_goTo (zl_ob gL la) ?_, lC9_goNow (zm_ob hM) ?_, zt_Z_mv hA H hc b hs z F1 c1 (zt_wl_0 W hh hs wv)⟩
      · rw [qE0_goTo, zm_e ea]
        dsimp only
        rw [if_neg (zt_r0 U hs), zm_e (zl_gR gL la 10), zt_U_he U, if_neg (fun q => by have := zt_r1000 U hs; have := zt_r1000 U hh; omega), if_neg (fun q => z (zt_r_inj la hs.1 hh.1 q)), zm_e (zl_gR gL la 10), zt_U_he U, zm_e ev]
        dsimp only
        rw [zm_e (zt_C0_moveTo gL U (zt_h0 H) hs)]
      · rw [qE9_goNow, zm_e ei]
        dsimp only
        rw [if_neg (by decide), zm_e (zm_here hM _), hc]
        dsimp only
        rw [if_neg z, zm_e (zm_here hM _), hc]
        dsimp only
        rw [zm_e ev']
        dsimp only
        rw [zm_e e1]
  · rw [if_neg hs] at ea ei
    refine ⟨(-2, g), (-1, zv_sI k 347 3 2), lC0_goTo (zl_ob gL la) ?_, lC9_goNow (zm_ob hM) ?_, zt_Z_rf (by decide) hA H hc (by decide) 2⟩
    · rw [qE0_goTo, zm_e ea]
      rfl
    · rw [qE9_goNow, zm_e ei]
      dsimp only
      rw [if_pos rfl, zm_e (zm_refuse hM _ 2)]
