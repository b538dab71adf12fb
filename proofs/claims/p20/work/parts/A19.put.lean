/-! ===== the tie: the class's put, whole ===== -/
theorem zt_nn_join {a : Nat} {c : Nat → Int} {h g : zv_H} {s x y z f : Int} (U : zt_U a c h) (fr : zt_free c s) (N : zt_nn a c h s x y z s g) : zt_nn a c h s x y z f (zv_sR g (zt_r a s) 5 (zt_r a f)) := by
  have la := zt_U_la U
  have h9 := zc_lh la
  have lS := zt_r_l la fr.1
  have k := zt_nn_k N
  have nA : a ≠ zt_r a s := fun q => by
    rw [← q, la] at lS
    cases lS
  have ol : ∀ t, zm_st c t → zt_r a t ≠ zt_r a s := fun t ht q => by
    have e := zt_r_inj la ht.1 fr.1 q
    exact fr.2.2 (by rw [← e]; exact ht.2)
  have gL := zt_nn_L N
  have L' : zt_L (zv_sR g (zt_r a s) 5 (zt_r a f)) := zl_sR gL (fun _ => by rw [lS]; rfl) (fun e => by rw [e] at lS; exact absurd lS (by decide)) (fun e => by rw [e] at lS; exact absurd lS (by decide))
  have k' : zt_k a h (zv_sR g (zt_r a s) 5 (zt_r a f)) := ⟨k.1, k.2.1, k.2.2.1, k.2.2.2.1, fun r c1 c2 c3 => by
    rw [← k.2.2.2.2 r c1 c2 c3]
    funext j
    refine if_neg (fun q => c3 ?_)
    rw [q.1]
    have hs := fr.1
    refine ⟨?_, zc_lt lS (by decide), zt_r_h la fr.1⟩
    rw [zt_r_p hs.1]
    unfold zc_stt
    split <;> omega⟩
  have e0 := zt_nn_lv N
  have e1 := zt_nn_oI N
  have e2 := zt_nn_o1 N
  have e3 := zt_nn_o2 N
  have e4 := zt_nn_oJ N
  have e5 := zt_nn_oR N
  have e6 := zt_nn_s6 N
  have e7 := zt_nn_s7 N
  have e8 := zt_nn_s8 N
  have e9 := zt_nn_s9 N
  have ea := zt_nn_sd N
  have eb := zt_nn_r4 N
  have ec := zt_nn_he N
  have ed := zt_nn_nw N
  have ee := zt_nn_ct N
  have ef := zt_nn_v4 N
  have eg := zt_nn_vs N
  have eh := zt_nn_vt N
  have ei := zt_nn_jn N
  have ej := zt_nn_nm N
  have ek := zt_nn_oh N
  exact ⟨L', k', e0, e1, e2, e3, e4, fun t ht j => (zy_Rn _ _ (fun q => ol t ht q.1)).trans (e5 t ht j), e6, e7, e8, e9, ea, (zy_Rn _ _ (fun q => absurd q.2 (by decide))).trans eb, zy_R _ _ _ _, (zy_Rn _ _ (fun q => nA q.1)).trans ec, ed, ee, ef, eg, eh, ei, ej, ek⟩
theorem zt_nst_le {c : Nat → Int} (w : zm_W c) : 0 ≤ zm_nst c ∧ zm_nst c ≤ 48 := by
  have := zm_sum_b (f := fun k => zm_o c k 0) (a := 0) (b := 1) 48 (fun k hk => by
    rcases w.1.1 k (by omega) (by omega) with q | q
    · rw [q]; omega
    · rw [q]; omega)
  unfold zm_nst
  omega
theorem zt_free_ex {c : Nat → Int} (w : zm_W c) (h : zm_nst c ≠ 48) : ∃ s, zt_free c s := by
  have key : ∀ n : Nat, n ≤ 48 → (∀ j : Int, 0 ≤ j → j < n → zm_o c j 0 = 1) ∨ ∃ s, zt_free c s := by
    intro n
    induction n with
    | zero => intro _; exact Or.inl (fun j j0 j1 => by omega)
    | succ n ih =>
      intro hn
      rcases ih (by omega) with q | q
      · by_cases e : zm_o c (n : Int) 0 = 1
        · refine Or.inl (fun j j0 j1 => ?_)
          by_cases z : j = n
          · rw [z]; exact e
          · exact q j j0 (by omega)
        · exact Or.inr ⟨n, by omega, q, e⟩
      · exact Or.inr q
  rcases key 48 (Nat.le_refl _) with q | q
  · exact absurd (zm_nst_48 q) h
  · exact q
theorem zt_J_cg {a : Nat} {c : Nat → Int} {h g : zv_H} (J : zt_J a c h) (e : ∀ r k, a + 22 ≤ r → r ≤ a + 24 → zv_I g r k = zv_I h r k) : zt_J a c g := by
  obtain ⟨cs, T, hc⟩ := J
  refine ⟨cs, ⟨?_, zt_T1_le T, fun k v hv => ?_, zt_T1_rg T, zt_T1_ph T⟩, hc⟩
  · rw [e _ _ (by omega) (by omega)]; exact zt_T1_sz T
  · rw [e _ _ (by omega) (by omega), e _ _ (by omega) (by omega)]; exact zt_T1_st T k v hv
/-- the word is none of half a's own -/
def zt_wr (a r : Nat) : Prop := r = 3 ∨ r = 7 ∨ r = a + 26
theorem zt_putWord {d : Nat} {a : Nat} {c : Nat → Int} {h : zv_H} {r m : Nat} {wd : Nat → Int} (gL : zt_L h) (U : zt_U a c h) (J : zt_J a c h) (h0 : 0 ≤ zv_I h (a + 17) 4) (w : zt_wd r m wd h) (hm : m ≤ 12) (hr : zt_wr a r) {l : List Int} (hl : zm_Ln c (c 0 :: l) (c 0)) {n1 n2 : Int} (d1 : zt_dp c (c 0) n1) (d2 : zm_ed c (c 0) → zt_dp c (zm_o c (c 0) 6) n2) (place : Int) : zm_R (C0_putWord (d + 4) a place r h) (fun q => (q.1 < 0 ∧ q.2 = h ∧ ¬ zt_pk c (zt_dc c (c 0 :: l)).length m place) ∨ (zt_pk c (zt_dc c (c 0 :: l)).length m place ∧ ∃ s, zt_free c s ∧ q.1 = s ∧ zt_nn a c h s 0 place m (if zt_jn c n1 n2 0 place m = true then zm_o c (c 0) 6 else s) q.2 ∧ zt_pn a c h s (zt_dc c (c 0 :: l)) place.toNat m wd q.2)) := by
  have la := zt_U_la U
  have W := zt_U_W U
  have hs0 := W.2.1
  have lP := zt_r_l la hs0.1
  have S0 := zt_U_st U _ hs0
  obtain ⟨ok, g0, gt, W1⟩ := zt_line_u W hs0 hl
  have n120 : (zt_dc c (c 0 :: l)).length ≤ 120 := W1.2.2.2.2.2.2
  have en := zt_S_ln S0 l hl
  have nst := zt_nst_le W
  generalize hE : zt_dc c (c 0 :: l) = E at *
  refine zm_cI (P := fun v g => (v < 0 ∧ g = h ∧ ¬ zt_pk c E.length m place) ∨ (zt_pk c E.length m place ∧ ∃ s, zt_free c s ∧ v = s ∧ zt_nn a c h s 0 place m (if zt_jn c n1 n2 0 place m = true then zm_o c (c 0) 6 else s) g ∧ zt_pn a c h s E place.toNat m wd g)) (fun e => lC0_putWord (zl_ob gL la) e) ?_
  rw [qE0_putWord]
  refine zm_if (fun q => zm_iI (Or.inl ⟨by decide, rfl, fun z => by have := z.1.1; omega⟩)) (fun p0 => ?_)
  rw [zm_e (zl_gR gL la 10), zt_U_he U, zm_e (zl_gI gL lP 12), en]
  refine zm_if (fun p1 => ?_) (fun q => zm_iI (Or.inl ⟨by decide, rfl, fun z => q z.1.2⟩))
  rw [zm_e (zl_gI gL (zt_wd_l7 w) 1), zt_wd_sz w]
  refine zm_if (fun q => zm_iI (Or.inl ⟨by decide, rfl, fun z => z.2.1 q⟩)) (fun m0 => ?_)
  rw [zm_e (zl_gI gL la 12), zt_U_ct U]
  refine zm_if (fun c48 => ?_) (fun q => zm_iI (Or.inl ⟨by decide, rfl, fun z => by have := z.2.2.1; omega⟩))
  rw [zm_e (zl_gR gL la 10), zt_U_he U, zm_e (zl_gI gL lP 12), en, zm_e (zl_gI gL (zt_wd_l7 w) 1), zt_wd_sz w, zm_w (by omega)]
  refine zm_if (fun c120 => ?_) (fun q => zm_iI (Or.inl ⟨by decide, rfl, fun z => q z.2.2.2⟩))
  have okp : zt_pk c E.length m place := ⟨⟨by omega, p1⟩, m0, by omega, c120⟩
  obtain ⟨s, fr⟩ := zt_free_ex W (show zm_nst c ≠ 48 by omega)
  obtain ⟨pl, epl⟩ : ∃ pl : Nat, place = pl := ⟨place.toNat, by omega⟩
  subst epl
  have i48 : s.toNat < 48 := by have := fr.1; omega
  have ers : zt_r a s = zc_stt a s.toNat := zt_r_p fr.1.1
  have lS := zt_r_l la fr.1
  have s1 : 1 ≤ s ∧ s ≤ 47 := by
    have := fr.1
    refine ⟨?_, by omega⟩
    by_cases z : s = 0
    · exact absurd W.1.2.1.1.2 (by
        have := fr.2.2
        rw [z] at this
        exact this)
    · omega
  have nPS : zt_r a (c 0) ≠ zt_r a s := fun q => by
    have e := zt_r_inj la hs0.1 fr.1 q
    exact fr.2.2 (by rw [← e]; exact hs0.2)
  have ne : ∀ {r r' : Nat} {p p' : Nat × Nat}, zv_lay r = p → zv_lay r' = p' → p ≠ p' → r ≠ r' := fun e1 e2 hne q => hne (by rw [← e1, ← e2, q])
  have h9 := zc_lh la
  have l5a : zv_lay (a + 5) = (2, 604) := by rcases h9 with e | e <;> rw [e] <;> rfl
  have lS5 := zc_l5 lS
  have lP5 := zc_l5 lP
  have l17 := (zt_vis_l la).1
  have l18 := (zt_vis_l la).2.1
  have l19 := (zt_vis_l la).2.2.1
  have ap : zt_ap a (zt_r a s) (zt_r a (c 0)) := ⟨la, lS, ne lS5.2 l5a (by decide), ne lS l5a (by decide), nPS, ne lP l5a (by decide), ne lP5.2 lS (by decide), ne lP5.2 l5a (by decide), ne lP lS5.2 (by decide)⟩
  obtain ⟨⟨q1, g1⟩, e1, eq1, G⟩ := zt_grow (d := d + 1) (x := 0) (y := (pl : Int)) (z := (m : Int)) gL U h0 fr
  dsimp only at eq1 G
  subst eq1
  have L1 := zt_gw_L G
  have eh := zt_U_he U
  have P1 : ∀ k, k ≠ 11 → zv_I g1 (zt_r a (c 0)) k = zv_I h (zt_r a (c 0)) k := fun k hk => zt_gw_oI G _ k (by rw [← ers]; exact nPS) (fun q => hk q.2) (fun q => ne lP la (by decide) q.1) (fun q => ne lP l17 (by decide) q.1) (ne lP l18 (by decide)) (ne lP l19 (by decide))
  have P2 : ∀ k, zv_I g1 (zt_r a (c 0) + 2) k = zv_I h (zt_r a (c 0) + 2) k := fun k => zt_gw_oI G _ k (by rw [← ers]; exact ne lP5.2 lS (by decide)) (fun q => ne lP5.2 lP (by decide) (q.1.trans eh)) (fun q => ne lP5.2 la (by decide) q.1) (fun q => ne lP5.2 l17 (by decide) q.1) (ne lP5.2 l18 (by decide)) (ne lP5.2 l19 (by decide))
  have src1 : zt_src (zt_r a (c 0)) E g1 := ⟨lP, by rw [P1 12 (by decide)]; exact en, n120, fun k x hx => by rw [P2]; exact zt_S_dc S0 l hl k x (by rw [hE]; exact hx)⟩
  rw [zm_e (zl_gR gL la 10), eh, zm_e (zl_gI gL (zt_wd_l7 w) 1), zt_wd_sz w, zm_e e1]
  dsimp only
  rw [if_neg (zc_nz lS)]
  -- the anchor
  have hanc : ∃ (v15 : Int) (v17 : Int64), C5_idAt (d + 3) (zt_r a (c 0)) (zv_w ((pl : Int) - 1)) g1 = some (v15, g1) ∧ (∀ g, C0_baseOf (d + 3) v15 g = some (v17, g)) ∧ v15 = zt_an E pl ∧ v17 = zt_ab E pl := by
    by_cases z : pl = 0
    · refine ⟨-1, Int64.ofNat 0, ?_, fun g => zt_C0_baseOf1, by unfold zt_an; rw [if_pos z], by unfold zt_ab; rw [if_pos z]⟩
      have b := zt_src_n src1
      rw [z, zm_w (by omega), zt_C5_idAt L1 lP (by omega), if_neg (by omega)]
    · obtain ⟨x, hx⟩ : ∃ x, E[pl - 1]? = some x := ⟨_, List.getElem?_eq_getElem (by omega)⟩
      have hxm : x ∈ zm_row c (c 0 :: l) := by
        have := List.mem_of_getElem? hx
        rw [← hE] at this
        exact (List.mem_filter.mp this).1
      refine ⟨zt_id x, zt_bo x.1, ?_, fun g => zt_C0_baseOf (zt_row_ok ok.2.2.1 g0 x hxm), ?_, ?_⟩
      · rw [zm_w (by omega), show (pl : Int) - 1 = ((pl - 1 : Nat) : Int) by omega]
        exact zt_src_at L1 src1 hx
      · unfold zt_an
        rw [if_neg z, hx]
      · unfold zt_ab
        rw [if_neg z, hx]
  obtain ⟨v15, v17, ea, eb, ev15, ev17⟩ := hanc
  rw [zm_e ea]
  dsimp only
  rw [zm_e (zl_pI L1 lS 15 _), zm_e (zl_gI (g := zv_sI g1 (zt_r a s) 15 v15) L1 lS 15), zy_I, zm_e (eb _)]
  dsimp only
  rw [zm_e (zl_pJ (g := zv_sI g1 (zt_r a s) 15 v15) L1 lS 17 _)]
  have L0 : zt_L (zv_sJ (zv_sI g1 (zt_r a s) 15 v15) (zt_r a s) 17 v17) := L1
  have I0 : ∀ r k, r ≠ zt_r a s → zv_I (zv_sJ (zv_sI g1 (zt_r a s) 15 v15) (zt_r a s) 17 v17) r k = zv_I g1 r k := fun r k hn => zy_In _ _ (fun q => hn q.1)
  have IS : ∀ k, k ≠ 15 → zv_I (zv_sJ (zv_sI g1 (zt_r a s) 15 v15) (zt_r a s) 17 v17) (zt_r a s) k = zv_I g1 (zt_r a s) k := fun k hk => zy_In _ _ (fun q => hk q.2)
  have src0 : zt_src (zt_r a (c 0)) E (zv_sJ (zv_sI g1 (zt_r a s) 15 v15) (zt_r a s) 17 v17) := ⟨lP, by rw [I0 _ _ nPS]; exact zt_src_n src1, n120, fun k x hx => by rw [I0 _ _ (ne lP5.2 lS (by decide))]; exact zt_src_d src1 k x hx⟩
  have l7 := zt_wd_l7 w
  have l40 := zt_wd_la w
  have nr18 : r + 1 ≠ a + 18 ∧ r + 1 ≠ a + 19 := by rcases hr with e | e | e <;> omega
  have wd0 : zt_wd r m wd (zv_sJ (zv_sI g1 (zt_r a s) 15 v15) (zt_r a s) 17 v17) := by
    refine ⟨l7, l40, zt_wd_m12 w, ?_, fun k hk => ?_⟩
    · rw [I0 _ _ (ne l7 lS (by decide)), zt_gw_oI G r 1 (by rw [← ers]; exact ne l7 lS (by decide)) (fun q => absurd q.2 (by decide)) (fun q => absurd q.2 (by decide)) (fun q => absurd q.2 (by decide)) (ne l7 l18 (by decide)) (ne l7 l19 (by decide))]
      exact zt_wd_sz w
    · rw [I0 _ _ (ne l40 lS (by decide)), zt_gw_oI G (r + 1) k (by rw [← ers]; exact ne l40 lS (by decide)) (fun q => ne l40 lP (by decide) (q.1.trans eh)) (fun q => ne l40 la (by decide) q.1) (fun q => ne l40 l17 (by decide) q.1) nr18.1 nr18.2]
      exact zt_wd_lt w k hk
  have e5 : ∀ k, zv_I (zv_sJ (zv_sI g1 (zt_r a s) 15 v15) (zt_r a s) 17 v17) (a + 5) k = zv_I h (a + 5) k := fun k => by
    rw [I0 _ _ (ne l5a lS (by decide))]
    exact zt_gw_oI G _ k (by rw [← ers]; exact ne l5a lS (by decide)) (fun q => ne l5a lP (by decide) (q.1.trans eh)) (by omega) (by omega) (by omega) (by omega)
  have A0 : zt_ad a (zv_sJ (zv_sI g1 (zt_r a s) 15 v15) (zt_r a s) 17 v17) (zt_r a s) [] (fun k => zv_I h (a + 5) k) (zv_sJ (zv_sI g1 (zt_r a s) 15 v15) (zt_r a s) 17 v17) := ⟨rfl, rfl, fun _ _ _ _ _ => rfl, by rw [IS 12 (by decide), ers]; exact zt_gw_sc G, fun k x hx => (by cases hx), e5⟩
  have nums : zv_I (zv_sJ (zv_sI g1 (zt_r a s) 15 v15) (zt_r a s) 17 v17) (zt_r a s) 0 = s := by
    rw [IS 0 (by decide), ers, zt_gw_s0 G]
    omega
  refine zt_put109 (d := d + 2) L0 ap src0 (by omega) (Or.inl (by omega)) (fun gA A => ?_) pl 0 _ (Nat.zero_add _) A0
  refine zt_put135 (d := d + 2) (s := s) (D := E.take pl) (pl : Int) L0 ap s1 nums wd0 hm ⟨ne l7 lS (by decide), ne l7 lS5.2 (by decide), ne l7 l5a (by decide), ne l40 lS (by decide), ne l40 l5a (by decide)⟩ (by rw [List.length_take]; omega) (fun gB B => ?_) m 0 gA (Nat.zero_add _) (by rw [List.take_zero, List.append_nil]; exact A)
  refine zt_put184 (d := d + 2) (pl := pl) (D := E.take pl ++ zm_rs s m) L0 ap src0 (by omega) (by rw [List.length_append, List.length_take, zm_rs_len]; omega) (fun gC C => ?_) (E.length - pl) pl gB (by omega) (Nat.le_refl _) (by rw [Nat.sub_self, List.take_zero, List.append_nil]; exact B)
  have LC := zt_ad_L C L0
  have ers2 : zc_stt a s.toNat = zt_r a s := ers.symm
  have C' := C
  rw [ers] at C'
  -- what stands in gC
  have IC : ∀ r k, ¬ (r = zt_r a s ∧ (k = 12 ∨ k = 15)) → r ≠ zt_r a s + 2 → r ≠ a + 5 → zv_I gC r k = zv_I g1 r k := fun r k c1 c2 c3 => by
    rw [zt_ad_i C r k (fun q => c1 ⟨q.1, Or.inl q.2⟩) c2 c3]
    exact zy_In _ _ (fun q => c1 ⟨q.1, Or.inr q.2⟩)
  have RC : ∀ r k, zv_R gC r k = zv_R g1 r k := fun r k => by
    show gC.2.2.2.1 r k = _
    rw [zt_ad_f2 C]
    rfl
  have oldI : ∀ t, zm_st c t → ∀ k, k ≠ 11 → zv_I gC (zt_r a t) k = zv_I h (zt_r a t) k := fun t ht k hk => by
    have lt := zt_r_l la ht.1
    have nt : zt_r a t ≠ zt_r a s := fun q => by
      have e := zt_r_inj la ht.1 fr.1 q
      exact fr.2.2 (by rw [← e]; exact ht.2)
    rw [IC _ k (fun q => nt q.1) (ne lt lS5.2 (by decide)) (ne lt l5a (by decide))]
    exact zt_gw_oI G _ k (by rw [ers2]; exact nt) (fun q => hk q.2) (fun q => ne lt la (by decide) q.1) (fun q => ne lt l17 (by decide) q.1) (ne lt l18 (by decide)) (ne lt l19 (by decide))
  have newI : ∀ k, k ≠ 12 → k ≠ 15 → zv_I gC (zt_r a s) k = zv_I g1 (zc_stt a s.toNat) k := fun k k1 k2 => by
    rw [IC _ k (fun q => by rcases q.2 with e | e; exact k1 e; exact k2 e) (by omega) (ne lS l5a (by decide)), ers]
  have hnn : ∀ n, n ≠ 1 → n ≤ 27 → a + n ≠ zt_r a s ∧ a + n ≠ zv_R h a 10 := fun n h1 h2 => ⟨fun q => zt_hn la ⟨h1, h2⟩ (by rw [q]; exact lS), fun q => zt_hn la ⟨h1, h2⟩ (by rw [q, eh]; exact lP)⟩
  have jl := zt_jn_l la
  have JC : zt_J a c gC := zt_J_cg J (fun r k r1 r2 => by
    obtain ⟨n, rfl⟩ : ∃ n, r = a + n := ⟨r - a, by omega⟩
    have n3 : n = 22 ∨ n = 23 ∨ n = 24 := by omega
    have n2' : a + n ≠ zt_r a s + 2 := by
      rcases n3 with e | e | e
      · subst e; exact ne jl.1 lS5.2 (by decide)
      · subst e; exact ne jl.2.1 lS5.2 (by decide)
      · subst e; exact ne jl.2.2.1 lS5.2 (by decide)
    rw [IC _ k (fun q => (hnn n (by omega) (by omega)).1 q.1) n2' (by omega)]
    exact zt_gw_oI G _ k (by rw [ers2]; exact (hnn n (by omega) (by omega)).1) (fun q => (hnn n (by omega) (by omega)).2 q.1) (by omega) (by omega) (by omega) (by omega))
  have pq : zt_pq c gC (zt_r a s) (zt_r a (c 0)) 0 (pl : Int) (m : Int) := ⟨lS, lP, (newI 6 (by decide) (by decide)).trans (zt_gw_s6 G), (newI 7 (by decide) (by decide)).trans ((zt_gw_s7 G).trans (zt_U_nw U)), (newI 8 (by decide) (by decide)).trans (zt_gw_s8 G), (newI 9 (by decide) (by decide)).trans (zt_gw_s9 G), (oldI _ hs0 6 (by decide)).trans (zt_S_ac S0), (oldI _ hs0 7 (by decide)).trans (zt_S_ti S0), (oldI _ hs0 8 (by decide)).trans (zt_S_pl S0), (oldI _ hs0 9 (by decide)).trans (zt_S_sz S0)⟩
  have hd : zm_ed c (c 0) → zv_R gC (zt_r a (c 0)) 5 = zt_r a (zm_o c (c 0) 6) ∧ zv_lay (zt_r a (zm_o c (c 0) 6)) = (1, 5) ∧ zv_I gC (zt_r a (c 0)) 10 = n1 ∧ zv_I gC (zt_r a (zm_o c (c 0) 6)) 10 = n2 := fun he => by
    have c00 : c 0 ≠ 0 := fun q => by
      have := W.1.2.1.2.2.1
      rw [q] at he
      rcases he with z | z <;> omega
    have fst := (zm_fp W.1 hs0 c00).1
    obtain ⟨l1', a1, a2⟩ := d1
    obtain ⟨l2', b1, b2⟩ := d2 he
    refine ⟨?_, zt_r_l la fst.1, ?_, ?_⟩
    · rw [RC, zt_gw_oR G _ 5 (by rw [ers2]; exact nPS) (fun q => ne lP la (by decide) q.1)]
      exact zt_S_fi S0
    · rw [oldI _ hs0 10 (by decide), a2]
      exact zt_S_de S0 l1' a1
    · rw [oldI _ fst 10 (by decide), b2]
      exact zt_S_de (zt_U_st U _ fst) l2' b1
  obtain ⟨g', eg, gD, oD, eD⟩ := zt_joinGroup (d := d + 1) LC la JC pq hd
  have N : zt_nn a c h s 0 (pl : Int) (m : Int) s gD := zt_nn_of U fr rfl G C' oD
  have l25 := jl.2.2.2
  have iD : ∀ r k, r ≠ a + 25 → zv_I gD r k = zv_I gC r k := fun r k hn => zt_o_i oD (zt_c1 hn) k
  have f2D : gD.2.2 = (zv_sJ (zv_sI g1 (zt_r a s) 15 v15) (zt_r a s) 17 v17).2.2 := oD.2.1.trans (zt_ad_f2 C)
  have PN : ∀ g'' : zv_H, g''.2.1 = gD.2.1 → g''.2.2.1 = gD.2.2.1 → zt_pn a c h s E pl m wd g'' := fun g'' x1 x2 => by
    have xi : ∀ r k, zv_I g'' r k = zv_I gD r k := fun r k => by
      show g''.2.1 r k = _
      rw [x1]; rfl
    have xj : ∀ r k, zv_J g'' r k = zv_J gD r k := fun r k => by
      show g''.2.2.1 r k = _
      rw [x2]; rfl
    have jD : ∀ r k, zv_J gD r k = zv_J (zv_sJ (zv_sI g1 (zt_r a s) 15 v15) (zt_r a s) 17 v17) r k := fun r k => by
      show gD.2.2.1 r k = _
      rw [f2D]; rfl
    refine ⟨?_, ?_, ?_, ?_, fun k x hx => ?_, fun k => ?_⟩
    · rw [xi, iD _ _ (ne lS l25 (by decide)), zt_ad_i C _ 15 (fun q => absurd q.2 (by decide)) (by omega) (ne lS l5a (by decide)), ← ev15]
      exact zy_I _ _ _ _
    · rw [xj, jD, ← ev17]
      exact zy_J _ _ _ _
    · have jg := zt_gw_jg G
      rw [xj, jD, zy_Jn _ _ (fun q => absurd q.2 (by decide)), ers]
      exact jg
    · rw [xi, iD _ _ (ne lS l25 (by decide))]
      exact zt_ad_n C
    · rw [xi, iD _ _ (ne lS5.2 l25 (by decide))]
      exact zt_ad_d C k x hx
    · rw [xi, iD _ _ (by omega)]
      exact zt_ad_g C k
  have fin : ∀ fi, zt_nn a c h s 0 (pl : Int) (m : Int) fi g' → zt_pn a c h s E pl m wd g' → fi = (if zt_jn c n1 n2 0 (pl : Int) (m : Int) = true then zm_o c (c 0) 6 else s) → zv_I g' (zt_r a s) 0 = s → zm_R ((C0_joinGroup (d + 3) a (zt_r a s) (zt_r a (c 0)) gC).bind fun g4 => (zv_gI g4 (zt_r a s) 5 0).bind fun v5 => (some (some (zv_i v5), g4) : zv_O)) (zm_I fun v g => (v < 0 ∧ g = h ∧ ¬ zt_pk c E.length m (pl : Int)) ∨ (zt_pk c E.length m (pl : Int) ∧ ∃ s, zt_free c s ∧ v = s ∧ zt_nn a c h s 0 (pl : Int) m (if zt_jn c n1 n2 0 (pl : Int) m = true then zm_o c (c 0) 6 else s) g ∧ zt_pn a c h s E ((pl : Int)).toNat m wd g)) := by
    intro fi N' P' ef es
    rw [zm_e eg, zm_e (zl_gI (zt_nn_L N') lS 0), es]
    exact zm_iI (Or.inr ⟨okp, s, fr, rfl, by rw [← ef]; exact N', P'⟩)
  have n0 : zv_I gD (zt_r a s) 0 = s := by
    rw [iD _ _ (ne lS l25 (by decide)), newI 0 (by decide) (by decide), zt_gw_s0 G]
    have := fr.1
    omega
  by_cases hj : zt_jn c n1 n2 0 (pl : Int) (m : Int) = true
  · rw [if_pos hj] at eD
    refine fin (zm_o c (c 0) 6) ?_ ?_ (by rw [if_pos hj]) ?_
    · rw [eD]; exact zt_nn_join U fr N
    · rw [eD]; exact PN _ rfl rfl
    · rw [eD]; exact n0
  · rw [if_neg hj] at eD
    refine fin s ?_ ?_ (by rw [if_neg hj]) ?_
    · rw [eD]; exact N
    · rw [eD]; exact PN _ rfl rfl
    · rw [eD]; exact n0
