/-! ===== the tie: the class's cut, whole ===== -/
/-- the end of an act: the new State joins its group, its number is answered -/
theorem zt_join_end {d : Nat} {a : Nat} {c : Nat → Int} {h g1 gC : zv_H} {s x y z n1 n2 : Int} (U : zt_U a c h) (J : zt_J a c h) (fr : zt_free c s) (W : zt_gw a h g1 s.toNat x y z) (fI : ∀ r k, r ≠ zc_stt a s.toNat → r ≠ zc_stt a s.toNat + 1 → r ≠ zc_stt a s.toNat + 2 → r ≠ a + 5 → r ≠ a + 25 → zv_I gC r k = zv_I g1 r k) (fS : ∀ k, k ≠ 12 → k ≠ 15 → zv_I gC (zc_stt a s.toNat) k = zv_I g1 (zc_stt a s.toNat) k) (fJ : ∀ r k, r ≠ zc_stt a s.toNat → zv_J gC r k = zv_J g1 r k) (fR : ∀ r k, zv_R gC r k = zv_R g1 r k) (f1 : gC.1 = g1.1) (f2 : gC.2.2.2.2 = g1.2.2.2.2) (d1 : zt_dp c (c 0) n1) (d2 : zm_ed c (c 0) → zt_dp c (zm_o c (c 0) 6) n2) : zm_R ((C0_joinGroup (d + 2) a (zt_r a s) (zt_r a (c 0)) gC).bind fun g4 => (zv_gI g4 (zt_r a s) 5 0).bind fun v5 => (some (some (zv_i v5), g4) : zv_O)) (zm_I fun v g => v = s ∧ zt_nn a c h s x y z (if zt_jn c n1 n2 x y z = true then zm_o c (c 0) 6 else s) g ∧ g.2.2.1 = gC.2.2.1 ∧ ∀ r k, r ≠ a + 25 → zv_I g r k = zv_I gC r k) := by
  have la := zt_U_la U
  have W0 := zt_U_W U
  have hs0 := W0.2.1
  have S0 := zt_U_st U _ hs0
  have lS := zt_r_l la fr.1
  have lP := zt_r_l la hs0.1
  have N0 := zt_nn_gen U fr rfl W fI fS fJ fR f1 f2
  have LC := zt_nn_L N0
  have JC : zt_J a c gC := zt_J_cg J (zt_nn_jn N0)
  have pq : zt_pq c gC (zt_r a s) (zt_r a (c 0)) x y z := ⟨lS, lP, zt_nn_s6 N0, zt_nn_s7 N0, zt_nn_s8 N0, zt_nn_s9 N0, (zt_nn_oI N0 _ hs0 6 (by decide)).trans (zt_S_ac S0), (zt_nn_oI N0 _ hs0 7 (by decide)).trans (zt_S_ti S0), (zt_nn_oI N0 _ hs0 8 (by decide)).trans (zt_S_pl S0), (zt_nn_oI N0 _ hs0 9 (by decide)).trans (zt_S_sz S0)⟩
  have hd : zm_ed c (c 0) → zv_R gC (zt_r a (c 0)) 5 = zt_r a (zm_o c (c 0) 6) ∧ zv_lay (zt_r a (zm_o c (c 0) 6)) = (1, 5) ∧ zv_I gC (zt_r a (c 0)) 10 = n1 ∧ zv_I gC (zt_r a (zm_o c (c 0) 6)) 10 = n2 := fun he => by
    have c00 : c 0 ≠ 0 := fun q => by
      have := W0.1.2.1.2.2.1
      rw [q] at he
      rcases he with z | z <;> omega
    have fst := (zm_fp W0.1 hs0 c00).1
    obtain ⟨l1', a1, a2⟩ := d1
    obtain ⟨l2', b1, b2⟩ := d2 he
    refine ⟨(zt_nn_oR N0 _ hs0 5).trans (zt_S_fi S0), zt_r_l la fst.1, ?_, ?_⟩
    · rw [zt_nn_oI N0 _ hs0 10 (by decide), a2]
      exact zt_S_de S0 l1' a1
    · rw [zt_nn_oI N0 _ fst 10 (by decide), b2]
      exact zt_S_de (zt_U_st U _ fst) l2' b1
  obtain ⟨g', eg, gD, oD, eD⟩ := zt_joinGroup (d := d) LC la JC pq hd
  have iD : ∀ r k, r ≠ a + 25 → zv_I gD r k = zv_I gC r k := fun r k hn => zt_o_i oD (zt_c1 hn) k
  have f2D : gD.2.2 = gC.2.2 := oD.2.1
  have n25 : ∀ x, x ≤ 2 → zc_stt a s.toNat + x ≠ a + 25 := fun x hx q => zt_sepH (a := a) (i := s.toNat) (n := 25) (by decide) hx (by decide) (by decide) (by decide) q.symm
  have N : zt_nn a c h s x y z s gD := zt_nn_gen U fr rfl W (fun r k c1 c2 c3 c4 c5 => (iD r k c5).trans (fI r k c1 c2 c3 c4 c5)) (fun k c1 c2 => (iD _ k (n25 0 (by decide))).trans (fS k c1 c2)) (fun r k c1 => by
    refine Eq.trans ?_ (fJ r k c1)
    show gD.2.2.1 r k = _
    rw [f2D]; rfl) (fun r k => by
    refine Eq.trans ?_ (fR r k)
    show gD.2.2.2.1 r k = _
    rw [f2D]; rfl) (oD.1.trans f1) (by rw [f2D]; exact f2)
  have n0 : zv_I gD (zt_r a s) 0 = s := by
    have e := zt_r_p (a := a) fr.1.1
    rw [e, iD (zc_stt a s.toNat) _ (n25 0 (by decide)), fS 0 (by decide) (by decide), zt_gw_s0 W]
    have := fr.1
    omega
  have fJD : gD.2.2.1 = gC.2.2.1 := by rw [f2D]
  rw [zm_e eg]
  by_cases hj : zt_jn c n1 n2 x y z = true
  · rw [if_pos hj] at eD
    rw [if_pos hj]
    have N' := zt_nn_join (f := zm_o c (c 0) 6) U fr N
    rw [← eD] at N'
    rw [zm_e (zl_gI (zt_nn_L N') lS 0)]
    refine zm_iI ⟨?_, N', ?_, ?_⟩
    · rw [eD]; exact n0
    · rw [eD]; exact fJD
    · rw [eD]; exact iD
  · rw [if_neg hj] at eD
    rw [if_neg hj]
    rw [← eD] at N
    rw [zm_e (zl_gI (zt_nn_L N) lS 0)]
    refine zm_iI ⟨?_, N, ?_, ?_⟩
    · rw [eD]; exact n0
    · rw [eD]; exact fJD
    · rw [eD]; exact iD
/-- a cut's own -/
def zt_un (a : Nat) (h : zv_H) (s : Int) (E : List (Int × Int)) (pl : Nat) (m : Nat) (g : zv_H) : Prop := (zv_I g (zt_r a s) 15 = -1) ∧ (zv_J g (zt_r a s) 16 = Int64.ofNat 0) ∧ (zv_I g (zt_r a s) 12 = (zt_cl pl m E).length) ∧ (∀ (k : Nat) (x : Int × Int), (zt_cl pl m E)[k]? = some x → zv_I g (zt_r a s + 2) k = zt_id x) ∧ (∀ (k : Nat) (x : Int × Int), (zt_ct pl m E)[k]? = some x → zv_I g (zt_r a s + 1) k = zt_id x) ∧ (∀ t : Nat, t < 64 → (zt_b (zv_J g (zt_r a s) 17) t = true ↔ 1 ≤ t ∧ t < 48 ∧ ∃ p ∈ zt_ct pl m E, p.1 = t)) ∧ (∀ k, zv_I g (a + 5) k = zv_I h (a + 5) k)
theorem zt_un_an {a : Nat} {h : zv_H} {s : Int} {E : List (Int × Int)} {pl : Nat} {m : Nat} {g : zv_H} (t : zt_un a h s E pl m g) : zv_I g (zt_r a s) 15 = -1 := t.1
theorem zt_un_nd {a : Nat} {h : zv_H} {s : Int} {E : List (Int × Int)} {pl : Nat} {m : Nat} {g : zv_H} (t : zt_un a h s E pl m g) : zv_J g (zt_r a s) 16 = Int64.ofNat 0 := t.2.1
theorem zt_un_ln {a : Nat} {h : zv_H} {s : Int} {E : List (Int × Int)} {pl : Nat} {m : Nat} {g : zv_H} (t : zt_un a h s E pl m g) : zv_I g (zt_r a s) 12 = (zt_cl pl m E).length := t.2.2.1
theorem zt_un_dc {a : Nat} {h : zv_H} {s : Int} {E : List (Int × Int)} {pl : Nat} {m : Nat} {g : zv_H} (t : zt_un a h s E pl m g) : ∀ (k : Nat) (x : Int × Int), (zt_cl pl m E)[k]? = some x → zv_I g (zt_r a s + 2) k = zt_id x := t.2.2.2.1
theorem zt_un_tk {a : Nat} {h : zv_H} {s : Int} {E : List (Int × Int)} {pl : Nat} {m : Nat} {g : zv_H} (t : zt_un a h s E pl m g) : ∀ (k : Nat) (x : Int × Int), (zt_ct pl m E)[k]? = some x → zv_I g (zt_r a s + 1) k = zt_id x := t.2.2.2.2.1
theorem zt_un_bs {a : Nat} {h : zv_H} {s : Int} {E : List (Int × Int)} {pl : Nat} {m : Nat} {g : zv_H} (t : zt_un a h s E pl m g) : ∀ t : Nat, t < 64 → (zt_b (zv_J g (zt_r a s) 17) t = true ↔ 1 ≤ t ∧ t < 48 ∧ ∃ p ∈ zt_ct pl m E, p.1 = t) := t.2.2.2.2.2.1
theorem zt_un_gl {a : Nat} {h : zv_H} {s : Int} {E : List (Int × Int)} {pl : Nat} {m : Nat} {g : zv_H} (t : zt_un a h s E pl m g) : ∀ k, zv_I g (a + 5) k = zv_I h (a + 5) k := t.2.2.2.2.2.2
theorem zt_cutOut {d : Nat} {a : Nat} {c : Nat → Int} {h : zv_H} (gL : zt_L h) (U : zt_U a c h) (J : zt_J a c h) (h0 : 0 ≤ zv_I h (a + 17) 4) {l : List Int} (hl : zm_Ln c (c 0 :: l) (c 0)) {n1 n2 : Int} (d1 : zt_dp c (c 0) n1) (d2 : zm_ed c (c 0) → zt_dp c (zm_o c (c 0) 6) n2) (place many : Int) : zm_R (C0_cutOut (d + 4) a place many h) (fun q => (q.1 < 0 ∧ q.2 = h ∧ ¬ zt_uk c (zt_dc c (c 0 :: l)).length place many) ∨ (zt_uk c (zt_dc c (c 0 :: l)).length place many ∧ ∃ s, zt_free c s ∧ q.1 = s ∧ zt_nn a c h s 1 place many (if zt_jn c n1 n2 1 place many = true then zm_o c (c 0) 6 else s) q.2 ∧ zt_un a h s (zt_dc c (c 0 :: l)) place.toNat many.toNat q.2)) := by
  have la := zt_U_la U
  have W := zt_U_W U
  have hs0 := W.2.1
  have lP := zt_r_l la hs0.1
  have S0 := zt_U_st U _ hs0
  obtain ⟨ok, g0, gt, W1⟩ := zt_line_u W hs0 hl
  have n120 : (zt_dc c (c 0 :: l)).length ≤ 120 := W1.2.2.2.2.2.2
  have en := zt_S_ln S0 l hl
  have nst := zt_nst_le W
  have hokE : ∀ x ∈ zt_dc c (c 0 :: l), zt_ok x := fun x hx => zt_row_ok ok.2.2.1 g0 x (List.mem_filter.mp hx).1
  generalize hE : zt_dc c (c 0 :: l) = E at *
  refine zm_cI (P := fun v g => (v < 0 ∧ g = h ∧ ¬ zt_uk c E.length place many) ∨ (zt_uk c E.length place many ∧ ∃ s, zt_free c s ∧ v = s ∧ zt_nn a c h s 1 place many (if zt_jn c n1 n2 1 place many = true then zm_o c (c 0) 6 else s) g ∧ zt_un a h s E place.toNat many.toNat g)) (fun e => lC0_cutOut (zl_ob gL la) e) ?_
  rw [qE0_cutOut]
  refine zm_if (fun q => zm_iI (Or.inl ⟨by decide, rfl, fun z => by have := z.2.1; omega⟩)) (fun p0 => ?_)
  rw [zm_e (zc_within h many 1 12)]
  by_cases m12 : 1 ≤ many ∧ many ≤ 12
  · rw [if_pos m12]
    dsimp only
    rw [if_neg (by decide), zm_e (zl_gR gL la 10), zt_U_he U, zm_e (zl_gI gL lP 12), en, zm_w (by omega)]
    refine zm_if (fun p1 => ?_) (fun q => zm_iI (Or.inl ⟨by decide, rfl, fun z => q (by have := z.2.2.1; omega)⟩))
    rw [zm_e (zl_gI gL la 12), zt_U_ct U]
    refine zm_if (fun c48 => ?_) (fun q => zm_iI (Or.inl ⟨by decide, rfl, fun z => by have := z.2.2.2; omega⟩))
    have okp : zt_uk c E.length place many := ⟨m12, by omega, by omega, by omega⟩
    obtain ⟨s, fr⟩ := zt_free_ex W (show zm_nst c ≠ 48 by omega)
    obtain ⟨pl, epl⟩ : ∃ pl : Nat, place = pl := ⟨place.toNat, by omega⟩
    obtain ⟨m, em⟩ : ∃ m : Nat, many = m := ⟨many.toNat, by omega⟩
    subst epl
    subst em
    have i48 : s.toNat < 48 := by have := fr.1; omega
    have ers : zt_r a s = zc_stt a s.toNat := zt_r_p fr.1.1
    have lS := zt_r_l la fr.1
    have lS5 := zc_l5 lS
    have lP5 := zc_l5 lP
    have eP : zt_r a (c 0) = zc_stt a (c 0).toNat := zt_r_p hs0.1.1
    have nij : (c 0).toNat ≠ s.toNat := fun q => by
      have h1 := hs0.1
      have h2 := fr.1
      have e : c 0 = s := by omega
      exact fr.2.2 (by rw [← e]; exact hs0.2)
    have sp : ∀ x y, x ≤ 2 → y ≤ 2 → zt_r a (c 0) + x ≠ zt_r a s + y := fun x y hx hy => by
      rw [eP, ers]
      exact zt_sep nij hx hy
    have eh := zt_U_he U
    obtain ⟨⟨q1, g1⟩, e1, eq1, G⟩ := zt_grow (d := d + 1) (x := 1) (y := (pl : Int)) (z := (m : Int)) gL U h0 fr
    dsimp only at eq1 G
    subst eq1
    have L1 := zt_gw_L G
    have hb : ∀ j x n, n ≤ 27 → n ≠ 1 → n ≠ 2 → n ≠ 3 → x ≤ 2 → zc_stt a j + x ≠ a + n := fun j x n n0 n1 n2 n3 hx q => zt_sepH n0 hx n1 n2 n3 q.symm
    have PO : ∀ x k, x ≤ 2 → ¬ (x = 0 ∧ k = 11) → zv_I g1 (zt_r a (c 0) + x) k = zv_I h (zt_r a (c 0) + x) k := fun x k hx hk => by
      refine zt_gw_oI G _ k (by rw [← ers]; exact sp x 0 hx (by decide)) (fun q => hk ?_) (fun q => ?_) (fun q => ?_) ?_ ?_
      · rw [eh] at q
        exact ⟨by omega, q.2⟩
      · exact hb (c 0).toNat x 0 (by decide) (by decide) (by decide) (by decide) hx (by rw [← eP]; exact q.1)
      · exact hb (c 0).toNat x 17 (by decide) (by decide) (by decide) (by decide) hx (by rw [← eP]; exact q.1)
      · rw [eP]; exact hb (c 0).toNat x 18 (by decide) (by decide) (by decide) (by decide) hx
      · rw [eP]; exact hb (c 0).toNat x 19 (by decide) (by decide) (by decide) (by decide) hx
    have src1 : zt_src (zt_r a (c 0)) E g1 := ⟨lP, (PO 0 12 (by decide) (by omega)).trans en, n120, fun k x hx => by rw [PO 2 k (by decide) (by omega)]; exact zt_S_dc S0 l hl k x (by rw [hE]; exact hx)⟩
    rw [zm_e (zl_gR gL la 10), eh, zm_e e1]
    dsimp only
    rw [if_neg (zc_nz lS)]
    have A0 : zt_cd g1 (zt_r a s) pl m (E.take 0) g1 := by
      refine ⟨rfl, rfl, fun _ _ _ _ _ => rfl, fun _ _ _ => rfl, ?_, fun k x hx => ?_, fun k x hx => ?_, fun t ht => ?_⟩
      · rw [ers, zt_gw_sc G]
        unfold zt_cl
        rw [List.take_zero, List.take_nil, List.drop_nil]
        rfl
      · unfold zt_cl at hx
        rw [List.take_zero, List.take_nil, List.drop_nil] at hx
        cases hx
      · unfold zt_ct at hx
        rw [List.take_zero, List.drop_nil, List.take_nil] at hx
        cases hx
      · rw [ers, zt_gw_jh G, zt_b_0]
        unfold zt_ct
        rw [List.take_zero, List.drop_nil, List.take_nil]
        exact ⟨fun q => (by cases q), fun q => by obtain ⟨p, hp, _⟩ := q.2.2; cases hp⟩
    refine zt_cut69 (d := d + 1) (E := E) L1 lS src1 ⟨sp 0 0 (by decide) (by decide), sp 2 0 (by decide) (by decide), sp 0 1 (by decide) (by decide), sp 0 2 (by decide) (by decide), sp 2 1 (by decide) (by decide)⟩ hokE (by omega) (by omega) (fun gC C => ?_) E.length 0 g1 (Nat.zero_add _) A0
    have C' := C
    rw [ers] at C'
    have f2C := zt_cd_f2 C
    have iC := zt_cd_i C'
    have jC := zt_cd_j C'
    obtain ⟨⟨ov, g'⟩, e2, v, ev, v2, N, gJ, gI⟩ := zt_join_end (d := d + 1) (n1 := n1) (n2 := n2) U J fr G (gC := gC) (fun r k c1 c2 c3 _ _ => iC r k (fun q => c1 q.1) c2 c3) (fun k c1 c2 => iC _ k (fun q => c1 q.2) (by omega) (by omega)) (fun r k c1 => jC r k (fun q => c1 q.1)) (fun r k => by
      show gC.2.2.2.1 r k = _
      rw [f2C]; rfl) (zt_cd_f1 C) (by rw [f2C]) d1 d2
    dsimp only at ev N gJ gI
    subst ev
    subst v2
    rw [e2]
    have n25 : ∀ x, x ≤ 2 → zt_r a v + x ≠ a + 25 := fun x hx => by
      rw [ers]
      exact hb _ x 25 (by decide) (by decide) (by decide) (by decide) hx
    have n5 : ∀ x, x ≤ 2 → a + 5 ≠ zt_r a v + x := fun x hx q => by
      rw [ers] at q
      exact hb _ x 5 (by decide) (by decide) (by decide) (by decide) hx q.symm
    have gJ' : ∀ r k, zv_J g' r k = zv_J gC r k := fun r k => by
      show g'.2.2.1 r k = _
      rw [gJ]; rfl
    refine zm_iI (Or.inr ⟨okp, v, fr, rfl, N, ?_, ?_, ?_, fun k x hx => ?_, fun k x hx => ?_, fun t ht => ?_, fun k => ?_⟩)
    · rw [gI (zt_r a v) _ (n25 0 (by decide)), zt_cd_i C _ 15 (fun q => absurd q.2 (by decide)) (by omega) (by omega), ers]
      exact zt_gw_sf G
    · rw [gJ', zt_cd_j C _ 16 (fun q => absurd q.2 (by decide)), ers]
      exact zt_gw_jg G
    · rw [gI (zt_r a v) _ (n25 0 (by decide))]
      exact zt_cd_n C
    · rw [gI _ _ (n25 2 (by decide))]
      exact zt_cd_d C k x hx
    · rw [gI _ _ (n25 1 (by decide))]
      exact zt_cd_t C k x hx
    · rw [gJ']
      exact zt_cd_b C t ht
    · rw [gI _ _ (by omega), zt_cd_i C _ k (fun q => n5 0 (by decide) q.1) (n5 1 (by decide)) (n5 2 (by decide))]
      refine zt_gw_oI G _ k (fun q => n5 0 (by decide) (by rw [ers]; exact q)) (fun q => ?_) (by omega) (by omega) (by omega) (by omega)
      rw [eh, eP] at q
      exact hb _ 0 5 (by decide) (by decide) (by decide) (by decide) (by decide) q.1.symm
  · rw [if_neg m12]
    exact zm_iI (Or.inl ⟨by decide, rfl, fun z => m12 z.1⟩)
theorem zt_fl_mid {E : List (Int × Int)} (hd : E.Nodup) (pl m : Nat) : E.filter (fun p => !((zt_ct pl m E).contains p)) = zt_cl pl m E := by
  unfold zt_ct zt_cl
  have e : E = E.take pl ++ ((E.drop pl).take m ++ E.drop (pl + m)) := by
    rw [← List.drop_drop, List.take_append_drop, List.take_append_drop]
  generalize hA : E.take pl = A at *
  generalize hT : (E.drop pl).take m = T at *
  generalize hB : E.drop (pl + m) = B at *
  rw [e] at hd
  obtain ⟨_, h2, h3⟩ := List.nodup_append.mp hd
  obtain ⟨_, _, h4⟩ := List.nodup_append.mp h2
  have fA : A.filter (fun p => !(T.contains p)) = A := zm_fl_all _ (fun x hx => by
    have : ¬ x ∈ T := fun q => h3 x hx x (List.mem_append_left _ q) rfl
    rw [Bool.not_eq_true', ← Bool.not_eq_true, List.contains_iff_mem]
    exact this)
  have fB : B.filter (fun p => !(T.contains p)) = B := zm_fl_all _ (fun x hx => by
    have : ¬ x ∈ T := fun q => h4 x q x hx rfl
    rw [Bool.not_eq_true', ← Bool.not_eq_true, List.contains_iff_mem]
    exact this)
  have fT : T.filter (fun p => !(T.contains p)) = [] := List.filter_eq_nil_iff.mpr (fun x hx => by
    have : T.contains x = true := List.contains_iff_mem.mpr hx
    rw [this]
    decide)
  rw [e, List.filter_append, List.filter_append, fA, fB, fT, List.nil_append]
theorem zt_dc_cut {c c' : Nat → Int} {s : Int} {lh : List Int} (hne : lh ≠ []) (ha : ∀ t ∈ lh, zm_ag c c' t) (hns : ¬ s ∈ lh) (g : zm_G0 c lh) (hp : zm_o c' s 2 = 1) {pl m : Nat} (htk : zm_tk c' s = zt_ct pl m (zt_dc c lh)) : zt_dc c' (s :: lh) = zt_cl pl m (zt_dc c lh) := by
  obtain ⟨r1, r2, _⟩ := zm_cnt_cut hne ha hns g hp
  have hd : (zt_dc c lh).Nodup := List.Nodup.sublist List.filter_sublist (zm_row_nd g.1)
  rw [← zt_fl_mid hd pl m, ← htk]
  show (zm_row c' (s :: lh)).filter (zm_sn c' (s :: lh)) = ((zm_row c lh).filter (zm_sn c lh)).filter _
  rw [r1, zm_fl_cg r2, List.filter_filter]
  exact zm_fl_cg (fun p _ => Bool.and_comm _ _)
theorem zt_tk_cut {c c' : Nat → Int} {s : Int} {lh : List Int} {pl m : Nat} (Ct : zm_Ct c c' lh s (pl : Int) (m : Int)) (hpl : pl + m ≤ (zt_dc c lh).length) : zm_tk c' s = zt_ct pl m (zt_dc c lh) := by
  obtain ⟨_, _, _, c5, _, _, ck⟩ := Ct
  have e5 : (zm_o c' s 5).toNat = m := by rw [c5]; rfl
  apply List.ext_getElem?
  intro k
  unfold zt_ct
  by_cases hk : k < m
  · obtain ⟨x, x1, x2, x3⟩ := ck k (by omega)
    rw [zm_tk_get c' s (by omega), List.getElem?_take_of_lt hk, List.getElem?_drop, x2, x3]
    exact x1.symm
  · rw [List.getElem?_eq_none (by rw [zm_tk_len]; omega), List.getElem?_eq_none (by rw [List.length_take, List.length_drop]; omega)]
theorem zt_U_cut {a : Nat} {c c' : Nat → Int} {h g : zv_H} {s fi : Int} {l : List Int} {pl m : Nat} (U : zt_U a c h) (V : zv_I h (a + 17) 4 = c 2) (hA : zc_A g) (fr : zt_free c s) (hl : zm_Ln c (c 0 :: l) (c 0)) (hpl : pl + m ≤ (zt_dc c (c 0 :: l)).length) (N : zt_nn a c h s 1 (pl : Int) (m : Int) fi g) (P : zt_un a h s (zt_dc c (c 0 :: l)) pl m g) (W' : zm_W c') (n : zm_Nw c c' s) (Ct : zm_Ct c c' (c 0 :: l) s (pl : Int) (m : Int)) (e6 : zm_o c' s 6 = fi) (e7 : zm_o c' s 7 = zv_w (c 2 + 1)) (e10 : zm_o c' s 10 = 0) (e11 : zm_o c' s 11 = 0) : zt_U a c' g := by
  have W := zt_U_W U
  have s47 := fr.1
  have s0 : s ≠ 0 := fun e => by
    have h0 := W.1.2.1.1.2
    have h1 := fr.2.2
    rw [e] at h1
    exact h1 h0
  have htk := zt_tk_cut Ct hpl
  obtain ⟨p2, p3, p4, p5, _, p8, _⟩ := Ct
  obtain ⟨ok, g0, gt, W1⟩ := zt_line_u W W.2.1 hl
  obtain ⟨Ln', hag, hns⟩ := zt_Ln_new W fr n hl
  have edc := zt_dc_cut (List.cons_ne_nil _ _) hag hns g0 p2 htk
  have un : ∀ l', zm_Ln c' (s :: l') s → l' = c 0 :: l := fun l' h' => (List.cons.inj (zm_Ln_u h' Ln')).2
  refine zt_U_new U V hA fr N W' n p2 p3 p4 p5 e6 e7 (fun t ht q k hk => zt_un_gl P _) ?_ (fun t ht => ?_) (fun t ht => ?_) (fun q k x hx => ?_) (fun q => ?_) (fun l' h' => ?_) (fun l' h' i x hx => ?_) ?_
  · rw [zt_un_an P, if_neg (fun q => absurd (p2.symm.trans q.1) (by decide))]
  · rw [zt_un_nd P, zt_b_0]
    exact ⟨fun q => (by cases q), fun q => absurd q.2 (zt_nm0 e10 e11 (by omega) (by omega))⟩
  · rw [zt_un_bs P t ht]
    unfold zt_ln
    rw [htk]
    constructor
    · rintro ⟨q1, q2, q3⟩
      exact ⟨q1, q2, Or.inr ⟨p2, q3⟩⟩
    · rintro ⟨q1, q2, q3⟩
      rcases q3 with u | u
      · exact absurd (p2.symm.trans u.1) (by decide)
      · exact ⟨q1, q2, u.2⟩
  · rw [htk] at hx
    exact zt_un_tk P k x hx
  · rcases q with u | u
    · exact absurd (p2.symm.trans u) (by decide)
    · exact absurd u s0
  · rw [un l' h', edc]
    exact zt_un_ln P
  · rw [un l' h', edc] at hx
    exact zt_un_dc P i x hx
  · exact ⟨fun l' h' t t0 t1 hn => absurd hn (zt_nm0 e10 e11 t0 t1), fun l' h' q _ => absurd (p2.symm.trans q) (by decide), fun q => absurd (p2.symm.trans q) (by decide), Or.inr (Or.inr (Or.inl p2))⟩
theorem zt_d12 {c : Nat → Int} (W : zm_W c) {l : List Int} (hl : zm_Ln c (c 0 :: l) (c 0)) : ∃ n1 n2, zt_dp c (c 0) n1 ∧ (zm_ed c (c 0) → zt_dp c (zm_o c (c 0) 6) n2) := by
  by_cases he : zm_ed c (c 0)
  · have c00 : c 0 ≠ 0 := fun q => by
      have := W.1.2.1.2.2.1
      rw [q] at he
      rcases he with z | z <;> omega
    obtain ⟨l2, hl2, _⟩ := zt_line W (zm_fp W.1 W.2.1 c00).1
    exact ⟨_, _, ⟨l, hl, rfl⟩, fun _ => ⟨l2, hl2, rfl⟩⟩
  · exact ⟨_, 0, ⟨l, hl, rfl⟩, fun q => absurd q he⟩
theorem zj_cut {d D : Nat} {a : Nat} {c : Nat → Int} {g k : zv_H} (hA : zc_A g) (H : zt_H a c g) (hM : zm_M k) (hc : zv_I k 348 = c) (b : c 2 < 2000000000) {place many : Int} (rp : zv_rg place) (rm : zv_rg many) : ∃ q q', C0_cutOut (d + 4) a place many g = some q ∧ C9_cutNow (D + 6) 347 place many k = some q' ∧ zt_Z a 1 g k q q' ∧ zt_oh a g q.2 := by
  have U := zt_H_U H
  have W := zt_U_W U
  have la := zt_U_la U
  have V := zt_H_V H
  obtain ⟨l, hl, _⟩ := zt_line W W.2.1
  obtain ⟨⟨v', k'⟩, e', ⟨F, W', R1⟩, R2⟩ := zt_two (zm_cutNow hM hc W D place many rp.2) (zt_cutNow hM hc W (zt_ck_of (zt_H_J H)) D place many rp.2 hl)
  have F' : zm_F [348, 351, 352, 353, 354, 355, 358, 359, 360, 362, 363, 364, 365] [3, 10, 11, 12, 19, 24] k k' := zm_F_s F rfl rfl
  have h0 : 0 ≤ zv_I g (a + 17) 4 := by rw [zt_V_ct V]; exact zt_V_c0 V
  rcases R2 with ⟨v1, np⟩ | ⟨pk, fr, gp⟩
  · obtain ⟨n1, n2, d1, d2⟩ := zt_d12 W hl
    obtain ⟨⟨qv, qg⟩, e, R⟩ := zt_cutOut (d := d) (zt_L_A hA) U (zt_H_J H) h0 hl d1 d2 place many
    rcases R with R | R
    · have hc' : zv_I k' 348 = c := by
        rcases R1 with R1 | R1
        · exact R1.2
        · have z : v' = -1 := v1
          have := R1.1
          dsimp only at this
          omega
      refine ⟨_, _, e, e', ?_⟩
      have z : v' = -1 := v1
      rw [z]
      have z2 : qg = g := R.2.1
      subst z2
      exact ⟨zt_Z_no (by decide) H hc (zc_X_r hA) (zt_k_r a _) H F' R.1 hc', fun _ _ _ => rfl⟩
    · exact absurd R.1 np
  · dsimp only at fr gp R1
    have fr47 := fr.1
    rcases R1 with R1 | R1
    · have := R1.1; omega
    · obtain ⟨_, _, n, l2, hl2, Ct⟩ := R1
      have el : l2 = l := (List.cons.inj (zm_Ln_u hl2.1 hl)).2
      subst el
      obtain ⟨n1, n2, d1, d2, e6, e7, e10, e11⟩ := gp
      obtain ⟨⟨v, g'⟩, e, O, R⟩ := zt_two (zc_C0_cutOut (d := d + 1) hA la rp rm) (zt_cutOut (d := d) (zt_L_A hA) U (zt_H_J H) h0 hl d1 d2 place many)
      rcases R with R | R
      · exact absurd pk R.2.2
      · obtain ⟨_, s, fr2, ev, N, P⟩ := R
        dsimp only at ev N P O
        have es : s = v' := zt_free_u fr2 fr
        subst es
        subst ev
        have hA' : zc_A g' := O.1.2
        obtain ⟨pl, rfl⟩ : ∃ pl : Nat, place = pl := ⟨place.toNat, by have := pk.2.1; omega⟩
        obtain ⟨m, rfl⟩ : ∃ m : Nat, many = m := ⟨many.toNat, by have := pk.1; omega⟩
        have hpl : pl + m ≤ (zt_dc c (c 0 :: l2)).length := by have := pk.2.2.1; omega
        have U' := zt_U_cut U (zt_V_ct V) hA' fr hl hpl N P W' n Ct e6 e7 e10 e11
        obtain ⟨H', g2, g1⟩ := zt_H_new H b fr N n e7 U'
        refine ⟨_, _, e, e', ⟨O.1, zt_nn_k N, F', Or.inr ⟨fr47.1, rfl⟩, H', ?_, ?_⟩, zt_nn_oh N⟩
        · dsimp only
          rw [hc, g1]; omega
        · dsimp only
          rw [hc, g2]; omega
