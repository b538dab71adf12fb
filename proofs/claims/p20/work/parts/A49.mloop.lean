/-! ===== the tie: merging, the loop ===== -/
/-- made one behind the other -/
def zt_cn (c0 : Nat → Int) : Nat → (Nat → Int) → Prop
  | 0, c => c = c0
  | n + 1, c => ∃ c1 s, zt_cn c0 n c1 ∧ zm_W c1 ∧ (1 ≤ s ∧ s ≤ 47) ∧ zm_o c1 s 0 ≠ 1 ∧ zm_Nw c1 c s
theorem zt_vc_1 (c : Nat → Int) (s : Int) : zm_vc c s 1 = c 1 := by
  unfold zm_vc
  rw [if_neg (by decide), if_neg (by decide), if_neg (by decide), if_neg (by omega), if_neg (by omega), if_neg (by decide), if_neg (by decide)]
theorem zt_rsplit {L : List Int} {i : Nat} {x : Int} (h : L.reverse[i]? = some x) : ∃ p b, L = p ++ x :: b ∧ b.length = i := by
  have il := zm_lt_of_get h
  have e := List.getElem?_eq_getElem il
  rw [h] at e
  have e2 : L.reverse = L.reverse.take i ++ x :: L.reverse.drop (i + 1) := by
    rw [Option.some.inj e, ← List.drop_eq_getElem_cons il, List.take_append_drop]
  refine ⟨(L.reverse.drop (i + 1)).reverse, (L.reverse.take i).reverse, ?_, ?_⟩
  · have e3 := congrArg List.reverse e2
    rw [List.reverse_reverse, List.reverse_append, List.reverse_cons, List.append_assoc] at e3
    exact e3
  · rw [List.length_reverse, List.length_take]
    exact Nat.min_eq_left (Nat.le_of_lt il)
theorem zt_u0w {x : Int} (h0 : 0 ≤ x) (h1 : x < 1000) : zv_w (x + 0) = x := by
  rw [zm_w (by omega), Int.add_zero]
theorem zt_u1w {x : Int} (h0 : 0 ≤ x) (h1 : x < 1000) : zv_w (x + 1) = x + 1 := zm_w (by omega)
theorem zt_u2w {x : Int} {i : Nat} (h : 0 ≤ x ∧ x < i) : 0 ≤ x + 1 ∧ x + 1 < ((i + 1 : Nat) : Int) := by omega
theorem zt_u3w {x : Int} {i : Nat} (h : 0 ≤ x ∧ x < i) : 0 ≤ x ∧ x < ((i + 1 : Nat) : Int) := by omega
theorem zt_u4w {u v B : Int} {n : Nat} (h : u + ((n + 1 : Nat) : Int) ≤ B) (h2 : v ≤ u + 1) : v + (n : Int) ≤ B := by omega
theorem zt_u5w {u B : Int} {n : Nat} (h : u + (n : Int) ≤ B) (h2 : B < 2000000000) : u < 2000000000 ∧ u ≤ B := by omega
theorem zt_u7w {a n j : Nat} (z : n = 20 ∨ n = 21 ∨ (n = 17 ∧ j = 5)) (w : a + n = a ∧ j = 13) : False := by omega
theorem zt_u8w {n j : Nat} (z : n = 20 ∨ n = 21 ∨ (n = 17 ∧ j = 5)) : n ≠ 6 := by omega
theorem zt_u6w {x : Int} (h : 0 ≤ x ∧ x ≤ 47) : x < 48 ∧ x.toNat < 48 ∧ zv_rg x := by unfold zv_rg; omega
/-- what one sees of the loop from outside -/
def zt_ml (a : Nat) (c0 : Nat → Int) (B : Int) (g : zv_H) (k : zv_H) (v : Int) (g' : zv_H) (k' : zv_H) : Prop := (0 ≤ v ∧ v ≤ 48) ∧ (zt_k a g g') ∧ (zt_H a (zv_I k' 348) g') ∧ (zc_A g') ∧ (zt_cn c0 v.toNat (zv_I k' 348)) ∧ (zv_I k' 348 1 = c0 1) ∧ (c0 2 ≤ zv_I k' 348 2 ∧ zv_I k' 348 2 ≤ B) ∧ (zv_I g' a 13 = zv_I k' 347 24) ∧ (∀ n j : Nat, (n = 20 ∨ n = 21 ∨ (n = 17 ∧ j = 5)) → zv_I g' (a + n) j = zv_I g (a + n) j) ∧ (0 ≤ zv_I k' 347 24)
theorem zt_ml_v {a : Nat} {c0 : Nat → Int} {B : Int} {g : zv_H} {k : zv_H} {v : Int} {g' : zv_H} {k' : zv_H} (t : zt_ml a c0 B g k v g' k') : 0 ≤ v ∧ v ≤ 48 := t.1
theorem zt_ml_k {a : Nat} {c0 : Nat → Int} {B : Int} {g : zv_H} {k : zv_H} {v : Int} {g' : zv_H} {k' : zv_H} (t : zt_ml a c0 B g k v g' k') : zt_k a g g' := t.2.1
theorem zt_ml_H {a : Nat} {c0 : Nat → Int} {B : Int} {g : zv_H} {k : zv_H} {v : Int} {g' : zv_H} {k' : zv_H} (t : zt_ml a c0 B g k v g' k') : zt_H a (zv_I k' 348) g' := t.2.2.1
theorem zt_ml_A {a : Nat} {c0 : Nat → Int} {B : Int} {g : zv_H} {k : zv_H} {v : Int} {g' : zv_H} {k' : zv_H} (t : zt_ml a c0 B g k v g' k') : zc_A g' := t.2.2.2.1
theorem zt_ml_n {a : Nat} {c0 : Nat → Int} {B : Int} {g : zv_H} {k : zv_H} {v : Int} {g' : zv_H} {k' : zv_H} (t : zt_ml a c0 B g k v g' k') : zt_cn c0 v.toNat (zv_I k' 348) := t.2.2.2.2.1
theorem zt_ml_g1 {a : Nat} {c0 : Nat → Int} {B : Int} {g : zv_H} {k : zv_H} {v : Int} {g' : zv_H} {k' : zv_H} (t : zt_ml a c0 B g k v g' k') : zv_I k' 348 1 = c0 1 := t.2.2.2.2.2.1
theorem zt_ml_g2 {a : Nat} {c0 : Nat → Int} {B : Int} {g : zv_H} {k : zv_H} {v : Int} {g' : zv_H} {k' : zv_H} (t : zt_ml a c0 B g k v g' k') : c0 2 ≤ zv_I k' 348 2 ∧ zv_I k' 348 2 ≤ B := t.2.2.2.2.2.2.1
theorem zt_ml_lo {a : Nat} {c0 : Nat → Int} {B : Int} {g : zv_H} {k : zv_H} {v : Int} {g' : zv_H} {k' : zv_H} (t : zt_ml a c0 B g k v g' k') : zv_I g' a 13 = zv_I k' 347 24 := t.2.2.2.2.2.2.2.1
theorem zt_ml_kp {a : Nat} {c0 : Nat → Int} {B : Int} {g : zv_H} {k : zv_H} {v : Int} {g' : zv_H} {k' : zv_H} (t : zt_ml a c0 B g k v g' k') : ∀ n j : Nat, (n = 20 ∨ n = 21 ∨ (n = 17 ∧ j = 5)) → zv_I g' (a + n) j = zv_I g (a + n) j := t.2.2.2.2.2.2.2.2.1
theorem zt_ml_l0 {a : Nat} {c0 : Nat → Int} {B : Int} {g : zv_H} {k : zv_H} {v : Int} {g' : zv_H} {k' : zv_H} (t : zt_ml a c0 B g k v g' k') : 0 ≤ zv_I k' 347 24 := t.2.2.2.2.2.2.2.2.2
theorem zt_ml_g {a : Nat} {c0 : Nat → Int} {B : Int} {g g1 k k1 : zv_H} {v : Int} {g' k' : zv_H} (kk : zt_k a g g1) (kp : ∀ n j : Nat, (n = 20 ∨ n = 21 ∨ (n = 17 ∧ j = 5)) → zv_I g1 (a + n) j = zv_I g (a + n) j) (m : zt_ml a c0 B g1 k1 v g' k') : zt_ml a c0 B g k v g' k' :=
  ⟨zt_ml_v m, zt_k_t kk (zt_ml_k m), zt_ml_H m, zt_ml_A m, zt_ml_n m, zt_ml_g1 m, zt_ml_g2 m, zt_ml_lo m, fun n j q => (zt_ml_kp m n j q).trans (kp n j q), zt_ml_l0 m⟩
theorem zt_A13 {h : zv_H} (hA : zc_A h) {a : Nat} (la : zv_lay a = (1, 0)) {v : Int} (hv : zv_rg v) : zc_A (zv_sI h a 13 v) := by
  refine (zc_QI hA ?_ hv).2
  rcases zc_lh la with e | e
  · subst e
    exact ⟨by decide, fun q => absurd q (by decide), fun c q => by cases q; rfl, fun q => absurd q (by decide)⟩
  · subst e
    exact ⟨by decide, fun q => absurd q (by decide), fun c q => by cases q; rfl, fun q => absurd q (by decide)⟩
theorem zt_A6 {h : zv_H} (hA : zc_A h) {a : Nat} (la : zv_lay a = (1, 0)) (j : Nat) {v : Int} (hv : zv_rg v) : zc_A (zv_sI h (a + 6) j v) := by
  refine (zc_QI hA ?_ hv).2
  rcases zc_lh la with e | e
  · subst e
    exact ⟨by decide, fun q => absurd q (by decide), fun c q => absurd (congrArg Prod.fst q) (by decide : ¬ (2 : Nat) = 1), fun q => absurd q (by decide)⟩
  · subst e
    exact ⟨by decide, fun q => absurd q (by decide), fun c q => absurd (congrArg Prod.fst q) (by decide : ¬ (2 : Nat) = 1), fun q => absurd q (by decide)⟩
theorem zt_f24 {k : zv_H} (hM : zm_M k) (v : Int) : zm_F [] [24] k (zv_sI k 347 24 v) := zm_F_f (zm_F_r _ _ k) rfl v
theorem zj_mloop {d D : Nat} {a : Nat} {c0 : Nat → Int} {e : Int} {l lh : List Int} {B : Int} (W0 : zm_W c0) (he : zm_st c0 e) (hl : zm_Ln c0 (e :: l) e) (hB : B < 2000000000) {wd : Int64} (hw : ∀ x ∈ e :: l, zv_lcmp (wd &&& zt_bt x.toNat) (Int64.ofNat 0) = 0 ↔ ¬ zt_wf c0 (e :: l) lh x) : ∀ (n i : Nat) (m : Nat) (c : Nat → Int) (g k : zv_H) (sf : Nat → Int), i + n = (e :: l).length → 1 ≤ i → m < i → zc_A g → zt_H a c g → zm_M k → zv_I k 348 = c → zm_ex c0 c → zt_sd a sf g k → (∀ (j : Nat) (x : Int), (e :: l).reverse[j]? = some x → zv_I k 363 j = x ∧ (zv_I k 364 j ≠ 0 ↔ zt_wf c0 (e :: l) lh x)) → (0 ≤ zv_I k 347 24 ∧ zv_I k 347 24 < i) → zv_I g a 13 = zv_I k 347 24 → c0 2 ≤ c 2 → c 2 + n ≤ B → c 1 = c0 1 → zt_cn c0 m c → ∃ v g' k', L0_mergeIn_84 (d + 5) a (zt_r a e) wd m i g = some (some (zv_i v), g') ∧ L9_mergeNow_136 (D + 8) 347 (e :: l).length m i k = some (some (zv_i v), k') ∧ zt_ml a c0 B g k v g' k' := by
  have okl := (zt_line_u W0 he hl).1
  have l48 := okl.2.2.2
  intro n
  induction n with
  | zero =>
    intro i m c g k sf hi i1 mi hA H hM hc ex Ds hk h24 h13 b0 b1 b2 cn
    have U := zt_H_U H
    have la := zt_U_la U
    have gL := zt_L_A hA
    have est := (ex e he).1
    have ag : ∀ t ∈ e :: l, zm_ag c0 c t := fun t ht => (ex t (okl.2.2.1 t ht)).2
    have S := zt_U_st U e est
    have de := zt_S_de S l (zm_Ln_cg ag hl)
    have ei : i = (e :: l).length := hi
    have ei2 : i = l.length + 1 := ei
    have k3 : zv_I (zv_sI k 347 3 0) 348 = c := (zm_so k _ _).trans hc
    refine ⟨m, g, zv_sI k 347 3 0, ?_, ?_, ⟨by omega, by omega⟩, zt_k_r a g, by rw [k3]; exact H, hA, ?_, by rw [k3]; exact b2, by rw [k3]; exact ⟨b0, by omega⟩, ?_, fun _ _ _ => rfl, ?_⟩
    · rw [qL0_mergeIn_84, zm_e (zl_gI gL (zt_r_l la he.1) 10), de, if_neg (by clear he est; omega)]
    · rw [qL9_mergeNow_136, if_neg (by rw [ei]; exact Int.lt_irrefl _), zm_e (zm_pI hM 3 0)]
    · rw [k3, Int.toNat_natCast]
      exact cn
    · rw [zy_In _ _ (fun q => absurd q.2 (by decide))]
      exact h13
    · rw [zy_In _ _ (fun q => absurd q.2 (by decide))]
      exact h24.1
  | succ n ih =>
    intro i m c g k sf hi i1 mi hA H hM hc ex Ds hk h24 h13 b0 b1 b2 cn
    have U := zt_H_U H
    have la := zt_U_la U
    have gL := zt_L_A hA
    have est := (ex e he).1
    have ag : ∀ t ∈ e :: l, zm_ag c0 c t := fun t ht => (ex t (okl.2.2.1 t ht)).2
    have S := zt_U_st U e est
    have hlc := zm_Ln_cg ag hl
    have de := zt_S_de S l hlc
    have il : i < (e :: l).length := by clear he est; omega
    have il2 : i < l.length + 1 := il
    have i48 : i < 48 := Nat.lt_of_lt_of_le il l48
    obtain ⟨x, hx⟩ : ∃ x, (e :: l).reverse[i]? = some x := ⟨_, List.getElem?_eq_getElem (by rw [List.length_reverse]; exact il)⟩
    have xl : x ∈ e :: l := List.mem_reverse.mp (List.mem_of_getElem? hx)
    have xst0 := okl.2.2.1 x xl
    have xst := (ex x xst0).1
    obtain ⟨p, b, ep, eb⟩ := zt_rsplit hx
    have eab := zt_above (d := d + 4) gL U est hlc ep
    rw [eb] at eab
    have i1000 : (i : Int) < 1000 := Int.lt_trans (Int.ofNat_lt.mpr i48) (by decide)
    have w1 : zv_w ((i : Int) + 1) = ((i + 1 : Nat) : Int) := zt_u1w (Int.natCast_nonneg i) i1000
    have m1000 : (m : Int) < 1000 := Int.lt_trans (Int.ofNat_lt.mpr mi) i1000
    have w24 := zt_u0w h24.1 (Int.lt_trans h24.2 i1000)
    have w24' := zt_u1w h24.1 (Int.lt_trans h24.2 i1000)
    have wm0 := zt_u0w (Int.natCast_nonneg m) m1000
    have wm1 : zv_w ((m : Int) + 1) = ((m + 1 : Nat) : Int) := zt_u1w (Int.natCast_nonneg m) m1000
    have j0 : (0 : Int) ≤ (i : Int) := Int.natCast_nonneg _
    have j1 : (i : Int) < ((49 : Nat) : Int) := Int.ofNat_lt.mpr (Nat.lt_succ_of_lt i48)
    have j3 : (i : Int) < ((e :: l).length : Int) := Int.ofNat_lt.mpr il
    have dl : (i : Int) ≤ (l.length : Int) := Int.ofNat_le.mpr (Nat.le_of_lt_succ il2)
    have hik : (i + 1) + n = (e :: l).length := by clear he est xst xst0; omega
    have mi' : m < i + 1 := Nat.lt_succ_of_lt mi
    have hkx := hk i x hx
    have e364 : zv_aB k 364 (i : Int) = some (zv_I k 364 i) := by rw [zm_aB hM zm_l364 (Or.inl rfl) rfl j0 j1, Int.toNat_natCast]
    have cls : ∀ {R : zv_O}, (if zv_lcmp (wd &&& zt_bt x.toNat) (Int64.ofNat 0) = 0 then L0_mergeIn_84 (d + 5) a (zt_r a e) wd m ((i + 1 : Nat) : Int) g else ((C0_carryOne (d + 5) a (zt_r a x) g).bind fun q4 => (if q4.1 < 0 then ((zv_gI q4.2 a 0 13).bind fun v5 => ((zv_pI q4.2 a 0 13 (zv_w (v5 + (1 : Int)))).bind fun g6 => L0_mergeIn_84 (d + 5) a (zt_r a e) wd m ((i + 1 : Nat) : Int) g6)) else ((zv_gI q4.2 (zt_r a x) 5 0).bind fun v7 => (if v7 < (48 : Int) then ((zv_gR q4.2 a 0 3).bind fun v8 => ((zv_gI q4.2 (zt_r a x) 5 0).bind fun v9 => ((zv_wI q4.2 v8 v9 q4.1).bind fun g10 => L0_mergeIn_84 (d + 5) a (zt_r a e) wd ((m + 1 : Nat) : Int) ((i + 1 : Nat) : Int) g10))) else ((zv_gI q4.2 a 0 13).bind fun v11 => ((zv_pI q4.2 a 0 13 (zv_w (v11 + (1 : Int)))).bind fun g12 => L0_mergeIn_84 (d + 5) a (zt_r a e) wd m ((i + 1 : Nat) : Int) g12))))))) = R → L0_mergeIn_84 (d + 5) a (zt_r a e) wd m i g = R := fun {R} hR => by
      rw [qL0_mergeIn_84, zm_e (zl_gI gL (zt_r_l la he.1) 10), de, if_pos dl, zm_e eab]
      dsimp only
      rw [if_neg (zt_r0 U xst), zm_e (zt_bitr gL U xst), w1, wm1]
      exact hR
    by_cases P : zt_wf c0 (e :: l) lh x
    · have hed : zm_ed c x := (zm_ed_cg (ex x xst0).2).mpr P.1
      obtain ⟨q, q', z1, z2, cy⟩ := zj_carryOne (d := d) (D := D) hA H hM hc (zt_u5w b1 hB).1 Ds xst hed
      have Z := zt_cy_Z cy
      have oh := zt_cy_oh cy
      have D2 := zt_cy_D cy
      have F := zt_cy_F cy
      have Dn := zt_cy_Dn cy
      have hA2 : zc_A q.2 := (zt_Z_X Z).2
      have gL2 := zt_L_A hA2
      have hM2 := zm_F_M F hM
      have H2 := zt_Z_H Z
      have U2 := zt_H_U H2
      have ex2 := zm_ex_t ex (zm_Dn_ex Dn)
      have g2 := zt_Z_g2 Z
      rw [hc] at g2
      have xst2 := (ex2 x xst0).1
      have c1' : zv_I q'.2 348 1 = c0 1 := by
        rcases Dn.2 with w | w
        · rw [w.2]; exact b2
        · rw [w.2.2.1 1 (Or.inl (by decide)) (by decide), zt_vc_1]; exact b2
      have k24 : zv_I q'.2 347 24 = zv_I k 347 24 := zm_F_g F 24
      have k13 : zv_I q.2 a 13 = zv_I g a 13 := oh 0 13 (Or.inl ⟨rfl, rfl⟩)
      have kpq : ∀ n j : Nat, (n = 20 ∨ n = 21 ∨ (n = 17 ∧ j = 5)) → zv_I q.2 (a + n) j = zv_I g (a + n) j := fun n j z => oh n j (Or.inr (Or.inr z))
      have hk2 : ∀ (j : Nat) (y : Int), (e :: l).reverse[j]? = some y → zv_I q'.2 363 j = y ∧ (zv_I q'.2 364 j ≠ 0 ↔ zt_wf c0 (e :: l) lh y) := fun j y hy => by
        rw [zm_F_a F 363, zm_F_a F 364]
        exact hk j y hy
      have e363 : zv_aI k 363 (i : Int) = some x := by rw [zm_aI hM zm_l363 rfl j0 j1, Int.toNat_natCast, hkx.1]
      have e363' : zv_aI q'.2 363 (i : Int) = some x := by rw [zm_aI hM2 zm_l363 rfl j0 j1, Int.toNat_natCast, (hk2 i x hx).1]
      have nl : ¬ zv_lcmp (wd &&& zt_bt x.toNat) (Int64.ofNat 0) = 0 := fun z => (hw x xl).mp z P
      have n364 : ¬ zv_I k 364 i = 0 := hkx.2.mpr P
      rcases zt_Z_a1 Z with ⟨v0, v1⟩ | ⟨v0, v1⟩
      · -- not carried: one more is left out
        have f1 : zt_hy a q.2 (zv_sI q.2 a 13 (zv_w (zv_I q.2 a 13 + 1))) := zt_hy_sI (zt_hy_r a q.2) (Or.inl ⟨rfl, rfl⟩) _
        have hA3 : zc_A (zv_sI q.2 a 13 (zv_w (zv_I q.2 a 13 + 1))) := zt_A13 hA2 la (zc_w _)
        have f2 := zt_f24 hM2 (zv_w (zv_I q'.2 347 24 + 1))
        have cc : zv_I (zv_sI q'.2 347 24 (zv_w (zv_I q'.2 347 24 + 1))) 348 = zv_I q'.2 348 := zm_F_a f2 348
        have ec : zv_I q'.2 348 = c := by
          rcases Dn.2 with w | w
          · exact w.2
          · exact absurd (v1 ▸ w.1.1) (by decide)
        have D3 : zt_sd a sf (zv_sI q.2 a 13 (zv_w (zv_I q.2 a 13 + 1))) (zv_sI q'.2 347 24 (zv_w (zv_I q'.2 347 24 + 1))) := ⟨fun j hj => (zy_In _ _ (fun z => absurd z.1 (Nat.ne_of_gt (Nat.lt_add_of_pos_right (by decide))))).trans (zt_sd_cl D2 j hj), fun j hj => by rw [zm_F_a f2 362]; exact zt_sd_rf D2 j hj, zt_sd_z D2, zt_sd_r D2⟩
        have n24 : zv_I (zv_sI q'.2 347 24 (zv_w (zv_I q'.2 347 24 + 1))) 347 24 = zv_I k 347 24 + 1 := by rw [zy_I, k24, w24']
        obtain ⟨v, g', k', y1, y2, ml⟩ := ih (i + 1) m (zv_I q'.2 348) _ _ sf hik (Nat.le_succ_of_le i1) mi' hA3 (zt_H_y H2 f1) (zm_F_M f2 hM2) cc ex2 D3 (fun j y hy => by rw [zm_F_a f2 363, zm_F_a f2 364]; exact hk2 j y hy) (by rw [n24]; exact zt_u2w h24) (by rw [n24, zy_I, k13, h13, w24']) (by rw [ec]; exact b0) (zt_u4w b1 g2.2) c1' (by rw [ec]; exact cn)
        refine ⟨v, g', k', cls ?_, ?_, zt_ml_g (zt_k_t (zt_Z_k Z) (zt_hy_k la f1)) (fun n j z => (zy_In _ _ (fun w => zt_u7w z w)).trans (kpq n j z)) ml⟩
        · rw [if_neg nl, zm_e z1, if_pos v0, zm_e (zl_gI gL2 la 13), zm_e (zl_pI gL2 la 13 _)]
          exact y1
        · rw [qL9_mergeNow_136, if_pos j3, zm_e (zm_f23 hM), zm_e e364, if_neg n364, zm_e (zm_f22 hM), zm_e e363, zm_e z2, if_pos (by rw [v1]; decide), qL9_mergeNow_187, if_pos (by rw [v1]; decide), qL9_mergeNow_198, zm_e (zm_gI hM2 24), if_pos (by rw [v1]; decide), zm_e (zm_pI hM2 24 _), wm0, w1]
          exact y2
      · -- carried
        rcases Dn.2 with w | w
        · exact absurd (v1.symm.trans w.1) (fun z => absurd v0 (by rw [z]; decide))
        · obtain ⟨⟨s0, s47⟩, sd, nw⟩ := w
          have Wc := zt_U_W U
          have x47 := xst0.1
          have x0 : x ≠ 0 := fun z => by
            have z2 := W0.1.2.1.2.2.1
            rw [← z] at z2
            rcases P.1 with z3 | z3 <;> rw [z2] at z3 <;> exact absurd z3 (by decide)
          have s1 : 1 ≤ q'.1 := by
            rcases Int.lt_or_eq_of_le s0 with z | z
            · exact z
            · exact absurd (by rw [← z]; exact Wc.1.2.1.1.2) sd
          have lo6 := (zt_sta_l la).1
          have x48 : x < 48 := (zt_u6w x47).1
          have rq : zv_rg q'.1 := (zt_u6w ⟨s0, s47⟩).2.2
          have f1 : zt_hy a q.2 (zv_sI q.2 (a + 6) x.toNat q'.1) := zt_hy_sI (zt_hy_r a q.2) (Or.inr (Or.inl rfl)) _
          have hA3 : zc_A (zv_sI q.2 (a + 6) x.toNat q'.1) := zt_A6 hA2 la _ rq
          have f0 : zm_F [362] [] q'.2 (zv_sI q'.2 362 x.toNat q'.1) := zm_F_I (zm_F_r _ _ _) rfl _ _
          have hM3 := zm_F_M f0 hM2
          have f2 := zt_f24 hM3 (zv_w (zv_I (zv_sI q'.2 362 x.toNat q'.1) 347 24 + 0))
          have hM4 := zm_F_M f2 hM3
          have cc : zv_I (zv_sI (zv_sI q'.2 362 x.toNat q'.1) 347 24 (zv_w (zv_I (zv_sI q'.2 362 x.toNat q'.1) 347 24 + 0))) 348 = zv_I q'.2 348 := (zm_F_a f2 348).trans (zm_F_a f0 348)
          have k24' : zv_I (zv_sI q'.2 362 x.toNat q'.1) 347 24 = zv_I k 347 24 := (zm_F_g f0 24).trans k24
          have n24 : zv_I (zv_sI (zv_sI q'.2 362 x.toNat q'.1) 347 24 (zv_w (zv_I (zv_sI q'.2 362 x.toNat q'.1) 347 24 + 0))) 347 24 = zv_I k 347 24 := by rw [zy_I, k24', w24]
          have D3 : zt_sd a (fun j => if j = x.toNat then q'.1 else sf j) (zv_sI q.2 (a + 6) x.toNat q'.1) (zv_sI (zv_sI q'.2 362 x.toNat q'.1) 347 24 (zv_w (zv_I (zv_sI q'.2 362 x.toNat q'.1) 347 24 + 0))) := by
            refine ⟨fun j hj => ?_, fun j hj => ?_, ?_, fun j hj1 hj2 => ?_⟩
            · dsimp only
              by_cases z : j = x.toNat
              · rw [if_pos z, z, zy_I]
              · rw [if_neg z, zy_In _ _ (fun q => z q.2)]
                exact zt_sd_cl D2 j hj
            · dsimp only
              rw [zm_F_a f2 362]
              by_cases z : j = x.toNat
              · rw [if_pos z, z, zy_I]
              · rw [if_neg z, zy_In _ _ (fun q => z q.2)]
                exact zt_sd_rf D2 j hj
            · dsimp only
              rw [if_neg (fun z => x0 (Int.le_antisymm (Int.toNat_eq_zero.mp z.symm) x47.1))]
              exact zt_sd_z D2
            · dsimp only
              by_cases z : j = x.toNat
              · rw [if_pos z]; exact ⟨s1, s47⟩
              · rw [if_neg z]; exact zt_sd_r D2 j hj1 hj2
          have gw : ∀ n j : Nat, n ≠ 6 → zv_I (zv_sI q.2 (a + 6) x.toNat q'.1) (a + n) j = zv_I q.2 (a + n) j := fun n j hn => zy_In _ _ (fun z => hn (Nat.add_left_cancel z.1))
          obtain ⟨v, g', k', y1, y2, ml⟩ := ih (i + 1) (m + 1) (zv_I q'.2 348) _ _ _ hik (Nat.le_succ_of_le i1) (Nat.succ_lt_succ mi) hA3 (zt_H_y H2 f1) hM4 cc ex2 D3 (fun j y hy => by rw [zm_F_a f2 363, zm_F_a f2 364, zm_F_a f0 363, zm_F_a f0 364]; exact hk2 j y hy) (by rw [n24]; exact zt_u3w h24) (by rw [n24]; exact ((gw 0 13 (by decide)).trans k13).trans h13) (Int.le_trans b0 g2.1) (zt_u4w b1 g2.2) c1' ⟨c, q'.1, cn, Wc, ⟨s1, s47⟩, sd, nw⟩
          have ql : ¬ q'.1 < 0 := Int.not_lt.mpr s0
          have qq : q.1 = q'.1 := v1.symm
          refine ⟨v, g', k', cls ?_, ?_, zt_ml_g (zt_k_t (zt_Z_k Z) (zt_hy_k la f1)) (fun n j z => (gw n j (zt_u8w z)).trans (kpq n j z)) ml⟩
          · rw [if_neg nl, zm_e z1, if_neg (by rw [qq]; exact ql), zm_e (zl_gI gL2 (zt_r_l la xst.1) 0), zt_num U2 xst2, if_pos x48, zm_e (zl_gF gL2 la 3 6), zm_e (zl_gI gL2 (zt_r_l la xst.1) 0), zt_num U2 xst2, zm_e (zl_wI gL2 lo6 x47.1 x48 _), qq]
            exact y1
          · have wz : zm_F [] [] q'.2 q'.2 := zm_F_r _ _ _
            rw [qL9_mergeNow_136, if_pos j3, zm_e (zm_f23 hM), zm_e e364, if_neg n364, zm_e (zm_f22 hM), zm_e e363, zm_e z2, if_neg ql, zm_e (zm_f21 hM2), zm_e (zm_f22 hM2), zm_e e363', zm_e (zm_wI hM2 zm_l362 rfl x47.1 x48 _), qL9_mergeNow_187, if_neg ql, qL9_mergeNow_198, zm_e (zm_gI hM3 24), if_neg ql, zm_e (zm_pI hM3 24 _), wm1, w1]
            exact y2
    · have nl := (hw x xl).mpr P
      have z364 : zv_I k 364 i = 0 := Classical.byContradiction (fun z => P (hkx.2.mp z))
      obtain ⟨v, g', k', y1, y2, ml⟩ := ih (i + 1) m c g k sf hik (Nat.le_succ_of_le i1) mi' hA H hM hc ex Ds hk (zt_u3w h24) h13 b0 (zt_u4w b1 (Int.le_add_of_nonneg_right (by decide))) b2 cn
      refine ⟨v, g', k', cls ?_, ?_, ml⟩
      · rw [if_pos nl]
        exact y1
      · rw [qL9_mergeNow_136, if_pos j3, zm_e (zm_f23 hM), zm_e e364, if_pos z364, w1]
        exact y2
