/-! ===== the tie: a name is taken away, as it is called ===== -/
section
variable {a b m : Nat} {g k : zv_H}
theorem zp_unname {d D : Nat} (hA : zc_A g) (I : zm_MI k) (S : zt_GG m a b g k) : ∃ v g' k', C8_unname (d + 28) 1 g = some (v, g') ∧ C9_unname (D + 28) 347 k = some (v, k') ∧ zt_GG (m + 1) a b g' k' := by
  have gL := zt_L_A hA
  have l1 : zv_lay 1 = (1, 8) := rfl
  have lab := zt_lab (zt_GG_ab S)
  have la := lab.1
  obtain ⟨x, w1, w2, w3, w4⟩ := zt_GG_wt S
  have ek := zt_C7_key (d := d + 25) gL w3 w4
  have qC := qE8_unname (d + 27) 1 g
  rw [zm_e (zp_e3 hA S), zm_e (zp_e1 hA), zm_e ek] at qC
  dsimp only at qC
  have qR := qE9_unname (D + 27) 347 k
  rw [zm_e (zm_gI I.1 20), w1, zm_e (zm_isIn (d := D + 26) (x : Int) 1 6)] at qR
  dsimp only at qR
  by_cases c6 : 1 ≤ x ∧ x ≤ 6
  rotate_left
  · have F : zm_F [] [3, 4] k (zv_sI (zv_sI k 347 4 0) 347 3 1) := zm_F_f (zm_F_f (zm_F_r _ _ k) rfl _) rfl _
    have cI : ¬ ((1 : Int) ≤ (x : Int) ∧ (x : Int) ≤ 6) := fun q => c6 (by omega)
    rw [if_neg c6] at qC
    rw [if_neg cI, if_pos rfl, qL9_unname_19, zm_e (zm_is I.1 (D + 26) 1)] at qR
    dsimp only at qR
    rw [if_neg (show ¬ (1 : Int) = 0 by decide), if_pos rfl] at qR
    have ed : C0_dropName (d + 27) a 0 g = some (-1, g) := lC0_dropName (zl_ob gL la) (by rw [qE0_dropName, if_pos rfl])
    obtain ⟨st, ea⟩ := zt_answered (d := d + 25) gL (-1)
    rw [zm_e ed] at qC
    dsimp only at qC
    rw [zm_e ea] at qC
    dsimp only at qC
    rw [if_pos (by decide)] at qC
    exact ⟨-1, _, _, lC8_unname (zl_ob gL l1) qC, lC9_unname (zm_ob I.1) qR, zp_no hA S st F⟩
  have cI : (1 : Int) ≤ (x : Int) ∧ (x : Int) ≤ 6 := by omega
  obtain ⟨k1, i1, F1⟩ := zp_is I.1
  have S1 := zt_GG_F S F1
  have hM1 := zm_F_M F1 I.1
  have H := zt_GG_H S1
  have W := zt_U_W (zt_H_U H)
  have b3 := W.2.2.1
  have e361 : zv_I k1 361 = zv_I k 361 := zm_F_a F1 361
  have ep := zt_packed hM1 (D + 26) zm_l361 rfl w2 c6.2 w4 (fun j _ => congrFun e361 j)
  obtain ⟨l14, l15, l16⟩ := zt_nm_l la
  have hnw : zt_nw (zt_ls x (zv_I k 361)) := ⟨by rw [zt_ls_len]; exact c6, zt_lw_m w4⟩
  have kr := zt_key_lt (zt_ls x (zv_I k 361)) (zt_lw_m w4)
  have k0 : ¬ zt_key (zt_ls x (zv_I k 361)) = 0 := fun e => by
    have e2 : zt_ls x (zv_I k 361) = [] := zt_key_inj _ [] (zt_lw_m w4) (fun x hx => by cases hx) e
    have := congrArg List.length e2
    rw [zt_ls_len] at this
    simp only [List.length_nil] at this
    omega
  have kb : zv_rg (zt_key (zt_ls x (zv_I k 361))) := by
    have p : 32 ^ (zt_ls x (zv_I k 361)).length ≤ 32 ^ 6 := Nat.pow_le_pow_right (by decide) (by rw [zt_ls_len]; exact c6.2)
    have e6 : (32 : Nat) ^ 6 = 1073741824 := by decide
    unfold zv_rg
    omega
  obtain ⟨u, e1, u1⟩ := zt_indexOf (d := d + 25) gL H (zt_key (zt_ls x (zv_I k 361)))
  obtain ⟨u', e2, u2⟩ := zt_nameAt hM1 rfl W (D + 26) (zt_pkd (zt_ls x (zv_I k 361)))
  have eu := zt_ix_u u2 (zt_ix_N (zt_H_N H) hnw u1)
  subst eu
  rw [if_pos c6] at qC
  rw [if_pos cI, if_neg (by decide), qL9_unname_19, zm_e (i1 (D + 26))] at qR
  dsimp only at qR
  rw [if_neg (by decide), zm_e (zm_gR hM1 rfl rfl : zv_gR k1 347 9 18 = some 361), zm_e (zm_gI hM1 20), zm_F_g F1 20, w1, zm_e ep] at qR
  dsimp only at qR
  rw [zm_e e2] at qR
  dsimp only at qR
  rcases u1 with ⟨q1, q2⟩ | ⟨j, q1, q2, q3, q4⟩
  · -- there is none
    have ed : C0_dropName (d + 27) a (zt_key (zt_ls x (zv_I k 361))) g = some (-5, g) := lC0_dropName (zl_ob gL la) (by
      rw [qE0_dropName, if_neg k0, zm_e (zl_gF gL la 6 14), zm_e e1]
      dsimp only
      rw [if_pos q1])
    obtain ⟨st, ea⟩ := zt_answered (d := d + 25) gL (-5)
    rw [zm_e ed] at qC
    dsimp only at qC
    rw [zm_e ea] at qC
    dsimp only at qC
    rw [if_pos (by decide)] at qC
    rw [if_pos (by rw [q1]; decide), zm_e (zm_refuse hM1 (D + 26) 5)] at qR
    have F2 : zm_F [] [3, 4] k (zv_sI k1 347 3 5) := zm_F_f F1 rfl _
    exact ⟨-1, _, _, lC8_unname (zl_ob gL l1) qC, lC9_unname (zm_ob I.1) qR, zp_no hA S st F2⟩
  · -- it goes
    obtain ⟨n, en⟩ : ∃ n : Nat, zv_I k1 348 3 = ((n + 1 : Nat) : Int) := ⟨(zv_I k1 348 3 - 1).toNat, by omega⟩
    have jn : j ≤ n := by omega
    have n11 : n ≤ 11 := by omega
    obtain ⟨g1, y1, Dr⟩ := zt_dropName (d := d + 25) gL H k0 (Or.inr ⟨j, q1, q2, q3, q4⟩) q1 jn en
    obtain ⟨qd, y2, Qd, _⟩ := zc_C0_dropName (d := d + 25) hA la kb
    have eqd := Option.some.inj (y1.symm.trans y2)
    subst eqd
    have A2 : zc_A (zv_sI g1 (a + 14) 2 n) := Qd.2
    have r3 : zv_I k1 348 (Int.toNat 3) = ((n + 1 : Nat) : Int) := en
    have F2 : zm_F [348] [] k1 (zv_sI k1 348 (Int.toNat 3) (zv_w (zv_I k1 348 (Int.toNat 3) - 1))) := zm_F_I (zm_F_r _ _ k1) rfl _ _
    have c2 : ∀ z, zv_I (zv_sI k1 348 (Int.toNat 3) (zv_w (zv_I k1 348 (Int.toNat 3) - 1))) 348 z = if z = 3 then (n : Int) else zv_I k1 348 z := fun z => by
      by_cases q : z = 3
      · rw [q, if_pos rfl]
        refine (zy_I _ _ _ _).trans ?_
        rw [r3, zm_w (by omega)]
        omega
      · rw [if_neg q]
        exact zy_In _ _ (fun w => q w.2)
    rw [if_neg (by rw [q1]; omega), zm_e (zm_f0 hM1), zm_e (zm_aI hM1 zm_l348 rfl (by decide) (by decide)), zm_e (zm_wI hM1 zm_l348 rfl (by decide) (by decide) _)] at qR
    generalize zv_sI k1 348 (Int.toNat 3) (zv_w (zv_I k1 348 (Int.toNat 3) - 1)) = k2 at F2 c2 qR
    have w2j : zv_w (2 * u') = ((2 * j : Nat) : Int) := by
      rw [q1, zm_w (by omega)]
      omega
    rw [w2j] at qR
    obtain ⟨k3, y3, F3, co3, cx3⟩ := zt_un67 (D + 27) n11 jn (zv_I k1 348) (2 * n - 2 * j) (2 * j) k2 (by omega) (Nat.le_refl _) (zm_F_M F2 hM1) (by rw [c2, if_pos rfl]) (fun z => by rw [c2, if_neg (by omega), if_neg (by omega)])
    rw [y3] at qR
    have F13 : zm_F [348] [] k1 k3 := zm_F_t F2 F3
    have eC9 := lC9_unname (zm_ob I.1) qR
    have W' : zm_W (zv_I k3 348) := by
      obtain ⟨⟨z1, z2⟩, z3, z4⟩ := zm_unname I (D + 18)
      have := (Prod.mk.inj (Option.some.inj (z3.symm.trans eC9))).2
      have z4' : zm_X k z2 := z4
      rw [this] at z4'
      exact z4'.2.2.1
    have k33 : zv_I k3 348 3 = n := by
      rw [co3 3 (Or.inl (by decide)), c2, if_pos rfl]
    have co : ∀ z : Nat, (z < 408 ∨ 432 ≤ z) → z ≠ 3 → zv_I k3 348 z = zv_I k1 348 z := fun z hz h3 => by
      rw [co3 z hz, c2, if_neg h3]
    obtain ⟨H', kk⟩ := zt_H_un (c' := zv_I k3 348) H Dr A2 W' en k33 co cx3
    obtain ⟨st, ea⟩ := zt_answered (d := d + 25) (zt_L_A A2) (n : Int)
    rw [zm_e y1] at qC
    dsimp only at qC
    rw [zm_e ea] at qC
    dsimp only at qC
    rw [if_neg (by omega)] at qC
    exact ⟨(n : Int), _, k3, lC8_unname (zl_ob gL l1) qC, eC9, zt_GG_st (zp_core S1 kk H' F13 (by rw [co 1 (Or.inl (by decide)) (by decide)]; omega) (by rw [co 2 (Or.inl (by decide)) (by decide)]; omega)) st (zm_F_r [] [] _) rfl rfl rfl rfl⟩
end
