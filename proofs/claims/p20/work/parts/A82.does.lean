/-! ===== the tie: what a LINE does ===== -/
/-- both do it, or both refuse -/
def zt_D (b : Nat) (g : zv_H) (k : zv_H) (q : Int × zv_H) (q' : Int × zv_H) : Prop := (zc_X g q.2) ∧ (zt_k b g q.2) ∧ (zm_F [348, 351, 352, 353, 354, 355, 358, 359, 360, 362, 363, 364, 365] [3, 10, 11, 12, 19, 24] k q'.2) ∧ ((q.1 < 0 ∧ q'.1 < 0) ∨ (0 ≤ q.1 ∧ 0 ≤ q'.1)) ∧ (zt_H b (zv_I q'.2 348) q.2) ∧ (zv_I k 348 1 ≤ zv_I q'.2 348 1 ∧ zv_I q'.2 348 1 ≤ zv_I k 348 1 + 1000) ∧ (zv_I k 348 2 ≤ zv_I q'.2 348 2 ∧ zv_I q'.2 348 2 ≤ zv_I k 348 2 + 48)
theorem zt_D_X {b : Nat} {g : zv_H} {k : zv_H} {q : Int × zv_H} {q' : Int × zv_H} (t : zt_D b g k q q') : zc_X g q.2 := t.1
theorem zt_D_k {b : Nat} {g : zv_H} {k : zv_H} {q : Int × zv_H} {q' : Int × zv_H} (t : zt_D b g k q q') : zt_k b g q.2 := t.2.1
theorem zt_D_F {b : Nat} {g : zv_H} {k : zv_H} {q : Int × zv_H} {q' : Int × zv_H} (t : zt_D b g k q q') : zm_F [348, 351, 352, 353, 354, 355, 358, 359, 360, 362, 363, 364, 365] [3, 10, 11, 12, 19, 24] k q'.2 := t.2.2.1
theorem zt_D_s {b : Nat} {g : zv_H} {k : zv_H} {q : Int × zv_H} {q' : Int × zv_H} (t : zt_D b g k q q') : (q.1 < 0 ∧ q'.1 < 0) ∨ (0 ≤ q.1 ∧ 0 ≤ q'.1) := t.2.2.2.1
theorem zt_D_H {b : Nat} {g : zv_H} {k : zv_H} {q : Int × zv_H} {q' : Int × zv_H} (t : zt_D b g k q q') : zt_H b (zv_I q'.2 348) q.2 := t.2.2.2.2.1
theorem zt_D_g1 {b : Nat} {g : zv_H} {k : zv_H} {q : Int × zv_H} {q' : Int × zv_H} (t : zt_D b g k q q') : zv_I k 348 1 ≤ zv_I q'.2 348 1 ∧ zv_I q'.2 348 1 ≤ zv_I k 348 1 + 1000 := t.2.2.2.2.2.1
theorem zt_D_g2 {b : Nat} {g : zv_H} {k : zv_H} {q : Int × zv_H} {q' : Int × zv_H} (t : zt_D b g k q q') : zv_I k 348 2 ≤ zv_I q'.2 348 2 ∧ zv_I q'.2 348 2 ≤ zv_I k 348 2 + 48 := t.2.2.2.2.2.2
theorem zt_D_Z {b : Nat} {y : Int} {g k : zv_H} {q q' : Int × zv_H} (z : zt_Z b y g k q q') (hy : y ≤ 48) : zt_D b g k q q' := by
  refine ⟨zt_Z_X z, zt_Z_k z, zt_Z_F z, ?_, zt_Z_H z, zt_Z_g1 z, ?_⟩
  · rcases zt_Z_a1 z with ⟨h1, h2⟩ | ⟨h1, h2⟩
    · exact Or.inl ⟨h1, by rw [h2]; decide⟩
    · exact Or.inr ⟨h1, by rw [h2]; exact h1⟩
  · have := zt_Z_g2 z
    omega
/-- what it does it with -/
def zt_ag0 (j : Nat) (g : zv_H) (k : zv_H) : Prop := (j < 12) ∧ ((j : Int) = 0 ∨ (j : Int) = 6 → ∃ m : Nat, zt_wd 7 m (zv_I k 360) g ∧ zv_I k 347 19 = m ∧ 1 ≤ m ∧ m ≤ (if (j : Int) = 0 then 12 else 6) ∧ zt_lw m (zv_I k 360)) ∧ ((j : Int) = 1 → zv_I g 5 12 = zv_I k 347 43 ∧ 0 ≤ zv_I k 347 43 ∧ zv_I k 347 43 ≤ 999) ∧ (zv_I g 5 10 = j) ∧ (¬ ((j : Int) = 3 ∨ (j : Int) = 4 ∨ (j : Int) = 6) → zv_I g 5 11 = zv_I k 347 42) ∧ (0 ≤ zv_I k 347 42 ∧ zv_I k 347 42 ≤ 999)
theorem zt_ag0_j {j : Nat} {g : zv_H} {k : zv_H} (t : zt_ag0 j g k) : j < 12 := t.1
theorem zt_ag0_w {j : Nat} {g : zv_H} {k : zv_H} (t : zt_ag0 j g k) : (j : Int) = 0 ∨ (j : Int) = 6 → ∃ m : Nat, zt_wd 7 m (zv_I k 360) g ∧ zv_I k 347 19 = m ∧ 1 ≤ m ∧ m ≤ (if (j : Int) = 0 then 12 else 6) ∧ zt_lw m (zv_I k 360) := t.2.1
theorem zt_ag0_n2 {j : Nat} {g : zv_H} {k : zv_H} (t : zt_ag0 j g k) : (j : Int) = 1 → zv_I g 5 12 = zv_I k 347 43 ∧ 0 ≤ zv_I k 347 43 ∧ zv_I k 347 43 ≤ 999 := t.2.2.1
theorem zt_ag0_v {j : Nat} {g : zv_H} {k : zv_H} (t : zt_ag0 j g k) : zv_I g 5 10 = j := t.2.2.2.1
theorem zt_ag0_n1 {j : Nat} {g : zv_H} {k : zv_H} (t : zt_ag0 j g k) : ¬ ((j : Int) = 3 ∨ (j : Int) = 4 ∨ (j : Int) = 6) → zv_I g 5 11 = zv_I k 347 42 := t.2.2.2.2.1
theorem zt_ag0_r1 {j : Nat} {g : zv_H} {k : zv_H} (t : zt_ag0 j g k) : 0 ≤ zv_I k 347 42 ∧ zv_I k 347 42 ≤ 999 := t.2.2.2.2.2
theorem zt_rg9 {x : Int} (h : 0 ≤ x ∧ x ≤ 999) : zv_rg x := by unfold zv_rg; omega
theorem zj_does {d D b j : Nat} {g k : zv_H} (hA : zc_A g) (H : zt_H b (zv_I k 348) g) (hM : zm_M k) (a : zt_ag0 j g k) (n1 : 0 ≤ zv_I k 348 1 ∧ zv_I k 348 1 < 1999999000) (n2 : zv_I k 348 2 < 1999999000) : ∃ q q', C8_done (d + 7) 1 b g = some q ∧ C9_does (D + 10) 347 j k = some q' ∧ zt_D b g k q q' := by
  have gL := zt_L_A hA
  have l1 : zv_lay 1 = (1, 8) := rfl
  have e5 : zv_gR g 1 8 2 = some 5 := zl_gF gL l1 2 4
  have e7 : zv_gR g 5 3 1 = some 7 := zl_gF gL zt_lay5 1 2
  have i10 : zv_gI g 5 3 10 = some (j : Int) := by rw [zl_gI gL zt_lay5 10, zt_ag0_v a]
  have i11 : zv_gI g 5 3 11 = some (zv_I g 5 11) := zl_gI gL zt_lay5 11
  have i12 : zv_gI g 5 3 12 = some (zv_I g 5 12) := zl_gI gL zt_lay5 12
  have v11 := zt_ag0_n1 a
  have r11 := zt_ag0_r1 a
  have b2 : zv_I k 348 2 < 2000000000 := Int.lt_trans n2 (by decide)
  have rr := zt_rg9 r11
  have main : ∀ {o : Option (Int × zv_H)} {o' : Option (Int × zv_H)}, (∃ q q', o = some q ∧ o' = some q' ∧ zt_D b g k q q') → (E8_done (d + 6) 1 b g = o.bind fun q => some (some (zv_i q.1), q.2)) → (E9_does (D + 9) 347 j k = o'.bind fun q => some (some (zv_i q.1), q.2)) → ∃ q q', C8_done (d + 7) 1 b g = some q ∧ C9_does (D + 10) 347 j k = some q' ∧ zt_D b g k q q' := fun {o o'} h e1 e2 => by
    obtain ⟨q, q', h1, h2, z⟩ := h
    rw [h1] at e1
    rw [h2] at e2
    exact ⟨q, q', lC8_done (zl_ob gL l1) e1, lC9_does (zm_ob hM) e2, z⟩
  have qC := qE8_done (d + 6) 1 b g
  rw [zm_e e5, zm_e i10] at qC
  have qR := qE9_does (D + 9) 347 j k
  have j12 := zt_ag0_j a
  by_cases c0 : (j : Int) = 0
  · rw [if_pos c0, zm_e e5, zm_e i11, zm_e e5, zm_e e7] at qC
    rw [if_pos c0, zm_e (zm_gI hM 42)] at qR
    obtain ⟨m, w1, w2, w3, w4, w5⟩ := zt_ag0_w a (Or.inl c0)
    rw [if_pos c0] at w4
    rw [v11 (by omega)] at qC
    obtain ⟨q, q', h1, h2, z, _⟩ := zj_put (d := d + 2) (D := D + 3) hA H hM rfl b2 w1 w4 (Or.inr (Or.inl rfl)) w2 rr
    exact main ⟨q, q', h1, h2, zt_D_Z z (by decide)⟩ qC qR
  rw [if_neg c0] at qC qR
  by_cases c1 : (j : Int) = 1
  · rw [if_pos c1, zm_e e5, zm_e i11, zm_e e5, zm_e i12] at qC
    rw [if_pos c1, zm_e (zm_gI hM 42), zm_e (zm_gI hM 43)] at qR
    obtain ⟨w1, w2⟩ := zt_ag0_n2 a c1
    rw [v11 (by omega), w1] at qC
    obtain ⟨q, q', h1, h2, z, _⟩ := zj_cut (d := d + 2) (D := D + 3) hA H hM rfl b2 rr (zt_rg9 w2)
    exact main ⟨q, q', h1, h2, zt_D_Z z (by decide)⟩ qC qR
  rw [if_neg c1] at qC qR
  by_cases c2 : (j : Int) = 2
  · rw [if_pos c2, zm_e e5, zm_e i11] at qC
    rw [if_pos c2, zm_e (zm_f0 hM), zm_e (zm_aI hM zm_l348 rfl (by decide) (by decide)), zm_e (zm_gI hM 42), zm_e (zm_wI hM zm_l348 rfl (by decide) (by decide) _)] at qR
    rw [v11 (by omega)] at qC
    have r1 : zv_I k 348 (Int.toNat 1) = zv_I k 348 1 := rfl
    obtain ⟨p1, p2, p3, p4⟩ := zt_pass (d := d + 4) hA H r11 ⟨n1.1, Int.lt_trans n1.2 (by decide)⟩
    have es : zv_I (zv_sI k 348 (Int.toNat 1) (zv_w (zv_I k 348 (Int.toNat 1) + zv_I k 347 42))) 348 = zm_u (zv_I k 348) 1 (zv_I k 348 1 + zv_I k 347 42) := by
      rw [zm_ss, r1, zm_w (by omega)]
      rfl
    have F : zm_F [348, 351, 352, 353, 354, 355, 358, 359, 360, 362, 363, 364, 365] [3, 10, 11, 12, 19, 24] k (zv_sI k 348 (Int.toNat 1) (zv_w (zv_I k 348 (Int.toNat 1) + zv_I k 347 42))) := zm_F_I (zm_F_r _ _ k) rfl _ _
    generalize zv_sI k 348 (Int.toNat 1) (zv_w (zv_I k 348 (Int.toNat 1) + zv_I k 347 42)) = k1 at es F qR
    refine main (o' := some (0, k1)) ⟨_, _, p1, rfl, zc_QX p2, p3, F, Or.inr ⟨?_, Int.le_refl _⟩, ?_, ?_, ?_⟩ qC qR
    · dsimp only
      omega
    · dsimp only
      rw [es]
      exact p4
    · dsimp only
      rw [es, zm_u_s]
      omega
    · dsimp only
      rw [es, zm_u_o _ _ (by decide)]
      omega
  rw [if_neg c2] at qC qR
  by_cases c3 : (j : Int) = 3
  · rw [if_pos c3] at qC qR
    obtain ⟨q, q', h1, h2, z⟩ := zj_undo (d := d + 3) (D := D + 6) hA H hM rfl b2
    exact main ⟨q, q', h1, h2, zt_D_Z z (by decide)⟩ qC qR
  rw [if_neg c3] at qC qR
  by_cases c4 : (j : Int) = 4
  · rw [if_pos c4] at qC qR
    obtain ⟨q, q', h1, h2, z⟩ := zj_redo (d := d + 2) (D := D + 4) hA H hM rfl b2
    exact main ⟨q, q', h1, h2, zt_D_Z z (by decide)⟩ qC qR
  rw [if_neg c4] at qC qR
  by_cases c5 : (j : Int) = 5
  · rw [if_pos c5, zm_e e5, zm_e i11] at qC
    rw [if_pos c5, zm_e (zm_gI hM 42)] at qR
    rw [v11 (by omega)] at qC
    obtain ⟨q, q', h1, h2, z⟩ := zj_go (d := d + 2) (D := D + 4) hA H hM rfl b2 (zv_I k 347 42)
    exact main ⟨q, q', h1, h2, zt_D_Z z (by decide)⟩ qC qR
  rw [if_neg c5] at qC qR
  by_cases c6 : (j : Int) = 6
  · rw [if_pos c6, zm_e e5, zm_e e7] at qC
    rw [if_pos c6] at qR
    obtain ⟨m, w1, w2, w3, w4, w5⟩ := zt_ag0_w a (Or.inr c6)
    rw [if_neg c0] at w4
    have ek := zt_C7_key (d := d + 4) gL w1 w5
    rw [zm_e ek] at qC
    dsimp only at qC
    obtain ⟨q, q', h1, h2, z⟩ := zj_name (d := d + 3) (D := D + 6) hA H hM rfl w2 (by omega) w5 (fun j hj => rfl)
    exact main ⟨q, q', h1, h2, zt_D_Z z (by decide)⟩ qC qR
  rw [if_neg c6] at qC qR
  have v := v11 (by omega)
  by_cases c7 : (j : Int) = 7
  · rw [if_pos c7, zm_e e5, zm_e i11, v] at qC
    rw [if_pos c7, zm_e (zm_gI hM 42)] at qR
    obtain ⟨q, q', h1, h2, z⟩ := zj_withdraw (d := d + 1) (D := D + 2) hA H hM rfl b2 rr
    exact main ⟨q, q', h1, h2, zt_D_Z z (by decide)⟩ qC qR
  rw [if_neg c7] at qC qR
  by_cases c8 : (j : Int) = 8
  · rw [if_pos c8, zm_e e5, zm_e i11, v] at qC
    rw [if_pos c8, zm_e (zm_gI hM 42)] at qR
    obtain ⟨q, q', h1, h2, z⟩ := zj_restore (d := d + 1) (D := D + 2) hA H hM rfl b2 rr
    exact main ⟨q, q', h1, h2, zt_D_Z z (by decide)⟩ qC qR
  rw [if_neg c8] at qC qR
  by_cases c9 : (j : Int) = 9
  · rw [if_pos c9, zm_e e5, zm_e i11, v] at qC
    rw [if_pos c9, zm_e (zm_gI hM 42)] at qR
    obtain ⟨q, q', h1, h2, z⟩ := zj_carry (d := d) (D := D) hA H hM rfl b2 rr
    exact main ⟨q, q', h1, h2, zt_D_Z z (by decide)⟩ qC qR
  rw [if_neg c9] at qC qR
  by_cases c10 : (j : Int) = 10
  · rw [if_pos c10, zm_e e5, zm_e i11, v] at qC
    rw [if_pos c10, zm_e (zm_gI hM 42)] at qR
    obtain ⟨q, q', h1, h2, z, _⟩ := zj_merge (d := d) (D := D) hA H hM rfl n2 rr
    exact main ⟨q, q', h1, h2, zt_D_Z z (by decide)⟩ qC qR
  rw [if_neg c10] at qC qR
  rw [if_pos (by omega), zm_e e5, zm_e i11, v] at qC
  rw [zm_e (zm_gI hM 42)] at qR
  obtain ⟨q, q', h1, h2, z⟩ := zj_prune (d := d + 3) (D := D + 4) hA H hM rfl rr
  exact main ⟨q, q', h1, h2, zt_D_Z z (by decide)⟩ qC qR
