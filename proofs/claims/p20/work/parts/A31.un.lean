/-! ===== the tie: a name goes ===== -/
/-- names from j on come one down, so far up to i -/
def zt_dr (a : Nat) (j : Nat) (i : Nat) (g0 : zv_H) (g : zv_H) : Prop := (g.1 = g0.1) ∧ (g.2.2 = g0.2.2) ∧ (∀ r k, r ≠ a + 15 → r ≠ a + 16 → zv_I g r k = zv_I g0 r k) ∧ (∀ x, zv_I g (a + 15) x = if j ≤ x ∧ x < i then zv_I g0 (a + 15) (x + 1) else zv_I g0 (a + 15) x) ∧ (∀ x, zv_I g (a + 16) x = if j ≤ x ∧ x < i then zv_I g0 (a + 16) (x + 1) else zv_I g0 (a + 16) x)
theorem zt_dr_f1 {a : Nat} {j : Nat} {i : Nat} {g0 : zv_H} {g : zv_H} (t : zt_dr a j i g0 g) : g.1 = g0.1 := t.1
theorem zt_dr_f2 {a : Nat} {j : Nat} {i : Nat} {g0 : zv_H} {g : zv_H} (t : zt_dr a j i g0 g) : g.2.2 = g0.2.2 := t.2.1
theorem zt_dr_i {a : Nat} {j : Nat} {i : Nat} {g0 : zv_H} {g : zv_H} (t : zt_dr a j i g0 g) : ∀ r k, r ≠ a + 15 → r ≠ a + 16 → zv_I g r k = zv_I g0 r k := t.2.2.1
theorem zt_dr_k {a : Nat} {j : Nat} {i : Nat} {g0 : zv_H} {g : zv_H} (t : zt_dr a j i g0 g) : ∀ x, zv_I g (a + 15) x = if j ≤ x ∧ x < i then zv_I g0 (a + 15) (x + 1) else zv_I g0 (a + 15) x := t.2.2.2.1
theorem zt_dr_o {a : Nat} {j : Nat} {i : Nat} {g0 : zv_H} {g : zv_H} (t : zt_dr a j i g0 g) : ∀ x, zv_I g (a + 16) x = if j ≤ x ∧ x < i then zv_I g0 (a + 16) (x + 1) else zv_I g0 (a + 16) x := t.2.2.2.2
theorem zt_dr_L {a j i : Nat} {g0 g : zv_H} (D : zt_dr a j i g0 g) (gL : zt_L g0) : zt_L g := by
  have f2 := zt_dr_f2 D
  exact zt_L_of (zt_dr_f1 D) (fun r k => by
    show g.2.2.2.1 r k = _
    rw [f2]; rfl) gL
theorem zt_drop6 {d : Nat} {a j m : Nat} {g0 : zv_H} (gL : zt_L g0) (la : zv_lay a = (1, 0)) (sz : zv_I g0 (a + 14) 2 = ((m + 1 : Nat) : Int)) (hm : m + 1 ≤ 12) : ∀ (n i : Nat) (g : zv_H), i + n = m → j ≤ i → zt_dr a j i g0 g → ∃ g', L2_drop_6 d (a + 14) i g = some (none, zv_sI g' (a + 14) 2 m) ∧ zt_dr a j m g0 g' := by
  obtain ⟨l14, l15, l16⟩ := zt_nm_l la
  intro n
  induction n with
  | zero =>
    intro i g hi _ D
    have e : i = m := by omega
    subst e
    have L1 := zt_dr_L D gL
    have s1 : zv_I g (a + 14) 2 = ((i + 1 : Nat) : Int) := (zt_dr_i D _ _ (by omega) (by omega)).trans sz
    refine ⟨g, ?_, D⟩
    rw [qL2_drop_6, zm_e (zl_gI L1 l14 2), s1, zm_w (by omega), if_neg (by omega), qL2_drop_58, zm_e (zl_gI L1 l14 2), s1, zm_w (by omega), show ((i + 1 : Nat) : Int) - 1 = (i : Int) by omega, Int.max_eq_left (by omega), zm_e (zl_pI L1 l14 2 _)]
  | succ n ih =>
    intro i g hi hj D
    have L1 := zt_dr_L D gL
    have s1 : zv_I g (a + 14) 2 = ((m + 1 : Nat) : Int) := (zt_dr_i D _ _ (by omega) (by omega)).trans sz
    have k1 : zv_I g (a + 15) (i + 1) = zv_I g0 (a + 15) (i + 1) := by
      rw [zt_dr_k D, if_neg (by omega)]
    have o1 : zv_I g (a + 16) (i + 1) = zv_I g0 (a + 16) (i + 1) := by
      rw [zt_dr_o D, if_neg (by omega)]
    rw [qL2_drop_6, zm_e (zl_gI L1 l14 2), s1, zm_w (x := (i : Int) + 1) (by omega), if_pos (by omega), if_pos (by omega), zm_e (zl_gF L1 l14 0 1), zm_e (zl_gF L1 l14 0 1), zm_e (zl_aI L1 l15 (by omega) (by omega)), show ((i : Int) + 1).toNat = i + 1 by omega, k1, zm_e (zl_wI L1 l15 (by omega) (by omega) _), show ((i : Nat) : Int).toNat = i by omega, zm_e (zl_gF (g := zv_sI g (a + 15) i (zv_I g0 (a + 15) (i + 1))) L1 l14 1 2), zm_e (zl_gF (g := zv_sI g (a + 15) i (zv_I g0 (a + 15) (i + 1))) L1 l14 1 2), zm_e (zl_aI (g := zv_sI g (a + 15) i (zv_I g0 (a + 15) (i + 1))) L1 l16 (by omega) (by omega)), show ((i : Int) + 1).toNat = i + 1 by omega, zy_In _ _ (fun q => absurd q.1 (by omega)), o1, zm_e (zl_wI (g := zv_sI g (a + 15) i (zv_I g0 (a + 15) (i + 1))) L1 l16 (by omega) (by omega) _), show ((i : Nat) : Int).toNat = i by omega, show (i : Int) + 1 = ((i + 1 : Nat) : Int) by omega]
    have f1 := zt_dr_f1 D
    have f2 := zt_dr_f2 D
    refine ih (i + 1) _ (by omega) (by omega) ⟨f1, f2, fun r k h1 h2 => ?_, fun x => ?_, fun x => ?_⟩
    · rw [zy_In _ _ (fun q => h2 q.1), zy_In _ _ (fun q => h1 q.1)]
      exact zt_dr_i D r k h1 h2
    · rw [zy_In _ _ (fun q => absurd q.1 (by omega))]
      by_cases e : x = i
      · rw [e, zy_I, if_pos (by omega)]
      · rw [zy_In _ _ (fun q => e q.2), zt_dr_k D]
        by_cases z : j ≤ x ∧ x < i
        · rw [if_pos z, if_pos (by omega)]
        · rw [if_neg z, if_neg (by omega)]
    · by_cases e : x = i
      · rw [e, zy_I, if_pos (by omega)]
      · rw [zy_In _ _ (fun q => e q.2), zy_In _ _ (fun q => absurd q.1 (by omega)), zt_dr_o D]
        by_cases z : j ≤ x ∧ x < i
        · rw [if_pos z, if_pos (by omega)]
        · rw [if_neg z, if_neg (by omega)]
/-- the reference -/
theorem zt_un67 (d : Nat) {m j : Nat} (hm : m ≤ 11) (hj : j ≤ m) (c : Nat → Int) : ∀ (n i : Nat) (h : zv_H), i + n = 2 * m → 2 * j ≤ i → zm_M h → zv_I h 348 3 = m → (∀ x : Nat, zv_I h 348 (408 + x) = if 2 * j ≤ x ∧ x < i then c (408 + x + 2) else c (408 + x)) → ∃ h', L9_unname_67 d 347 i h = some (some (zv_i m), h') ∧ zm_F [348] [] h h' ∧ (∀ k : Nat, (k < 408 ∨ 432 ≤ k) → zv_I h' 348 k = zv_I h 348 k) ∧ ∀ x : Nat, zv_I h' 348 (408 + x) = if 2 * j ≤ x ∧ x < 2 * m then c (408 + x + 2) else c (408 + x) := by
  intro n
  induction n with
  | zero =>
    intro i h hi _ hM h3 hc
    have e : i = 2 * m := by omega
    subst e
    refine ⟨h, ?_, zm_F_r _ _ h, fun _ _ => rfl, hc⟩
    rw [qL9_unname_67, zm_e (zm_f0 hM), zm_e (zm_aI hM zm_l348 rfl (by decide) (by decide)), show zv_I h 348 (Int.toNat 3) = (m : Int) from h3, zm_w (x := 2 * (m : Int)) (by omega), if_neg (by omega), zm_e (zm_f0 hM), zm_e (zm_aI hM zm_l348 rfl (by decide) (by decide)), show zv_I h 348 (Int.toNat 3) = (m : Int) from h3]
  | succ n ih =>
    intro i h hi hj2 hM h3 hc
    have c2 : zv_I h 348 (408 + i + 2) = c (408 + i + 2) := by
      have := hc (i + 2)
      rw [if_neg (by omega)] at this
      exact this
    rw [qL9_unname_67, zm_e (zm_f0 hM), zm_e (zm_aI hM zm_l348 rfl (by decide) (by decide)), show zv_I h 348 (Int.toNat 3) = (m : Int) from h3, zm_w (x := 2 * (m : Int)) (by omega), if_pos (by omega), zm_e (zm_f0 hM), zm_e (zm_f0 hM), zm_w (x := 408 + (i : Int)) (by omega), zm_w (x := 408 + (i : Int) + 2) (by omega), zm_e (zm_aI hM zm_l348 rfl (by omega) (by omega)), show (408 + (i : Int) + 2).toNat = 408 + i + 2 by omega, c2, zm_e (zm_wI hM zm_l348 rfl (by omega) (by omega) _), show (408 + (i : Int)).toNat = 408 + i by omega, zm_w (x := (i : Int) + 1) (by omega), show (i : Int) + 1 = ((i + 1 : Nat) : Int) by omega]
    have e1 : zv_I (zv_sI h 348 (408 + i) (c (408 + i + 2))) 348 = zm_u (zv_I h 348) (408 + i) (c (408 + i + 2)) := zm_ss _ _ _ _
    obtain ⟨h', i1, i2, i3, i4⟩ := ih (i + 1) (zv_sI h 348 (408 + i) (c (408 + i + 2))) (by omega) (by omega) hM (by rw [e1, zm_u_o _ _ (by omega)]; exact h3) (fun x => by
      rw [e1]
      unfold zm_u
      by_cases e : x = i
      · rw [e, if_pos rfl, if_pos (by omega)]
      · rw [if_neg (by omega), hc x]
        by_cases z : 2 * j ≤ x ∧ x < i
        · rw [if_pos z, if_pos (by omega)]
        · rw [if_neg z, if_neg (by omega)])
    exact ⟨h', i1, zm_F_t (zm_F_I (zm_F_r _ _ h) rfl _ _) i2, fun k hk => by rw [i3 k hk, e1, zm_u_o _ _ (by omega)], i4⟩
/-- the relation behind it -/
theorem zt_H_un {a : Nat} {c c' : Nat → Int} {g g1 : zv_H} {j m : Nat} (H : zt_H a c g) (D : zt_dr a j m g g1) (hA' : zc_A (zv_sI g1 (a + 14) 2 m)) (W' : zm_W c') (em : c 3 = ((m + 1 : Nat) : Int)) (c3 : c' 3 = m) (co : ∀ k : Nat, (k < 408 ∨ 432 ≤ k) → k ≠ 3 → c' k = c k) (cx : ∀ x : Nat, c' (408 + x) = if 2 * j ≤ x ∧ x < 2 * m then c (408 + x + 2) else c (408 + x)) : zt_H a c' (zv_sI g1 (a + 14) 2 m) ∧ zt_k a g (zv_sI g1 (a + 14) 2 m) := by
  have la := zt_U_la (zt_H_U H)
  have N := zt_H_N H
  have f1 := zt_dr_f1 D
  have f2 := zt_dr_f2 D
  have I : ∀ r k, r ≠ a + 14 → r ≠ a + 15 → r ≠ a + 16 → zv_I (zv_sI g1 (a + 14) 2 m) r k = zv_I g r k := fun r k h1 h2 h3 => by
    rw [zy_In _ _ (fun q => h1 q.1)]
    exact zt_dr_i D r k h2 h3
  have J : ∀ r k, zv_J (zv_sI g1 (a + 14) 2 m) r k = zv_J g r k := fun r k => by
    show g1.2.2.1 r k = _
    rw [f2]; rfl
  have R : ∀ r k, zv_R (zv_sI g1 (a + 14) 2 m) r k = zv_R g r k := fun r k => by
    show g1.2.2.2.1 r k = _
    rw [f2]; rfl
  refine ⟨zt_H_hd H hA' W' (fun k k1 _ _ => co k (Or.inr k1) (by omega)) (co 0 (Or.inl (by decide)) (by decide)) (co 2 (Or.inl (by decide)) (by decide)) (co 4 (Or.inl (by decide)) (by decide)) (co 5 (Or.inl (by decide)) (by decide)) (fun k k1 k2 => co k (Or.inl k2) (by omega)) (fun r k _ h1 h2 h3 => I r k h1 h2 h3) J R ?_ ⟨?_, fun k hk => ?_, fun k hk => ?_⟩, zt_k_of f1 (by show g1.2.2.2.2 = _; rw [f2]) (fun r k hr => I r k (zt_out hr (zt_inA la (by decide))) (zt_out hr (zt_inA la (by decide))) (zt_out hr (zt_inA la (by decide)))) (fun r k _ => J r k) (fun r k _ => R r k)⟩
  · rw [I a 11 (by omega) (by omega) (by omega), co 1 (Or.inl (by decide)) (by decide)]
    exact zt_U_nw (zt_H_U H)
  · rw [c3]
    exact zy_I _ _ _ _
  · rw [c3] at hk
    have e9 : ∀ y : Nat, 409 + 2 * y = 408 + (2 * y + 1) := fun y => by omega
    rw [zy_In _ _ (fun q => absurd q.1 (by omega)), zt_dr_o D, e9, cx]
    by_cases z : j ≤ k ∧ k < m
    · rw [if_pos z, if_pos (by omega), zt_N_ow N (k + 1) (by omega), show 408 + (2 * k + 1) + 2 = 409 + 2 * (k + 1) by omega]
    · rw [if_neg z, if_neg (by omega), zt_N_ow N k (by omega), e9]
  · rw [c3] at hk
    rw [zy_In _ _ (fun q => absurd q.1 (by omega)), zt_dr_k D, cx]
    by_cases z : j ≤ k ∧ k < m
    · rw [if_pos z, if_pos (by omega), show 408 + 2 * k + 2 = 408 + 2 * (k + 1) by omega]
      exact zt_N_ky N (k + 1) (by omega)
    · rw [if_neg z, if_neg (by omega)]
      exact zt_N_ky N k (by omega)
/-- the class's -/
theorem zt_dropName {d : Nat} {a : Nat} {c : Nat → Int} {g : zv_H} {u key : Int} {j m : Nat} (gL : zt_L g) (H : zt_H a c g) (k0 : key ≠ 0) (hu : zt_ix (fun j => zv_I g (a + 15) j = key) (c 3) u) (ej : u = (j : Int)) (hj : j ≤ m) (em : c 3 = ((m + 1 : Nat) : Int)) : ∃ g1, C0_dropName (d + 2) a key g = some ((m : Int), zv_sI g1 (a + 14) 2 m) ∧ zt_dr a j m g g1 := by
  have la := zt_U_la (zt_H_U H)
  have b := (zt_U_W (zt_H_U H)).2.2.1
  obtain ⟨l14, l15, l16⟩ := zt_nm_l la
  obtain ⟨u', e1, w1⟩ := zt_indexOf (d := d) gL H key
  have eu := zt_ix_u w1 hu
  subst eu
  obtain ⟨g1, e2, D⟩ := zt_drop6 (d := d) (j := j) (m := m) gL la (by rw [zt_N_sz (zt_H_N H), em]) (by omega) (m - j) j g (by omega) (Nat.le_refl _) ⟨rfl, rfl, fun _ _ _ _ => rfl, fun x => by rw [if_neg (by omega)], fun x => by rw [if_neg (by omega)]⟩
  have ed : C2_drop (d + 1) (a + 14) u' g = some (zv_sI g1 (a + 14) 2 m) := by
    refine lC2_drop (zl_ob gL l14) ?_
    rw [qE2_drop, ej, Int.max_eq_left (by omega)]
    exact e2
  have L1 := zt_dr_L D gL
  refine ⟨g1, lC0_dropName (zl_ob gL la) ?_, D⟩
  rw [qE0_dropName, if_neg k0, zm_e (zl_gF gL la 6 14), zm_e e1]
  dsimp only
  rw [if_neg (by omega), zm_e (zl_gF gL la 6 14), zm_e ed, zm_e (zl_gF (g := zv_sI g1 (a + 14) 2 m) L1 la 6 14), zm_e (zl_gI (g := zv_sI g1 (a + 14) 2 m) L1 l14 2), zy_I]
