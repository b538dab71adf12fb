/-! ===== the tie: names ===== -/
/-- the first of which it holds -/
def zt_ix (P : Nat → Prop) (n u : Int) : Prop := (u = -1 ∧ ∀ j : Nat, (j : Int) < n → ¬ P j) ∨ ∃ j : Nat, u = (j : Int) ∧ (j : Int) < n ∧ P j ∧ ∀ i : Nat, i < j → ¬ P i
theorem zt_ix_u {P : Nat → Prop} {n u u' : Int} (h : zt_ix P n u) (h' : zt_ix P n u') : u = u' := by
  rcases h with ⟨a1, a2⟩ | ⟨j, a1, a2, a3, a4⟩
  · rcases h' with ⟨b1, b2⟩ | ⟨i, b1, b2, b3, b4⟩
    · rw [a1, b1]
    · exact absurd b3 (a2 i b2)
  · rcases h' with ⟨b1, b2⟩ | ⟨i, b1, b2, b3, b4⟩
    · exact absurd a3 (b2 j a2)
    · have h1 : ¬ i < j := fun q => a4 i q b3
      have h2 : ¬ j < i := fun q => b4 j q a3
      omega
theorem zt_ix_cg {P Q : Nat → Prop} {n u : Int} (e : ∀ j : Nat, (j : Int) < n → (P j ↔ Q j)) (h : zt_ix P n u) : zt_ix Q n u := by
  rcases h with ⟨a1, a2⟩ | ⟨j, a1, a2, a3, a4⟩
  · exact Or.inl ⟨a1, fun j hj q => a2 j hj ((e j hj).mpr q)⟩
  · exact Or.inr ⟨j, a1, a2, (e j a2).mp a3, fun i hi q => a4 i hi ((e i (by omega)).mpr q)⟩
theorem zt_nm_l {a : Nat} (ha : zv_lay a = (1, 0)) : zv_lay (a + 14) = (1, 2) ∧ zv_lay (a + 15) = (2, 12) ∧ zv_lay (a + 16) = (2, 12) := by cases zc_lh ha with
  | inl e => rw [e]; exact ⟨rfl, rfl, rfl⟩
  | inr e => rw [e]; exact ⟨rfl, rfl, rfl⟩
section
variable {a : Nat} {c : Nat → Int} {g : zv_H}
theorem zt_indexOf_l {d : Nat} (gL : zt_L g) (la : zv_lay a = (1, 0)) {m : Nat} (hm : m ≤ 12) (sz : zv_I g (a + 14) 2 = m) (key : Int) : ∀ (n i : Nat), i + n = m → (∀ j, j < i → ¬ zv_I g (a + 15) j = key) → ∃ u, L2_indexOf_2 d (a + 14) key i g = some (some (zv_i u), g) ∧ zt_ix (fun j => zv_I g (a + 15) j = key) m u := by
  obtain ⟨l14, l15, l16⟩ := zt_nm_l la
  intro n
  induction n with
  | zero =>
    intro i hi no
    refine ⟨-1, ?_, Or.inl ⟨rfl, fun j hj => no j (by omega)⟩⟩
    rw [qL2_indexOf_2, zm_e (zl_gI gL l14 2), sz, if_neg (by omega)]
  | succ n ih =>
    intro i hi no
    rw [qL2_indexOf_2, zm_e (zl_gI gL l14 2), sz, if_pos (by omega), if_pos (by omega), zm_e (zl_gF gL l14 0 1), zm_e (zl_aI gL l15 (by omega) (by omega)), show ((i : Nat) : Int).toNat = i by omega]
    by_cases e : zv_I g (a + 15) i = key
    · rw [if_pos e]
      exact ⟨i, rfl, Or.inr ⟨i, rfl, by omega, e, no⟩⟩
    · rw [if_neg e, zm_w (by omega), show (i : Int) + 1 = ((i + 1 : Nat) : Int) by omega]
      refine ih (i + 1) (by omega) (fun j hj => ?_)
      by_cases z : j = i
      · rw [z]; exact e
      · exact no j (by omega)
theorem zt_indexOf {d : Nat} (gL : zt_L g) (H : zt_H a c g) (key : Int) : ∃ u, C2_indexOf (d + 1) (a + 14) key g = some (u, g) ∧ zt_ix (fun j => zv_I g (a + 15) j = key) (c 3) u := by
  have la := zt_U_la (zt_H_U H)
  have b := (zt_U_W (zt_H_U H)).2.2.1
  obtain ⟨m, em⟩ : ∃ m : Nat, c 3 = m := ⟨(c 3).toNat, by omega⟩
  obtain ⟨u, e, w⟩ := zt_indexOf_l (d := d) gL la (m := m) (by omega) (by rw [zt_N_sz (zt_H_N H), em]) key m 0 (Nat.zero_add _) (fun j hj => absurd hj (Nat.not_lt_zero _))
  refine ⟨u, lC2_indexOf (zl_ob gL (zt_nm_l la).1) ?_, by rw [em]; exact w⟩
  rw [qE2_indexOf]
  exact e
theorem zt_nameAt_l {h : zv_H} (hM : zm_M h) (hc : zv_I h 348 = c) (d : Nat) (v : Int) {m : Nat} (hm : m ≤ 12) (h3 : c 3 = m) : ∀ (n i : Nat), i + n = m → (∀ j, j < i → ¬ c (408 + 2 * j) = v) → ∃ u : Int, L9_nameAt_2 d 347 v i h = some (some (zv_i u), h) ∧ zt_ix (fun j => c (408 + 2 * j) = v) m u := by
  subst hc
  have r3 : zv_aI h 348 3 = some (m : Int) := by
    rw [zm_aI hM zm_l348 rfl (by decide) (by decide)]
    exact congrArg some h3
  intro n
  induction n with
  | zero =>
    intro i hi no
    refine ⟨-1, ?_, Or.inl ⟨rfl, fun j hj => no j (by omega)⟩⟩
    rw [qL9_nameAt_2, zm_e (zm_f0 hM), zm_e r3, if_neg (by omega)]
  | succ n ih =>
    intro i hi no
    rw [qL9_nameAt_2, zm_e (zm_f0 hM), zm_e r3, if_pos (by omega), zm_e (zm_f0 hM), zm_w (x := 2 * (i : Int)) (by omega), zm_w (x := 408 + 2 * (i : Int)) (by omega), zm_e (zm_aI hM zm_l348 rfl (by omega) (by omega)), show (408 + 2 * (i : Int)).toNat = 408 + 2 * i by omega]
    by_cases e : zv_I h 348 (408 + 2 * i) = v
    · rw [if_pos e]
      exact ⟨i, rfl, Or.inr ⟨i, rfl, by omega, e, no⟩⟩
    · rw [if_neg e, zm_w (by omega), show (i : Int) + 1 = ((i + 1 : Nat) : Int) by omega]
      refine ih (i + 1) (by omega) (fun j hj => ?_)
      by_cases z : j = i
      · rw [z]; exact e
      · exact no j (by omega)
theorem zt_nameAt {h : zv_H} (hM : zm_M h) (hc : zv_I h 348 = c) (W : zm_W c) (d : Nat) (v : Int) : ∃ u : Int, C9_nameAt (d + 1) 347 v h = some (u, h) ∧ zt_ix (fun j => c (408 + 2 * j) = v) (c 3) u := by
  have b := W.2.2.1
  obtain ⟨m, em⟩ : ∃ m : Nat, c 3 = m := ⟨(c 3).toNat, by omega⟩
  obtain ⟨u, e, w⟩ := zt_nameAt_l hM hc d v (m := m) (by omega) em m 0 (Nat.zero_add _) (fun j hj => absurd hj (Nat.not_lt_zero _))
  refine ⟨u, lC9_nameAt (zm_ob hM) ?_, by rw [em]; exact w⟩
  rw [qE9_nameAt]
  exact e
/-- both find the same name -/
theorem zt_ix_N (N : zt_N a c g) {w : List Int} (hw : zt_nw w) {u : Int} (h : zt_ix (fun j => zv_I g (a + 15) j = zt_key w) (c 3) u) : zt_ix (fun j => c (408 + 2 * j) = zt_pkd w) (c 3) u := by
  refine zt_ix_cg (fun j hj => ?_) h
  obtain ⟨w', n1, n2, n3⟩ := zt_N_ky N j hj
  rw [n2, n3]
  constructor
  · intro e
    rw [zt_key_inj w' w n1.2 hw.2 e]
  · intro e
    rw [zt_pkd_inj n1.2 hw.2 e]
theorem zt_ownerAt {d : Nat} (gL : zt_L g) (H : zt_H a c g) {j : Nat} (hj : (j : Int) < c 3) : C2_ownerAt (d + 1) (a + 14) j g = some (c (409 + 2 * j), g) := by
  have la := zt_U_la (zt_H_U H)
  have b := (zt_U_W (zt_H_U H)).2.2.1
  obtain ⟨l14, l15, l16⟩ := zt_nm_l la
  have N := zt_H_N H
  refine lC2_ownerAt (zl_ob gL l14) ?_
  rw [qE2_ownerAt, if_neg (by omega), zm_e (zl_gI gL l14 2), zt_N_sz N, if_pos hj, if_pos (by omega), zm_e (zl_gF gL l14 1 2), zm_e (zl_aI gL l16 (by omega) (by omega)), show ((j : Nat) : Int).toNat = j by omega, zt_N_ow N j hj]
/-- the heap behind a naming -/
def zt_nh (a i : Nat) (key num sz : Int) (g : zv_H) : zv_H := zv_sI (zv_sI (zv_sI g (a + 15) i key) (a + 16) i num) (a + 14) 2 sz
theorem zt_own {d : Nat} (gL : zt_L g) (H : zt_H a c g) {key num u : Int} {i : Nat} (hu : zt_ix (fun j => zv_I g (a + 15) j = key) (c 3) u) (hi : (u = -1 ∧ (i : Int) = c 3 ∧ i < 12) ∨ (u = (i : Int) ∧ (i : Int) < c 3)) : C2_own (d + 2) (a + 14) key num g = some (zt_nh a i key num (max (c 3) ((i : Int) + 1)) g) := by
  have la := zt_U_la (zt_H_U H)
  have b := (zt_U_W (zt_H_U H)).2.2.1
  obtain ⟨l14, l15, l16⟩ := zt_nm_l la
  have N := zt_H_N H
  obtain ⟨u', e1, w1⟩ := zt_indexOf (d := d) gL H key
  have eu := zt_ix_u w1 hu
  subst eu
  have i12 : i < 12 := by omega
  have last : L2_own_16 (d + 1) (a + 14) key num (i : Int) g = some (none, zt_nh a i key num (max (c 3) ((i : Int) + 1)) g) := by
    rw [qL2_own_16, if_neg (by omega), if_pos (by omega), zm_e (zl_gF gL l14 0 1), zm_e (zl_wI gL l15 (by omega) (by omega) _), show ((i : Nat) : Int).toNat = i by omega, zm_e (zl_gF (g := zv_sI g (a + 15) i key) gL l14 1 2), zm_e (zl_wI (g := zv_sI g (a + 15) i key) gL l16 (by omega) (by omega) _), show ((i : Nat) : Int).toNat = i by omega, zm_e (zl_gI (g := zv_sI (zv_sI g (a + 15) i key) (a + 16) i num) gL l14 2), zy_In _ _ (fun q => absurd q.1 (by omega)), zy_In _ _ (fun q => absurd q.1 (by omega)), zt_N_sz N, zm_w (by omega), zm_e (zl_pI (g := zv_sI (zv_sI g (a + 15) i key) (a + 16) i num) gL l14 2 _)]
    rfl
  refine lC2_own (zl_ob gL l14) ?_
  rw [qE2_own, zm_e e1]
  dsimp only
  rcases hi with ⟨h1, h2, _⟩ | ⟨h1, h2⟩
  · rw [if_pos h1, zm_e (zl_gI gL l14 2), zt_N_sz N, ← h2]
    rw [← h2] at last
    exact last
  · rw [if_neg (by omega), h1]
    exact last
/-- the relation behind a naming -/
theorem zt_H_name {c' : Nat → Int} {key num sz : Int} {i : Nat} {w : List Int} (H : zt_H a c g) (hA' : zc_A (zt_nh a i key num sz g)) (W' : zm_W c') (hw : zt_nw w) (ek : key = zt_key w) (en : num = c 0) (i12 : i < 12) (hi : sz = c 3 ∧ (i : Int) < c 3 ∨ sz = c 3 + 1 ∧ (i : Int) = c 3) (c3 : c' 3 = sz) (c8 : c' (408 + 2 * i) = zt_pkd w) (c9 : c' (409 + 2 * i) = c 0) (co : ∀ k : Nat, k ≠ 3 → k ≠ 408 + 2 * i → k ≠ 409 + 2 * i → c' k = c k) : zt_H a c' (zt_nh a i key num sz g) ∧ zt_k a g (zt_nh a i key num sz g) := by
  have la := zt_U_la (zt_H_U H)
  have N := zt_H_N H
  have I : ∀ r k, r ≠ a + 14 → r ≠ a + 15 → r ≠ a + 16 → zv_I (zt_nh a i key num sz g) r k = zv_I g r k := fun r k h1 h2 h3 => by
    unfold zt_nh
    rw [zy_In _ _ (fun q => h1 q.1), zy_In _ _ (fun q => h3 q.1), zy_In _ _ (fun q => h2 q.1)]
  refine ⟨zt_H_hd H hA' W' (fun k k1 _ _ => co k (by omega) (by omega) (by omega)) (co 0 (by decide) (by omega) (by omega)) (co 2 (by decide) (by omega) (by omega)) (co 4 (by decide) (by omega) (by omega)) (co 5 (by decide) (by omega) (by omega)) (fun k k1 k2 => co k (by omega) (by omega) (by omega)) (fun r k _ h1 h2 h3 => I r k h1 h2 h3) (fun _ _ => rfl) (fun _ _ => rfl) ?_ ⟨?_, fun k hk => ?_, fun k hk => ?_⟩, zt_k_of rfl rfl (fun r k hr => I r k (zt_out hr (zt_inA la (by decide))) (zt_out hr (zt_inA la (by decide))) (zt_out hr (zt_inA la (by decide)))) (fun _ _ _ => rfl) (fun _ _ _ => rfl)⟩
  · rw [I a 11 (by omega) (by omega) (by omega), co 1 (by decide) (by omega) (by omega)]
    exact zt_U_nw (zt_H_U H)
  · rw [c3]
    exact zy_I _ _ _ _
  · rw [c3] at hk
    unfold zt_nh
    rw [zy_In _ _ (fun q => absurd q.1 (by omega))]
    by_cases e : k = i
    · rw [e, zy_I, c9, en]
    · rw [zy_In _ _ (fun q => e q.2), zy_In _ _ (fun q => absurd q.1 (by omega)), co _ (by omega) (by omega) (by omega)]
      exact zt_N_ow N k (by omega)
  · rw [c3] at hk
    unfold zt_nh
    rw [zy_In _ _ (fun q => absurd q.1 (by omega)), zy_In _ _ (fun q => absurd q.1 (by omega))]
    by_cases e : k = i
    · refine ⟨w, hw, ?_, ?_⟩
      · rw [e, zy_I, ek]
      · rw [e, c8]
    · rw [zy_In _ _ (fun q => e q.2), co _ (by omega) (by omega) (by omega)]
      exact zt_N_ky N k (by omega)
end
theorem zj_name {d D : Nat} {a : Nat} {c : Nat → Int} {g k : zv_H} {m : Nat} {wd : Nat → Int} (hA : zc_A g) (H : zt_H a c g) (hM : zm_M k) (hc : zv_I k 348 = c) (h19 : zv_I k 347 19 = m) (m40 : m ≤ 700) (hw : zt_lw m wd) (he : ∀ j, j < m → zv_I k 360 j = wd j) : ∃ q q', C0_nameHere (d + 3) a (if 1 ≤ m ∧ m ≤ 6 then zt_key (zt_ls m wd) else 0) g = some q ∧ C9_nameNow (D + 3) 347 k = some q' ∧ zt_Z a 0 g k q q' := by
  have U := zt_H_U H
  have W := zt_U_W U
  have la := zt_U_la U
  have gL := zt_L_A hA
  have N := zt_H_N H
  have b3 := W.2.2.1
  obtain ⟨l14, l15, l16⟩ := zt_nm_l la
  have ei := zm_isIn (h := k) (D + 1) (m : Int) 1 6
  by_cases c6 : 1 ≤ m ∧ m ≤ 6
  · rw [if_pos c6]
    rw [if_pos (show (1 : Int) ≤ (m : Int) ∧ (m : Int) ≤ 6 by omega)] at ei
    have hnw : zt_nw (zt_ls m wd) := ⟨by rw [zt_ls_len]; exact c6, zt_lw_m hw⟩
    have kr := zt_key_lt (zt_ls m wd) (zt_lw_m hw)
    have k0 : ¬ zt_key (zt_ls m wd) = 0 := fun e => by
      have e2 : zt_ls m wd = [] := zt_key_inj _ [] (zt_lw_m hw) (fun x hx => by cases hx) e
      have := congrArg List.length e2
      rw [zt_ls_len] at this
      simp only [List.length_nil] at this
      omega
    have kb : zv_rg (zt_key (zt_ls m wd)) := by
      have p : 32 ^ (zt_ls m wd).length ≤ 32 ^ 6 := Nat.pow_le_pow_right (by decide) (by rw [zt_ls_len]; exact c6.2)
      have e6 : (32 : Nat) ^ 6 = 1073741824 := by decide
      unfold zv_rg
      omega
    obtain ⟨u, e1, w1⟩ := zt_indexOf (d := d + 1) gL H (zt_key (zt_ls m wd))
    obtain ⟨u', e2, w2⟩ := zt_nameAt hM hc W (D + 1) (zt_pkd (zt_ls m wd))
    have eu := zt_ix_u w2 (zt_ix_N N hnw w1)
    subst eu
    have ep := zt_packed hM (D + 1) zm_l360 rfl (show m ≤ 700 by omega) c6.2 hw he
    have r3 : zv_aI k 348 3 = some (c 3) := by
      rw [zm_aI hM zm_l348 rfl (by decide) (by decide), hc]
      rfl
    -- naming itself
    have go : ∀ i : Nat, i < 12 → ((u' = -1 ∧ (i : Int) = c 3) ∨ (u' = (i : Int) ∧ (i : Int) < c 3)) → ∀ k', zm_F [348] [] k k' → (zv_I k' 348 = zm_u (zm_u (if u' < 0 then zm_u c 3 (c 3 + 1) else c) (408 + 2 * i) (zt_pkd (zt_ls m wd))) (409 + 2 * i) (c 0)) → L0_nameHere_61 (d + 2) a (zt_key (zt_ls m wd)) g = some (some (zv_i (max (c 3) ((i : Int) + 1))), zt_nh a i (zt_key (zt_ls m wd)) (c 0) (max (c 3) ((i : Int) + 1)) g) ∧ (C0_nameHere (d + 3) a (zt_key (zt_ls m wd)) g = some (max (c 3) ((i : Int) + 1), zt_nh a i (zt_key (zt_ls m wd)) (c 0) (max (c 3) ((i : Int) + 1)) g) → C9_nameNow (D + 3) 347 k = some (max (c 3) ((i : Int) + 1), k') → zt_Z a 0 g k (max (c 3) ((i : Int) + 1), zt_nh a i (zt_key (zt_ls m wd)) (c 0) (max (c 3) ((i : Int) + 1)) g) (max (c 3) ((i : Int) + 1), k')) := fun i i12 hi k' F ek => by
      have lH := zt_r_l la W.2.1.1
      have hsz : max (c 3) ((i : Int) + 1) = c 3 ∧ (i : Int) < c 3 ∨ max (c 3) ((i : Int) + 1) = c 3 + 1 ∧ (i : Int) = c 3 := by
        rcases hi with q | q
        · exact Or.inr ⟨by rw [Int.max_eq_right (by omega)]; omega, q.2⟩
        · exact Or.inl ⟨Int.max_eq_left (by omega), q.2⟩
      refine ⟨?_, fun x1 x2 => ?_⟩
      · rw [qL0_nameHere_61, zm_e (zl_gF gL la 6 14), zm_e (zl_gR gL la 10), zt_U_he U, zm_e (zl_gI gL lH 0), zt_num U W.2.1, zm_e (zt_own (d := d) gL H w1 (by
          rcases hi with q | q
          · exact Or.inl ⟨q.1, q.2, i12⟩
          · exact Or.inr q)), zm_e (zl_gF (g := zt_nh a i (zt_key (zt_ls m wd)) (c 0) (max (c 3) ((i : Int) + 1)) g) gL la 6 14), zm_e (zl_gI (g := zt_nh a i (zt_key (zt_ls m wd)) (c 0) (max (c 3) ((i : Int) + 1)) g) gL l14 2)]
        have ez : zv_I (zt_nh a i (zt_key (zt_ls m wd)) (c 0) (max (c 3) ((i : Int) + 1)) g) (a + 14) 2 = max (c 3) ((i : Int) + 1) := zy_I _ _ _ _
        rw [ez]
      · obtain ⟨q, y1, Q, _⟩ := zc_C0_nameHere (d := d) hA la kb
        have eq := Option.some.inj (x1.symm.trans y1)
        subst eq
        obtain ⟨q', y2, F2, W'⟩ := zm_nameNow hM hc W D
        have eq' := Option.some.inj (x2.symm.trans y2)
        subst eq'
        dsimp only at W' Q
        have c3' : zv_I k' 348 3 = max (c 3) ((i : Int) + 1) := by
          rw [ek]
          unfold zm_u
          rw [if_neg (by omega), if_neg (by omega)]
          rcases hi with q | q
          · rw [if_pos (by omega)]
            show (if (3 : Nat) = 3 then c 3 + 1 else c 3) = _
            rw [if_pos rfl, Int.max_eq_right (by omega)]
            omega
          · rw [if_neg (by omega), Int.max_eq_left (by omega)]
        have co : ∀ x : Nat, x ≠ 3 → x ≠ 408 + 2 * i → x ≠ 409 + 2 * i → zv_I k' 348 x = c x := fun x h1 h2 h3 => by
          rw [ek]
          unfold zm_u
          rw [if_neg h3, if_neg h2]
          split
          · exact if_neg h1
          · rfl
        obtain ⟨H', kk⟩ := zt_H_name (c' := zv_I k' 348) H Q.2 W' hnw rfl rfl i12 hsz c3' (by
          rw [ek]
          unfold zm_u
          rw [if_neg (by omega), if_pos rfl]) (by
          rw [ek]
          unfold zm_u
          rw [if_pos rfl]) co
        refine ⟨zc_QX Q, kk, zm_F_s F rfl rfl, Or.inr ⟨?_, rfl⟩, H', ?_, ?_⟩
        · dsimp only
          rcases hsz with z | z <;> omega
        · dsimp only
          rw [co 1 (by decide) (by omega) (by omega), hc]
          omega
        · dsimp only
          rw [co 2 (by decide) (by omega) (by omega), hc]
          omega
    -- the end of the reference's
    have fin110 : ∀ (i : Nat) (k1 : zv_H), i < 12 → zm_F [348] [] k k1 → zv_I k1 348 0 = c 0 → ∃ k', L9_nameNow_110 (D + 2) 347 (zt_pkd (zt_ls m wd)) i k1 = some (some (zv_i (zv_I k1 348 3)), k') ∧ zm_F [348] [] k k' ∧ zv_I k' 348 = zm_u (zm_u (zv_I k1 348) (408 + 2 * i) (zt_pkd (zt_ls m wd))) (409 + 2 * i) (c 0) := fun i k1 i12 F1 e0 => by
      have M1 := zm_F_M F1 hM
      refine ⟨zv_sI (zv_sI k1 348 (408 + 2 * i) (zt_pkd (zt_ls m wd))) 348 (409 + 2 * i) (c 0), ?_, zm_F_I (zm_F_I F1 rfl _ _) rfl _ _, ?_⟩
      · rw [qL9_nameNow_110, zm_e (zm_f0 M1), zm_w (x := 2 * (i : Int)) (by omega), zm_w (x := 408 + 2 * (i : Int)) (by omega), zm_e (zm_wI M1 zm_l348 rfl (by omega) (by omega) _), show (408 + 2 * (i : Int)).toNat = 408 + 2 * i by omega, zm_e (zm_f0 (zm_M_sI M1)), zm_e (zm_here (zm_M_sI M1) _)]
        dsimp only
        have e0' : zv_I (zv_sI k1 348 (408 + 2 * i) (zt_pkd (zt_ls m wd))) 348 0 = c 0 := by
          rw [zy_In _ _ (fun q => absurd q.2 (by omega))]
          exact e0
        rw [e0', zm_w (x := 408 + 2 * (i : Int) + 1) (by omega), zm_e (zm_wI (zm_M_sI M1) zm_l348 rfl (by omega) (by omega) _), show (408 + 2 * (i : Int) + 1).toNat = 409 + 2 * i by omega, zm_e (zm_f0 (zm_M_sI (zm_M_sI M1))), zm_e (zm_aI (zm_M_sI (zm_M_sI M1)) zm_l348 rfl (by decide) (by decide))]
        rw [zy_In _ _ (fun q => absurd q.2 (show ¬ Int.toNat 3 = 409 + 2 * i by rw [show Int.toNat 3 = 3 from rfl]; omega)), zy_In _ _ (fun q => absurd q.2 (show ¬ Int.toNat 3 = 408 + 2 * i by rw [show Int.toNat 3 = 3 from rfl]; omega))]
        rfl
      · rw [zm_ss, zm_ss]
    have begin9 : ∀ {q' : Int × zv_H}, (if u' < 0 then (if c 3 = 12 then ((C9_refuse (D + 2) 347 3 k).bind fun q10 => (some (some (zv_i q10.1), q10.2) : zv_O)) else L9_nameNow_58 (D + 2) 347 (zt_pkd (zt_ls m wd)) u' k) else L9_nameNow_58 (D + 2) 347 (zt_pkd (zt_ls m wd)) u' k) = some (some (zv_i q'.1), q'.2) → C9_nameNow (D + 3) 347 k = some q' := fun {q'} hq => by
      refine lC9_nameNow (zm_ob hM) (Eq.trans ?_ hq)
      rw [qE9_nameNow, zm_e (zm_gI hM 19), h19, zm_e ei]
      dsimp only
      rw [if_neg (by decide), zm_e (zm_f17 hM), zm_e (zm_gI hM 19), h19, zm_e ep]
      dsimp only
      rw [zm_e e2]
      dsimp only
      rw [zm_e (zm_f0 hM), zm_e r3]
    have begin0 : ∀ {q : Int × zv_H}, (if u' = -1 then (if c 3 < 12 then L0_nameHere_35 (d + 2) a (zt_key (zt_ls m wd)) u' g else some (some (zv_i (-3)), g)) else L0_nameHere_35 (d + 2) a (zt_key (zt_ls m wd)) u' g) = some (some (zv_i q.1), q.2) → C0_nameHere (d + 3) a (zt_key (zt_ls m wd)) g = some q := fun {q} hq => by
      refine lC0_nameHere (zl_ob gL la) (Eq.trans ?_ hq)
      rw [qE0_nameHere, if_neg k0, zm_e (zl_gF gL la 6 14), zm_e e1]
      dsimp only
      rw [zm_e (zl_gF gL la 6 14), zm_e (zl_gI gL l14 2), zt_N_sz N]
    rcases w1 with ⟨a1, a2⟩ | ⟨j, a1, a2, a3, a4⟩
    · by_cases full : c 3 = 12
      · refine ⟨(-3, g), (-1, zv_sI k 347 3 3), begin0 ?_, begin9 ?_, zt_Z_rf (by decide) hA H hc (by decide) 3⟩
        · rw [if_pos a1, if_neg (by omega)]
        · rw [if_pos (by omega), if_pos full, zm_e (zm_refuse hM _ 3)]
      · obtain ⟨n3, e3⟩ : ∃ n3 : Nat, c 3 = n3 := ⟨(c 3).toNat, by omega⟩
        have F1 : zm_F [348] [] k (zv_sI k 348 3 (c 3 + 1)) := zm_F_I (zm_F_r _ _ k) rfl _ _
        obtain ⟨k', f1, f2, f3⟩ := fin110 n3 (zv_sI k 348 3 (c 3 + 1)) (by omega) F1 (by
          rw [zy_In _ _ (fun q => absurd q.2 (by decide)), hc])
        have f3' : zv_I k' 348 = zm_u (zm_u (if u' < 0 then zm_u c 3 (c 3 + 1) else c) (408 + 2 * n3) (zt_pkd (zt_ls m wd))) (409 + 2 * n3) (c 0) := by
          rw [f3, zm_ss, hc, if_pos (by omega)]
        obtain ⟨x1, x2⟩ := go n3 (by omega) (Or.inl ⟨a1, e3.symm⟩) k' f2 f3'
        have mx : max (c 3) ((n3 : Int) + 1) = c 3 + 1 := by rw [Int.max_eq_right (by omega)]; omega
        have y1 : C0_nameHere (d + 3) a (zt_key (zt_ls m wd)) g = some (max (c 3) ((n3 : Int) + 1), zt_nh a n3 (zt_key (zt_ls m wd)) (c 0) (max (c 3) ((n3 : Int) + 1)) g) := begin0 (by
          rw [if_pos a1, if_pos (by omega), qL0_nameHere_35, if_pos a1]
          exact x1)
        have y2 : C9_nameNow (D + 3) 347 k = some (max (c 3) ((n3 : Int) + 1), k') := begin9 (by
          rw [if_pos (by omega), if_neg full, qL9_nameNow_58, if_pos (by omega), qL9_nameNow_89, if_pos (by omega), zm_e (zm_f0 hM), zm_e r3, zm_e (zm_f0 hM), zm_e r3, zm_w (by omega), zm_e (zm_wI hM zm_l348 rfl (by decide) (by decide) _), show Int.toNat 3 = 3 from rfl, mx]
          rw [zy_I] at f1
          rw [e3] at f1 ⊢
          exact f1)
        exact ⟨_, _, y1, y2, x2 y1 y2⟩
    · have j12 : j < 12 := by omega
      have rj : zv_aI k 348 (zv_w (zv_w (408 + zv_w (2 * u')) + 1)) = some (c (409 + 2 * j)) := by
        rw [a1, zm_w (x := 2 * (j : Int)) (by omega), zm_w (x := 408 + 2 * (j : Int)) (by omega), zm_w (by omega), zm_aI hM zm_l348 rfl (by omega) (by omega), show (408 + 2 * (j : Int) + 1).toNat = 409 + 2 * j by omega, hc]
      have lH := zt_r_l la W.2.1.1
      by_cases own : c (409 + 2 * j) = c 0
      · refine ⟨(-4, g), (-1, zv_sI k 347 3 4), begin0 ?_, begin9 ?_, zt_Z_rf (by decide) hA H hc (by decide) 4⟩
        · rw [if_neg (by omega), qL0_nameHere_35, if_neg (by omega), zm_e (zl_gF gL la 6 14), a1, zm_e (zt_ownerAt gL H a2)]
          dsimp only
          rw [zm_e (zl_gR gL la 10), zt_U_he U, zm_e (zl_gI gL lH 0), zt_num U W.2.1, if_pos own]
        · rw [if_neg (by omega), qL9_nameNow_58, if_neg (by omega), zm_e (zm_f0 hM), zm_e rj, zm_e (zm_here hM _), hc]
          dsimp only
          rw [if_pos own, zm_e (zm_refuse hM _ 4)]
      · obtain ⟨k', f1, f2, f3⟩ := fin110 j k j12 (zm_F_r _ _ k) (by rw [hc])
        have f3' : zv_I k' 348 = zm_u (zm_u (if u' < 0 then zm_u c 3 (c 3 + 1) else c) (408 + 2 * j) (zt_pkd (zt_ls m wd))) (409 + 2 * j) (c 0) := by
          rw [f3, hc, if_neg (by omega)]
        obtain ⟨x1, x2⟩ := go j j12 (Or.inr ⟨a1, a2⟩) k' f2 f3'
        have mx : max (c 3) ((j : Int) + 1) = c 3 := Int.max_eq_left (by omega)
        have y1 : C0_nameHere (d + 3) a (zt_key (zt_ls m wd)) g = some (max (c 3) ((j : Int) + 1), zt_nh a j (zt_key (zt_ls m wd)) (c 0) (max (c 3) ((j : Int) + 1)) g) := begin0 (by
          rw [if_neg (by omega), qL0_nameHere_35, if_neg (by omega), zm_e (zl_gF gL la 6 14), a1, zm_e (zt_ownerAt gL H a2)]
          dsimp only
          rw [zm_e (zl_gR gL la 10), zt_U_he U, zm_e (zl_gI gL lH 0), zt_num U W.2.1, if_neg own]
          exact x1)
        have y2 : C9_nameNow (D + 3) 347 k = some (max (c 3) ((j : Int) + 1), k') := begin9 (by
          rw [if_neg (by omega), qL9_nameNow_58, if_neg (by omega), zm_e (zm_f0 hM), zm_e rj, zm_e (zm_here hM _), hc]
          dsimp only
          rw [if_neg own, qL9_nameNow_89, if_neg (by omega), a1, f1, hc, mx])
        exact ⟨_, _, y1, y2, x2 y1 y2⟩
  · rw [if_neg c6]
    rw [if_neg (show ¬ ((1 : Int) ≤ (m : Int) ∧ (m : Int) ≤ 6) by omega)] at ei
    refine ⟨(-1, g), (-1, zv_sI k 347 3 1), lC0_nameHere (zl_ob gL la) ?_, lC9_nameNow (zm_ob hM) ?_, zt_Z_rf (by decide) hA H hc (by decide) 1⟩
    · rw [qE0_nameHere, if_pos rfl]
    · rw [qE9_nameNow, zm_e (zm_gI hM 19), h19, zm_e ei]
      dsimp only
      rw [if_pos rfl, zm_e (zm_refuse hM _ 1)]
