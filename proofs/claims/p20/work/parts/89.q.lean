theorem zc_tm {x n : Int} (hx : zv_rg x) (hn : 0 < n ∧ n < 1000 := by decide) : zv_rg (x.tmod n) := by
  unfold zv_rg at *
  by_cases h : 0 ≤ x
  · have := zm_tmod (n := n) h hn.1
    omega
  · have e : x.tmod n = -((-x).tmod n) := by rw [Int.neg_tmod, Int.neg_neg]
    have := zm_tmod (x := -x) (n := n) (by omega) hn.1
    rw [e]
    omega
theorem zc_E4_id {d : Nat} {h : zv_H} {a0 : Int} {a1 : Int} (hA : zc_A h) (h_a0 : zv_rg a0) (h_a1 : zv_rg a1) : zm_R (E4_id (d + 0) a0 a1 h) (zm_I fun v h' => h' = h ∧ zv_rg v ∧ True) := by
  have F0 := zc_Q_r hA
  rw [qE4_id]
  refine zm_if (fun c1 => ?_) (fun c1 => ?_)
  · exact zm_iI ⟨rfl, h_a1, trivial⟩
  · exact zm_iI ⟨rfl, (zc_w _), trivial⟩
theorem zc_C4_id {d : Nat} {h : zv_H} {a0 : Int} {a1 : Int} (hA : zc_A h) (h_a0 : zv_rg a0) (h_a1 : zv_rg a1) : zm_R (C4_id (d + 1) a0 a1 h) (fun q => q.2 = h ∧ zv_rg q.1 ∧ True) := zm_cI (fun e => lC4_id e) (zc_E4_id hA h_a0 h_a1)
theorem zc_E4_putter {d : Nat} {h : zv_H} {a0 : Int} (hA : zc_A h) (h_a0 : zv_rg a0) : zm_R (E4_putter (d + 0) a0 h) (zm_I fun v h' => h' = h ∧ zv_rg v ∧ True) := by
  have F0 := zc_Q_r hA
  rw [qE4_putter]
  refine zm_if (fun c1 => ?_) (fun c1 => ?_)
  · exact zm_iI ⟨rfl, (by unfold zv_rg; omega), trivial⟩
  · exact zm_iI ⟨rfl, (zc_w _), trivial⟩
theorem zc_C4_putter {d : Nat} {h : zv_H} {a0 : Int} (hA : zc_A h) (h_a0 : zv_rg a0) : zm_R (C4_putter (d + 1) a0 h) (fun q => q.2 = h ∧ zv_rg q.1 ∧ True) := zm_cI (fun e => lC4_putter e) (zc_E4_putter hA h_a0)
theorem zc_E4_order {d : Nat} {h : zv_H} {a0 : Int} (hA : zc_A h) (h_a0 : zv_rg a0) : zm_R (E4_order (d + 0) a0 h) (zm_I fun v h' => h' = h ∧ zv_rg v ∧ True) := by
  have F0 := zc_Q_r hA
  rw [qE4_order]
  refine zm_if (fun c1 => ?_) (fun c1 => ?_)
  · exact zm_iI ⟨rfl, h_a0, trivial⟩
  · exact zm_iI ⟨rfl, (zc_tm (zc_w _)), trivial⟩
theorem zc_C4_order {d : Nat} {h : zv_H} {a0 : Int} (hA : zc_A h) (h_a0 : zv_rg a0) : zm_R (C4_order (d + 1) a0 h) (fun q => q.2 = h ∧ zv_rg q.1 ∧ True) := zm_cI (fun e => lC4_order e) (zc_E4_order hA h_a0)
theorem zc_E4_isId {d : Nat} {h : zv_H} {a0 : Int} (hA : zc_A h) (h_a0 : zv_rg a0) : zm_R (E4_isId (d + 0) a0 h) (zm_I fun v h' => h' = h ∧ zv_rg v ∧ ((v = 0 ∨ (v = 1 ∧ 0 ≤ a0 ∧ a0 < 604)))) := by
  have F0 := zc_Q_r hA
  rw [qE4_isId]
  refine zm_if (fun c1 => ?_) (fun c1 => ?_)
  · exact zm_iI ⟨rfl, (by unfold zv_rg; omega), by omega⟩
  · refine zm_if (fun c2 => ?_) (fun c2 => ?_)
    · exact zm_iI ⟨rfl, (by unfold zv_rg; omega), by omega⟩
    · exact zm_iI ⟨rfl, (by unfold zv_rg; omega), by omega⟩
theorem zc_C4_isId {d : Nat} {h : zv_H} {a0 : Int} (hA : zc_A h) (h_a0 : zv_rg a0) : zm_R (C4_isId (d + 1) a0 h) (fun q => q.2 = h ∧ zv_rg q.1 ∧ ((q.1 = 0 ∨ (q.1 = 1 ∧ 0 ≤ a0 ∧ a0 < 604)))) := zm_cI (fun e => lC4_isId e) (zc_E4_isId hA h_a0)
theorem zc_E4_numberAt {d : Nat} {h : zv_H} {a0 : Nat} {a1 : Int} (hA : zc_A h) (h_a0 : zv_lay a0 = (1, 4)) (h_a1 : zv_rg a1) : zm_R (E4_numberAt (d + 0) a0 a1 h) (zm_I fun v h' => h' = h ∧ zv_rg v ∧ True) := by
  have F0 := zc_Q_r hA
  rw [qE4_numberAt]
  refine zm_if (fun c1 => ?_) (fun c1 => ?_)
  · exact zm_iI ⟨rfl, (by unfold zv_rg; omega), trivial⟩
  · refine zc_rI F0 h_a0 fun v1 e_v1 r_v1 => ?_
    have b_v1 := zc_bdv (k := 5) (m := 48) F0 h_a0 rfl
    rw [← e_v1] at b_v1
    refine zm_if (fun c2 => ?_) (fun c2 => ?_)
    · refine zm_if (fun c3 => ?_) (fun c3 => ?_)
      · refine zc_rF F0 1 h_a0 ?_
        refine zc_rQ F0 h_a0 (by omega) (by omega) ?_
        refine zm_if (fun c4 => ?_) (fun c4 => ?_)
        · exact zm_iI ⟨rfl, (by unfold zv_rg; omega), trivial⟩
        · refine zc_rF F0 1 h_a0 ?_
          refine zc_rQ F0 h_a0 (by omega) (by omega) ?_
          refine zc_rT F0 ((zc_pa F0 h_a0 (a1).toNat).resolve_left c4) fun v6 e_v6 r_v6 => ?_
          exact zm_iI ⟨rfl, r_v6, trivial⟩
      · exact zm_iI ⟨rfl, (by unfold zv_rg; omega), trivial⟩
    · exact zm_iI ⟨rfl, (by unfold zv_rg; omega), trivial⟩
theorem zc_C4_numberAt {d : Nat} {h : zv_H} {a0 : Nat} {a1 : Int} (hA : zc_A h) (h_a0 : zv_lay a0 = (1, 4)) (h_a1 : zv_rg a1) : zm_R (C4_numberAt (d + 1) a0 a1 h) (fun q => q.2 = h ∧ zv_rg q.1 ∧ True) := zm_cI (fun e => lC4_numberAt (zc_ob hA h_a0) e) (zc_E4_numberAt hA h_a0 h_a1)
theorem zc_E4_idAt {d : Nat} {h : zv_H} {a0 : Nat} {a1 : Int} (hA : zc_A h) (h_a0 : zv_lay a0 = (1, 4)) (h_a1 : zv_rg a1) : zm_R (E4_idAt (d + 0) a0 a1 h) (zm_I fun v h' => h' = h ∧ zv_rg v ∧ True) := by
  have F0 := zc_Q_r hA
  rw [qE4_idAt]
  refine zm_if (fun c1 => ?_) (fun c1 => ?_)
  · exact zm_iI ⟨rfl, (by unfold zv_rg; omega), trivial⟩
  · refine zc_rI F0 h_a0 fun v1 e_v1 r_v1 => ?_
    refine zm_if (fun c2 => ?_) (fun c2 => ?_)
    · refine zm_if (fun c3 => ?_) (fun c3 => ?_)
      · refine zc_rF F0 2 h_a0 ?_
        refine zc_rA F0 (zc_y4_1 h_a0).1 (zc_y4_1 h_a0).2 (by omega) (by omega) fun v3 r_v3 => ?_
        exact zm_iI ⟨rfl, r_v3, trivial⟩
      · exact zm_iI ⟨rfl, (by unfold zv_rg; omega), trivial⟩
    · exact zm_iI ⟨rfl, (by unfold zv_rg; omega), trivial⟩
theorem zc_C4_idAt {d : Nat} {h : zv_H} {a0 : Nat} {a1 : Int} (hA : zc_A h) (h_a0 : zv_lay a0 = (1, 4)) (h_a1 : zv_rg a1) : zm_R (C4_idAt (d + 1) a0 a1 h) (fun q => q.2 = h ∧ zv_rg q.1 ∧ True) := zm_cI (fun e => lC4_idAt (zc_ob hA h_a0) e) (zc_E4_idAt hA h_a0 h_a1)
theorem zc_E4_seesAt {d : Nat} {h : zv_H} {a0 : Nat} {a1 : Int} (hA : zc_A h) (h_a0 : zv_lay a0 = (1, 4)) (h_a1 : zv_rg a1) : zm_R (E4_seesAt (d + 0) a0 a1 h) (zm_I fun v h' => h' = h ∧ zv_rg v ∧ True) := by
  have F0 := zc_Q_r hA
  rw [qE4_seesAt]
  refine zm_if (fun c1 => ?_) (fun c1 => ?_)
  · exact zm_iI ⟨rfl, (by unfold zv_rg; omega), trivial⟩
  · refine zc_rI F0 h_a0 fun v1 e_v1 r_v1 => ?_
    refine zm_if (fun c2 => ?_) (fun c2 => ?_)
    · refine zm_if (fun c3 => ?_) (fun c3 => ?_)
      · refine zc_rF F0 3 h_a0 ?_
        refine zc_rB F0 (zc_y4_2 h_a0).1 (zc_y4_2 h_a0).2 (by omega) (by omega) fun v3 r_v3 => ?_
        refine zm_if (fun c4 => ?_) (fun c4 => ?_)
        · exact zm_iI ⟨rfl, (by unfold zv_rg; omega), trivial⟩
        · exact zm_iI ⟨rfl, (by unfold zv_rg; omega), trivial⟩
      · exact zm_iI ⟨rfl, (by unfold zv_rg; omega), trivial⟩
    · exact zm_iI ⟨rfl, (by unfold zv_rg; omega), trivial⟩
theorem zc_C4_seesAt {d : Nat} {h : zv_H} {a0 : Nat} {a1 : Int} (hA : zc_A h) (h_a0 : zv_lay a0 = (1, 4)) (h_a1 : zv_rg a1) : zm_R (C4_seesAt (d + 1) a0 a1 h) (fun q => q.2 = h ∧ zv_rg q.1 ∧ True) := zm_cI (fun e => lC4_seesAt (zc_ob hA h_a0) e) (zc_E4_seesAt hA h_a0 h_a1)
theorem zc_L4_placeOf_2 {d : Nat} {h0 : zv_H} (hA : zc_A h0) (N_L4_placeOf_2 : Nat) : ∀ {a0 : Nat} {a1 : Int} {a2 : Int}, (zv_lay a0 = (1, 4)) → (zv_rg a1) → (0 ≤ a2 ∧ zv_rg a2) → (2147483647 - a2).toNat = N_L4_placeOf_2 → zm_R (L4_placeOf_2 (d + 1) a0 a1 a2 h0) (zm_I fun v h' => h' = h0 ∧ zv_rg v ∧ (v < 2147483647)) := by
  induction N_L4_placeOf_2 using Nat.strongRecOn with
  | _ N_L4_placeOf_2 ih_L4_placeOf_2 =>
    intro a0 a1 a2 h_a0 h_a1 h_a2 eN
    rw [qL4_placeOf_2]
    have z_a2 := h_a2.1
    refine zc_rI (zc_Q_r hA) h_a0 fun v1 e_v1 r_v1 => ?_
    refine zm_if (fun c1 => ?_) (fun c1 => ?_)
    · refine zm_if (fun c2 => ?_) (fun c2 => ?_)
      · exact ih_L4_placeOf_2 _ (by rw [← eN]; exact zc_up h_a2.2 r_v1 c1) h_a0 h_a1 ⟨by rw [zc_up1 h_a2.2 r_v1 c1]; omega, zc_w _⟩  rfl
      · refine zc_pI (K := fun v => True) (zc_C4_idAt (zc_Q_r hA).2 h_a0 h_a2.2) fun q2v r_q2 k_q2 => ?_
        dsimp only
        refine zm_if (fun c4 => ?_) (fun c4 => ?_)
        · exact zm_iI ⟨rfl, h_a2.2, (by unfold zv_rg at *; omega)⟩
        · exact ih_L4_placeOf_2 _ (by rw [← eN]; exact zc_up h_a2.2 r_v1 c1) h_a0 h_a1 ⟨by rw [zc_up1 h_a2.2 r_v1 c1]; omega, zc_w _⟩  rfl
    · exact zm_iI ⟨rfl, (by unfold zv_rg; omega), (by unfold zv_rg at *; omega)⟩
theorem zc_E4_placeOf {d : Nat} {h : zv_H} {a0 : Nat} {a1 : Int} (hA : zc_A h) (h_a0 : zv_lay a0 = (1, 4)) (h_a1 : zv_rg a1) : zm_R (E4_placeOf (d + 1) a0 a1 h) (zm_I fun v h' => h' = h ∧ zv_rg v ∧ (v < 2147483647)) := by
  have F0 := zc_Q_r hA
  rw [qE4_placeOf]
  exact zc_L4_placeOf_2 hA  _ h_a0 h_a1 ⟨by omega, (by unfold zv_rg; omega)⟩  rfl
theorem zc_C4_placeOf {d : Nat} {h : zv_H} {a0 : Nat} {a1 : Int} (hA : zc_A h) (h_a0 : zv_lay a0 = (1, 4)) (h_a1 : zv_rg a1) : zm_R (C4_placeOf (d + 2) a0 a1 h) (fun q => q.2 = h ∧ zv_rg q.1 ∧ (q.1 < 2147483647)) := zm_cI (fun e => lC4_placeOf (zc_ob hA h_a0) e) (zc_E4_placeOf hA h_a0 h_a1)
theorem zc_E4_outOfForce {d : Nat} {h : zv_H} {a0 : Nat} (hA : zc_A h) (h_a0 : zv_lay a0 = (1, 4)) : zm_R (E4_outOfForce (d + 0) a0 h) (zm_J fun _ h' => h' = h) := by
  have F0 := zc_Q_r hA
  rw [qE4_outOfForce]
  refine zc_rJ F0 h_a0 fun v1 => ?_
  refine zc_rJ F0 h_a0 fun v2 => ?_
  exact zm_iJ rfl
theorem zc_C4_outOfForce {d : Nat} {h : zv_H} {a0 : Nat} (hA : zc_A h) (h_a0 : zv_lay a0 = (1, 4)) : zm_R (C4_outOfForce (d + 1) a0 h) (fun q => q.2 = h) := zm_cJ (fun e => lC4_outOfForce (zc_ob hA h_a0) e) (zc_E4_outOfForce hA h_a0)
theorem zc_L4_walk_28 {d : Nat} {h0 : zv_H} (N_L4_walk_28 : Nat) : ∀ {h : zv_H} {a0 : Nat} {a2 : Int64} {a4 : Int64} {a6 : Nat}, zc_Q h0 h → (zv_lay a0 = (1, 4)) → (a6 = 0 ∨ zc_V h0 a6) → zc_dm h0 a6 = N_L4_walk_28 → zm_R (L4_walk_28 (d + 1) a0 a2 a4 a6 h) (zm_V fun h' => zc_Q h0 h') := by
  induction N_L4_walk_28 using Nat.strongRecOn with
  | _ N_L4_walk_28 ih_L4_walk_28 =>
    intro h a0 a2 a4 a6 F0 h_a0 h_a6 eN
    rw [qL4_walk_28]
    refine zm_if (fun c1 => ?_) (fun c1 => ?_)
    · refine zc_rJ F0 h_a0 fun v1 => ?_
      refine zc_wJ F0 h_a0 (zc_lt h_a0 (by decide)) fun g2 F2 => ?_
      exact zm_iV F2
    · refine zc_rT F0 (h_a6.resolve_left c1).1 fun v3 e_v3 r_v3 => ?_
      have d_v3 := (zc_dep F0 (h_a6.resolve_left c1)).1
      rw [← e_v3] at d_v3
      refine zm_if (fun c3 => ?_) (fun c3 => ?_)
      · rw [qL4_walk_63]
        refine zc_pI (K := fun v => True) (zc_C5_edits F0.2 (h_a6.resolve_left c1).1) fun q1v r_q1 k_q1 => ?_
        dsimp only
        refine zm_if (fun c5 => ?_) (fun c5 => ?_)
        · rw [qL4_walk_85]
          refine zc_rI F0 (h_a6.resolve_left c1).1 fun v1x1 e_v1x1 r_v1x1 => ?_
          refine zm_if (fun c6 => ?_) (fun c6 => ?_)
          · refine zc_rJ F0 (h_a6.resolve_left c1).1 fun v2 => ?_
            refine zc_rJ F0 (h_a6.resolve_left c1).1 fun v3x1 => ?_
            refine zc_rR5 F0 (h_a6.resolve_left c1).1 ?_
            exact ih_L4_walk_28 _ (by rw [← eN]; exact zc_dmP F0 (h_a6.resolve_left c1)) F0 h_a0 (zc_pV F0 (h_a6.resolve_left c1))  rfl
          · refine zc_rJ F0 (h_a6.resolve_left c1).1 fun v5 => ?_
            refine zc_rR5 F0 (h_a6.resolve_left c1).1 ?_
            exact ih_L4_walk_28 _ (by rw [← eN]; exact zc_dmP F0 (h_a6.resolve_left c1)) F0 h_a0 (zc_pV F0 (h_a6.resolve_left c1))  rfl
        · refine zc_rJ F0 h_a0 fun v2x1 => ?_
          refine zc_pJ (zc_C5_bit F0.2 (h_a6.resolve_left c1).1) fun q3v => ?_
          dsimp only
          refine zc_wJ F0 h_a0 (zc_lt h_a0 (by decide)) fun g4 F8 => ?_
          rw [qL4_walk_85]
          refine zc_rI F8 (h_a6.resolve_left c1).1 fun v1x2 e_v1x2 r_v1x2 => ?_
          refine zm_if (fun c9 => ?_) (fun c9 => ?_)
          · refine zc_rJ F8 (h_a6.resolve_left c1).1 fun v2x2 => ?_
            refine zc_rJ F8 (h_a6.resolve_left c1).1 fun v3x2 => ?_
            refine zc_rR5 F8 (h_a6.resolve_left c1).1 ?_
            exact ih_L4_walk_28 _ (by rw [← eN]; exact zc_dmP F8 (h_a6.resolve_left c1)) F8 h_a0 (zc_pV F8 (h_a6.resolve_left c1))  rfl
          · refine zc_rJ F8 (h_a6.resolve_left c1).1 fun v5x1 => ?_
            refine zc_rR5 F8 (h_a6.resolve_left c1).1 ?_
            exact ih_L4_walk_28 _ (by rw [← eN]; exact zc_dmP F8 (h_a6.resolve_left c1)) F8 h_a0 (zc_pV F8 (h_a6.resolve_left c1))  rfl
      · refine zc_rT F0 (h_a6.resolve_left c1).1 fun v4x2 e_v4x2 r_v4x2 => ?_
        have d_v4x2 := (zc_dep F0 (h_a6.resolve_left c1)).1
        rw [← e_v4x2] at d_v4x2
        refine zm_if (fun c10 => ?_) (fun c10 => ?_)
        · refine zc_rF F0 1 h_a0 ?_
          refine zc_rT F0 (h_a6.resolve_left c1).1 fun v6x2 e_v6x2 r_v6x2 => ?_
          have d_v6x2 := (zc_dep F0 (h_a6.resolve_left c1)).1
          rw [← e_v6x2] at d_v6x2
          refine zc_wP F0 h_a0 (by omega) (by omega) (h_a6.resolve_left c1).1 fun g7 F11 => ?_
          rw [qL4_walk_63]
          refine zc_pI (K := fun v => True) (zc_C5_edits F11.2 (h_a6.resolve_left c1).1) fun q1x1v r_q1x1 k_q1x1 => ?_
          dsimp only
          refine zm_if (fun c13 => ?_) (fun c13 => ?_)
          · rw [qL4_walk_85]
            refine zc_rI F11 (h_a6.resolve_left c1).1 fun v1x3 e_v1x3 r_v1x3 => ?_
            refine zm_if (fun c14 => ?_) (fun c14 => ?_)
            · refine zc_rJ F11 (h_a6.resolve_left c1).1 fun v2x3 => ?_
              refine zc_rJ F11 (h_a6.resolve_left c1).1 fun v3x3 => ?_
              refine zc_rR5 F11 (h_a6.resolve_left c1).1 ?_
              exact ih_L4_walk_28 _ (by rw [← eN]; exact zc_dmP F11 (h_a6.resolve_left c1)) F11 h_a0 (zc_pV F11 (h_a6.resolve_left c1))  rfl
            · refine zc_rJ F11 (h_a6.resolve_left c1).1 fun v5x3 => ?_
              refine zc_rR5 F11 (h_a6.resolve_left c1).1 ?_
              exact ih_L4_walk_28 _ (by rw [← eN]; exact zc_dmP F11 (h_a6.resolve_left c1)) F11 h_a0 (zc_pV F11 (h_a6.resolve_left c1))  rfl
          · refine zc_rJ F11 h_a0 fun v2x4 => ?_
            refine zc_pJ (zc_C5_bit F11.2 (h_a6.resolve_left c1).1) fun q3x1v => ?_
            dsimp only
            refine zc_wJ F11 h_a0 (zc_lt h_a0 (by decide)) fun g4x1 F16 => ?_
            rw [qL4_walk_85]
            refine zc_rI F16 (h_a6.resolve_left c1).1 fun v1x4 e_v1x4 r_v1x4 => ?_
            refine zm_if (fun c17 => ?_) (fun c17 => ?_)
            · refine zc_rJ F16 (h_a6.resolve_left c1).1 fun v2x5 => ?_
              refine zc_rJ F16 (h_a6.resolve_left c1).1 fun v3x4 => ?_
              refine zc_rR5 F16 (h_a6.resolve_left c1).1 ?_
              exact ih_L4_walk_28 _ (by rw [← eN]; exact zc_dmP F16 (h_a6.resolve_left c1)) F16 h_a0 (zc_pV F16 (h_a6.resolve_left c1))  rfl
            · refine zc_rJ F16 (h_a6.resolve_left c1).1 fun v5x4 => ?_
              refine zc_rR5 F16 (h_a6.resolve_left c1).1 ?_
              exact ih_L4_walk_28 _ (by rw [← eN]; exact zc_dmP F16 (h_a6.resolve_left c1)) F16 h_a0 (zc_pV F16 (h_a6.resolve_left c1))  rfl
        · rw [qL4_walk_63]
          refine zc_pI (K := fun v => True) (zc_C5_edits F0.2 (h_a6.resolve_left c1).1) fun q1x2v r_q1x2 k_q1x2 => ?_
          dsimp only
          refine zm_if (fun c19 => ?_) (fun c19 => ?_)
          · rw [qL4_walk_85]
            refine zc_rI F0 (h_a6.resolve_left c1).1 fun v1x5 e_v1x5 r_v1x5 => ?_
            refine zm_if (fun c20 => ?_) (fun c20 => ?_)
            · refine zc_rJ F0 (h_a6.resolve_left c1).1 fun v2x6 => ?_
              refine zc_rJ F0 (h_a6.resolve_left c1).1 fun v3x5 => ?_
              refine zc_rR5 F0 (h_a6.resolve_left c1).1 ?_
              exact ih_L4_walk_28 _ (by rw [← eN]; exact zc_dmP F0 (h_a6.resolve_left c1)) F0 h_a0 (zc_pV F0 (h_a6.resolve_left c1))  rfl
            · refine zc_rJ F0 (h_a6.resolve_left c1).1 fun v5x5 => ?_
              refine zc_rR5 F0 (h_a6.resolve_left c1).1 ?_
              exact ih_L4_walk_28 _ (by rw [← eN]; exact zc_dmP F0 (h_a6.resolve_left c1)) F0 h_a0 (zc_pV F0 (h_a6.resolve_left c1))  rfl
          · refine zc_rJ F0 h_a0 fun v2x7 => ?_
            refine zc_pJ (zc_C5_bit F0.2 (h_a6.resolve_left c1).1) fun q3x2v => ?_
            dsimp only
            refine zc_wJ F0 h_a0 (zc_lt h_a0 (by decide)) fun g4x2 F22 => ?_
            rw [qL4_walk_85]
            refine zc_rI F22 (h_a6.resolve_left c1).1 fun v1x6 e_v1x6 r_v1x6 => ?_
            refine zm_if (fun c23 => ?_) (fun c23 => ?_)
            · refine zc_rJ F22 (h_a6.resolve_left c1).1 fun v2x8 => ?_
              refine zc_rJ F22 (h_a6.resolve_left c1).1 fun v3x6 => ?_
              refine zc_rR5 F22 (h_a6.resolve_left c1).1 ?_
              exact ih_L4_walk_28 _ (by rw [← eN]; exact zc_dmP F22 (h_a6.resolve_left c1)) F22 h_a0 (zc_pV F22 (h_a6.resolve_left c1))  rfl
            · refine zc_rJ F22 (h_a6.resolve_left c1).1 fun v5x6 => ?_
              refine zc_rR5 F22 (h_a6.resolve_left c1).1 ?_
              exact ih_L4_walk_28 _ (by rw [← eN]; exact zc_dmP F22 (h_a6.resolve_left c1)) F22 h_a0 (zc_pV F22 (h_a6.resolve_left c1))  rfl
theorem zc_E4_walk {d : Nat} {h : zv_H} {a0 : Nat} {a1 : Nat} (hA : zc_A h) (h_a0 : zv_lay a0 = (1, 4)) (h_a1 : zc_V h a1) : zm_R (E4_walk (d + 1) a0 a1 h) (zm_V fun h' => zc_Q h h') := by
  have F0 := zc_Q_r hA
  rw [qE4_walk]
  refine zc_wJ F0 h_a0 (zc_lt h_a0 (by decide)) fun g1 F1 => ?_
  refine zc_rT F1 h_a1.1 fun v2 e_v2 r_v2 => ?_
  have d_v2 := (zc_dep F1 h_a1).1
  rw [← e_v2] at d_v2
  refine zc_wL (m := 48) F1 h_a0 rfl (by rw [zm_w (by omega)]; omega) (by rw [zm_w (by omega)]; omega) ?_ (fun _ => by decide)
  intro g3 F2
  exact zc_L4_walk_28  _ F2 h_a0 (Or.inr h_a1)  rfl
theorem zc_C4_walk {d : Nat} {h : zv_H} {a0 : Nat} {a1 : Nat} (hA : zc_A h) (h_a0 : zv_lay a0 = (1, 4)) (h_a1 : zc_V h a1) : zm_R (C4_walk (d + 2) a0 a1 h) (fun q => zc_Q h q) := zm_cV (fun e => lC4_walk (zc_ob hA h_a0) e) (zc_E4_walk hA h_a0 h_a1)
theorem zc_L4_link_31 {d : Nat} {h0 : zv_H} (N_L4_link_31 : Nat) : ∀ {h : zv_H} {a0 : Nat} {a1 : Nat} {a2 : Int} {a3 : Int} {a4 : Int}, zc_Q h0 h → (zv_lay a0 = (1, 4)) → (zv_lay a1 = (1, 5)) → ((0 ≤ a2 ∧ a2 < 605) ∧ zv_rg a2) → (zv_rg a3) → (0 ≤ a4 ∧ zv_rg a4) → (2147483647 - a4).toNat = N_L4_link_31 → zm_R (L4_link_31 (d + 1) a0 a1 a2 a3 a4 h) (zm_V fun h' => zc_Q h0 h') := by
  induction N_L4_link_31 using Nat.strongRecOn with
  | _ N_L4_link_31 ih_L4_link_31 =>
    intro h a0 a1 a2 a3 a4 F0 h_a0 h_a1 h_a2 h_a3 h_a4 eN
    rw [qL4_link_31]
    have z_a2 := h_a2.1
    have z_a4 := h_a4.1
    refine zc_rI F0 h_a1 fun v1 e_v1 r_v1 => ?_
    refine zm_if (fun c1 => ?_) (fun c1 => ?_)
    · refine zc_rT F0 h_a1 fun v2 e_v2 r_v2 => ?_
      refine zc_pI (K := fun v => True) (zc_C4_id F0.2 r_v2 h_a4.2) fun q3v r_q3 k_q3 => ?_
      dsimp only
      refine zc_pI (K := fun v => (v = 0 ∨ (v = 1 ∧ 0 ≤ q3v ∧ q3v < 604))) (zc_C4_isId F0.2 r_q3) fun q4v r_q4 k_q4 => ?_
      dsimp only
      refine zm_if (fun c4 => ?_) (fun c4 => ?_)
      · exact ih_L4_link_31 _ (by rw [← eN]; exact zc_up h_a4.2 r_v1 c1) F0 h_a0 h_a1 ⟨by unfold zv_rg at *; omega, h_a2.2⟩ h_a3 ⟨by rw [zc_up1 h_a4.2 r_v1 c1]; omega, zc_w _⟩  rfl
      · refine zc_rF F0 5 h_a0 ?_
        refine zc_wA F0 (zc_y4_4 h_a0).1 (zc_y4_4 h_a0).2 (by omega) (by omega) r_q3 fun g6 F5 u_g6 => ?_
        exact ih_L4_link_31 _ (by rw [← eN]; exact zc_up h_a4.2 r_v1 c1) F5 h_a0 h_a1 ⟨by unfold zv_rg at *; omega, r_q3⟩ h_a3 ⟨by rw [zc_up1 h_a4.2 r_v1 c1]; omega, zc_w _⟩  rfl
    · refine zc_rF F0 5 h_a0 ?_
      refine zc_wA F0 (zc_y4_4 h_a0).1 (zc_y4_4 h_a0).2 (by omega) (by omega) h_a3 fun g8 F6 u_g8 => ?_
      exact zm_iV F6
theorem zc_E4_link {d : Nat} {h : zv_H} {a0 : Nat} {a1 : Nat} (hA : zc_A h) (h_a0 : zv_lay a0 = (1, 4)) (h_a1 : zv_lay a1 = (1, 5)) : zm_R (E4_link (d + 1) a0 a1 h) (zm_V fun h' => zc_Q h h') := by
  have F0 := zc_Q_r hA
  rw [qE4_link]
  refine zc_rI F0 h_a1 fun v1 e_v1 r_v1 => ?_
  refine zc_pI (K := fun v => (v = 0 ∨ (v = 1 ∧ 0 ≤ v1 ∧ v1 < 604))) (zc_C4_isId F0.2 r_v1) fun q2v r_q2 k_q2 => ?_
  dsimp only
  refine zm_if (fun c2 => ?_) (fun c2 => ?_)
  · refine zc_rF F0 5 h_a0 ?_
    refine zc_rA F0 (zc_y4_4 h_a0).1 (zc_y4_4 h_a0).2 (by omega) (by omega) fun v4 r_v4 => ?_
    exact zc_L4_link_31  _ F0 h_a0 h_a1 ⟨by unfold zv_rg at *; omega, (by unfold zv_rg; omega)⟩ r_v4 ⟨by omega, (by unfold zv_rg; omega)⟩  rfl
  · refine zc_rI F0 h_a1 fun v5 e_v5 r_v5 => ?_
    refine zc_rF F0 5 h_a0 ?_
    refine zc_rA F0 (zc_y4_4 h_a0).1 (zc_y4_4 h_a0).2 (by omega) (by omega) fun v7 r_v7 => ?_
    exact zc_L4_link_31  _ F0 h_a0 h_a1 ⟨by unfold zv_rg at *; omega, r_v5⟩ r_v7 ⟨by omega, (by unfold zv_rg; omega)⟩  rfl
theorem zc_C4_link {d : Nat} {h : zv_H} {a0 : Nat} {a1 : Nat} (hA : zc_A h) (h_a0 : zv_lay a0 = (1, 4)) (h_a1 : zv_lay a1 = (1, 5)) : zm_R (C4_link (d + 2) a0 a1 h) (fun q => zc_Q h q) := zm_cV (fun e => lC4_link (zc_ob hA h_a0) e) (zc_E4_link hA h_a0 h_a1)
theorem zc_L4_look_43 {d : Nat} {h0 : zv_H} {N_L4_look_24 : Nat} (ih_L4_look_24 : ∀ m, m < N_L4_look_24 → ∀ {h : zv_H} {a0 : Nat} {a1 : Int64} {a3 : Int}, zc_Q h0 h → (zv_lay a0 = (1, 4)) → (0 ≤ a3 ∧ zv_rg a3) → (2147483647 - a3).toNat = m → zm_R (L4_look_24 (d + 1) a0 a1 a3 h) (zm_V fun h' => zc_Q h0 h')) (N_L4_look_43 : Nat) : ∀ {h : zv_H} {a0 : Nat} {a1 : Int64} {a3 : Int} {a4 : Nat} {a5 : Int}, zc_Q h0 h → (zv_lay a0 = (1, 4)) → (zv_rg a3) → (a4 = 0 ∨ zv_lay a4 = (1, 5)) → (0 ≤ a5 ∧ zv_rg a5) → ((2147483647 - (zv_w (a3 + 1))).toNat < N_L4_look_24 ∧ 0 ≤ (zv_w (a3 + 1))) → (2147483647 - a5).toNat = N_L4_look_43 → zm_R (L4_look_43 (d + 1) a0 a1 a3 a4 a5 h) (zm_V fun h' => zc_Q h0 h') := by
  induction N_L4_look_43 using Nat.strongRecOn with
  | _ N_L4_look_43 ih_L4_look_43 =>
    intro h a0 a1 a3 a4 a5 F0 h_a0 h_a3 h_a4 h_a5 hm_L4_look_24 eN
    rw [qL4_look_43]
    have z_a5 := h_a5.1
    refine zm_if (fun c1 => ?_) (fun c1 => ?_)
    · exact ih_L4_look_24 _ hm_L4_look_24.1 F0 h_a0 ⟨hm_L4_look_24.2, (zc_w _)⟩  rfl
    · refine zc_pJ (zc_C5_bit F0.2 (h_a4.resolve_left c1)) fun q1v => ?_
      dsimp only
      refine zm_if (fun c3 => ?_) (fun c3 => ?_)
      · exact ih_L4_look_24 _ hm_L4_look_24.1 F0 h_a0 ⟨hm_L4_look_24.2, (zc_w _)⟩  rfl
      · refine zc_rI F0 (h_a4.resolve_left c1) fun v2 e_v2 r_v2 => ?_
        refine zm_if (fun c4 => ?_) (fun c4 => ?_)
        · refine zc_pI (K := fun v => True) (zc_C5_tookAt F0.2 (h_a4.resolve_left c1) h_a5.2) fun q3v r_q3 k_q3 => ?_
          dsimp only
          refine zc_pI (K := fun v => (v = 0 ∨ (v = 1 ∧ 0 ≤ q3v ∧ q3v < 604))) (zc_C4_isId F0.2 r_q3) fun q4v r_q4 k_q4 => ?_
          dsimp only
          refine zm_if (fun c7 => ?_) (fun c7 => ?_)
          · exact ih_L4_look_43 _ (by rw [← eN]; exact zc_up h_a5.2 r_v2 c4) F0 h_a0 h_a3 (Or.inr (h_a4.resolve_left c1)) ⟨by rw [zc_up1 h_a5.2 r_v2 c4]; omega, zc_w _⟩ hm_L4_look_24 rfl
          · refine zc_rF F0 4 h_a0 ?_
            refine zc_wB F0 (zc_y4_3 h_a0).1 (zc_y4_3 h_a0).2 (by omega) (by omega) fun g6 F8 u_g6 => ?_
            exact ih_L4_look_43 _ (by rw [← eN]; exact zc_up h_a5.2 r_v2 c4) F8 h_a0 h_a3 (Or.inr (h_a4.resolve_left c1)) ⟨by rw [zc_up1 h_a5.2 r_v2 c4]; omega, zc_w _⟩ hm_L4_look_24 rfl
        · exact ih_L4_look_24 _ hm_L4_look_24.1 F0 h_a0 ⟨hm_L4_look_24.2, (zc_w _)⟩  rfl
theorem zc_L4_look_114 {d : Nat} {h0 : zv_H} (N_L4_look_114 : Nat) : ∀ {h : zv_H} {a0 : Nat} {a1 : Int64} {a3 : Int}, zc_Q h0 h → (zv_lay a0 = (1, 4)) → (0 ≤ a3 ∧ zv_rg a3) → (2147483647 - a3).toNat = N_L4_look_114 → zm_R (L4_look_114 (d + 1) a0 a1 a3 h) (zm_V fun h' => zc_Q h0 h') := by
  induction N_L4_look_114 using Nat.strongRecOn with
  | _ N_L4_look_114 ih_L4_look_114 =>
    intro h a0 a1 a3 F0 h_a0 h_a3 eN
    rw [qL4_look_114]
    have z_a3 := h_a3.1
    refine zc_rI F0 h_a0 fun v1 e_v1 r_v1 => ?_
    refine zm_if (fun c1 => ?_) (fun c1 => ?_)
    · refine zm_if (fun c2 => ?_) (fun c2 => ?_)
      · refine zc_rF F0 2 h_a0 ?_
        refine zc_rA F0 (zc_y4_1 h_a0).1 (zc_y4_1 h_a0).2 (by omega) (by omega) fun v3 r_v3 => ?_
        refine zc_pI (K := fun v => True) (zc_C4_putter F0.2 r_v3) fun q4v r_q4 k_q4 => ?_
        dsimp only
        refine zc_rF F0 3 h_a0 ?_
        refine zc_pI (K := fun v => (v = 0 ∨ (v = 1 ∧ 0 ≤ v3 ∧ v3 < 604))) (zc_C4_isId F0.2 r_v3) fun q6v r_q6 k_q6 => ?_
        dsimp only
        refine zm_if (fun c5 => ?_) (fun c5 => ?_)
        · rw [qL4_look_187]
          rw [qL4_look_188]
          refine zc_wB F0 (zc_y4_2 h_a0).1 (zc_y4_2 h_a0).2 (by omega) (by omega) fun g1 F6 u_g1 => ?_
          refine zc_rI F6 h_a0 fun v2x1 e_v2x1 r_v2x1 => ?_
          rw [u_g1 _ _ (by rw [h_a0])] at e_v2x1
          refine zc_rF F6 3 h_a0 ?_
          refine zc_rB F6 (zc_y4_2 h_a0).1 (zc_y4_2 h_a0).2 (by omega) (by omega) fun v4 r_v4 => ?_
          refine zm_if (fun c7 => ?_) (fun c7 => ?_)
          · refine zc_wO F6 h_a0 (zc_frO h_a0 (zc_lt h_a0 (by decide)) (by decide) rfl (by decide)) (zc_w _) fun g5 F8 => ?_
            exact ih_L4_look_114 _ (by rw [← eN]; exact zc_up h_a3.2 (by unfold zv_rg; omega) c2) F8 h_a0 ⟨by rw [zc_up1 h_a3.2 (by unfold zv_rg; omega) c2]; omega, zc_w _⟩  rfl
          · refine zc_wO F6 h_a0 (zc_frO h_a0 (zc_lt h_a0 (by decide)) (by decide) rfl (by decide)) (zc_w _) fun g6 F9 => ?_
            exact ih_L4_look_114 _ (by rw [← eN]; exact zc_up h_a3.2 (by unfold zv_rg; omega) c2) F9 h_a0 ⟨by rw [zc_up1 h_a3.2 (by unfold zv_rg; omega) c2]; omega, zc_w _⟩  rfl
        · refine zc_rF F0 4 h_a0 ?_
          refine zc_rB F0 (zc_y4_3 h_a0).1 (zc_y4_3 h_a0).2 (by omega) (by omega) fun v8 r_v8 => ?_
          refine zm_if (fun c10 => ?_) (fun c10 => ?_)
          · refine zm_if (fun c11 => ?_) (fun c11 => ?_)
            · rw [qL4_look_183]
              rw [qL4_look_188]
              refine zc_wB F0 (zc_y4_2 h_a0).1 (zc_y4_2 h_a0).2 (by omega) (by omega) fun g1x1 F12 u_g1x1 => ?_
              refine zc_rI F12 h_a0 fun v2x2 e_v2x2 r_v2x2 => ?_
              rw [u_g1x1 _ _ (by rw [h_a0])] at e_v2x2
              refine zc_rF F12 3 h_a0 ?_
              refine zc_rB F12 (zc_y4_2 h_a0).1 (zc_y4_2 h_a0).2 (by omega) (by omega) fun v4x1 r_v4x1 => ?_
              refine zm_if (fun c13 => ?_) (fun c13 => ?_)
              · refine zc_wO F12 h_a0 (zc_frO h_a0 (zc_lt h_a0 (by decide)) (by decide) rfl (by decide)) (zc_w _) fun g5x1 F14 => ?_
                exact ih_L4_look_114 _ (by rw [← eN]; exact zc_up h_a3.2 (by unfold zv_rg; omega) c2) F14 h_a0 ⟨by rw [zc_up1 h_a3.2 (by unfold zv_rg; omega) c2]; omega, zc_w _⟩  rfl
              · refine zc_wO F12 h_a0 (zc_frO h_a0 (zc_lt h_a0 (by decide)) (by decide) rfl (by decide)) (zc_w _) fun g6x1 F15 => ?_
                exact ih_L4_look_114 _ (by rw [← eN]; exact zc_up h_a3.2 (by unfold zv_rg; omega) c2) F15 h_a0 ⟨by rw [zc_up1 h_a3.2 (by unfold zv_rg; omega) c2]; omega, zc_w _⟩  rfl
            · refine zm_if (fun c16 => ?_) (fun c16 => ?_)
              · rw [qL4_look_187]
                rw [qL4_look_188]
                refine zc_wB F0 (zc_y4_2 h_a0).1 (zc_y4_2 h_a0).2 (by omega) (by omega) fun g1x2 F17 u_g1x2 => ?_
                refine zc_rI F17 h_a0 fun v2x3 e_v2x3 r_v2x3 => ?_
                rw [u_g1x2 _ _ (by rw [h_a0])] at e_v2x3
                refine zc_rF F17 3 h_a0 ?_
                refine zc_rB F17 (zc_y4_2 h_a0).1 (zc_y4_2 h_a0).2 (by omega) (by omega) fun v4x2 r_v4x2 => ?_
                refine zm_if (fun c18 => ?_) (fun c18 => ?_)
                · refine zc_wO F17 h_a0 (zc_frO h_a0 (zc_lt h_a0 (by decide)) (by decide) rfl (by decide)) (zc_w _) fun g5x2 F19 => ?_
                  exact ih_L4_look_114 _ (by rw [← eN]; exact zc_up h_a3.2 (by unfold zv_rg; omega) c2) F19 h_a0 ⟨by rw [zc_up1 h_a3.2 (by unfold zv_rg; omega) c2]; omega, zc_w _⟩  rfl
                · refine zc_wO F17 h_a0 (zc_frO h_a0 (zc_lt h_a0 (by decide)) (by decide) rfl (by decide)) (zc_w _) fun g6x2 F20 => ?_
                  exact ih_L4_look_114 _ (by rw [← eN]; exact zc_up h_a3.2 (by unfold zv_rg; omega) c2) F20 h_a0 ⟨by rw [zc_up1 h_a3.2 (by unfold zv_rg; omega) c2]; omega, zc_w _⟩  rfl
              · rw [qL4_look_183]
                rw [qL4_look_188]
                refine zc_wB F0 (zc_y4_2 h_a0).1 (zc_y4_2 h_a0).2 (by omega) (by omega) fun g1x3 F21 u_g1x3 => ?_
                refine zc_rI F21 h_a0 fun v2x4 e_v2x4 r_v2x4 => ?_
                rw [u_g1x3 _ _ (by rw [h_a0])] at e_v2x4
                refine zc_rF F21 3 h_a0 ?_
                refine zc_rB F21 (zc_y4_2 h_a0).1 (zc_y4_2 h_a0).2 (by omega) (by omega) fun v4x3 r_v4x3 => ?_
                refine zm_if (fun c22 => ?_) (fun c22 => ?_)
                · refine zc_wO F21 h_a0 (zc_frO h_a0 (zc_lt h_a0 (by decide)) (by decide) rfl (by decide)) (zc_w _) fun g5x3 F23 => ?_
                  exact ih_L4_look_114 _ (by rw [← eN]; exact zc_up h_a3.2 (by unfold zv_rg; omega) c2) F23 h_a0 ⟨by rw [zc_up1 h_a3.2 (by unfold zv_rg; omega) c2]; omega, zc_w _⟩  rfl
                · refine zc_wO F21 h_a0 (zc_frO h_a0 (zc_lt h_a0 (by decide)) (by decide) rfl (by decide)) (zc_w _) fun g6x3 F24 => ?_
                  exact ih_L4_look_114 _ (by rw [← eN]; exact zc_up h_a3.2 (by unfold zv_rg; omega) c2) F24 h_a0 ⟨by rw [zc_up1 h_a3.2 (by unfold zv_rg; omega) c2]; omega, zc_w _⟩  rfl
          · rw [qL4_look_187]
            rw [qL4_look_188]
            refine zc_wB F0 (zc_y4_2 h_a0).1 (zc_y4_2 h_a0).2 (by omega) (by omega) fun g1x4 F25 u_g1x4 => ?_
            refine zc_rI F25 h_a0 fun v2x5 e_v2x5 r_v2x5 => ?_
            rw [u_g1x4 _ _ (by rw [h_a0])] at e_v2x5
            refine zc_rF F25 3 h_a0 ?_
            refine zc_rB F25 (zc_y4_2 h_a0).1 (zc_y4_2 h_a0).2 (by omega) (by omega) fun v4x4 r_v4x4 => ?_
            refine zm_if (fun c26 => ?_) (fun c26 => ?_)
            · refine zc_wO F25 h_a0 (zc_frO h_a0 (zc_lt h_a0 (by decide)) (by decide) rfl (by decide)) (zc_w _) fun g5x4 F27 => ?_
              exact ih_L4_look_114 _ (by rw [← eN]; exact zc_up h_a3.2 (by unfold zv_rg; omega) c2) F27 h_a0 ⟨by rw [zc_up1 h_a3.2 (by unfold zv_rg; omega) c2]; omega, zc_w _⟩  rfl
            · refine zc_wO F25 h_a0 (zc_frO h_a0 (zc_lt h_a0 (by decide)) (by decide) rfl (by decide)) (zc_w _) fun g6x4 F28 => ?_
              exact ih_L4_look_114 _ (by rw [← eN]; exact zc_up h_a3.2 (by unfold zv_rg; omega) c2) F28 h_a0 ⟨by rw [zc_up1 h_a3.2 (by unfold zv_rg; omega) c2]; omega, zc_w _⟩  rfl
      · exact zm_iV F0
    · exact zm_iV F0
theorem zc_L4_look_24 {d : Nat} {h0 : zv_H} (N_L4_look_24 : Nat) : ∀ {h : zv_H} {a0 : Nat} {a1 : Int64} {a3 : Int}, zc_Q h0 h → (zv_lay a0 = (1, 4)) → (0 ≤ a3 ∧ zv_rg a3) → (2147483647 - a3).toNat = N_L4_look_24 → zm_R (L4_look_24 (d + 1) a0 a1 a3 h) (zm_V fun h' => zc_Q h0 h') := by
  induction N_L4_look_24 using Nat.strongRecOn with
  | _ N_L4_look_24 ih_L4_look_24 =>
    intro h a0 a1 a3 F0 h_a0 h_a3 eN
    rw [qL4_look_24]
    have z_a3 := h_a3.1
    refine zc_rI F0 h_a0 fun v1 e_v1 r_v1 => ?_
    have b_v1 := zc_bdv (k := 5) (m := 48) F0 h_a0 rfl
    rw [← e_v1] at b_v1
    refine zm_if (fun c1 => ?_) (fun c1 => ?_)
    · refine zc_rF F0 1 h_a0 ?_
      refine zc_rQ F0 h_a0 (by omega) (by omega) ?_
      exact zc_L4_look_43 ih_L4_look_24 _ F0 h_a0 h_a3.2 (zc_pa F0 h_a0 (a3).toNat) ⟨by omega, (by unfold zv_rg; omega)⟩ ⟨(by rw [← eN]; exact zc_up h_a3.2 r_v1 c1), (⟨by rw [zc_up1 h_a3.2 r_v1 c1]; omega, zc_w _⟩ : 0 ≤ (zv_w (a3 + 1)) ∧ zv_rg (zv_w (a3 + 1))).1⟩ rfl
    · refine zc_wO F0 h_a0 (zc_frO h_a0 (zc_lt h_a0 (by decide)) (by decide) rfl (by decide)) (by unfold zv_rg; omega) fun g4 F2 => ?_
      exact zc_L4_look_114  _ F2 h_a0 ⟨by omega, (by unfold zv_rg; omega)⟩  rfl
theorem zc_L4_look_2 {d : Nat} {h0 : zv_H} (N_L4_look_2 : Nat) : ∀ {h : zv_H} {a0 : Nat} {a1 : Int64} {a3 : Int}, zc_Q h0 h → (zv_lay a0 = (1, 4)) → (0 ≤ a3 ∧ zv_rg a3) → (2147483647 - a3).toNat = N_L4_look_2 → zm_R (L4_look_2 (d + 1) a0 a1 a3 h) (zm_V fun h' => zc_Q h0 h') := by
  induction N_L4_look_2 using Nat.strongRecOn with
  | _ N_L4_look_2 ih_L4_look_2 =>
    intro h a0 a1 a3 F0 h_a0 h_a3 eN
    rw [qL4_look_2]
    have z_a3 := h_a3.1
    refine zm_if (fun c1 => ?_) (fun c1 => ?_)
    · refine zc_rF F0 4 h_a0 ?_
      refine zc_wB F0 (zc_y4_3 h_a0).1 (zc_y4_3 h_a0).2 (by omega) (by omega) fun g2 F2 u_g2 => ?_
      exact ih_L4_look_2 _ (by rw [← eN]; exact zc_up h_a3.2 (by unfold zv_rg; omega) c1) F2 h_a0 ⟨by rw [zc_up1 h_a3.2 (by unfold zv_rg; omega) c1]; omega, zc_w _⟩  rfl
    · exact zc_L4_look_24  _ F0 h_a0 ⟨by omega, (by unfold zv_rg; omega)⟩  rfl
theorem zc_E4_look {d : Nat} {h : zv_H} {a0 : Nat} {a1 : Int64} (hA : zc_A h) (h_a0 : zv_lay a0 = (1, 4)) : zm_R (E4_look (d + 1) a0 a1 h) (zm_V fun h' => zc_Q h h') := by
  have F0 := zc_Q_r hA
  rw [qE4_look]
  exact zc_L4_look_2  _ F0 h_a0 ⟨by omega, (by unfold zv_rg; omega)⟩  rfl
theorem zc_C4_look {d : Nat} {h : zv_H} {a0 : Nat} {a1 : Int64} (hA : zc_A h) (h_a0 : zv_lay a0 = (1, 4)) : zm_R (C4_look (d + 2) a0 a1 h) (fun q => zc_Q h q) := zm_cV (fun e => lC4_look (zc_ob hA h_a0) e) (zc_E4_look hA h_a0)
theorem zc_L4_lay_77 {d : Nat} {h0 : zv_H} (N_L4_lay_77 : Nat) : ∀ {h : zv_H} {a0 : Nat} {a2 : Int} {a3 : Int}, zc_Q h0 h → (zv_lay a0 = (1, 4)) → (zv_rg a2) → (0 ≤ a3 ∧ zv_rg a3) → (2147483647 - a3).toNat = N_L4_lay_77 → zm_R (L4_lay_77 (d + 2) a0 a2 a3 h) (zm_V fun h' => zc_Q h0 h') := by
  induction N_L4_lay_77 using Nat.strongRecOn with
  | _ N_L4_lay_77 ih_L4_lay_77 =>
    intro h a0 a2 a3 F0 h_a0 h_a2 h_a3 eN
    rw [qL4_lay_77]
    have z_a3 := h_a3.1
    refine zm_if (fun c1 => ?_) (fun c1 => ?_)
    · refine zc_pI (K := fun v => (v = 0 ∨ (v = 1 ∧ 0 ≤ a2 ∧ a2 < 604))) (zc_C4_isId F0.2 h_a2) fun q1v r_q1 k_q1 => ?_
      dsimp only
      refine zm_if (fun c3 => ?_) (fun c3 => ?_)
      · rw [qL4_lay_118]
        refine zc_rJ F0 h_a0 fun v1 => ?_
        refine zc_cV F0 (zc_C4_look F0.2 h_a0) fun g2 F4 => ?_
        exact zm_iV F4
      · refine zc_rF F0 2 h_a0 ?_
        refine zc_wA F0 (zc_y4_1 h_a0).1 (zc_y4_1 h_a0).2 (by omega) (by omega) h_a2 fun g3 F5 u_g3 => ?_
        refine zc_wO F5 h_a0 (zc_frO h_a0 (zc_lt h_a0 (by decide)) (by decide) rfl (by decide)) (zc_w _) fun g4 F6 => ?_
        refine zc_rF F6 5 h_a0 ?_
        refine zc_rA F6 (zc_y4_4 h_a0).1 (zc_y4_4 h_a0).2 (by omega) (by omega) fun v6 r_v6 => ?_
        exact ih_L4_lay_77 _ (by rw [← eN]; exact zc_up h_a3.2 (by unfold zv_rg; omega) c1) F6 h_a0 r_v6 ⟨by rw [zc_up1 h_a3.2 (by unfold zv_rg; omega) c1]; omega, zc_w _⟩  rfl
    · rw [qL4_lay_118]
      refine zc_rJ F0 h_a0 fun v1x1 => ?_
      refine zc_cV F0 (zc_C4_look F0.2 h_a0) fun g2x1 F7 => ?_
      exact zm_iV F7
theorem zc_L4_lay_16 {d : Nat} {h0 : zv_H} (N_L4_lay_16 : Nat) : ∀ {h : zv_H} {a0 : Nat} {a2 : Int}, zc_Q h0 h → (zv_lay a0 = (1, 4)) → (0 ≤ a2 ∧ zv_rg a2) → (2147483647 - a2).toNat = N_L4_lay_16 → zm_R (L4_lay_16 (d + 2) a0 a2 h) (zm_V fun h' => zc_Q h0 h') := by
  induction N_L4_lay_16 using Nat.strongRecOn with
  | _ N_L4_lay_16 ih_L4_lay_16 =>
    intro h a0 a2 F0 h_a0 h_a2 eN
    rw [qL4_lay_16]
    have z_a2 := h_a2.1
    refine zc_rI F0 h_a0 fun v1 e_v1 r_v1 => ?_
    have b_v1 := zc_bdv (k := 5) (m := 48) F0 h_a0 rfl
    rw [← e_v1] at b_v1
    refine zm_if (fun c1 => ?_) (fun c1 => ?_)
    · refine zc_rF F0 1 h_a0 ?_
      refine zc_rQ F0 h_a0 (by omega) (by omega) ?_
      refine zm_if (fun c2 => ?_) (fun c2 => ?_)
      · exact ih_L4_lay_16 _ (by rw [← eN]; exact zc_up h_a2.2 r_v1 c1) F0 h_a0 ⟨by rw [zc_up1 h_a2.2 r_v1 c1]; omega, zc_w _⟩  rfl
      · refine zc_rF F0 1 h_a0 ?_
        refine zc_rQ F0 h_a0 (by omega) (by omega) ?_
        refine zc_pI (K := fun v => True) (zc_C5_brings F0.2 ((zc_pa F0 h_a0 (a2).toNat).resolve_left c2)) fun q6v r_q6 k_q6 => ?_
        dsimp only
        refine zm_if (fun c4 => ?_) (fun c4 => ?_)
        · exact ih_L4_lay_16 _ (by rw [← eN]; exact zc_up h_a2.2 r_v1 c1) F0 h_a0 ⟨by rw [zc_up1 h_a2.2 r_v1 c1]; omega, zc_w _⟩  rfl
        · refine zc_rF F0 1 h_a0 ?_
          refine zc_rQ F0 h_a0 (by omega) (by omega) ?_
          refine zc_cV F0 (zc_C4_link F0.2 h_a0 ((zc_pa F0 h_a0 (a2).toNat).resolve_left c2)) fun g9 F5 => ?_
          exact ih_L4_lay_16 _ (by rw [← eN]; exact zc_up h_a2.2 r_v1 c1) F5 h_a0 ⟨by rw [zc_up1 h_a2.2 r_v1 c1]; omega, zc_w _⟩  rfl
    · refine zc_wO F0 h_a0 (zc_frO h_a0 (zc_lt h_a0 (by decide)) (by decide) rfl (by decide)) (by unfold zv_rg; omega) fun g10 F6 => ?_
      refine zc_rF F6 5 h_a0 ?_
      refine zc_rA F6 (zc_y4_4 h_a0).1 (zc_y4_4 h_a0).2 (by omega) (by omega) fun v12 r_v12 => ?_
      exact zc_L4_lay_77  _ F6 h_a0 r_v12 ⟨by omega, (by unfold zv_rg; omega)⟩  rfl
theorem zc_E4_lay {d : Nat} {h : zv_H} {a0 : Nat} {a1 : Nat} (hA : zc_A h) (h_a0 : zv_lay a0 = (1, 4)) (h_a1 : zc_V h a1) : zm_R (E4_lay (d + 2) a0 a1 h) (zm_V fun h' => zc_Q h h') := by
  have F0 := zc_Q_r hA
  rw [qE4_lay]
  refine zc_cV F0 (zc_C4_walk F0.2 h_a0 (zc_Vq F0.1 h_a1)) fun g1 F1 => ?_
  refine zc_rF F1 5 h_a0 ?_
  refine zc_wA F1 (zc_y4_4 h_a0).1 (zc_y4_4 h_a0).2 (by omega) (by omega) (by unfold zv_rg; omega) fun g3 F2 u_g3 => ?_
  exact zc_L4_lay_16  _ F2 h_a0 ⟨by omega, (by unfold zv_rg; omega)⟩  rfl
theorem zc_C4_lay {d : Nat} {h : zv_H} {a0 : Nat} {a1 : Nat} (hA : zc_A h) (h_a0 : zv_lay a0 = (1, 4)) (h_a1 : zc_V h a1) : zm_R (C4_lay (d + 3) a0 a1 h) (fun q => zc_Q h q) := zm_cV (fun e => lC4_lay (zc_ob hA h_a0) e) (zc_E4_lay hA h_a0 h_a1)
theorem zc_L4_cutsInForce_4 {d : Nat} {h0 : zv_H} (hA : zc_A h0) (N_L4_cutsInForce_4 : Nat) : ∀ {a0 : Nat} {a1 : Int} {a2 : Int} {a3 : Int}, (zv_lay a0 = (1, 4)) → (zv_rg a1) → (zv_rg a2) → (0 ≤ a3 ∧ zv_rg a3) → (2147483647 - a3).toNat = N_L4_cutsInForce_4 → zm_R (L4_cutsInForce_4 (d + 2) a0 a1 a2 a3 h0) (zm_I fun v h' => h' = h0 ∧ zv_rg v ∧ True) := by
  induction N_L4_cutsInForce_4 using Nat.strongRecOn with
  | _ N_L4_cutsInForce_4 ih_L4_cutsInForce_4 =>
    intro a0 a1 a2 a3 h_a0 h_a1 h_a2 h_a3 eN
    rw [qL4_cutsInForce_4]
    have z_a3 := h_a3.1
    refine zc_rI (zc_Q_r hA) h_a0 fun v1 e_v1 r_v1 => ?_
    have b_v1 := zc_bdv (k := 5) (m := 48) (zc_Q_r hA) h_a0 rfl
    rw [← e_v1] at b_v1
    refine zm_if (fun c1 => ?_) (fun c1 => ?_)
    · refine zc_rF (zc_Q_r hA) 1 h_a0 ?_
      refine zc_rQ (zc_Q_r hA) h_a0 (by omega) (by omega) ?_
      refine zm_if (fun c2 => ?_) (fun c2 => ?_)
      · exact ih_L4_cutsInForce_4 _ (by rw [← eN]; exact zc_up h_a3.2 r_v1 c1) h_a0 h_a1 h_a2 ⟨by rw [zc_up1 h_a3.2 r_v1 c1]; omega, zc_w _⟩  rfl
      · refine zc_rJ (zc_Q_r hA) h_a0 fun v4 => ?_
        refine zc_pJ (zc_C5_bit (zc_Q_r hA).2 ((zc_pa (zc_Q_r hA) h_a0 (a3).toNat).resolve_left c2)) fun q5v => ?_
        dsimp only
        refine zm_if (fun c4 => ?_) (fun c4 => ?_)
        · exact ih_L4_cutsInForce_4 _ (by rw [← eN]; exact zc_up h_a3.2 r_v1 c1) h_a0 h_a1 h_a2 ⟨by rw [zc_up1 h_a3.2 r_v1 c1]; omega, zc_w _⟩  rfl
        · refine zc_pI (K := fun v => True) (zc_C5_tookIt (zc_Q_r hA).2 ((zc_pa (zc_Q_r hA) h_a0 (a3).toNat).resolve_left c2) h_a1) fun q6v r_q6 k_q6 => ?_
          dsimp only
          refine zm_if (fun c6 => ?_) (fun c6 => ?_)
          · exact ih_L4_cutsInForce_4 _ (by rw [← eN]; exact zc_up h_a3.2 r_v1 c1) h_a0 h_a1 h_a2 ⟨by rw [zc_up1 h_a3.2 r_v1 c1]; omega, zc_w _⟩  rfl
          · exact ih_L4_cutsInForce_4 _ (by rw [← eN]; exact zc_up h_a3.2 r_v1 c1) h_a0 h_a1 (zc_w _) ⟨by rw [zc_up1 h_a3.2 r_v1 c1]; omega, zc_w _⟩  rfl
    · exact zm_iI ⟨rfl, h_a2, trivial⟩
theorem zc_E4_cutsInForce {d : Nat} {h : zv_H} {a0 : Nat} {a1 : Int} (hA : zc_A h) (h_a0 : zv_lay a0 = (1, 4)) (h_a1 : zv_rg a1) : zm_R (E4_cutsInForce (d + 2) a0 a1 h) (zm_I fun v h' => h' = h ∧ zv_rg v ∧ True) := by
  have F0 := zc_Q_r hA
  rw [qE4_cutsInForce]
  exact zc_L4_cutsInForce_4 hA  _ h_a0 h_a1 (by unfold zv_rg; omega) ⟨by omega, (by unfold zv_rg; omega)⟩  rfl
theorem zc_C4_cutsInForce {d : Nat} {h : zv_H} {a0 : Nat} {a1 : Int} (hA : zc_A h) (h_a0 : zv_lay a0 = (1, 4)) (h_a1 : zv_rg a1) : zm_R (C4_cutsInForce (d + 3) a0 a1 h) (fun q => q.2 = h ∧ zv_rg q.1 ∧ True) := zm_cI (fun e => lC4_cutsInForce (zc_ob hA h_a0) e) (zc_E4_cutsInForce hA h_a0 h_a1)
theorem zc_L4_lastCut_7 {d : Nat} {h0 : zv_H} (hA : zc_A h0) (N_L4_lastCut_7 : Nat) : ∀ {a0 : Nat} {a1 : Int} {a2 : Int}, (zv_lay a0 = (1, 4)) → (zv_rg a1) → ((-1 ≤ a2 ∧ a2 < 48) ∧ zv_rg a2) → (a2 + 1).toNat = N_L4_lastCut_7 → zm_R (L4_lastCut_7 (d + 2) a0 a1 a2 h0) (zm_I fun v h' => h' = h0 ∧ zv_rg v ∧ True) := by
  induction N_L4_lastCut_7 using Nat.strongRecOn with
  | _ N_L4_lastCut_7 ih_L4_lastCut_7 =>
    intro a0 a1 a2 h_a0 h_a1 h_a2 eN
    rw [qL4_lastCut_7]
    have z_a2 := h_a2.1
    refine zm_if (fun c1 => ?_) (fun c1 => ?_)
    · exact zm_iI ⟨rfl, (by unfold zv_rg; omega), trivial⟩
    · refine zc_rF (zc_Q_r hA) 1 h_a0 ?_
      refine zc_rQ (zc_Q_r hA) h_a0 (by omega) (by omega) ?_
      refine zm_if (fun c2 => ?_) (fun c2 => ?_)
      · exact ih_L4_lastCut_7 _ (by rw [← eN]; exact zc_dn h_a2.2 c1) h_a0 h_a1 ⟨by rw [zm_w (by omega)]; omega, (zc_w _)⟩  rfl
      · refine zc_rF (zc_Q_r hA) 1 h_a0 ?_
        refine zc_rQ (zc_Q_r hA) h_a0 (by omega) (by omega) ?_
        refine zc_pI (K := fun v => True) (zc_C5_tookIt (zc_Q_r hA).2 ((zc_pa (zc_Q_r hA) h_a0 (a2).toNat).resolve_left c2) h_a1) fun q5v r_q5 k_q5 => ?_
        dsimp only
        refine zm_if (fun c4 => ?_) (fun c4 => ?_)
        · exact ih_L4_lastCut_7 _ (by rw [← eN]; exact zc_dn h_a2.2 c1) h_a0 h_a1 ⟨by rw [zm_w (by omega)]; omega, (zc_w _)⟩  rfl
        · refine zc_rF (zc_Q_r hA) 1 h_a0 ?_
          refine zc_rQ (zc_Q_r hA) h_a0 (by omega) (by omega) ?_
          refine zc_rT (zc_Q_r hA) ((zc_pa (zc_Q_r hA) h_a0 (a2).toNat).resolve_left c2) fun v8 e_v8 r_v8 => ?_
          exact zm_iI ⟨rfl, r_v8, trivial⟩
theorem zc_E4_lastCut {d : Nat} {h : zv_H} {a0 : Nat} {a1 : Int} (hA : zc_A h) (h_a0 : zv_lay a0 = (1, 4)) (h_a1 : zv_rg a1) : zm_R (E4_lastCut (d + 2) a0 a1 h) (zm_I fun v h' => h' = h ∧ zv_rg v ∧ True) := by
  have F0 := zc_Q_r hA
  rw [qE4_lastCut]
  refine zc_rI F0 h_a0 fun v1 e_v1 r_v1 => ?_
  have b_v1 := zc_bdv (k := 5) (m := 48) F0 h_a0 rfl
  rw [← e_v1] at b_v1
  exact zc_L4_lastCut_7 hA  _ h_a0 h_a1 ⟨by rw [zm_w (by omega)]; omega, (zc_w _)⟩  rfl
theorem zc_C4_lastCut {d : Nat} {h : zv_H} {a0 : Nat} {a1 : Int} (hA : zc_A h) (h_a0 : zv_lay a0 = (1, 4)) (h_a1 : zv_rg a1) : zm_R (C4_lastCut (d + 3) a0 a1 h) (fun q => q.2 = h ∧ zv_rg q.1 ∧ True) := zm_cI (fun e => lC4_lastCut (zc_ob hA h_a0) e) (zc_E4_lastCut hA h_a0 h_a1)
theorem zc_L4_leaningOn_8 {d : Nat} {h0 : zv_H} (hA : zc_A h0) (N_L4_leaningOn_8 : Nat) : ∀ {a0 : Nat} {a1 : Nat} {a2 : Int64} {a4 : Int}, (zv_lay a0 = (1, 4)) → (zv_lay a1 = (1, 5)) → (0 ≤ a4 ∧ zv_rg a4) → (2147483647 - a4).toNat = N_L4_leaningOn_8 → zm_R (L4_leaningOn_8 (d + 1) a0 a1 a2 a4 h0) (zm_J fun _ h' => h' = h0) := by
  induction N_L4_leaningOn_8 using Nat.strongRecOn with
  | _ N_L4_leaningOn_8 ih_L4_leaningOn_8 =>
    intro a0 a1 a2 a4 h_a0 h_a1 h_a4 eN
    rw [qL4_leaningOn_8]
    have z_a4 := h_a4.1
    refine zc_rI (zc_Q_r hA) h_a0 fun v1 e_v1 r_v1 => ?_
    have b_v1 := zc_bdv (k := 5) (m := 48) (zc_Q_r hA) h_a0 rfl
    rw [← e_v1] at b_v1
    refine zm_if (fun c1 => ?_) (fun c1 => ?_)
    · refine zc_rF (zc_Q_r hA) 1 h_a0 ?_
      refine zc_rQ (zc_Q_r hA) h_a0 (by omega) (by omega) ?_
      refine zm_if (fun c2 => ?_) (fun c2 => ?_)
      · exact ih_L4_leaningOn_8 _ (by rw [← eN]; exact zc_up h_a4.2 r_v1 c1) h_a0 h_a1 ⟨by rw [zc_up1 h_a4.2 r_v1 c1]; omega, zc_w _⟩  rfl
      · refine zc_rT (zc_Q_r hA) ((zc_pa (zc_Q_r hA) h_a0 (a4).toNat).resolve_left c2) fun v4 e_v4 r_v4 => ?_
        refine zc_rT (zc_Q_r hA) h_a1 fun v5 e_v5 r_v5 => ?_
        refine zm_if (fun c3 => ?_) (fun c3 => ?_)
        · exact ih_L4_leaningOn_8 _ (by rw [← eN]; exact zc_up h_a4.2 r_v1 c1) h_a0 h_a1 ⟨by rw [zc_up1 h_a4.2 r_v1 c1]; omega, zc_w _⟩  rfl
        · refine zc_rJ (zc_Q_r hA) ((zc_pa (zc_Q_r hA) h_a0 (a4).toNat).resolve_left c2) fun v6 => ?_
          refine zm_if (fun c4 => ?_) (fun c4 => ?_)
          · exact ih_L4_leaningOn_8 _ (by rw [← eN]; exact zc_up h_a4.2 r_v1 c1) h_a0 h_a1 ⟨by rw [zc_up1 h_a4.2 r_v1 c1]; omega, zc_w _⟩  rfl
          · refine zc_pJ (zc_C5_bit (zc_Q_r hA).2 ((zc_pa (zc_Q_r hA) h_a0 (a4).toNat).resolve_left c2)) fun q7v => ?_
            dsimp only
            exact ih_L4_leaningOn_8 _ (by rw [← eN]; exact zc_up h_a4.2 r_v1 c1) h_a0 h_a1 ⟨by rw [zc_up1 h_a4.2 r_v1 c1]; omega, zc_w _⟩  rfl
    · exact zm_iJ rfl
theorem zc_E4_leaningOn {d : Nat} {h : zv_H} {a0 : Nat} {a1 : Nat} (hA : zc_A h) (h_a0 : zv_lay a0 = (1, 4)) (h_a1 : zv_lay a1 = (1, 5)) : zm_R (E4_leaningOn (d + 1) a0 a1 h) (zm_J fun _ h' => h' = h) := by
  have F0 := zc_Q_r hA
  rw [qE4_leaningOn]
  refine zc_pJ (zc_C5_bit F0.2 h_a1) fun q1v => ?_
  dsimp only
  exact zc_L4_leaningOn_8 hA  _ h_a0 h_a1 ⟨by omega, (by unfold zv_rg; omega)⟩  rfl
theorem zc_C4_leaningOn {d : Nat} {h : zv_H} {a0 : Nat} {a1 : Nat} (hA : zc_A h) (h_a0 : zv_lay a0 = (1, 4)) (h_a1 : zv_lay a1 = (1, 5)) : zm_R (C4_leaningOn (d + 2) a0 a1 h) (fun q => q.2 = h) := zm_cJ (fun e => lC4_leaningOn (zc_ob hA h_a0) e) (zc_E4_leaningOn hA h_a0 h_a1)
theorem zc_L4_groundOf_8 {d : Nat} {h0 : zv_H} (hA : zc_A h0) (N_L4_groundOf_8 : Nat) : ∀ {a2 : Int64} {a4 : Nat}, (a4 = 0 ∨ zc_V h0 a4) → zc_dm h0 a4 = N_L4_groundOf_8 → zm_R (L4_groundOf_8 (d + 1) a2 a4 h0) (zm_J fun _ h' => h' = h0) := by
  induction N_L4_groundOf_8 using Nat.strongRecOn with
  | _ N_L4_groundOf_8 ih_L4_groundOf_8 =>
    intro a2 a4 h_a4 eN
    rw [qL4_groundOf_8]
    refine zm_if (fun c1 => ?_) (fun c1 => ?_)
    · exact zm_iJ rfl
    · refine zc_pJ (zc_C5_bit (zc_Q_r hA).2 (h_a4.resolve_left c1).1) fun q1v => ?_
      dsimp only
      refine zm_if (fun c3 => ?_) (fun c3 => ?_)
      · refine zc_rR5 (zc_Q_r hA) (h_a4.resolve_left c1).1 ?_
        exact ih_L4_groundOf_8 _ (by rw [← eN]; exact zc_dmP (zc_Q_r hA) (h_a4.resolve_left c1)) (zc_pV (zc_Q_r hA) (h_a4.resolve_left c1))  rfl
      · refine zc_rJ (zc_Q_r hA) (h_a4.resolve_left c1).1 fun v3 => ?_
        refine zc_rR5 (zc_Q_r hA) (h_a4.resolve_left c1).1 ?_
        exact ih_L4_groundOf_8 _ (by rw [← eN]; exact zc_dmP (zc_Q_r hA) (h_a4.resolve_left c1)) (zc_pV (zc_Q_r hA) (h_a4.resolve_left c1))  rfl
theorem zc_E4_groundOf {d : Nat} {h : zv_H} {a0 : Nat} {a1 : Nat} (hA : zc_A h) (h_a0 : zv_lay a0 = (1, 4)) (h_a1 : zc_V h a1) : zm_R (E4_groundOf (d + 1) a0 a1 h) (zm_J fun _ h' => h' = h) := by
  have F0 := zc_Q_r hA
  rw [qE4_groundOf]
  refine zc_pJ (zc_C5_bit F0.2 h_a1.1) fun q1v => ?_
  dsimp only
  exact zc_L4_groundOf_8 hA  _ (Or.inr h_a1)  rfl
theorem zc_C4_groundOf {d : Nat} {h : zv_H} {a0 : Nat} {a1 : Nat} (hA : zc_A h) (h_a0 : zv_lay a0 = (1, 4)) (h_a1 : zc_V h a1) : zm_R (C4_groundOf (d + 2) a0 a1 h) (fun q => q.2 = h) := zm_cJ (fun e => lC4_groundOf (zc_ob hA h_a0) e) (zc_E4_groundOf hA h_a0 h_a1)
theorem zc_L4_seenUpTo_18 {d : Nat} {h0 : zv_H} (hA : zc_A h0) (N_L4_seenUpTo_18 : Nat) : ∀ {a0 : Nat} {a2 : Int} {a3 : Int} {a4 : Int}, (zv_lay a0 = (1, 4)) → ((-2147483648 ≤ a2 ∧ a2 < 2147483647) ∧ zv_rg a2) → (zv_rg a3) → (0 ≤ a4 ∧ zv_rg a4) → (2147483647 - a4).toNat = N_L4_seenUpTo_18 → zm_R (L4_seenUpTo_18 (d + 2) a0 a2 a3 a4 h0) (zm_I fun v h' => h' = h0 ∧ zv_rg v ∧ True) := by
  induction N_L4_seenUpTo_18 using Nat.strongRecOn with
  | _ N_L4_seenUpTo_18 ih_L4_seenUpTo_18 =>
    intro a0 a2 a3 a4 h_a0 h_a2 h_a3 h_a4 eN
    rw [qL4_seenUpTo_18]
    have z_a2 := h_a2.1
    have z_a4 := h_a4.1
    refine zm_if (fun c1 => ?_) (fun c1 => ?_)
    · refine zc_pI (K := fun v => True) (zc_C4_seesAt (zc_Q_r hA).2 h_a0 h_a4.2) fun q1v r_q1 k_q1 => ?_
      dsimp only
      refine zm_if (fun c3 => ?_) (fun c3 => ?_)
      · exact ih_L4_seenUpTo_18 _ (by rw [← eN]; exact zc_up h_a4.2 (show zv_rg (a2 + 1) from (by unfold zv_rg at *; omega)) (by omega)) h_a0 ⟨by unfold zv_rg at *; omega, h_a2.2⟩ (zc_w _) ⟨by rw [zc_up1 h_a4.2 (show zv_rg (a2 + 1) from (by unfold zv_rg at *; omega)) (by omega)]; omega, zc_w _⟩  rfl
      · exact ih_L4_seenUpTo_18 _ (by rw [← eN]; exact zc_up h_a4.2 (show zv_rg (a2 + 1) from (by unfold zv_rg at *; omega)) (by omega)) h_a0 ⟨by unfold zv_rg at *; omega, h_a2.2⟩ (zc_w _) ⟨by rw [zc_up1 h_a4.2 (show zv_rg (a2 + 1) from (by unfold zv_rg at *; omega)) (by omega)]; omega, zc_w _⟩  rfl
    · exact zm_iI ⟨rfl, h_a3, trivial⟩
theorem zc_E4_seenUpTo {d : Nat} {h : zv_H} {a0 : Nat} {a1 : Int} (hA : zc_A h) (h_a0 : zv_lay a0 = (1, 4)) (h_a1 : zv_rg a1) : zm_R (E4_seenUpTo (d + 2) a0 a1 h) (zm_I fun v h' => h' = h ∧ zv_rg v ∧ True) := by
  have F0 := zc_Q_r hA
  rw [qE4_seenUpTo]
  refine zc_pI (K := fun v => v < 2147483647) (zc_C4_placeOf F0.2 h_a0 h_a1) fun q1v r_q1 k_q1 => ?_
  dsimp only
  refine zm_if (fun c2 => ?_) (fun c2 => ?_)
  · exact zm_iI ⟨rfl, (by unfold zv_rg; omega), trivial⟩
  · exact zc_L4_seenUpTo_18 hA  _ h_a0 ⟨by unfold zv_rg at *; omega, r_q1⟩ (by unfold zv_rg; omega) ⟨by omega, (by unfold zv_rg; omega)⟩  rfl
theorem zc_C4_seenUpTo {d : Nat} {h : zv_H} {a0 : Nat} {a1 : Int} (hA : zc_A h) (h_a0 : zv_lay a0 = (1, 4)) (h_a1 : zv_rg a1) : zm_R (C4_seenUpTo (d + 3) a0 a1 h) (fun q => q.2 = h ∧ zv_rg q.1 ∧ True) := zm_cI (fun e => lC4_seenUpTo (zc_ob hA h_a0) e) (zc_E4_seenUpTo hA h_a0 h_a1)
