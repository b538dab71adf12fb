/-! ===== the class: what is asked changes reckoned cells alone (genzd.py) ===== -/
theorem zd_L4_walk_28 {d : Nat} {h0 : zv_H} (N_L4_walk_28 : Nat) : ∀ {h : zv_H} {a0 : Nat} {a2 : Int64} {a4 : Int64} {a6 : Nat}, zd_Q h0 h → (zv_lay a0 = (1, 4)) → (a6 = 0 ∨ zc_V h0 a6) → zc_dm h0 a6 = N_L4_walk_28 → zm_R (L4_walk_28 (d + 1) a0 a2 a4 a6 h) (zm_V fun h' => zd_Q h0 h') := by
  induction N_L4_walk_28 using Nat.strongRecOn with
  | _ N_L4_walk_28 ih_L4_walk_28 =>
    intro h a0 a2 a4 a6 F0 h_a0 h_a6 eN
    rw [qL4_walk_28]
    refine zm_if (fun c1 => ?_) (fun c1 => ?_)
    · refine zd_rJ F0 h_a0 fun v1 => ?_
      refine zd_wJ F0 h_a0 (zc_lt h_a0 (by decide)) fun g2 F2 => ?_
      exact zm_iV F2
    · refine zd_rT F0 (h_a6.resolve_left c1).1 fun v3 e_v3 r_v3 => ?_
      have d_v3 := (zd_dep F0 (h_a6.resolve_left c1)).1
      rw [← e_v3] at d_v3
      refine zm_if (fun c3 => ?_) (fun c3 => ?_)
      · rw [qL4_walk_63]
        refine zc_pI (K := fun v => True) (zc_C5_edits F0.2 (h_a6.resolve_left c1).1) fun q1v r_q1 k_q1 => ?_
        dsimp only
        refine zm_if (fun c5 => ?_) (fun c5 => ?_)
        · rw [qL4_walk_85]
          refine zd_rI F0 (h_a6.resolve_left c1).1 fun v1x1 e_v1x1 r_v1x1 => ?_
          refine zm_if (fun c6 => ?_) (fun c6 => ?_)
          · refine zd_rJ F0 (h_a6.resolve_left c1).1 fun v2 => ?_
            refine zd_rJ F0 (h_a6.resolve_left c1).1 fun v3x1 => ?_
            refine zd_rR5 F0 (h_a6.resolve_left c1).1 ?_
            exact ih_L4_walk_28 _ (by rw [← eN]; exact zd_dmP F0 (h_a6.resolve_left c1)) F0 h_a0 (zd_pV F0 (h_a6.resolve_left c1))  rfl
          · refine zd_rJ F0 (h_a6.resolve_left c1).1 fun v5 => ?_
            refine zd_rR5 F0 (h_a6.resolve_left c1).1 ?_
            exact ih_L4_walk_28 _ (by rw [← eN]; exact zd_dmP F0 (h_a6.resolve_left c1)) F0 h_a0 (zd_pV F0 (h_a6.resolve_left c1))  rfl
        · refine zd_rJ F0 h_a0 fun v2x1 => ?_
          refine zc_pJ (zc_C5_bit F0.2 (h_a6.resolve_left c1).1) fun q3v => ?_
          dsimp only
          refine zd_wJ F0 h_a0 (zc_lt h_a0 (by decide)) fun g4 F8 => ?_
          rw [qL4_walk_85]
          refine zd_rI F8 (h_a6.resolve_left c1).1 fun v1x2 e_v1x2 r_v1x2 => ?_
          refine zm_if (fun c9 => ?_) (fun c9 => ?_)
          · refine zd_rJ F8 (h_a6.resolve_left c1).1 fun v2x2 => ?_
            refine zd_rJ F8 (h_a6.resolve_left c1).1 fun v3x2 => ?_
            refine zd_rR5 F8 (h_a6.resolve_left c1).1 ?_
            exact ih_L4_walk_28 _ (by rw [← eN]; exact zd_dmP F8 (h_a6.resolve_left c1)) F8 h_a0 (zd_pV F8 (h_a6.resolve_left c1))  rfl
          · refine zd_rJ F8 (h_a6.resolve_left c1).1 fun v5x1 => ?_
            refine zd_rR5 F8 (h_a6.resolve_left c1).1 ?_
            exact ih_L4_walk_28 _ (by rw [← eN]; exact zd_dmP F8 (h_a6.resolve_left c1)) F8 h_a0 (zd_pV F8 (h_a6.resolve_left c1))  rfl
      · refine zd_rT F0 (h_a6.resolve_left c1).1 fun v4x2 e_v4x2 r_v4x2 => ?_
        have d_v4x2 := (zd_dep F0 (h_a6.resolve_left c1)).1
        rw [← e_v4x2] at d_v4x2
        refine zm_if (fun c10 => ?_) (fun c10 => ?_)
        · refine zd_rF F0 1 h_a0 ?_
          refine zd_rT F0 (h_a6.resolve_left c1).1 fun v6x2 e_v6x2 r_v6x2 => ?_
          have d_v6x2 := (zd_dep F0 (h_a6.resolve_left c1)).1
          rw [← e_v6x2] at d_v6x2
          refine zd_wP F0 h_a0 (by omega) (by omega) (h_a6.resolve_left c1).1 fun g7 F11 => ?_
          rw [qL4_walk_63]
          refine zc_pI (K := fun v => True) (zc_C5_edits F11.2 (h_a6.resolve_left c1).1) fun q1x1v r_q1x1 k_q1x1 => ?_
          dsimp only
          refine zm_if (fun c13 => ?_) (fun c13 => ?_)
          · rw [qL4_walk_85]
            refine zd_rI F11 (h_a6.resolve_left c1).1 fun v1x3 e_v1x3 r_v1x3 => ?_
            refine zm_if (fun c14 => ?_) (fun c14 => ?_)
            · refine zd_rJ F11 (h_a6.resolve_left c1).1 fun v2x3 => ?_
              refine zd_rJ F11 (h_a6.resolve_left c1).1 fun v3x3 => ?_
              refine zd_rR5 F11 (h_a6.resolve_left c1).1 ?_
              exact ih_L4_walk_28 _ (by rw [← eN]; exact zd_dmP F11 (h_a6.resolve_left c1)) F11 h_a0 (zd_pV F11 (h_a6.resolve_left c1))  rfl
            · refine zd_rJ F11 (h_a6.resolve_left c1).1 fun v5x3 => ?_
              refine zd_rR5 F11 (h_a6.resolve_left c1).1 ?_
              exact ih_L4_walk_28 _ (by rw [← eN]; exact zd_dmP F11 (h_a6.resolve_left c1)) F11 h_a0 (zd_pV F11 (h_a6.resolve_left c1))  rfl
          · refine zd_rJ F11 h_a0 fun v2x4 => ?_
            refine zc_pJ (zc_C5_bit F11.2 (h_a6.resolve_left c1).1) fun q3x1v => ?_
            dsimp only
            refine zd_wJ F11 h_a0 (zc_lt h_a0 (by decide)) fun g4x1 F16 => ?_
            rw [qL4_walk_85]
            refine zd_rI F16 (h_a6.resolve_left c1).1 fun v1x4 e_v1x4 r_v1x4 => ?_
            refine zm_if (fun c17 => ?_) (fun c17 => ?_)
            · refine zd_rJ F16 (h_a6.resolve_left c1).1 fun v2x5 => ?_
              refine zd_rJ F16 (h_a6.resolve_left c1).1 fun v3x4 => ?_
              refine zd_rR5 F16 (h_a6.resolve_left c1).1 ?_
              exact ih_L4_walk_28 _ (by rw [← eN]; exact zd_dmP F16 (h_a6.resolve_left c1)) F16 h_a0 (zd_pV F16 (h_a6.resolve_left c1))  rfl
            · refine zd_rJ F16 (h_a6.resolve_left c1).1 fun v5x4 => ?_
              refine zd_rR5 F16 (h_a6.resolve_left c1).1 ?_
              exact ih_L4_walk_28 _ (by rw [← eN]; exact zd_dmP F16 (h_a6.resolve_left c1)) F16 h_a0 (zd_pV F16 (h_a6.resolve_left c1))  rfl
        · rw [qL4_walk_63]
          refine zc_pI (K := fun v => True) (zc_C5_edits F0.2 (h_a6.resolve_left c1).1) fun q1x2v r_q1x2 k_q1x2 => ?_
          dsimp only
          refine zm_if (fun c19 => ?_) (fun c19 => ?_)
          · rw [qL4_walk_85]
            refine zd_rI F0 (h_a6.resolve_left c1).1 fun v1x5 e_v1x5 r_v1x5 => ?_
            refine zm_if (fun c20 => ?_) (fun c20 => ?_)
            · refine zd_rJ F0 (h_a6.resolve_left c1).1 fun v2x6 => ?_
              refine zd_rJ F0 (h_a6.resolve_left c1).1 fun v3x5 => ?_
              refine zd_rR5 F0 (h_a6.resolve_left c1).1 ?_
              exact ih_L4_walk_28 _ (by rw [← eN]; exact zd_dmP F0 (h_a6.resolve_left c1)) F0 h_a0 (zd_pV F0 (h_a6.resolve_left c1))  rfl
            · refine zd_rJ F0 (h_a6.resolve_left c1).1 fun v5x5 => ?_
              refine zd_rR5 F0 (h_a6.resolve_left c1).1 ?_
              exact ih_L4_walk_28 _ (by rw [← eN]; exact zd_dmP F0 (h_a6.resolve_left c1)) F0 h_a0 (zd_pV F0 (h_a6.resolve_left c1))  rfl
          · refine zd_rJ F0 h_a0 fun v2x7 => ?_
            refine zc_pJ (zc_C5_bit F0.2 (h_a6.resolve_left c1).1) fun q3x2v => ?_
            dsimp only
            refine zd_wJ F0 h_a0 (zc_lt h_a0 (by decide)) fun g4x2 F22 => ?_
            rw [qL4_walk_85]
            refine zd_rI F22 (h_a6.resolve_left c1).1 fun v1x6 e_v1x6 r_v1x6 => ?_
            refine zm_if (fun c23 => ?_) (fun c23 => ?_)
            · refine zd_rJ F22 (h_a6.resolve_left c1).1 fun v2x8 => ?_
              refine zd_rJ F22 (h_a6.resolve_left c1).1 fun v3x6 => ?_
              refine zd_rR5 F22 (h_a6.resolve_left c1).1 ?_
              exact ih_L4_walk_28 _ (by rw [← eN]; exact zd_dmP F22 (h_a6.resolve_left c1)) F22 h_a0 (zd_pV F22 (h_a6.resolve_left c1))  rfl
            · refine zd_rJ F22 (h_a6.resolve_left c1).1 fun v5x6 => ?_
              refine zd_rR5 F22 (h_a6.resolve_left c1).1 ?_
              exact ih_L4_walk_28 _ (by rw [← eN]; exact zd_dmP F22 (h_a6.resolve_left c1)) F22 h_a0 (zd_pV F22 (h_a6.resolve_left c1))  rfl
theorem zd_E4_walk {d : Nat} {h : zv_H} {a0 : Nat} {a1 : Nat} (hA : zc_A h) (h_a0 : zv_lay a0 = (1, 4)) (h_a1 : zc_V h a1) : zm_R (E4_walk (d + 1) a0 a1 h) (zm_V fun h' => zd_Q h h') := by
  have F0 := zd_Q_r hA
  rw [qE4_walk]
  refine zd_wJ F0 h_a0 (zc_lt h_a0 (by decide)) fun g1 F1 => ?_
  refine zd_rT F1 h_a1.1 fun v2 e_v2 r_v2 => ?_
  have d_v2 := (zd_dep F1 h_a1).1
  rw [← e_v2] at d_v2
  refine zd_wL (m := 48) F1 h_a0 rfl (by rw [zm_w (by omega)]; omega) (by rw [zm_w (by omega)]; omega) ?_ (fun _ => by decide)
  intro g3 F2
  exact zd_L4_walk_28  _ F2 h_a0 (Or.inr h_a1)  rfl
theorem zd_C4_walk {d : Nat} {h : zv_H} {a0 : Nat} {a1 : Nat} (hA : zc_A h) (h_a0 : zv_lay a0 = (1, 4)) (h_a1 : zc_V h a1) : zm_R (C4_walk (d + 2) a0 a1 h) (fun q => zd_Q h q) := zm_cV (fun e => lC4_walk (zc_ob hA h_a0) e) (zd_E4_walk hA h_a0 h_a1)
theorem zd_L4_link_31 {d : Nat} {h0 : zv_H} (N_L4_link_31 : Nat) : ∀ {h : zv_H} {a0 : Nat} {a1 : Nat} {a2 : Int} {a3 : Int} {a4 : Int}, zd_Q h0 h → (zv_lay a0 = (1, 4)) → (zv_lay a1 = (1, 5)) → ((0 ≤ a2 ∧ a2 < 605) ∧ zv_rg a2) → (zv_rg a3) → (0 ≤ a4 ∧ zv_rg a4) → (2147483647 - a4).toNat = N_L4_link_31 → zm_R (L4_link_31 (d + 1) a0 a1 a2 a3 a4 h) (zm_V fun h' => zd_Q h0 h') := by
  induction N_L4_link_31 using Nat.strongRecOn with
  | _ N_L4_link_31 ih_L4_link_31 =>
    intro h a0 a1 a2 a3 a4 F0 h_a0 h_a1 h_a2 h_a3 h_a4 eN
    rw [qL4_link_31]
    have z_a2 := h_a2.1
    have z_a4 := h_a4.1
    refine zd_rI F0 h_a1 fun v1 e_v1 r_v1 => ?_
    refine zm_if (fun c1 => ?_) (fun c1 => ?_)
    · refine zd_rT F0 h_a1 fun v2 e_v2 r_v2 => ?_
      refine zc_pI (K := fun v => True) (zc_C4_id F0.2 r_v2 h_a4.2) fun q3v r_q3 k_q3 => ?_
      dsimp only
      refine zc_pI (K := fun v => (v = 0 ∨ (v = 1 ∧ 0 ≤ q3v ∧ q3v < 604))) (zc_C4_isId F0.2 r_q3) fun q4v r_q4 k_q4 => ?_
      dsimp only
      refine zm_if (fun c4 => ?_) (fun c4 => ?_)
      · exact ih_L4_link_31 _ (by rw [← eN]; exact zc_up h_a4.2 r_v1 c1) F0 h_a0 h_a1 ⟨by unfold zv_rg at *; omega, h_a2.2⟩ h_a3 ⟨by rw [zc_up1 h_a4.2 r_v1 c1]; omega, zc_w _⟩  rfl
      · refine zd_rF F0 5 h_a0 ?_
        refine zd_wA F0 (zc_y4_4 h_a0).1 (zc_y4_4 h_a0).2 (zd_y4_4 h_a0) (by omega) (by omega) r_q3 fun g6 F5 u_g6 => ?_
        exact ih_L4_link_31 _ (by rw [← eN]; exact zc_up h_a4.2 r_v1 c1) F5 h_a0 h_a1 ⟨by unfold zv_rg at *; omega, r_q3⟩ h_a3 ⟨by rw [zc_up1 h_a4.2 r_v1 c1]; omega, zc_w _⟩  rfl
    · refine zd_rF F0 5 h_a0 ?_
      refine zd_wA F0 (zc_y4_4 h_a0).1 (zc_y4_4 h_a0).2 (zd_y4_4 h_a0) (by omega) (by omega) h_a3 fun g8 F6 u_g8 => ?_
      exact zm_iV F6
theorem zd_E4_link {d : Nat} {h : zv_H} {a0 : Nat} {a1 : Nat} (hA : zc_A h) (h_a0 : zv_lay a0 = (1, 4)) (h_a1 : zv_lay a1 = (1, 5)) : zm_R (E4_link (d + 1) a0 a1 h) (zm_V fun h' => zd_Q h h') := by
  have F0 := zd_Q_r hA
  rw [qE4_link]
  refine zd_rI F0 h_a1 fun v1 e_v1 r_v1 => ?_
  refine zc_pI (K := fun v => (v = 0 ∨ (v = 1 ∧ 0 ≤ v1 ∧ v1 < 604))) (zc_C4_isId F0.2 r_v1) fun q2v r_q2 k_q2 => ?_
  dsimp only
  refine zm_if (fun c2 => ?_) (fun c2 => ?_)
  · refine zd_rF F0 5 h_a0 ?_
    refine zd_rA F0 (zc_y4_4 h_a0).1 (zc_y4_4 h_a0).2 (by omega) (by omega) fun v4 r_v4 => ?_
    exact zd_L4_link_31  _ F0 h_a0 h_a1 ⟨by unfold zv_rg at *; omega, (by unfold zv_rg; omega)⟩ r_v4 ⟨by omega, (by unfold zv_rg; omega)⟩  rfl
  · refine zd_rI F0 h_a1 fun v5 e_v5 r_v5 => ?_
    refine zd_rF F0 5 h_a0 ?_
    refine zd_rA F0 (zc_y4_4 h_a0).1 (zc_y4_4 h_a0).2 (by omega) (by omega) fun v7 r_v7 => ?_
    exact zd_L4_link_31  _ F0 h_a0 h_a1 ⟨by unfold zv_rg at *; omega, r_v5⟩ r_v7 ⟨by omega, (by unfold zv_rg; omega)⟩  rfl
theorem zd_C4_link {d : Nat} {h : zv_H} {a0 : Nat} {a1 : Nat} (hA : zc_A h) (h_a0 : zv_lay a0 = (1, 4)) (h_a1 : zv_lay a1 = (1, 5)) : zm_R (C4_link (d + 2) a0 a1 h) (fun q => zd_Q h q) := zm_cV (fun e => lC4_link (zc_ob hA h_a0) e) (zd_E4_link hA h_a0 h_a1)
theorem zd_L4_look_43 {d : Nat} {h0 : zv_H} {N_L4_look_24 : Nat} (ih_L4_look_24 : ∀ m, m < N_L4_look_24 → ∀ {h : zv_H} {a0 : Nat} {a1 : Int64} {a3 : Int}, zd_Q h0 h → (zv_lay a0 = (1, 4)) → (0 ≤ a3 ∧ zv_rg a3) → (2147483647 - a3).toNat = m → zm_R (L4_look_24 (d + 1) a0 a1 a3 h) (zm_V fun h' => zd_Q h0 h')) (N_L4_look_43 : Nat) : ∀ {h : zv_H} {a0 : Nat} {a1 : Int64} {a3 : Int} {a4 : Nat} {a5 : Int}, zd_Q h0 h → (zv_lay a0 = (1, 4)) → (zv_rg a3) → (a4 = 0 ∨ zv_lay a4 = (1, 5)) → (0 ≤ a5 ∧ zv_rg a5) → ((2147483647 - (zv_w (a3 + 1))).toNat < N_L4_look_24 ∧ 0 ≤ (zv_w (a3 + 1))) → (2147483647 - a5).toNat = N_L4_look_43 → zm_R (L4_look_43 (d + 1) a0 a1 a3 a4 a5 h) (zm_V fun h' => zd_Q h0 h') := by
  induction N_L4_look_43 using Nat.strongRecOn with
  | _ N_L4_look_43 ih_L4_look_43 =>
    intro h a0 a1 a3 a4 a5 F0 h_a0 h_a3 h_a4 h_a5 hm_L4_look_24 eN
    rw [qL4_look_43]
    have z_a5 := h_a5.1
    refine zm_if (fun c1 => ?_) (fun c1 => ?_)
    · exact ih_L4_look_24 _ hm_L4_look_24.1 F0 h_a0 ⟨hm_L4_look_24.2, (zc_w _)⟩  rfl
    · refine zc_pJ (zc_C5_bit F0.2 (h_a4.resolve_left c1)) fun q1v => ?_
      dsimp only
      refine zm_if (fun c3 => ?_) (fun c3 => ?_)
      · exact ih_L4_look_24 _ hm_L4_look_24.1 F0 h_a0 ⟨hm_L4_look_24.2, (zc_w _)⟩  rfl
      · refine zd_rI F0 (h_a4.resolve_left c1) fun v2 e_v2 r_v2 => ?_
        refine zm_if (fun c4 => ?_) (fun c4 => ?_)
        · refine zc_pI (K := fun v => True) (zc_C5_tookAt F0.2 (h_a4.resolve_left c1) h_a5.2) fun q3v r_q3 k_q3 => ?_
          dsimp only
          refine zc_pI (K := fun v => (v = 0 ∨ (v = 1 ∧ 0 ≤ q3v ∧ q3v < 604))) (zc_C4_isId F0.2 r_q3) fun q4v r_q4 k_q4 => ?_
          dsimp only
          refine zm_if (fun c7 => ?_) (fun c7 => ?_)
          · exact ih_L4_look_43 _ (by rw [← eN]; exact zc_up h_a5.2 r_v2 c4) F0 h_a0 h_a3 (Or.inr (h_a4.resolve_left c1)) ⟨by rw [zc_up1 h_a5.2 r_v2 c4]; omega, zc_w _⟩ hm_L4_look_24 rfl
          · refine zd_rF F0 4 h_a0 ?_
            refine zd_wB F0 (zc_y4_3 h_a0).1 (zc_y4_3 h_a0).2 (zd_y4_3 h_a0) (by omega) (by omega) fun g6 F8 u_g6 => ?_
            exact ih_L4_look_43 _ (by rw [← eN]; exact zc_up h_a5.2 r_v2 c4) F8 h_a0 h_a3 (Or.inr (h_a4.resolve_left c1)) ⟨by rw [zc_up1 h_a5.2 r_v2 c4]; omega, zc_w _⟩ hm_L4_look_24 rfl
        · exact ih_L4_look_24 _ hm_L4_look_24.1 F0 h_a0 ⟨hm_L4_look_24.2, (zc_w _)⟩  rfl
theorem zd_L4_look_114 {d : Nat} {h0 : zv_H} (N_L4_look_114 : Nat) : ∀ {h : zv_H} {a0 : Nat} {a1 : Int64} {a3 : Int}, zd_Q h0 h → (zv_lay a0 = (1, 4)) → (0 ≤ a3 ∧ zv_rg a3) → (2147483647 - a3).toNat = N_L4_look_114 → zm_R (L4_look_114 (d + 1) a0 a1 a3 h) (zm_V fun h' => zd_Q h0 h') := by
  induction N_L4_look_114 using Nat.strongRecOn with
  | _ N_L4_look_114 ih_L4_look_114 =>
    intro h a0 a1 a3 F0 h_a0 h_a3 eN
    rw [qL4_look_114]
    have z_a3 := h_a3.1
    refine zd_rI F0 h_a0 fun v1 e_v1 r_v1 => ?_
    refine zm_if (fun c1 => ?_) (fun c1 => ?_)
    · refine zm_if (fun c2 => ?_) (fun c2 => ?_)
      · refine zd_rF F0 2 h_a0 ?_
        refine zd_rA F0 (zc_y4_1 h_a0).1 (zc_y4_1 h_a0).2 (by omega) (by omega) fun v3 r_v3 => ?_
        refine zc_pI (K := fun v => True) (zc_C4_putter F0.2 r_v3) fun q4v r_q4 k_q4 => ?_
        dsimp only
        refine zd_rF F0 3 h_a0 ?_
        refine zc_pI (K := fun v => (v = 0 ∨ (v = 1 ∧ 0 ≤ v3 ∧ v3 < 604))) (zc_C4_isId F0.2 r_v3) fun q6v r_q6 k_q6 => ?_
        dsimp only
        refine zm_if (fun c5 => ?_) (fun c5 => ?_)
        · rw [qL4_look_187]
          rw [qL4_look_188]
          refine zd_wB F0 (zc_y4_2 h_a0).1 (zc_y4_2 h_a0).2 (zd_y4_2 h_a0) (by omega) (by omega) fun g1 F6 u_g1 => ?_
          refine zd_rI F6 h_a0 fun v2x1 e_v2x1 r_v2x1 => ?_
          rw [u_g1 _ _ (by rw [h_a0])] at e_v2x1
          refine zd_rF F6 3 h_a0 ?_
          refine zd_rB F6 (zc_y4_2 h_a0).1 (zc_y4_2 h_a0).2 (by omega) (by omega) fun v4 r_v4 => ?_
          refine zm_if (fun c7 => ?_) (fun c7 => ?_)
          · refine zd_wO F6 h_a0 (zc_frO h_a0 (zc_lt h_a0 (by decide)) (by decide) rfl (by decide)) (zc_w _) fun g5 F8 => ?_
            exact ih_L4_look_114 _ (by rw [← eN]; exact zc_up h_a3.2 (by unfold zv_rg; omega) c2) F8 h_a0 ⟨by rw [zc_up1 h_a3.2 (by unfold zv_rg; omega) c2]; omega, zc_w _⟩  rfl
          · refine zd_wO F6 h_a0 (zc_frO h_a0 (zc_lt h_a0 (by decide)) (by decide) rfl (by decide)) (zc_w _) fun g6 F9 => ?_
            exact ih_L4_look_114 _ (by rw [← eN]; exact zc_up h_a3.2 (by unfold zv_rg; omega) c2) F9 h_a0 ⟨by rw [zc_up1 h_a3.2 (by unfold zv_rg; omega) c2]; omega, zc_w _⟩  rfl
        · refine zd_rF F0 4 h_a0 ?_
          refine zd_rB F0 (zc_y4_3 h_a0).1 (zc_y4_3 h_a0).2 (by omega) (by omega) fun v8 r_v8 => ?_
          refine zm_if (fun c10 => ?_) (fun c10 => ?_)
          · refine zm_if (fun c11 => ?_) (fun c11 => ?_)
            · rw [qL4_look_183]
              rw [qL4_look_188]
              refine zd_wB F0 (zc_y4_2 h_a0).1 (zc_y4_2 h_a0).2 (zd_y4_2 h_a0) (by omega) (by omega) fun g1x1 F12 u_g1x1 => ?_
              refine zd_rI F12 h_a0 fun v2x2 e_v2x2 r_v2x2 => ?_
              rw [u_g1x1 _ _ (by rw [h_a0])] at e_v2x2
              refine zd_rF F12 3 h_a0 ?_
              refine zd_rB F12 (zc_y4_2 h_a0).1 (zc_y4_2 h_a0).2 (by omega) (by omega) fun v4x1 r_v4x1 => ?_
              refine zm_if (fun c13 => ?_) (fun c13 => ?_)
              · refine zd_wO F12 h_a0 (zc_frO h_a0 (zc_lt h_a0 (by decide)) (by decide) rfl (by decide)) (zc_w _) fun g5x1 F14 => ?_
                exact ih_L4_look_114 _ (by rw [← eN]; exact zc_up h_a3.2 (by unfold zv_rg; omega) c2) F14 h_a0 ⟨by rw [zc_up1 h_a3.2 (by unfold zv_rg; omega) c2]; omega, zc_w _⟩  rfl
              · refine zd_wO F12 h_a0 (zc_frO h_a0 (zc_lt h_a0 (by decide)) (by decide) rfl (by decide)) (zc_w _) fun g6x1 F15 => ?_
                exact ih_L4_look_114 _ (by rw [← eN]; exact zc_up h_a3.2 (by unfold zv_rg; omega) c2) F15 h_a0 ⟨by rw [zc_up1 h_a3.2 (by unfold zv_rg; omega) c2]; omega, zc_w _⟩  rfl
            · refine zm_if (fun c16 => ?_) (fun c16 => ?_)
              · rw [qL4_look_187]
                rw [qL4_look_188]
                refine zd_wB F0 (zc_y4_2 h_a0).1 (zc_y4_2 h_a0).2 (zd_y4_2 h_a0) (by omega) (by omega) fun g1x2 F17 u_g1x2 => ?_
                refine zd_rI F17 h_a0 fun v2x3 e_v2x3 r_v2x3 => ?_
                rw [u_g1x2 _ _ (by rw [h_a0])] at e_v2x3
                refine zd_rF F17 3 h_a0 ?_
                refine zd_rB F17 (zc_y4_2 h_a0).1 (zc_y4_2 h_a0).2 (by omega) (by omega) fun v4x2 r_v4x2 => ?_
                refine zm_if (fun c18 => ?_) (fun c18 => ?_)
                · refine zd_wO F17 h_a0 (zc_frO h_a0 (zc_lt h_a0 (by decide)) (by decide) rfl (by decide)) (zc_w _) fun g5x2 F19 => ?_
                  exact ih_L4_look_114 _ (by rw [← eN]; exact zc_up h_a3.2 (by unfold zv_rg; omega) c2) F19 h_a0 ⟨by rw [zc_up1 h_a3.2 (by unfold zv_rg; omega) c2]; omega, zc_w _⟩  rfl
                · refine zd_wO F17 h_a0 (zc_frO h_a0 (zc_lt h_a0 (by decide)) (by decide) rfl (by decide)) (zc_w _) fun g6x2 F20 => ?_
                  exact ih_L4_look_114 _ (by rw [← eN]; exact zc_up h_a3.2 (by unfold zv_rg; omega) c2) F20 h_a0 ⟨by rw [zc_up1 h_a3.2 (by unfold zv_rg; omega) c2]; omega, zc_w _⟩  rfl
              · rw [qL4_look_183]
                rw [qL4_look_188]
                refine zd_wB F0 (zc_y4_2 h_a0).1 (zc_y4_2 h_a0).2 (zd_y4_2 h_a0) (by omega) (by omega) fun g1x3 F21 u_g1x3 => ?_
                refine zd_rI F21 h_a0 fun v2x4 e_v2x4 r_v2x4 => ?_
                rw [u_g1x3 _ _ (by rw [h_a0])] at e_v2x4
                refine zd_rF F21 3 h_a0 ?_
                refine zd_rB F21 (zc_y4_2 h_a0).1 (zc_y4_2 h_a0).2 (by omega) (by omega) fun v4x3 r_v4x3 => ?_
                refine zm_if (fun c22 => ?_) (fun c22 => ?_)
                · refine zd_wO F21 h_a0 (zc_frO h_a0 (zc_lt h_a0 (by decide)) (by decide) rfl (by decide)) (zc_w _) fun g5x3 F23 => ?_
                  exact ih_L4_look_114 _ (by rw [← eN]; exact zc_up h_a3.2 (by unfold zv_rg; omega) c2) F23 h_a0 ⟨by rw [zc_up1 h_a3.2 (by unfold zv_rg; omega) c2]; omega, zc_w _⟩  rfl
                · refine zd_wO F21 h_a0 (zc_frO h_a0 (zc_lt h_a0 (by decide)) (by decide) rfl (by decide)) (zc_w _) fun g6x3 F24 => ?_
                  exact ih_L4_look_114 _ (by rw [← eN]; exact zc_up h_a3.2 (by unfold zv_rg; omega) c2) F24 h_a0 ⟨by rw [zc_up1 h_a3.2 (by unfold zv_rg; omega) c2]; omega, zc_w _⟩  rfl
          · rw [qL4_look_187]
            rw [qL4_look_188]
            refine zd_wB F0 (zc_y4_2 h_a0).1 (zc_y4_2 h_a0).2 (zd_y4_2 h_a0) (by omega) (by omega) fun g1x4 F25 u_g1x4 => ?_
            refine zd_rI F25 h_a0 fun v2x5 e_v2x5 r_v2x5 => ?_
            rw [u_g1x4 _ _ (by rw [h_a0])] at e_v2x5
            refine zd_rF F25 3 h_a0 ?_
            refine zd_rB F25 (zc_y4_2 h_a0).1 (zc_y4_2 h_a0).2 (by omega) (by omega) fun v4x4 r_v4x4 => ?_
            refine zm_if (fun c26 => ?_) (fun c26 => ?_)
            · refine zd_wO F25 h_a0 (zc_frO h_a0 (zc_lt h_a0 (by decide)) (by decide) rfl (by decide)) (zc_w _) fun g5x4 F27 => ?_
              exact ih_L4_look_114 _ (by rw [← eN]; exact zc_up h_a3.2 (by unfold zv_rg; omega) c2) F27 h_a0 ⟨by rw [zc_up1 h_a3.2 (by unfold zv_rg; omega) c2]; omega, zc_w _⟩  rfl
            · refine zd_wO F25 h_a0 (zc_frO h_a0 (zc_lt h_a0 (by decide)) (by decide) rfl (by decide)) (zc_w _) fun g6x4 F28 => ?_
              exact ih_L4_look_114 _ (by rw [← eN]; exact zc_up h_a3.2 (by unfold zv_rg; omega) c2) F28 h_a0 ⟨by rw [zc_up1 h_a3.2 (by unfold zv_rg; omega) c2]; omega, zc_w _⟩  rfl
      · exact zm_iV F0
    · exact zm_iV F0
theorem zd_L4_look_24 {d : Nat} {h0 : zv_H} (N_L4_look_24 : Nat) : ∀ {h : zv_H} {a0 : Nat} {a1 : Int64} {a3 : Int}, zd_Q h0 h → (zv_lay a0 = (1, 4)) → (0 ≤ a3 ∧ zv_rg a3) → (2147483647 - a3).toNat = N_L4_look_24 → zm_R (L4_look_24 (d + 1) a0 a1 a3 h) (zm_V fun h' => zd_Q h0 h') := by
  induction N_L4_look_24 using Nat.strongRecOn with
  | _ N_L4_look_24 ih_L4_look_24 =>
    intro h a0 a1 a3 F0 h_a0 h_a3 eN
    rw [qL4_look_24]
    have z_a3 := h_a3.1
    refine zd_rI F0 h_a0 fun v1 e_v1 r_v1 => ?_
    have b_v1 := zd_bdv (k := 5) (m := 48) F0 h_a0 rfl
    rw [← e_v1] at b_v1
    refine zm_if (fun c1 => ?_) (fun c1 => ?_)
    · refine zd_rF F0 1 h_a0 ?_
      refine zd_rQ F0 h_a0 (by omega) (by omega) ?_
      exact zd_L4_look_43 ih_L4_look_24 _ F0 h_a0 h_a3.2 (zd_pa F0 h_a0 (a3).toNat) ⟨by omega, (by unfold zv_rg; omega)⟩ ⟨(by rw [← eN]; exact zc_up h_a3.2 r_v1 c1), (⟨by rw [zc_up1 h_a3.2 r_v1 c1]; omega, zc_w _⟩ : 0 ≤ (zv_w (a3 + 1)) ∧ zv_rg (zv_w (a3 + 1))).1⟩ rfl
    · refine zd_wO F0 h_a0 (zc_frO h_a0 (zc_lt h_a0 (by decide)) (by decide) rfl (by decide)) (by unfold zv_rg; omega) fun g4 F2 => ?_
      exact zd_L4_look_114  _ F2 h_a0 ⟨by omega, (by unfold zv_rg; omega)⟩  rfl
theorem zd_L4_look_2 {d : Nat} {h0 : zv_H} (N_L4_look_2 : Nat) : ∀ {h : zv_H} {a0 : Nat} {a1 : Int64} {a3 : Int}, zd_Q h0 h → (zv_lay a0 = (1, 4)) → (0 ≤ a3 ∧ zv_rg a3) → (2147483647 - a3).toNat = N_L4_look_2 → zm_R (L4_look_2 (d + 1) a0 a1 a3 h) (zm_V fun h' => zd_Q h0 h') := by
  induction N_L4_look_2 using Nat.strongRecOn with
  | _ N_L4_look_2 ih_L4_look_2 =>
    intro h a0 a1 a3 F0 h_a0 h_a3 eN
    rw [qL4_look_2]
    have z_a3 := h_a3.1
    refine zm_if (fun c1 => ?_) (fun c1 => ?_)
    · refine zd_rF F0 4 h_a0 ?_
      refine zd_wB F0 (zc_y4_3 h_a0).1 (zc_y4_3 h_a0).2 (zd_y4_3 h_a0) (by omega) (by omega) fun g2 F2 u_g2 => ?_
      exact ih_L4_look_2 _ (by rw [← eN]; exact zc_up h_a3.2 (by unfold zv_rg; omega) c1) F2 h_a0 ⟨by rw [zc_up1 h_a3.2 (by unfold zv_rg; omega) c1]; omega, zc_w _⟩  rfl
    · exact zd_L4_look_24  _ F0 h_a0 ⟨by omega, (by unfold zv_rg; omega)⟩  rfl
theorem zd_E4_look {d : Nat} {h : zv_H} {a0 : Nat} {a1 : Int64} (hA : zc_A h) (h_a0 : zv_lay a0 = (1, 4)) : zm_R (E4_look (d + 1) a0 a1 h) (zm_V fun h' => zd_Q h h') := by
  have F0 := zd_Q_r hA
  rw [qE4_look]
  exact zd_L4_look_2  _ F0 h_a0 ⟨by omega, (by unfold zv_rg; omega)⟩  rfl
theorem zd_C4_look {d : Nat} {h : zv_H} {a0 : Nat} {a1 : Int64} (hA : zc_A h) (h_a0 : zv_lay a0 = (1, 4)) : zm_R (C4_look (d + 2) a0 a1 h) (fun q => zd_Q h q) := zm_cV (fun e => lC4_look (zc_ob hA h_a0) e) (zd_E4_look hA h_a0)
theorem zd_L4_lay_77 {d : Nat} {h0 : zv_H} (N_L4_lay_77 : Nat) : ∀ {h : zv_H} {a0 : Nat} {a2 : Int} {a3 : Int}, zd_Q h0 h → (zv_lay a0 = (1, 4)) → (zv_rg a2) → (0 ≤ a3 ∧ zv_rg a3) → (2147483647 - a3).toNat = N_L4_lay_77 → zm_R (L4_lay_77 (d + 2) a0 a2 a3 h) (zm_V fun h' => zd_Q h0 h') := by
  induction N_L4_lay_77 using Nat.strongRecOn with
  | _ N_L4_lay_77 ih_L4_lay_77 =>
    intro h a0 a2 a3 F0 h_a0 h_a2 h_a3 eN
    rw [qL4_lay_77]
    have z_a3 := h_a3.1
    refine zm_if (fun c1 => ?_) (fun c1 => ?_)
    · refine zc_pI (K := fun v => (v = 0 ∨ (v = 1 ∧ 0 ≤ a2 ∧ a2 < 604))) (zc_C4_isId F0.2 h_a2) fun q1v r_q1 k_q1 => ?_
      dsimp only
      refine zm_if (fun c3 => ?_) (fun c3 => ?_)
      · rw [qL4_lay_118]
        refine zd_rJ F0 h_a0 fun v1 => ?_
        refine zd_cV F0 (zd_C4_look F0.2 h_a0) fun g2 F4 => ?_
        exact zm_iV F4
      · refine zd_rF F0 2 h_a0 ?_
        refine zd_wA F0 (zc_y4_1 h_a0).1 (zc_y4_1 h_a0).2 (zd_y4_1 h_a0) (by omega) (by omega) h_a2 fun g3 F5 u_g3 => ?_
        refine zd_wO F5 h_a0 (zc_frO h_a0 (zc_lt h_a0 (by decide)) (by decide) rfl (by decide)) (zc_w _) fun g4 F6 => ?_
        refine zd_rF F6 5 h_a0 ?_
        refine zd_rA F6 (zc_y4_4 h_a0).1 (zc_y4_4 h_a0).2 (by omega) (by omega) fun v6 r_v6 => ?_
        exact ih_L4_lay_77 _ (by rw [← eN]; exact zc_up h_a3.2 (by unfold zv_rg; omega) c1) F6 h_a0 r_v6 ⟨by rw [zc_up1 h_a3.2 (by unfold zv_rg; omega) c1]; omega, zc_w _⟩  rfl
    · rw [qL4_lay_118]
      refine zd_rJ F0 h_a0 fun v1x1 => ?_
      refine zd_cV F0 (zd_C4_look F0.2 h_a0) fun g2x1 F7 => ?_
      exact zm_iV F7
theorem zd_L4_lay_16 {d : Nat} {h0 : zv_H} (N_L4_lay_16 : Nat) : ∀ {h : zv_H} {a0 : Nat} {a2 : Int}, zd_Q h0 h → (zv_lay a0 = (1, 4)) → (0 ≤ a2 ∧ zv_rg a2) → (2147483647 - a2).toNat = N_L4_lay_16 → zm_R (L4_lay_16 (d + 2) a0 a2 h) (zm_V fun h' => zd_Q h0 h') := by
  induction N_L4_lay_16 using Nat.strongRecOn with
  | _ N_L4_lay_16 ih_L4_lay_16 =>
    intro h a0 a2 F0 h_a0 h_a2 eN
    rw [qL4_lay_16]
    have z_a2 := h_a2.1
    refine zd_rI F0 h_a0 fun v1 e_v1 r_v1 => ?_
    have b_v1 := zd_bdv (k := 5) (m := 48) F0 h_a0 rfl
    rw [← e_v1] at b_v1
    refine zm_if (fun c1 => ?_) (fun c1 => ?_)
    · refine zd_rF F0 1 h_a0 ?_
      refine zd_rQ F0 h_a0 (by omega) (by omega) ?_
      refine zm_if (fun c2 => ?_) (fun c2 => ?_)
      · exact ih_L4_lay_16 _ (by rw [← eN]; exact zc_up h_a2.2 r_v1 c1) F0 h_a0 ⟨by rw [zc_up1 h_a2.2 r_v1 c1]; omega, zc_w _⟩  rfl
      · refine zd_rF F0 1 h_a0 ?_
        refine zd_rQ F0 h_a0 (by omega) (by omega) ?_
        refine zc_pI (K := fun v => True) (zc_C5_brings F0.2 ((zd_pa F0 h_a0 (a2).toNat).resolve_left c2)) fun q6v r_q6 k_q6 => ?_
        dsimp only
        refine zm_if (fun c4 => ?_) (fun c4 => ?_)
        · exact ih_L4_lay_16 _ (by rw [← eN]; exact zc_up h_a2.2 r_v1 c1) F0 h_a0 ⟨by rw [zc_up1 h_a2.2 r_v1 c1]; omega, zc_w _⟩  rfl
        · refine zd_rF F0 1 h_a0 ?_
          refine zd_rQ F0 h_a0 (by omega) (by omega) ?_
          refine zd_cV F0 (zd_C4_link F0.2 h_a0 ((zd_pa F0 h_a0 (a2).toNat).resolve_left c2)) fun g9 F5 => ?_
          exact ih_L4_lay_16 _ (by rw [← eN]; exact zc_up h_a2.2 r_v1 c1) F5 h_a0 ⟨by rw [zc_up1 h_a2.2 r_v1 c1]; omega, zc_w _⟩  rfl
    · refine zd_wO F0 h_a0 (zc_frO h_a0 (zc_lt h_a0 (by decide)) (by decide) rfl (by decide)) (by unfold zv_rg; omega) fun g10 F6 => ?_
      refine zd_rF F6 5 h_a0 ?_
      refine zd_rA F6 (zc_y4_4 h_a0).1 (zc_y4_4 h_a0).2 (by omega) (by omega) fun v12 r_v12 => ?_
      exact zd_L4_lay_77  _ F6 h_a0 r_v12 ⟨by omega, (by unfold zv_rg; omega)⟩  rfl
theorem zd_E4_lay {d : Nat} {h : zv_H} {a0 : Nat} {a1 : Nat} (hA : zc_A h) (h_a0 : zv_lay a0 = (1, 4)) (h_a1 : zc_V h a1) : zm_R (E4_lay (d + 2) a0 a1 h) (zm_V fun h' => zd_Q h h') := by
  have F0 := zd_Q_r hA
  rw [qE4_lay]
  refine zd_cV F0 (zd_C4_walk F0.2 h_a0 (zc_Vq F0.1.1 h_a1)) fun g1 F1 => ?_
  refine zd_rF F1 5 h_a0 ?_
  refine zd_wA F1 (zc_y4_4 h_a0).1 (zc_y4_4 h_a0).2 (zd_y4_4 h_a0) (by omega) (by omega) (by unfold zv_rg; omega) fun g3 F2 u_g3 => ?_
  exact zd_L4_lay_16  _ F2 h_a0 ⟨by omega, (by unfold zv_rg; omega)⟩  rfl
theorem zd_C4_lay {d : Nat} {h : zv_H} {a0 : Nat} {a1 : Nat} (hA : zc_A h) (h_a0 : zv_lay a0 = (1, 4)) (h_a1 : zc_V h a1) : zm_R (C4_lay (d + 3) a0 a1 h) (fun q => zd_Q h q) := zm_cV (fun e => lC4_lay (zc_ob hA h_a0) e) (zd_E4_lay hA h_a0 h_a1)
theorem zd_E8_refused {d : Nat} {h : zv_H} {a0 : Nat} {a1 : Int} (hA : zc_A h) (h_a0 : zv_lay a0 = (1, 8)) (h_a1 : zv_rg a1) : zm_R (E8_refused (d + 0) a0 a1 h) (zm_I fun v h' => zd_Q h h' ∧ zv_rg v ∧ True) := by
  have F0 := zd_Q_r hA
  rw [qE8_refused]
  refine zd_wO F0 h_a0 (zc_frO h_a0 (zc_lt h_a0 (by decide)) (by decide) rfl (by decide)) h_a1 fun g1 F1 => ?_
  exact zm_iI ⟨F1, (by unfold zv_rg; omega), trivial⟩
theorem zd_C8_refused {d : Nat} {h : zv_H} {a0 : Nat} {a1 : Int} (hA : zc_A h) (h_a0 : zv_lay a0 = (1, 8)) (h_a1 : zv_rg a1) : zm_R (C8_refused (d + 1) a0 a1 h) (fun q => zd_Q h q.2 ∧ zv_rg q.1 ∧ True) := zm_cI (fun e => lC8_refused (zc_ob hA h_a0) e) (zd_E8_refused hA h_a0 h_a1)
theorem zd_E8_given {d : Nat} {h : zv_H} {a0 : Nat} {a1 : Int} (hA : zc_A h) (h_a0 : zv_lay a0 = (1, 8)) (h_a1 : zv_rg a1) : zm_R (E8_given (d + 0) a0 a1 h) (zm_I fun v h' => zd_Q h h' ∧ zv_rg v ∧ True) := by
  have F0 := zd_Q_r hA
  rw [qE8_given]
  refine zd_wO F0 h_a0 (zc_frO h_a0 (zc_lt h_a0 (by decide)) (by decide) rfl (by decide)) (by unfold zv_rg; omega) fun g1 F1 => ?_
  exact zm_iI ⟨F1, h_a1, trivial⟩
theorem zd_C8_given {d : Nat} {h : zv_H} {a0 : Nat} {a1 : Int} (hA : zc_A h) (h_a0 : zv_lay a0 = (1, 8)) (h_a1 : zv_rg a1) : zm_R (C8_given (d + 1) a0 a1 h) (fun q => zd_Q h q.2 ∧ zv_rg q.1 ∧ True) := zm_cI (fun e => lC8_given (zc_ob hA h_a0) e) (zd_E8_given hA h_a0 h_a1)
theorem zd_E0_rowOfHere {d : Nat} {h : zv_H} {a0 : Nat} (hA : zc_A h) (h_a0 : zv_lay a0 = (1, 0)) : zm_R (E0_rowOfHere (d + 3) a0 h) (zm_N fun v h' => zd_Q h h' ∧ (zv_lay v = (1, 4))) := by
  have F0 := zd_Q_r hA
  rw [qE0_rowOfHere]
  refine zd_rF F0 8 h_a0 ?_
  refine zd_rRo F0 h_a0 ?_
  refine zd_cV F0 (zd_C4_lay F0.2 (zc_y0_5 h_a0).1 (zc_Vq F0.1.1 (zd_hV F0 h_a0).1)) fun g3 F1 => ?_
  refine zd_rF F1 8 h_a0 ?_
  exact zm_iN ⟨F1, (zc_y0_5 h_a0).1⟩
theorem zd_C0_rowOfHere {d : Nat} {h : zv_H} {a0 : Nat} (hA : zc_A h) (h_a0 : zv_lay a0 = (1, 0)) : zm_R (C0_rowOfHere (d + 4) a0 h) (fun q => zd_Q h q.2 ∧ (zv_lay q.1 = (1, 4))) := zm_cN (fun e => lC0_rowOfHere (zc_ob hA h_a0) e) (zd_E0_rowOfHere hA h_a0)
theorem zd_L0_findNewest_49 {d : Nat} {h0 : zv_H} {N_L0_findNewest_35 : Nat} (ih_L0_findNewest_35 : ∀ m, m < N_L0_findNewest_35 → ∀ {h : zv_H} {a0 : Nat} {a1 : Int}, zd_Q h0 h → (zv_lay a0 = (1, 0)) → (0 ≤ a1 ∧ zv_rg a1) → (2147483647 - a1).toNat = m → zm_R (L0_findNewest_35 (d + 1) a0 a1 h) (zm_V fun h' => zd_Q h0 h')) (N_L0_findNewest_49 : Nat) : ∀ {h : zv_H} {a0 : Nat} {a1 : Int} {a2 : Nat} {a3 : Nat}, zd_Q h0 h → (zv_lay a0 = (1, 0)) → (zv_rg a1) → (a3 = 0 ∨ zc_V h0 a2) → (a3 = 0 ∨ zc_V h0 a3) → ((2147483647 - (zv_w (a1 + 1))).toNat < N_L0_findNewest_35 ∧ 0 ≤ (zv_w (a1 + 1))) → zc_dm h0 a3 = N_L0_findNewest_49 → zm_R (L0_findNewest_49 (d + 1) a0 a1 a2 a3 h) (zm_V fun h' => zd_Q h0 h') := by
  induction N_L0_findNewest_49 using Nat.strongRecOn with
  | _ N_L0_findNewest_49 ih_L0_findNewest_49 =>
    intro h a0 a1 a2 a3 F0 h_a0 h_a1 h_a2 h_a3 hm_L0_findNewest_35 eN
    rw [qL0_findNewest_49]
    refine zm_if (fun c1 => ?_) (fun c1 => ?_)
    · exact ih_L0_findNewest_35 _ hm_L0_findNewest_35.1 F0 h_a0 ⟨hm_L0_findNewest_35.2, (zc_w _)⟩  rfl
    · refine zd_rI F0 (h_a3.resolve_left c1).1 fun v1 e_v1 r_v1 => ?_
      refine zd_rI F0 (h_a2.resolve_left c1).1 fun v2 e_v2 r_v2 => ?_
      refine zd_wO F0 (h_a3.resolve_left c1).1 (zc_frO (h_a3.resolve_left c1).1 (zc_lt (h_a3.resolve_left c1).1 (by decide)) (by decide) rfl (by decide)) (zc_mx r_v1 r_v2) fun g3 F2 => ?_
      refine zd_rR5 F2 (h_a3.resolve_left c1).1 ?_
      exact ih_L0_findNewest_49 _ (by rw [← eN]; exact zd_dmP F2 (h_a3.resolve_left c1)) F2 h_a0 h_a1 (Or.inr (h_a2.resolve_left c1)) (zd_pV F2 (h_a3.resolve_left c1)) hm_L0_findNewest_35 rfl
theorem zd_L0_findNewest_35 {d : Nat} {h0 : zv_H} (N_L0_findNewest_35 : Nat) : ∀ {h : zv_H} {a0 : Nat} {a1 : Int}, zd_Q h0 h → (zv_lay a0 = (1, 0)) → (0 ≤ a1 ∧ zv_rg a1) → (2147483647 - a1).toNat = N_L0_findNewest_35 → zm_R (L0_findNewest_35 (d + 1) a0 a1 h) (zm_V fun h' => zd_Q h0 h') := by
  induction N_L0_findNewest_35 using Nat.strongRecOn with
  | _ N_L0_findNewest_35 ih_L0_findNewest_35 =>
    intro h a0 a1 F0 h_a0 h_a1 eN
    rw [qL0_findNewest_35]
    have z_a1 := h_a1.1
    refine zm_if (fun c1 => ?_) (fun c1 => ?_)
    · refine zc_pN (K := fun v => (v = 0 ∨ zc_V h v)) (zc_C0_at F0.2 h_a0 h_a1.2) fun q1v k_q1 => ?_
      dsimp only
      exact zd_L0_findNewest_49 ih_L0_findNewest_35 _ F0 h_a0 h_a1.2 (Or.imp id (zc_Vb F0.1.1) k_q1) (Or.imp id (zc_Vb F0.1.1) k_q1) ⟨(by rw [← eN]; exact zc_up h_a1.2 (by unfold zv_rg; omega) c1), (⟨by rw [zc_up1 h_a1.2 (by unfold zv_rg; omega) c1]; omega, zc_w _⟩ : 0 ≤ (zv_w (a1 + 1)) ∧ zv_rg (zv_w (a1 + 1))).1⟩ rfl
    · exact zm_iV F0
theorem zd_L0_findNewest_2 {d : Nat} {h0 : zv_H} (N_L0_findNewest_2 : Nat) : ∀ {h : zv_H} {a0 : Nat} {a1 : Int}, zd_Q h0 h → (zv_lay a0 = (1, 0)) → (0 ≤ a1 ∧ zv_rg a1) → (2147483647 - a1).toNat = N_L0_findNewest_2 → zm_R (L0_findNewest_2 (d + 1) a0 a1 h) (zm_V fun h' => zd_Q h0 h') := by
  induction N_L0_findNewest_2 using Nat.strongRecOn with
  | _ N_L0_findNewest_2 ih_L0_findNewest_2 =>
    intro h a0 a1 F0 h_a0 h_a1 eN
    rw [qL0_findNewest_2]
    have z_a1 := h_a1.1
    refine zm_if (fun c1 => ?_) (fun c1 => ?_)
    · refine zd_rF F0 4 h_a0 ?_
      refine zd_rS F0 h_a0 (by omega) (by omega) fun v2 l_v2 f_v2 e_v2 n_v2 => ?_
      refine zm_if (fun c2 => ?_) (fun c2 => ?_)
      · exact absurd c2 (zc_nz l_v2)
      · refine zd_rF F0 4 h_a0 ?_
        refine zd_rS F0 h_a0 (by omega) (by omega) fun v4 l_v4 f_v4 e_v4 n_v4 => ?_
        refine zd_wO F0 l_v4 (zc_frO l_v4 (zc_lt l_v4 (by decide)) (by decide) rfl (by decide)) (by unfold zv_rg; omega) fun g5 F3 => ?_
        exact ih_L0_findNewest_2 _ (by rw [← eN]; exact zc_up h_a1.2 (by unfold zv_rg; omega) c1) F3 h_a0 ⟨by rw [zc_up1 h_a1.2 (by unfold zv_rg; omega) c1]; omega, zc_w _⟩  rfl
    · exact zd_L0_findNewest_35  _ F0 h_a0 ⟨by omega, (by unfold zv_rg; omega)⟩  rfl
theorem zd_E0_findNewest {d : Nat} {h : zv_H} {a0 : Nat} (hA : zc_A h) (h_a0 : zv_lay a0 = (1, 0)) : zm_R (E0_findNewest (d + 1) a0 h) (zm_V fun h' => zd_Q h h') := by
  have F0 := zd_Q_r hA
  rw [qE0_findNewest]
  exact zd_L0_findNewest_2  _ F0 h_a0 ⟨by omega, (by unfold zv_rg; omega)⟩  rfl
theorem zd_C0_findNewest {d : Nat} {h : zv_H} {a0 : Nat} (hA : zc_A h) (h_a0 : zv_lay a0 = (1, 0)) : zm_R (C0_findNewest (d + 2) a0 h) (fun q => zd_Q h q) := zm_cV (fun e => lC0_findNewest (zc_ob hA h_a0) e) (zd_E0_findNewest hA h_a0)
theorem zd_L0_childOf_34 {d : Nat} {h0 : zv_H} (N_L0_childOf_34 : Nat) : ∀ {h : zv_H} {a0 : Nat} {a1 : Nat} {a2 : Int} {a3 : Nat} {a4 : Int} {a5 : Int}, zd_Q h0 h → (zv_lay a0 = (1, 0)) → (zv_lay a1 = (1, 5)) → ((-2147483648 ≤ a2 ∧ a2 < 2147483647) ∧ zv_rg a2) → (a3 = 0 ∨ zc_V h0 a3) → (zv_rg a4) → (0 ≤ a5 ∧ zv_rg a5) → (2147483647 - a5).toNat = N_L0_childOf_34 → zm_R (L0_childOf_34 (d + 2) a0 a1 a2 a3 a4 a5 h) (zm_N fun v h' => zd_Q h0 h' ∧ ((v = 0 ∨ zc_V h0 v))) := by
  induction N_L0_childOf_34 using Nat.strongRecOn with
  | _ N_L0_childOf_34 ih_L0_childOf_34 =>
    intro h a0 a1 a2 a3 a4 a5 F0 h_a0 h_a1 h_a2 h_a3 h_a4 h_a5 eN
    rw [qL0_childOf_34]
    have z_a2 := h_a2.1
    have z_a5 := h_a5.1
    refine zm_if (fun c1 => ?_) (fun c1 => ?_)
    · refine zc_pN (K := fun v => (v = 0 ∨ zc_V h v)) (zc_C0_newestChild F0.2 h_a0 h_a1 h_a4) fun q1v k_q1 => ?_
      dsimp only
      refine zm_if (fun c3 => ?_) (fun c3 => ?_)
      · exact zm_iN ⟨F0, Or.inl rfl⟩
      · refine zd_rI F0 ((Or.imp id (zc_Vb F0.1.1) k_q1).resolve_left c3).1 fun v2 e_v2 r_v2 => ?_
        exact ih_L0_childOf_34 _ (by rw [← eN]; exact zc_up h_a5.2 (show zv_rg (a2 + 1) from (by unfold zv_rg at *; omega)) (by omega)) F0 h_a0 h_a1 ⟨by unfold zv_rg at *; omega, h_a2.2⟩ (Or.inr ((Or.imp id (zc_Vb F0.1.1) k_q1).resolve_left c3)) r_v2 ⟨by rw [zc_up1 h_a5.2 (show zv_rg (a2 + 1) from (by unfold zv_rg at *; omega)) (by omega)]; omega, zc_w _⟩  rfl
    · exact zm_iN ⟨F0, h_a3⟩
theorem zd_E0_childOf {d : Nat} {h : zv_H} {a0 : Nat} {a1 : Nat} {a2 : Int} (hA : zc_A h) (h_a0 : zv_lay a0 = (1, 0)) (h_a1 : zv_lay a1 = (1, 5)) (h_a2 : zv_rg a2) : zm_R (E0_childOf (d + 2) a0 a1 a2 h) (zm_N fun v h' => zd_Q h h' ∧ ((v = 0 ∨ zc_V h v))) := by
  have F0 := zd_Q_r hA
  rw [qE0_childOf]
  refine zm_if (fun c1 => ?_) (fun c1 => ?_)
  · exact zm_iN ⟨F0, Or.inl rfl⟩
  · refine zd_rT F0 h_a1 fun v1 e_v1 r_v1 => ?_
    refine zm_if (fun c2 => ?_) (fun c2 => ?_)
    · refine zd_cV F0 (zd_C0_findNewest F0.2 h_a0) fun g2 F3 => ?_
      refine zd_rF F3 17 h_a0 ?_
      refine zd_rI F3 (zc_y0_7 h_a0).1 fun v4 e_v4 r_v4 => ?_
      exact zd_L0_childOf_34  _ F3 h_a0 h_a1 ⟨by unfold zv_rg at *; omega, h_a2⟩ (Or.inl rfl) (zc_w _) ⟨by omega, (by unfold zv_rg; omega)⟩  rfl
    · exact zm_iN ⟨F0, Or.inl rfl⟩
theorem zd_C0_childOf {d : Nat} {h : zv_H} {a0 : Nat} {a1 : Nat} {a2 : Int} (hA : zc_A h) (h_a0 : zv_lay a0 = (1, 0)) (h_a1 : zv_lay a1 = (1, 5)) (h_a2 : zv_rg a2) : zm_R (C0_childOf (d + 3) a0 a1 a2 h) (fun q => zd_Q h q.2 ∧ ((q.1 = 0 ∨ zc_V h q.1))) := zm_cN (fun e => lC0_childOf (zc_ob hA h_a0) e) (zd_E0_childOf hA h_a0 h_a1 h_a2)
theorem zd_L0_longestCommon_58 {d : Nat} {h0 : zv_H} {N_L0_longestCommon_34 : Nat} (ih_L0_longestCommon_34 : ∀ m, m < N_L0_longestCommon_34 → ∀ {h : zv_H} {a0 : Nat} {a1 : Nat} {a2 : Nat} {a3 : Int} {a4 : Int}, zd_Q h0 h → (zv_lay a0 = (1, 0)) → (zv_lay a1 = (1, 5)) → (zv_lay a2 = (1, 5)) → ((0 ≤ a3 ∧ a3 < 121) ∧ zv_rg a3) → (0 ≤ a4 ∧ zv_rg a4) → (2147483647 - a4).toNat = m → zm_R (L0_longestCommon_34 (d + 2) a0 a1 a2 a3 a4 h) (zm_I fun v h' => zd_Q h0 h' ∧ zv_rg v ∧ True)) (N_L0_longestCommon_58 : Nat) : ∀ {h : zv_H} {a0 : Nat} {a1 : Nat} {a2 : Nat} {a3 : Int} {a4 : Int} {a5 : Int} {a6 : Int} {a7 : Int}, zd_Q h0 h → (zv_lay a0 = (1, 0)) → (zv_lay a1 = (1, 5)) → (zv_lay a2 = (1, 5)) → ((0 ≤ a3 ∧ a3 < 121) ∧ zv_rg a3) → (zv_rg a4) → (zv_rg a5) → (zv_rg a6) → ((1 ≤ a7 ∧ a7 < 2147483648) ∧ zv_rg a7) → ((2147483647 - (zv_w (a4 + 1))).toNat < N_L0_longestCommon_34 ∧ 0 ≤ (zv_w (a4 + 1))) → (2147483647 - a7).toNat = N_L0_longestCommon_58 → zm_R (L0_longestCommon_58 (d + 2) a0 a1 a2 a3 a4 a5 a6 a7 h) (zm_I fun v h' => zd_Q h0 h' ∧ zv_rg v ∧ True) := by
  induction N_L0_longestCommon_58 using Nat.strongRecOn with
  | _ N_L0_longestCommon_58 ih_L0_longestCommon_58 =>
    intro h a0 a1 a2 a3 a4 a5 a6 a7 F0 h_a0 h_a1 h_a2 h_a3 h_a4 h_a5 h_a6 h_a7 hm_L0_longestCommon_34 eN
    rw [qL0_longestCommon_58]
    have z_a3 := h_a3.1
    have z_a7 := h_a7.1
    refine zm_if (fun c1 => ?_) (fun c1 => ?_)
    · refine zd_rF F0 7 h_a0 ?_
      refine zd_rA F0 (zc_y0_4 h_a0).1 (zc_y0_4 h_a0).2 (by omega) (by omega) fun v2 r_v2 => ?_
      refine zd_rF F0 7 h_a0 ?_
      refine zc_pI (K := fun v => True) (zc_C0_letterAt F0.2 h_a0 h_a2 (zc_w _)) fun q4v r_q4 k_q4 => ?_
      dsimp only
      refine zm_if (fun c3 => ?_) (fun c3 => ?_)
      · refine zd_wA F0 (zc_y0_4 h_a0).1 (zc_y0_4 h_a0).2 (zd_y0_4 h_a0) (by omega) (by omega) (zc_w _) fun g5 F4 u_g5 => ?_
        exact ih_L0_longestCommon_58 _ (by rw [← eN]; exact zc_up h_a7.2 (show zv_rg (a3 + 1) from (by unfold zv_rg at *; omega)) (by omega)) F4 h_a0 h_a1 h_a2 ⟨by unfold zv_rg at *; omega, h_a3.2⟩ h_a4 h_a5 r_v2 ⟨by rw [zm_w (by omega)]; omega, (zc_w _)⟩ hm_L0_longestCommon_34 rfl
      · refine zd_rF F0 7 h_a0 ?_
        refine zd_rA F0 (zc_y0_4 h_a0).1 (zc_y0_4 h_a0).2 (by first | omega | (rw [zm_w (by omega)]; omega)) (by first | omega | (rw [zm_w (by omega)]; omega)) fun v7 r_v7 => ?_
        refine zd_wA F0 (zc_y0_4 h_a0).1 (zc_y0_4 h_a0).2 (zd_y0_4 h_a0) (by omega) (by omega) (zc_mx r_v2 r_v7) fun g8 F5 u_g8 => ?_
        exact ih_L0_longestCommon_58 _ (by rw [← eN]; exact zc_up h_a7.2 (show zv_rg (a3 + 1) from (by unfold zv_rg at *; omega)) (by omega)) F5 h_a0 h_a1 h_a2 ⟨by unfold zv_rg at *; omega, h_a3.2⟩ h_a4 h_a5 r_v2 ⟨by rw [zm_w (by omega)]; omega, (zc_w _)⟩ hm_L0_longestCommon_34 rfl
    · exact ih_L0_longestCommon_34 _ hm_L0_longestCommon_34.1 F0 h_a0 h_a1 h_a2 ⟨by unfold zv_rg at *; omega, h_a3.2⟩ ⟨hm_L0_longestCommon_34.2, (zc_w _)⟩  rfl
theorem zd_L0_longestCommon_34 {d : Nat} {h0 : zv_H} (N_L0_longestCommon_34 : Nat) : ∀ {h : zv_H} {a0 : Nat} {a1 : Nat} {a2 : Nat} {a3 : Int} {a4 : Int}, zd_Q h0 h → (zv_lay a0 = (1, 0)) → (zv_lay a1 = (1, 5)) → (zv_lay a2 = (1, 5)) → ((0 ≤ a3 ∧ a3 < 121) ∧ zv_rg a3) → (0 ≤ a4 ∧ zv_rg a4) → (2147483647 - a4).toNat = N_L0_longestCommon_34 → zm_R (L0_longestCommon_34 (d + 2) a0 a1 a2 a3 a4 h) (zm_I fun v h' => zd_Q h0 h' ∧ zv_rg v ∧ True) := by
  induction N_L0_longestCommon_34 using Nat.strongRecOn with
  | _ N_L0_longestCommon_34 ih_L0_longestCommon_34 =>
    intro h a0 a1 a2 a3 a4 F0 h_a0 h_a1 h_a2 h_a3 h_a4 eN
    rw [qL0_longestCommon_34]
    have z_a3 := h_a3.1
    have z_a4 := h_a4.1
    refine zd_rI F0 h_a1 fun v1 e_v1 r_v1 => ?_
    have b_v1 := zd_bdv (k := 12) (m := 120) F0 h_a1 rfl
    rw [← e_v1] at b_v1
    refine zm_if (fun c1 => ?_) (fun c1 => ?_)
    · refine zc_pI (K := fun v => True) (zc_C0_letterAt F0.2 h_a0 h_a1 h_a4.2) fun q2v r_q2 k_q2 => ?_
      dsimp only
      exact zd_L0_longestCommon_58 ih_L0_longestCommon_34 _ F0 h_a0 h_a1 h_a2 ⟨by unfold zv_rg at *; omega, h_a3.2⟩ h_a4.2 r_q2 (by unfold zv_rg; omega) ⟨by unfold zv_rg at *; omega, (by unfold zv_rg; omega)⟩ ⟨(by rw [← eN]; exact zc_up h_a4.2 r_v1 c1), (⟨by rw [zc_up1 h_a4.2 r_v1 c1]; omega, zc_w _⟩ : 0 ≤ (zv_w (a4 + 1)) ∧ zv_rg (zv_w (a4 + 1))).1⟩ rfl
    · refine zd_rF F0 7 h_a0 ?_
      refine zd_rA F0 (zc_y0_4 h_a0).1 (zc_y0_4 h_a0).2 (by omega) (by omega) fun v4 r_v4 => ?_
      exact zm_iI ⟨F0, r_v4, trivial⟩
theorem zd_L0_longestCommon_2 {d : Nat} {h0 : zv_H} (N_L0_longestCommon_2 : Nat) : ∀ {h : zv_H} {a0 : Nat} {a1 : Nat} {a2 : Nat} {a3 : Int}, zd_Q h0 h → (zv_lay a0 = (1, 0)) → (zv_lay a1 = (1, 5)) → (zv_lay a2 = (1, 5)) → (0 ≤ a3 ∧ zv_rg a3) → (2147483647 - a3).toNat = N_L0_longestCommon_2 → zm_R (L0_longestCommon_2 (d + 2) a0 a1 a2 a3 h) (zm_I fun v h' => zd_Q h0 h' ∧ zv_rg v ∧ True) := by
  induction N_L0_longestCommon_2 using Nat.strongRecOn with
  | _ N_L0_longestCommon_2 ih_L0_longestCommon_2 =>
    intro h a0 a1 a2 a3 F0 h_a0 h_a1 h_a2 h_a3 eN
    rw [qL0_longestCommon_2]
    have z_a3 := h_a3.1
    refine zm_if (fun c1 => ?_) (fun c1 => ?_)
    · refine zd_rF F0 7 h_a0 ?_
      refine zd_wA F0 (zc_y0_4 h_a0).1 (zc_y0_4 h_a0).2 (zd_y0_4 h_a0) (by omega) (by omega) (by unfold zv_rg; omega) fun g2 F2 u_g2 => ?_
      exact ih_L0_longestCommon_2 _ (by rw [← eN]; exact zc_up h_a3.2 (show zv_rg ((120 : Int) + 1) from (by unfold zv_rg at *; omega)) (by omega)) F2 h_a0 h_a1 h_a2 ⟨by rw [zc_up1 h_a3.2 (show zv_rg ((120 : Int) + 1) from (by unfold zv_rg at *; omega)) (by omega)]; omega, zc_w _⟩  rfl
    · refine zd_rI F0 h_a2 fun v3 e_v3 r_v3 => ?_
      have b_v3 := zd_bdv (k := 12) (m := 120) F0 h_a2 rfl
      rw [← e_v3] at b_v3
      exact zd_L0_longestCommon_34  _ F0 h_a0 h_a1 h_a2 ⟨by unfold zv_rg at *; omega, (zc_mn r_v3 (by unfold zv_rg; omega))⟩ ⟨by omega, (by unfold zv_rg; omega)⟩  rfl
theorem zd_E0_longestCommon {d : Nat} {h : zv_H} {a0 : Nat} {a1 : Nat} {a2 : Nat} (hA : zc_A h) (h_a0 : zv_lay a0 = (1, 0)) (h_a1 : zv_lay a1 = (1, 5)) (h_a2 : zv_lay a2 = (1, 5)) : zm_R (E0_longestCommon (d + 2) a0 a1 a2 h) (zm_I fun v h' => zd_Q h h' ∧ zv_rg v ∧ True) := by
  have F0 := zd_Q_r hA
  rw [qE0_longestCommon]
  exact zd_L0_longestCommon_2  _ F0 h_a0 h_a1 h_a2 ⟨by omega, (by unfold zv_rg; omega)⟩  rfl
theorem zd_C0_longestCommon {d : Nat} {h : zv_H} {a0 : Nat} {a1 : Nat} {a2 : Nat} (hA : zc_A h) (h_a0 : zv_lay a0 = (1, 0)) (h_a1 : zv_lay a1 = (1, 5)) (h_a2 : zv_lay a2 = (1, 5)) : zm_R (C0_longestCommon (d + 3) a0 a1 a2 h) (fun q => zd_Q h q.2 ∧ zv_rg q.1 ∧ True) := zm_cI (fun e => lC0_longestCommon (zc_ob hA h_a0) e) (zd_E0_longestCommon hA h_a0 h_a1 h_a2)
theorem zd_E8_many {d : Nat} {h : zv_H} {a0 : Nat} {a1 : Int} (hA : zc_A h) (h_a0 : zv_lay a0 = (1, 8)) (h_a1 : zv_rg a1) : zm_R (E8_many (d + 4) a0 a1 h) (zm_I fun v h' => zd_Q h h' ∧ zv_rg v ∧ True) := by
  have F0 := zd_Q_r hA
  rw [qE8_many]
  refine zm_if (fun c1 => ?_) (fun c1 => ?_)
  · refine zd_rRo F0 h_a0 ?_
    refine zd_rI F0 (zd_xH8 F0 h_a0).1 fun v2 e_v2 r_v2 => ?_
    refine zd_cI (K := fun v => True) F0 (zd_C8_given F0.2 h_a0 r_v2) fun q3v q3h F2 r_q3 k_q3 => ?_
    dsimp only
    exact zm_iI ⟨F2, r_q3, trivial⟩
  · refine zm_if (fun c3 => ?_) (fun c3 => ?_)
    · refine zd_rRo F0 h_a0 ?_
      refine zd_rRo F0 (zd_xH8 F0 h_a0).1 ?_
      refine zd_rT F0 (zd_hV F0 (zd_xH8 F0 h_a0).1).1.1 fun v6 e_v6 r_v6 => ?_
      refine zd_cI (K := fun v => True) F0 (zd_C8_given F0.2 h_a0 r_v6) fun q7v q7h F4 r_q7 k_q7 => ?_
      dsimp only
      exact zm_iI ⟨F4, r_q7, trivial⟩
    · refine zm_if (fun c5 => ?_) (fun c5 => ?_)
      · refine zd_rRo F0 h_a0 ?_
        refine zd_rI F0 (zd_xH8 F0 h_a0).1 fun v9 e_v9 r_v9 => ?_
        refine zd_cI (K := fun v => True) F0 (zd_C8_given F0.2 h_a0 r_v9) fun q10v q10h F6 r_q10 k_q10 => ?_
        dsimp only
        exact zm_iI ⟨F6, r_q10, trivial⟩
      · refine zm_if (fun c7 => ?_) (fun c7 => ?_)
        · refine zd_rRo F0 h_a0 ?_
          refine zd_rRo F0 (zd_xH8 F0 h_a0).1 ?_
          refine zd_rI F0 (zd_hV F0 (zd_xH8 F0 h_a0).1).1.1 fun v13 e_v13 r_v13 => ?_
          have b_v13 := zd_bdv (k := 12) (m := 120) F0 (zd_hV F0 (zd_xH8 F0 h_a0).1).1.1 rfl
          rw [← e_v13] at b_v13
          refine zd_cI (K := fun v => True) F0 (zd_C8_given F0.2 h_a0 r_v13) fun q14v q14h F8 r_q14 k_q14 => ?_
          dsimp only
          exact zm_iI ⟨F8, r_q14, trivial⟩
        · refine zm_if (fun c9 => ?_) (fun c9 => ?_)
          · refine zd_rRo F0 h_a0 ?_
            refine zd_cN (K := fun v => zv_lay v = (1, 4)) F0 (zd_C0_rowOfHere F0.2 (zd_xH8 F0 h_a0).1) fun q16v q16h F10 k_q16 => ?_
            dsimp only
            refine zd_rI F10 k_q16 fun v17 e_v17 r_v17 => ?_
            refine zd_cI (K := fun v => True) F10 (zd_C8_given F10.2 h_a0 r_v17) fun q18v q18h F11 r_q18 k_q18 => ?_
            dsimp only
            exact zm_iI ⟨F11, r_q18, trivial⟩
          · refine zm_if (fun c12 => ?_) (fun c12 => ?_)
            · refine zd_rRo F0 h_a0 ?_
              refine zd_rF F0 14 (zd_xH8 F0 h_a0).1 ?_
              refine zd_rI F0 (zc_y0_6 (zd_xH8 F0 h_a0).1).1 fun v21 e_v21 r_v21 => ?_
              refine zd_cI (K := fun v => True) F0 (zd_C8_given F0.2 h_a0 r_v21) fun q22v q22h F13 r_q22 k_q22 => ?_
              dsimp only
              exact zm_iI ⟨F13, r_q22, trivial⟩
            · refine zm_if (fun c14 => ?_) (fun c14 => ?_)
              · refine zd_rRo F0 h_a0 ?_
                refine zc_pI (K := fun v => True) (zc_C0_leaves F0.2 (zd_xH8 F0 h_a0).1) fun q24v r_q24 k_q24 => ?_
                dsimp only
                refine zd_cI (K := fun v => True) F0 (zd_C8_given F0.2 h_a0 r_q24) fun q25v q25h F16 r_q25 k_q25 => ?_
                dsimp only
                exact zm_iI ⟨F16, r_q25, trivial⟩
              · refine zm_if (fun c17 => ?_) (fun c17 => ?_)
                · refine zd_rRo F0 h_a0 ?_
                  refine zc_pI (K := fun v => True) (zc_C0_groups F0.2 (zd_xH8 F0 h_a0).1) fun q27v r_q27 k_q27 => ?_
                  dsimp only
                  refine zd_cI (K := fun v => True) F0 (zd_C8_given F0.2 h_a0 r_q27) fun q28v q28h F19 r_q28 k_q28 => ?_
                  dsimp only
                  exact zm_iI ⟨F19, r_q28, trivial⟩
                · refine zm_if (fun c20 => ?_) (fun c20 => ?_)
                  · refine zd_rRo F0 h_a0 ?_
                    refine zd_cN (K := fun v => zv_lay v = (1, 4)) F0 (zd_C0_rowOfHere F0.2 (zd_xH8 F0 h_a0).1) fun q30v q30h F21 k_q30 => ?_
                    dsimp only
                    refine zc_pJ (zc_C4_outOfForce F21.2 k_q30) fun q31v => ?_
                    dsimp only
                    refine zc_pI (K := fun v => True) (zc_C12_bitCount F21.2 ) fun q32v r_q32 k_q32 => ?_
                    dsimp only
                    refine zd_cI (K := fun v => True) F21 (zd_C8_given F21.2 h_a0 r_q32) fun q33v q33h F24 r_q33 k_q33 => ?_
                    dsimp only
                    exact zm_iI ⟨F24, r_q33, trivial⟩
                  · refine zm_if (fun c25 => ?_) (fun c25 => ?_)
                    · refine zd_rRo F0 h_a0 ?_
                      refine zd_rF F0 17 (zd_xH8 F0 h_a0).1 ?_
                      refine zd_rI F0 (zc_y0_7 (zd_xH8 F0 h_a0).1).1 fun v36 e_v36 r_v36 => ?_
                      refine zd_cI (K := fun v => True) F0 (zd_C8_given F0.2 h_a0 r_v36) fun q37v q37h F26 r_q37 k_q37 => ?_
                      dsimp only
                      exact zm_iI ⟨F26, r_q37, trivial⟩
                    · refine zd_cI (K := fun v => True) F0 (zd_C8_refused F0.2 h_a0 (by unfold zv_rg; omega)) fun q38v q38h F27 r_q38 k_q38 => ?_
                      dsimp only
                      exact zm_iI ⟨F27, r_q38, trivial⟩
theorem zd_C8_many {d : Nat} {h : zv_H} {a0 : Nat} {a1 : Int} (hA : zc_A h) (h_a0 : zv_lay a0 = (1, 8)) (h_a1 : zv_rg a1) : zm_R (C8_many (d + 5) a0 a1 h) (fun q => zd_Q h q.2 ∧ zv_rg q.1 ∧ True) := zm_cI (fun e => lC8_many (zc_ob hA h_a0) e) (zd_E8_many hA h_a0 h_a1)
theorem zd_E8_letter {d : Nat} {h : zv_H} {a0 : Nat} {a1 : Int} {a2 : Int} (hA : zc_A h) (h_a0 : zv_lay a0 = (1, 8)) (h_a1 : zv_rg a1) (h_a2 : zv_rg a2) : zm_R (E8_letter (d + 2) a0 a1 a2 h) (zm_I fun v h' => zd_Q h h' ∧ zv_rg v ∧ True) := by
  have F0 := zd_Q_r hA
  rw [qE8_letter]
  refine zm_if (fun c1 => ?_) (fun c1 => ?_)
  · refine zd_cI (K := fun v => True) F0 (zd_C8_refused F0.2 h_a0 (by unfold zv_rg; omega)) fun q1v q1h F2 r_q1 k_q1 => ?_
    dsimp only
    exact zm_iI ⟨F2, r_q1, trivial⟩
  · refine zd_rRo F0 h_a0 ?_
    refine zc_pN (K := fun v => (v = 0 ∨ zc_V h v)) (zc_C0_at F0.2 (zd_xH8 F0 h_a0).1 h_a1) fun q3v k_q3 => ?_
    dsimp only
    refine zm_if (fun c4 => ?_) (fun c4 => ?_)
    · refine zd_cI (K := fun v => True) F0 (zd_C8_refused F0.2 h_a0 (by unfold zv_rg; omega)) fun q4v q4h F5 r_q4 k_q4 => ?_
      dsimp only
      exact zm_iI ⟨F5, r_q4, trivial⟩
    · refine zd_rI F0 ((Or.imp id (zc_Vb F0.1.1) k_q3).resolve_left c4).1 fun v5 e_v5 r_v5 => ?_
      have b_v5 := zd_bdv (k := 12) (m := 120) F0 ((Or.imp id (zc_Vb F0.1.1) k_q3).resolve_left c4).1 rfl
      rw [← e_v5] at b_v5
      refine zm_if (fun c6 => ?_) (fun c6 => ?_)
      · refine zd_rRo F0 h_a0 ?_
        refine zc_pI (K := fun v => True) (zc_C0_letterAt F0.2 (zd_xH8 F0 h_a0).1 ((Or.imp id (zc_Vb F0.1.1) k_q3).resolve_left c4).1 h_a2) fun q7v r_q7 k_q7 => ?_
        dsimp only
        refine zd_cI (K := fun v => True) F0 (zd_C8_given F0.2 h_a0 r_q7) fun q8v q8h F8 r_q8 k_q8 => ?_
        dsimp only
        exact zm_iI ⟨F8, r_q8, trivial⟩
      · refine zd_cI (K := fun v => True) F0 (zd_C8_refused F0.2 h_a0 (by unfold zv_rg; omega)) fun q9v q9h F9 r_q9 k_q9 => ?_
        dsimp only
        exact zm_iI ⟨F9, r_q9, trivial⟩
theorem zd_C8_letter {d : Nat} {h : zv_H} {a0 : Nat} {a1 : Int} {a2 : Int} (hA : zc_A h) (h_a0 : zv_lay a0 = (1, 8)) (h_a1 : zv_rg a1) (h_a2 : zv_rg a2) : zm_R (C8_letter (d + 3) a0 a1 a2 h) (fun q => zd_Q h q.2 ∧ zv_rg q.1 ∧ True) := zm_cI (fun e => lC8_letter (zc_ob hA h_a0) e) (zd_E8_letter hA h_a0 h_a1 h_a2)
theorem zd_E8_state {d : Nat} {h : zv_H} {a0 : Nat} {a1 : Int} {a2 : Int} (hA : zc_A h) (h_a0 : zv_lay a0 = (1, 8)) (h_a1 : zv_rg a1) (h_a2 : zv_rg a2) : zm_R (E8_state (d + 1) a0 a1 a2 h) (zm_I fun v h' => zd_Q h h' ∧ zv_rg v ∧ True) := by
  have F0 := zd_Q_r hA
  rw [qE8_state]
  refine zc_pI (K := fun v => (v = 0 ∨ v = 1)) (zc_C8_within F0.2 h_a2 (by unfold zv_rg; omega) (by unfold zv_rg; omega)) fun q1v r_q1 k_q1 => ?_
  dsimp only
  refine zm_if (fun c2 => ?_) (fun c2 => ?_)
  · refine zd_cI (K := fun v => True) F0 (zd_C8_refused F0.2 h_a0 (by unfold zv_rg; omega)) fun q2v q2h F3 r_q2 k_q2 => ?_
    dsimp only
    exact zm_iI ⟨F3, r_q2, trivial⟩
  · refine zd_rRo F0 h_a0 ?_
    refine zc_pN (K := fun v => (v = 0 ∨ zc_V h v)) (zc_C0_at F0.2 (zd_xH8 F0 h_a0).1 h_a1) fun q4v k_q4 => ?_
    dsimp only
    refine zm_if (fun c5 => ?_) (fun c5 => ?_)
    · refine zd_cI (K := fun v => True) F0 (zd_C8_refused F0.2 h_a0 (by unfold zv_rg; omega)) fun q5v q5h F6 r_q5 k_q5 => ?_
      dsimp only
      exact zm_iI ⟨F6, r_q5, trivial⟩
    · refine zm_if (fun c7 => ?_) (fun c7 => ?_)
      · refine zd_rR5 F0 ((Or.imp id (zc_Vb F0.1.1) k_q4).resolve_left c5).1 ?_
        refine zm_if (fun c8 => ?_) (fun c8 => ?_)
        · rw [qL8_state_107]
          refine zd_cI (K := fun v => True) F0 (zd_C8_given F0.2 h_a0 (by unfold zv_rg; omega)) fun q1x1v q1x1h F9 r_q1x1 k_q1x1 => ?_
          dsimp only
          exact zm_iI ⟨F9, r_q1x1, trivial⟩
        · refine zd_rR5 F0 ((Or.imp id (zc_Vb F0.1.1) k_q4).resolve_left c5).1 ?_
          refine zd_rT F0 ((zd_pV F0 ((Or.imp id (zc_Vb F0.1.1) k_q4).resolve_left c5)).resolve_left c8).1 fun v8 e_v8 r_v8 => ?_
          rw [qL8_state_107]
          refine zd_cI (K := fun v => True) F0 (zd_C8_given F0.2 h_a0 r_v8) fun q1x2v q1x2h F10 r_q1x2 k_q1x2 => ?_
          dsimp only
          exact zm_iI ⟨F10, r_q1x2, trivial⟩
      · refine zm_if (fun c11 => ?_) (fun c11 => ?_)
        · refine zd_rI F0 ((Or.imp id (zc_Vb F0.1.1) k_q4).resolve_left c5).1 fun v9 e_v9 r_v9 => ?_
          refine zd_cI (K := fun v => True) F0 (zd_C8_given F0.2 h_a0 r_v9) fun q10v q10h F12 r_q10 k_q10 => ?_
          dsimp only
          exact zm_iI ⟨F12, r_q10, trivial⟩
        · refine zm_if (fun c13 => ?_) (fun c13 => ?_)
          · refine zd_rI F0 ((Or.imp id (zc_Vb F0.1.1) k_q4).resolve_left c5).1 fun v11 e_v11 r_v11 => ?_
            refine zd_cI (K := fun v => True) F0 (zd_C8_given F0.2 h_a0 r_v11) fun q12v q12h F14 r_q12 k_q12 => ?_
            dsimp only
            exact zm_iI ⟨F14, r_q12, trivial⟩
          · refine zm_if (fun c15 => ?_) (fun c15 => ?_)
            · refine zd_rI F0 ((Or.imp id (zc_Vb F0.1.1) k_q4).resolve_left c5).1 fun v13 e_v13 r_v13 => ?_
              refine zd_cI (K := fun v => True) F0 (zd_C8_given F0.2 h_a0 r_v13) fun q14v q14h F16 r_q14 k_q14 => ?_
              dsimp only
              exact zm_iI ⟨F16, r_q14, trivial⟩
            · refine zm_if (fun c17 => ?_) (fun c17 => ?_)
              · refine zd_rI F0 ((Or.imp id (zc_Vb F0.1.1) k_q4).resolve_left c5).1 fun v15 e_v15 r_v15 => ?_
                refine zd_cI (K := fun v => True) F0 (zd_C8_given F0.2 h_a0 r_v15) fun q16v q16h F18 r_q16 k_q16 => ?_
                dsimp only
                exact zm_iI ⟨F18, r_q16, trivial⟩
              · refine zm_if (fun c19 => ?_) (fun c19 => ?_)
                · refine zd_rR5 F0 ((Or.imp id (zc_Vb F0.1.1) k_q4).resolve_left c5).1 ?_
                  refine zm_if (fun c20 => ?_) (fun c20 => ?_)
                  · exact absurd c20 (zc_nz (zd_fV F0 ((Or.imp id (zc_Vb F0.1.1) k_q4).resolve_left c5)).1)
                  · refine zd_rR5 F0 ((Or.imp id (zc_Vb F0.1.1) k_q4).resolve_left c5).1 ?_
                    refine zd_rT F0 (zd_fV F0 ((Or.imp id (zc_Vb F0.1.1) k_q4).resolve_left c5)).1 fun v19 e_v19 r_v19 => ?_
                    rw [qL8_state_166]
                    refine zd_cI (K := fun v => True) F0 (zd_C8_given F0.2 h_a0 r_v19) fun q1x3v q1x3h F21 r_q1x3 k_q1x3 => ?_
                    dsimp only
                    exact zm_iI ⟨F21, r_q1x3, trivial⟩
                · refine zm_if (fun c22 => ?_) (fun c22 => ?_)
                  · refine zd_rT F0 ((Or.imp id (zc_Vb F0.1.1) k_q4).resolve_left c5).1 fun v20 e_v20 r_v20 => ?_
                    refine zd_cI (K := fun v => True) F0 (zd_C8_given F0.2 h_a0 r_v20) fun q21v q21h F23 r_q21 k_q21 => ?_
                    dsimp only
                    exact zm_iI ⟨F23, r_q21, trivial⟩
                  · refine zm_if (fun c24 => ?_) (fun c24 => ?_)
                    · refine zd_rT F0 ((Or.imp id (zc_Vb F0.1.1) k_q4).resolve_left c5).1 fun v22 e_v22 r_v22 => ?_
                      have d_v22 := (zd_dep F0 ((Or.imp id (zc_Vb F0.1.1) k_q4).resolve_left c5)).1
                      rw [← e_v22] at d_v22
                      refine zd_cI (K := fun v => True) F0 (zd_C8_given F0.2 h_a0 r_v22) fun q23v q23h F25 r_q23 k_q23 => ?_
                      dsimp only
                      exact zm_iI ⟨F25, r_q23, trivial⟩
                    · refine zm_if (fun c26 => ?_) (fun c26 => ?_)
                      · refine zd_rI F0 ((Or.imp id (zc_Vb F0.1.1) k_q4).resolve_left c5).1 fun v24 e_v24 r_v24 => ?_
                        have b_v24 := zd_bdv (k := 12) (m := 120) F0 ((Or.imp id (zc_Vb F0.1.1) k_q4).resolve_left c5).1 rfl
                        rw [← e_v24] at b_v24
                        refine zd_cI (K := fun v => True) F0 (zd_C8_given F0.2 h_a0 r_v24) fun q25v q25h F27 r_q25 k_q25 => ?_
                        dsimp only
                        exact zm_iI ⟨F27, r_q25, trivial⟩
                      · refine zd_rRo F0 h_a0 ?_
                        refine zd_rF F0 14 (zd_xH8 F0 h_a0).1 ?_
                        refine zd_rT F0 ((Or.imp id (zc_Vb F0.1.1) k_q4).resolve_left c5).1 fun v28 e_v28 r_v28 => ?_
                        refine zc_pI (K := fun v => True) (zc_C2_countOf F0.2 (zc_y0_6 (zd_xH8 F0 h_a0).1).1 r_v28) fun q29v r_q29 k_q29 => ?_
                        dsimp only
                        refine zd_cI (K := fun v => True) F0 (zd_C8_given F0.2 h_a0 r_q29) fun q30v q30h F29 r_q30 k_q30 => ?_
                        dsimp only
                        exact zm_iI ⟨F29, r_q30, trivial⟩
theorem zd_C8_state {d : Nat} {h : zv_H} {a0 : Nat} {a1 : Int} {a2 : Int} (hA : zc_A h) (h_a0 : zv_lay a0 = (1, 8)) (h_a1 : zv_rg a1) (h_a2 : zv_rg a2) : zm_R (C8_state (d + 2) a0 a1 a2 h) (fun q => zd_Q h q.2 ∧ zv_rg q.1 ∧ True) := zm_cI (fun e => lC8_state (zc_ob hA h_a0) e) (zd_E8_state hA h_a0 h_a1 h_a2)
theorem zd_E8_child {d : Nat} {h : zv_H} {a0 : Nat} {a1 : Int} {a2 : Int} (hA : zc_A h) (h_a0 : zv_lay a0 = (1, 8)) (h_a1 : zv_rg a1) (h_a2 : zv_rg a2) : zm_R (E8_child (d + 3) a0 a1 a2 h) (zm_I fun v h' => zd_Q h h' ∧ zv_rg v ∧ True) := by
  have F0 := zd_Q_r hA
  rw [qE8_child]
  refine zm_if (fun c1 => ?_) (fun c1 => ?_)
  · refine zd_cI (K := fun v => True) F0 (zd_C8_refused F0.2 h_a0 (by unfold zv_rg; omega)) fun q1v q1h F2 r_q1 k_q1 => ?_
    dsimp only
    exact zm_iI ⟨F2, r_q1, trivial⟩
  · refine zd_rRo F0 h_a0 ?_
    refine zc_pN (K := fun v => (v = 0 ∨ zc_V h v)) (zc_C0_at F0.2 (zd_xH8 F0 h_a0).1 h_a1) fun q3v k_q3 => ?_
    dsimp only
    refine zm_if (fun c4 => ?_) (fun c4 => ?_)
    · refine zd_cI (K := fun v => True) F0 (zd_C8_refused F0.2 h_a0 (by unfold zv_rg; omega)) fun q4v q4h F5 r_q4 k_q4 => ?_
      dsimp only
      exact zm_iI ⟨F5, r_q4, trivial⟩
    · refine zd_rRo F0 h_a0 ?_
      refine zd_cN (K := fun v => (v = 0 ∨ zc_V h v)) F0 (zd_C0_childOf F0.2 (zd_xH8 F0 h_a0).1 ((Or.imp id (zc_Vb F0.1.1) k_q3).resolve_left c4).1 h_a2) fun q6v q6h F6 k_q6 => ?_
      dsimp only
      refine zm_if (fun c7 => ?_) (fun c7 => ?_)
      · refine zd_cI (K := fun v => True) F6 (zd_C8_refused F6.2 h_a0 (by unfold zv_rg; omega)) fun q7v q7h F8 r_q7 k_q7 => ?_
        dsimp only
        exact zm_iI ⟨F8, r_q7, trivial⟩
      · refine zd_rT F6 ((Or.imp id (zc_Vb F0.1.1) k_q6).resolve_left c7).1 fun v8 e_v8 r_v8 => ?_
        refine zd_cI (K := fun v => True) F6 (zd_C8_given F6.2 h_a0 r_v8) fun q9v q9h F9 r_q9 k_q9 => ?_
        dsimp only
        exact zm_iI ⟨F9, r_q9, trivial⟩
theorem zd_C8_child {d : Nat} {h : zv_H} {a0 : Nat} {a1 : Int} {a2 : Int} (hA : zc_A h) (h_a0 : zv_lay a0 = (1, 8)) (h_a1 : zv_rg a1) (h_a2 : zv_rg a2) : zm_R (C8_child (d + 4) a0 a1 a2 h) (fun q => zd_Q h q.2 ∧ zv_rg q.1 ∧ True) := zm_cI (fun e => lC8_child (zc_ob hA h_a0) e) (zd_E8_child hA h_a0 h_a1 h_a2)
theorem zd_E8_force {d : Nat} {h : zv_H} {a0 : Nat} {a1 : Int} {a2 : Int} (hA : zc_A h) (h_a0 : zv_lay a0 = (1, 8)) (h_a1 : zv_rg a1) (h_a2 : zv_rg a2) : zm_R (E8_force (d + 2) a0 a1 a2 h) (zm_I fun v h' => zd_Q h h' ∧ zv_rg v ∧ True) := by
  have F0 := zd_Q_r hA
  rw [qE8_force]
  refine zd_rRo F0 h_a0 ?_
  refine zc_pN (K := fun v => (v = 0 ∨ zc_V h v)) (zc_C0_at F0.2 (zd_xH8 F0 h_a0).1 h_a1) fun q2v k_q2 => ?_
  dsimp only
  refine zd_rRo F0 h_a0 ?_
  refine zc_pN (K := fun v => (v = 0 ∨ zc_V h v)) (zc_C0_at F0.2 (zd_xH8 F0 h_a0).1 h_a2) fun q4v k_q4 => ?_
  dsimp only
  refine zm_if (fun c3 => ?_) (fun c3 => ?_)
  · rw [qL8_force_28]
    refine zd_cI (K := fun v => True) F0 (zd_C8_refused F0.2 h_a0 (by unfold zv_rg; omega)) fun q1v q1h F4 r_q1 k_q1 => ?_
    dsimp only
    exact zm_iI ⟨F4, r_q1, trivial⟩
  · refine zm_if (fun c5 => ?_) (fun c5 => ?_)
    · rw [qL8_force_28]
      refine zd_cI (K := fun v => True) F0 (zd_C8_refused F0.2 h_a0 (by unfold zv_rg; omega)) fun q1x1v q1x1h F6 r_q1x1 k_q1x1 => ?_
      dsimp only
      exact zm_iI ⟨F6, r_q1x1, trivial⟩
    · refine zd_rRo F0 h_a0 ?_
      refine zd_rF F0 8 (zd_xH8 F0 h_a0).1 ?_
      refine zd_cV F0 (zd_C4_walk F0.2 (zc_y0_5 (zd_xH8 F0 h_a0).1).1 (zc_Vq F0.1.1 ((Or.imp id (zc_Vb F0.1.1) k_q4).resolve_left c5))) fun g7 F7 => ?_
      refine zd_rJ F7 (zc_y0_5 (zd_xH8 F0 h_a0).1).1 fun v8 => ?_
      refine zc_pJ (zc_C5_bit F7.2 ((Or.imp id (zc_Vb F0.1.1) k_q2).resolve_left c3).1) fun q9v => ?_
      dsimp only
      refine zm_if (fun c9 => ?_) (fun c9 => ?_)
      · refine zd_cI (K := fun v => True) F7 (zd_C8_refused F7.2 h_a0 (by unfold zv_rg; omega)) fun q10v q10h F10 r_q10 k_q10 => ?_
        dsimp only
        exact zm_iI ⟨F10, r_q10, trivial⟩
      · refine zd_rJ F7 (zc_y0_5 (zd_xH8 F0 h_a0).1).1 fun v11 => ?_
        refine zc_pJ (zc_C5_bit F7.2 ((Or.imp id (zc_Vb F0.1.1) k_q2).resolve_left c3).1) fun q12v => ?_
        dsimp only
        refine zm_if (fun c12 => ?_) (fun c12 => ?_)
        · rw [qL8_force_92]
          refine zd_cI (K := fun v => True) F7 (zd_C8_given F7.2 h_a0 (by unfold zv_rg; omega)) fun q1x2v q1x2h F13 r_q1x2 k_q1x2 => ?_
          dsimp only
          exact zm_iI ⟨F13, r_q1x2, trivial⟩
        · rw [qL8_force_92]
          refine zd_cI (K := fun v => True) F7 (zd_C8_given F7.2 h_a0 (by unfold zv_rg; omega)) fun q1x3v q1x3h F14 r_q1x3 k_q1x3 => ?_
          dsimp only
          exact zm_iI ⟨F14, r_q1x3, trivial⟩
theorem zd_C8_force {d : Nat} {h : zv_H} {a0 : Nat} {a1 : Int} {a2 : Int} (hA : zc_A h) (h_a0 : zv_lay a0 = (1, 8)) (h_a1 : zv_rg a1) (h_a2 : zv_rg a2) : zm_R (C8_force (d + 3) a0 a1 a2 h) (fun q => zd_Q h q.2 ∧ zv_rg q.1 ∧ True) := zm_cI (fun e => lC8_force (zc_ob hA h_a0) e) (zd_E8_force hA h_a0 h_a1 h_a2)
theorem zd_E8_blame {d : Nat} {h : zv_H} {a0 : Nat} {a1 : Int} {a2 : Int} (hA : zc_A h) (h_a0 : zv_lay a0 = (1, 8)) (h_a1 : zv_rg a1) (h_a2 : zv_rg a2) : zm_R (E8_blame (d + 4) a0 a1 a2 h) (zm_I fun v h' => zd_Q h h' ∧ zv_rg v ∧ True) := by
  have F0 := zd_Q_r hA
  rw [qE8_blame]
  refine zm_if (fun c1 => ?_) (fun c1 => ?_)
  · rw [qL8_blame_13]
    refine zd_cI (K := fun v => True) F0 (zd_C8_refused F0.2 h_a0 (by unfold zv_rg; omega)) fun q1v q1h F2 r_q1 k_q1 => ?_
    dsimp only
    exact zm_iI ⟨F2, r_q1, trivial⟩
  · refine zc_pI (K := fun v => (v = 0 ∨ v = 1)) (zc_C8_within F0.2 h_a2 (by unfold zv_rg; omega) (by unfold zv_rg; omega)) fun q1x1v r_q1x1 k_q1x1 => ?_
    dsimp only
    refine zm_if (fun c4 => ?_) (fun c4 => ?_)
    · rw [qL8_blame_13]
      refine zd_cI (K := fun v => True) F0 (zd_C8_refused F0.2 h_a0 (by unfold zv_rg; omega)) fun q1x2v q1x2h F5 r_q1x2 k_q1x2 => ?_
      dsimp only
      exact zm_iI ⟨F5, r_q1x2, trivial⟩
    · refine zd_rRo F0 h_a0 ?_
      refine zd_rRo F0 (zd_xH8 F0 h_a0).1 ?_
      refine zc_pI (K := fun v => True) (zc_C5_idAt F0.2 (zd_hV F0 (zd_xH8 F0 h_a0).1).1.1 h_a1) fun q4v r_q4 k_q4 => ?_
      dsimp only
      refine zm_if (fun c7 => ?_) (fun c7 => ?_)
      · refine zd_cI (K := fun v => True) F0 (zd_C8_refused F0.2 h_a0 (by unfold zv_rg; omega)) fun q5v q5h F8 r_q5 k_q5 => ?_
        dsimp only
        exact zm_iI ⟨F8, r_q5, trivial⟩
      · refine zm_if (fun c9 => ?_) (fun c9 => ?_)
        · refine zc_pI (K := fun v => True) (zc_C4_putter F0.2 r_q4) fun q6v r_q6 k_q6 => ?_
          dsimp only
          refine zd_cI (K := fun v => True) F0 (zd_C8_given F0.2 h_a0 r_q6) fun q7v q7h F11 r_q7 k_q7 => ?_
          dsimp only
          exact zm_iI ⟨F11, r_q7, trivial⟩
        · refine zm_if (fun c12 => ?_) (fun c12 => ?_)
          · refine zc_pI (K := fun v => True) (zc_C4_order F0.2 r_q4) fun q8v r_q8 k_q8 => ?_
            dsimp only
            refine zd_cI (K := fun v => True) F0 (zd_C8_given F0.2 h_a0 r_q8) fun q9v q9h F14 r_q9 k_q9 => ?_
            dsimp only
            exact zm_iI ⟨F14, r_q9, trivial⟩
          · refine zd_rRo F0 h_a0 ?_
            refine zd_cN (K := fun v => zv_lay v = (1, 4)) F0 (zd_C0_rowOfHere F0.2 (zd_xH8 F0 h_a0).1) fun q11v q11h F15 k_q11 => ?_
            dsimp only
            refine zc_pI (K := fun v => v < 2147483647) (zc_C4_placeOf F15.2 k_q11 r_q4) fun q12v r_q12 k_q12 => ?_
            dsimp only
            refine zd_cI (K := fun v => True) F15 (zd_C8_given F15.2 h_a0 r_q12) fun q13v q13h F17 r_q13 k_q13 => ?_
            dsimp only
            exact zm_iI ⟨F17, r_q13, trivial⟩
theorem zd_C8_blame {d : Nat} {h : zv_H} {a0 : Nat} {a1 : Int} {a2 : Int} (hA : zc_A h) (h_a0 : zv_lay a0 = (1, 8)) (h_a1 : zv_rg a1) (h_a2 : zv_rg a2) : zm_R (C8_blame (d + 5) a0 a1 a2 h) (fun q => zd_Q h q.2 ∧ zv_rg q.1 ∧ True) := zm_cI (fun e => lC8_blame (zc_ob hA h_a0) e) (zd_E8_blame hA h_a0 h_a1 h_a2)
theorem zd_E8_row {d : Nat} {h : zv_H} {a0 : Nat} {a1 : Int} {a2 : Int} (hA : zc_A h) (h_a0 : zv_lay a0 = (1, 8)) (h_a1 : zv_rg a1) (h_a2 : zv_rg a2) : zm_R (E8_row (d + 4) a0 a1 a2 h) (zm_I fun v h' => zd_Q h h' ∧ zv_rg v ∧ True) := by
  have F0 := zd_Q_r hA
  rw [qE8_row]
  refine zm_if (fun c1 => ?_) (fun c1 => ?_)
  · rw [qL8_row_13]
    refine zd_cI (K := fun v => True) F0 (zd_C8_refused F0.2 h_a0 (by unfold zv_rg; omega)) fun q1v q1h F2 r_q1 k_q1 => ?_
    dsimp only
    exact zm_iI ⟨F2, r_q1, trivial⟩
  · refine zc_pI (K := fun v => (v = 0 ∨ v = 1)) (zc_C8_within F0.2 h_a2 (by unfold zv_rg; omega) (by unfold zv_rg; omega)) fun q1x1v r_q1x1 k_q1x1 => ?_
    dsimp only
    refine zm_if (fun c4 => ?_) (fun c4 => ?_)
    · rw [qL8_row_13]
      refine zd_cI (K := fun v => True) F0 (zd_C8_refused F0.2 h_a0 (by unfold zv_rg; omega)) fun q1x2v q1x2h F5 r_q1x2 k_q1x2 => ?_
      dsimp only
      exact zm_iI ⟨F5, r_q1x2, trivial⟩
    · refine zd_rRo F0 h_a0 ?_
      refine zd_cN (K := fun v => zv_lay v = (1, 4)) F0 (zd_C0_rowOfHere F0.2 (zd_xH8 F0 h_a0).1) fun q3v q3h F6 k_q3 => ?_
      dsimp only
      refine zc_pI (K := fun v => True) (zc_C4_idAt F6.2 k_q3 h_a1) fun q4v r_q4 k_q4 => ?_
      dsimp only
      refine zm_if (fun c8 => ?_) (fun c8 => ?_)
      · refine zd_cI (K := fun v => True) F6 (zd_C8_refused F6.2 h_a0 (by unfold zv_rg; omega)) fun q5v q5h F9 r_q5 k_q5 => ?_
        dsimp only
        exact zm_iI ⟨F9, r_q5, trivial⟩
      · refine zm_if (fun c10 => ?_) (fun c10 => ?_)
        · refine zd_rRo F6 h_a0 ?_
          refine zc_pI (K := fun v => True) (zc_C0_glyph F6.2 (zd_xH8 F6 h_a0).1 r_q4) fun q7v r_q7 k_q7 => ?_
          dsimp only
          refine zd_cI (K := fun v => True) F6 (zd_C8_given F6.2 h_a0 r_q7) fun q8v q8h F12 r_q8 k_q8 => ?_
          dsimp only
          exact zm_iI ⟨F12, r_q8, trivial⟩
        · refine zm_if (fun c13 => ?_) (fun c13 => ?_)
          · refine zc_pI (K := fun v => True) (zc_C4_putter F6.2 r_q4) fun q9v r_q9 k_q9 => ?_
            dsimp only
            refine zd_cI (K := fun v => True) F6 (zd_C8_given F6.2 h_a0 r_q9) fun q10v q10h F15 r_q10 k_q10 => ?_
            dsimp only
            exact zm_iI ⟨F15, r_q10, trivial⟩
          · refine zm_if (fun c16 => ?_) (fun c16 => ?_)
            · refine zc_pI (K := fun v => True) (zc_C4_seesAt F6.2 k_q3 h_a1) fun q11v r_q11 k_q11 => ?_
              dsimp only
              refine zm_if (fun c18 => ?_) (fun c18 => ?_)
              · rw [qL8_row_114]
                refine zd_cI (K := fun v => True) F6 (zd_C8_given F6.2 h_a0 (by unfold zv_rg; omega)) fun q1x3v q1x3h F19 r_q1x3 k_q1x3 => ?_
                dsimp only
                exact zm_iI ⟨F19, r_q1x3, trivial⟩
              · rw [qL8_row_114]
                refine zd_cI (K := fun v => True) F6 (zd_C8_given F6.2 h_a0 (by unfold zv_rg; omega)) fun q1x4v q1x4h F20 r_q1x4 k_q1x4 => ?_
                dsimp only
                exact zm_iI ⟨F20, r_q1x4, trivial⟩
            · refine zm_if (fun c21 => ?_) (fun c21 => ?_)
              · refine zc_pI (K := fun v => True) (zc_C4_cutsInForce F6.2 k_q3 r_q4) fun q12v r_q12 k_q12 => ?_
                dsimp only
                refine zd_cI (K := fun v => True) F6 (zd_C8_given F6.2 h_a0 r_q12) fun q13v q13h F23 r_q13 k_q13 => ?_
                dsimp only
                exact zm_iI ⟨F23, r_q13, trivial⟩
              · refine zc_pI (K := fun v => True) (zc_C4_lastCut F6.2 k_q3 r_q4) fun q14v r_q14 k_q14 => ?_
                dsimp only
                refine zd_cI (K := fun v => True) F6 (zd_C8_given F6.2 h_a0 r_q14) fun q15v q15h F25 r_q15 k_q15 => ?_
                dsimp only
                exact zm_iI ⟨F25, r_q15, trivial⟩
theorem zd_C8_row {d : Nat} {h : zv_H} {a0 : Nat} {a1 : Int} {a2 : Int} (hA : zc_A h) (h_a0 : zv_lay a0 = (1, 8)) (h_a1 : zv_rg a1) (h_a2 : zv_rg a2) : zm_R (C8_row (d + 5) a0 a1 a2 h) (fun q => zd_Q h q.2 ∧ zv_rg q.1 ∧ True) := zm_cI (fun e => lC8_row (zc_ob hA h_a0) e) (zd_E8_row hA h_a0 h_a1 h_a2)
theorem zd_E8_visit {d : Nat} {h : zv_H} {a0 : Nat} {a1 : Int} {a2 : Int} (hA : zc_A h) (h_a0 : zv_lay a0 = (1, 8)) (h_a1 : zv_rg a1) (h_a2 : zv_rg a2) : zm_R (E8_visit (d + 2) a0 a1 a2 h) (zm_I fun v h' => zd_Q h h' ∧ zv_rg v ∧ True) := by
  have F0 := zd_Q_r hA
  rw [qE8_visit]
  refine zc_pI (K := fun v => (v = 0 ∨ v = 1)) (zc_C8_within F0.2 h_a1 (by unfold zv_rg; omega) (by unfold zv_rg; omega)) fun q1v r_q1 k_q1 => ?_
  dsimp only
  refine zm_if (fun c2 => ?_) (fun c2 => ?_)
  · rw [qL8_visit_19]
    refine zd_cI (K := fun v => True) F0 (zd_C8_refused F0.2 h_a0 (by unfold zv_rg; omega)) fun q1x1v q1x1h F3 r_q1x1 k_q1x1 => ?_
    dsimp only
    exact zm_iI ⟨F3, r_q1x1, trivial⟩
  · refine zc_pI (K := fun v => (v = 0 ∨ v = 1)) (zc_C8_within F0.2 h_a2 (by unfold zv_rg; omega) (by unfold zv_rg; omega)) fun q2v r_q2 k_q2 => ?_
    dsimp only
    refine zm_if (fun c5 => ?_) (fun c5 => ?_)
    · rw [qL8_visit_19]
      refine zd_cI (K := fun v => True) F0 (zd_C8_refused F0.2 h_a0 (by unfold zv_rg; omega)) fun q1x2v q1x2h F6 r_q1x2 k_q1x2 => ?_
      dsimp only
      exact zm_iI ⟨F6, r_q1x2, trivial⟩
    · refine zd_rRo F0 h_a0 ?_
      refine zd_rF F0 17 (zd_xH8 F0 h_a0).1 ?_
      refine zd_rI F0 (zc_y0_7 (zd_xH8 F0 h_a0).1).1 fun v5 e_v5 r_v5 => ?_
      refine zm_if (fun c7 => ?_) (fun c7 => ?_)
      · refine zm_if (fun c8 => ?_) (fun c8 => ?_)
        · refine zd_rRo F0 h_a0 ?_
          refine zd_rF F0 17 (zd_xH8 F0 h_a0).1 ?_
          refine zc_pI (K := fun v => True) (zc_C6_stateAt F0.2 (zc_y0_7 (zd_xH8 F0 h_a0).1).1 h_a1) fun q8v r_q8 k_q8 => ?_
          dsimp only
          rw [qL8_visit_75]
          refine zd_cI (K := fun v => True) F0 (zd_C8_given F0.2 h_a0 r_q8) fun q1x3v q1x3h F10 r_q1x3 k_q1x3 => ?_
          dsimp only
          exact zm_iI ⟨F10, r_q1x3, trivial⟩
        · refine zd_rRo F0 h_a0 ?_
          refine zd_rF F0 17 (zd_xH8 F0 h_a0).1 ?_
          refine zc_pI (K := fun v => True) (zc_C6_timeAt F0.2 (zc_y0_7 (zd_xH8 F0 h_a0).1).1 h_a1) fun q11v r_q11 k_q11 => ?_
          dsimp only
          rw [qL8_visit_75]
          refine zd_cI (K := fun v => True) F0 (zd_C8_given F0.2 h_a0 r_q11) fun q1x4v q1x4h F12 r_q1x4 k_q1x4 => ?_
          dsimp only
          exact zm_iI ⟨F12, r_q1x4, trivial⟩
      · refine zd_cI (K := fun v => True) F0 (zd_C8_refused F0.2 h_a0 (by unfold zv_rg; omega)) fun q12v q12h F13 r_q12 k_q12 => ?_
        dsimp only
        exact zm_iI ⟨F13, r_q12, trivial⟩
theorem zd_C8_visit {d : Nat} {h : zv_H} {a0 : Nat} {a1 : Int} {a2 : Int} (hA : zc_A h) (h_a0 : zv_lay a0 = (1, 8)) (h_a1 : zv_rg a1) (h_a2 : zv_rg a2) : zm_R (C8_visit (d + 3) a0 a1 a2 h) (fun q => zd_Q h q.2 ∧ zv_rg q.1 ∧ True) := zm_cI (fun e => lC8_visit (zc_ob hA h_a0) e) (zd_E8_visit hA h_a0 h_a1 h_a2)
theorem zd_E8_named {d : Nat} {h : zv_H} {a0 : Nat} (hA : zc_A h) (h_a0 : zv_lay a0 = (1, 8)) : zm_R (E8_named (d + 2) a0 h) (zm_I fun v h' => zd_Q h h' ∧ zv_rg v ∧ True) := by
  have F0 := zd_Q_r hA
  rw [qE8_named]
  refine zd_rF F0 2 h_a0 ?_
  refine zc_pI (K := fun v => True) (zc_C7_key F0.2 (zc_y8_1 h_a0).1) fun q2v r_q2 k_q2 => ?_
  dsimp only
  refine zm_if (fun c2 => ?_) (fun c2 => ?_)
  · refine zd_cI (K := fun v => True) F0 (zd_C8_refused F0.2 h_a0 (by unfold zv_rg; omega)) fun q3v q3h F3 r_q3 k_q3 => ?_
    dsimp only
    exact zm_iI ⟨F3, r_q3, trivial⟩
  · refine zd_rRo F0 h_a0 ?_
    refine zd_rF F0 14 (zd_xH8 F0 h_a0).1 ?_
    refine zc_pI (K := fun v => (v = -1 ∨ (0 ≤ v ∧ v < 12))) (zc_C2_indexOf F0.2 (zc_y0_6 (zd_xH8 F0 h_a0).1).1 r_q2) fun q6v r_q6 k_q6 => ?_
    dsimp only
    refine zm_if (fun c5 => ?_) (fun c5 => ?_)
    · refine zd_cI (K := fun v => True) F0 (zd_C8_refused F0.2 h_a0 (by unfold zv_rg; omega)) fun q7v q7h F6 r_q7 k_q7 => ?_
      dsimp only
      exact zm_iI ⟨F6, r_q7, trivial⟩
    · refine zd_rRo F0 h_a0 ?_
      refine zd_rF F0 14 (zd_xH8 F0 h_a0).1 ?_
      refine zc_pI (K := fun v => True) (zc_C2_ownerAt F0.2 (zc_y0_6 (zd_xH8 F0 h_a0).1).1 r_q6) fun q10v r_q10 k_q10 => ?_
      dsimp only
      refine zd_cI (K := fun v => True) F0 (zd_C8_given F0.2 h_a0 r_q10) fun q11v q11h F8 r_q11 k_q11 => ?_
      dsimp only
      exact zm_iI ⟨F8, r_q11, trivial⟩
theorem zd_C8_named {d : Nat} {h : zv_H} {a0 : Nat} (hA : zc_A h) (h_a0 : zv_lay a0 = (1, 8)) : zm_R (C8_named (d + 3) a0 h) (fun q => zd_Q h q.2 ∧ zv_rg q.1 ∧ True) := zm_cI (fun e => lC8_named (zc_ob hA h_a0) e) (zd_E8_named hA h_a0)
theorem zd_E8_leans {d : Nat} {h : zv_H} {a0 : Nat} {a1 : Int} {a2 : Int} (hA : zc_A h) (h_a0 : zv_lay a0 = (1, 8)) (h_a1 : zv_rg a1) (h_a2 : zv_rg a2) : zm_R (E8_leans (d + 1) a0 a1 a2 h) (zm_I fun v h' => zd_Q h h' ∧ zv_rg v ∧ True) := by
  have F0 := zd_Q_r hA
  rw [qE8_leans]
  refine zd_rRo F0 h_a0 ?_
  refine zc_pN (K := fun v => (v = 0 ∨ zc_V h v)) (zc_C0_at F0.2 (zd_xH8 F0 h_a0).1 h_a1) fun q2v k_q2 => ?_
  dsimp only
  refine zd_rRo F0 h_a0 ?_
  refine zc_pN (K := fun v => (v = 0 ∨ zc_V h v)) (zc_C0_at F0.2 (zd_xH8 F0 h_a0).1 h_a2) fun q4v k_q4 => ?_
  dsimp only
  refine zm_if (fun c3 => ?_) (fun c3 => ?_)
  · rw [qL8_leans_28]
    refine zd_cI (K := fun v => True) F0 (zd_C8_refused F0.2 h_a0 (by unfold zv_rg; omega)) fun q1v q1h F4 r_q1 k_q1 => ?_
    dsimp only
    exact zm_iI ⟨F4, r_q1, trivial⟩
  · refine zm_if (fun c5 => ?_) (fun c5 => ?_)
    · rw [qL8_leans_28]
      refine zd_cI (K := fun v => True) F0 (zd_C8_refused F0.2 h_a0 (by unfold zv_rg; omega)) fun q1x1v q1x1h F6 r_q1x1 k_q1x1 => ?_
      dsimp only
      exact zm_iI ⟨F6, r_q1x1, trivial⟩
    · refine zd_rT F0 ((Or.imp id (zc_Vb F0.1.1) k_q2).resolve_left c3).1 fun v5 e_v5 r_v5 => ?_
      have d_v5 := (zd_dep F0 ((Or.imp id (zc_Vb F0.1.1) k_q2).resolve_left c3)).1
      rw [← e_v5] at d_v5
      refine zd_rT F0 ((Or.imp id (zc_Vb F0.1.1) k_q4).resolve_left c5).1 fun v6 e_v6 r_v6 => ?_
      have d_v6 := (zd_dep F0 ((Or.imp id (zc_Vb F0.1.1) k_q4).resolve_left c5)).1
      rw [← e_v6] at d_v6
      refine zm_if (fun c7 => ?_) (fun c7 => ?_)
      · rw [qL8_leans_52]
        refine zm_if (fun c8 => ?_) (fun c8 => ?_)
        · have w_e0 := zv_lay_lt (zc_ly ((Or.imp id (zc_Vb F0.1.1) k_q4).resolve_left c5).1)
          have w_a3 := zv_lay_lt (zc_ly ((Or.imp id (zc_Vb F0.1.1) k_q2).resolve_left c3).1)
          omega
        · refine zm_if (fun c9 => ?_) (fun c9 => ?_)
          · rw [qL8_leans_66]
            refine zc_pI (K := fun v => True) (zc_C5_edits F0.2 ((Or.imp id (zc_Vb F0.1.1) k_q4).resolve_left c5).1) fun q1x2v r_q1x2 k_q1x2 => ?_
            dsimp only
            refine zm_if (fun c11 => ?_) (fun c11 => ?_)
            · rw [qL8_leans_94]
              refine zd_cI (K := fun v => True) F0 (zd_C8_refused F0.2 h_a0 (by unfold zv_rg; omega)) fun q1x3v q1x3h F12 r_q1x3 k_q1x3 => ?_
              dsimp only
              exact zm_iI ⟨F12, r_q1x3, trivial⟩
            · refine zc_pI (K := fun v => True) (zc_C5_edits F0.2 ((Or.imp id (zc_Vb F0.1.1) k_q4).resolve_left c5).1) fun q2x1v r_q2x1 k_q2x1 => ?_
              dsimp only
              refine zm_if (fun c14 => ?_) (fun c14 => ?_)
              · rw [qL8_leans_94]
                refine zd_cI (K := fun v => True) F0 (zd_C8_refused F0.2 h_a0 (by unfold zv_rg; omega)) fun q1x4v q1x4h F15 r_q1x4 k_q1x4 => ?_
                dsimp only
                exact zm_iI ⟨F15, r_q1x4, trivial⟩
              · refine zc_pI (K := fun v => True) (zc_C0_onLine F0.2 (zc_Vq F0.1.1 ((Or.imp id (zc_Vb F0.1.1) k_q4).resolve_left c5)) (Or.inr (zc_Vq F0.1.1 ((Or.imp id (zc_Vb F0.1.1) k_q4).resolve_left c5)))) fun q3v r_q3 k_q3 => ?_
                dsimp only
                refine zm_if (fun c17 => ?_) (fun c17 => ?_)
                · rw [qL8_leans_94]
                  refine zd_cI (K := fun v => True) F0 (zd_C8_refused F0.2 h_a0 (by unfold zv_rg; omega)) fun q1x5v q1x5h F18 r_q1x5 k_q1x5 => ?_
                  dsimp only
                  exact zm_iI ⟨F18, r_q1x5, trivial⟩
                · refine zd_rJ F0 ((Or.imp id (zc_Vb F0.1.1) k_q4).resolve_left c5).1 fun v4 => ?_
                  refine zc_pJ (zc_C5_bit F0.2 ((Or.imp id (zc_Vb F0.1.1) k_q4).resolve_left c5).1) fun q5v => ?_
                  dsimp only
                  refine zm_if (fun c20 => ?_) (fun c20 => ?_)
                  · rw [qL8_leans_122]
                    refine zd_cI (K := fun v => True) F0 (zd_C8_given F0.2 h_a0 (by unfold zv_rg; omega)) fun q1x6v q1x6h F21 r_q1x6 k_q1x6 => ?_
                    dsimp only
                    exact zm_iI ⟨F21, r_q1x6, trivial⟩
                  · rw [qL8_leans_122]
                    refine zd_cI (K := fun v => True) F0 (zd_C8_given F0.2 h_a0 (by unfold zv_rg; omega)) fun q1x7v q1x7h F22 r_q1x7 k_q1x7 => ?_
                    dsimp only
                    exact zm_iI ⟨F22, r_q1x7, trivial⟩
          · rw [qL8_leans_66]
            refine zc_pI (K := fun v => True) (zc_C5_edits F0.2 ((Or.imp id (zc_Vb F0.1.1) k_q4).resolve_left c5).1) fun q1x8v r_q1x8 k_q1x8 => ?_
            dsimp only
            refine zm_if (fun c24 => ?_) (fun c24 => ?_)
            · rw [qL8_leans_94]
              refine zd_cI (K := fun v => True) F0 (zd_C8_refused F0.2 h_a0 (by unfold zv_rg; omega)) fun q1x9v q1x9h F25 r_q1x9 k_q1x9 => ?_
              dsimp only
              exact zm_iI ⟨F25, r_q1x9, trivial⟩
            · refine zc_pI (K := fun v => True) (zc_C5_edits F0.2 ((Or.imp id (zc_Vb F0.1.1) k_q2).resolve_left c3).1) fun q2x2v r_q2x2 k_q2x2 => ?_
              dsimp only
              refine zm_if (fun c27 => ?_) (fun c27 => ?_)
              · rw [qL8_leans_94]
                refine zd_cI (K := fun v => True) F0 (zd_C8_refused F0.2 h_a0 (by unfold zv_rg; omega)) fun q1x10v q1x10h F28 r_q1x10 k_q1x10 => ?_
                dsimp only
                exact zm_iI ⟨F28, r_q1x10, trivial⟩
              · refine zc_pI (K := fun v => True) (zc_C0_onLine F0.2 (zc_Vq F0.1.1 ((Or.imp id (zc_Vb F0.1.1) k_q2).resolve_left c3)) (Or.inr (zc_Vq F0.1.1 ((Or.imp id (zc_Vb F0.1.1) k_q4).resolve_left c5)))) fun q3x1v r_q3x1 k_q3x1 => ?_
                dsimp only
                refine zm_if (fun c30 => ?_) (fun c30 => ?_)
                · rw [qL8_leans_94]
                  refine zd_cI (K := fun v => True) F0 (zd_C8_refused F0.2 h_a0 (by unfold zv_rg; omega)) fun q1x11v q1x11h F31 r_q1x11 k_q1x11 => ?_
                  dsimp only
                  exact zm_iI ⟨F31, r_q1x11, trivial⟩
                · refine zd_rJ F0 ((Or.imp id (zc_Vb F0.1.1) k_q4).resolve_left c5).1 fun v4x1 => ?_
                  refine zc_pJ (zc_C5_bit F0.2 ((Or.imp id (zc_Vb F0.1.1) k_q2).resolve_left c3).1) fun q5x1v => ?_
                  dsimp only
                  refine zm_if (fun c33 => ?_) (fun c33 => ?_)
                  · rw [qL8_leans_122]
                    refine zd_cI (K := fun v => True) F0 (zd_C8_given F0.2 h_a0 (by unfold zv_rg; omega)) fun q1x12v q1x12h F34 r_q1x12 k_q1x12 => ?_
                    dsimp only
                    exact zm_iI ⟨F34, r_q1x12, trivial⟩
                  · rw [qL8_leans_122]
                    refine zd_cI (K := fun v => True) F0 (zd_C8_given F0.2 h_a0 (by unfold zv_rg; omega)) fun q1x13v q1x13h F35 r_q1x13 k_q1x13 => ?_
                    dsimp only
                    exact zm_iI ⟨F35, r_q1x13, trivial⟩
      · rw [qL8_leans_52]
        refine zm_if (fun c36 => ?_) (fun c36 => ?_)
        · have w_e0 := zv_lay_lt (zc_ly ((Or.imp id (zc_Vb F0.1.1) k_q2).resolve_left c3).1)
          have w_a3 := zv_lay_lt (zc_ly ((Or.imp id (zc_Vb F0.1.1) k_q2).resolve_left c3).1)
          omega
        · refine zm_if (fun c37 => ?_) (fun c37 => ?_)
          · rw [qL8_leans_66]
            refine zc_pI (K := fun v => True) (zc_C5_edits F0.2 ((Or.imp id (zc_Vb F0.1.1) k_q2).resolve_left c3).1) fun q1x14v r_q1x14 k_q1x14 => ?_
            dsimp only
            refine zm_if (fun c39 => ?_) (fun c39 => ?_)
            · rw [qL8_leans_94]
              refine zd_cI (K := fun v => True) F0 (zd_C8_refused F0.2 h_a0 (by unfold zv_rg; omega)) fun q1x15v q1x15h F40 r_q1x15 k_q1x15 => ?_
              dsimp only
              exact zm_iI ⟨F40, r_q1x15, trivial⟩
            · refine zc_pI (K := fun v => True) (zc_C5_edits F0.2 ((Or.imp id (zc_Vb F0.1.1) k_q4).resolve_left c5).1) fun q2x3v r_q2x3 k_q2x3 => ?_
              dsimp only
              refine zm_if (fun c42 => ?_) (fun c42 => ?_)
              · rw [qL8_leans_94]
                refine zd_cI (K := fun v => True) F0 (zd_C8_refused F0.2 h_a0 (by unfold zv_rg; omega)) fun q1x16v q1x16h F43 r_q1x16 k_q1x16 => ?_
                dsimp only
                exact zm_iI ⟨F43, r_q1x16, trivial⟩
              · refine zc_pI (K := fun v => True) (zc_C0_onLine F0.2 (zc_Vq F0.1.1 ((Or.imp id (zc_Vb F0.1.1) k_q4).resolve_left c5)) (Or.inr (zc_Vq F0.1.1 ((Or.imp id (zc_Vb F0.1.1) k_q2).resolve_left c3)))) fun q3x2v r_q3x2 k_q3x2 => ?_
                dsimp only
                refine zm_if (fun c45 => ?_) (fun c45 => ?_)
                · rw [qL8_leans_94]
                  refine zd_cI (K := fun v => True) F0 (zd_C8_refused F0.2 h_a0 (by unfold zv_rg; omega)) fun q1x17v q1x17h F46 r_q1x17 k_q1x17 => ?_
                  dsimp only
                  exact zm_iI ⟨F46, r_q1x17, trivial⟩
                · refine zd_rJ F0 ((Or.imp id (zc_Vb F0.1.1) k_q2).resolve_left c3).1 fun v4x2 => ?_
                  refine zc_pJ (zc_C5_bit F0.2 ((Or.imp id (zc_Vb F0.1.1) k_q4).resolve_left c5).1) fun q5x2v => ?_
                  dsimp only
                  refine zm_if (fun c48 => ?_) (fun c48 => ?_)
                  · rw [qL8_leans_122]
                    refine zd_cI (K := fun v => True) F0 (zd_C8_given F0.2 h_a0 (by unfold zv_rg; omega)) fun q1x18v q1x18h F49 r_q1x18 k_q1x18 => ?_
                    dsimp only
                    exact zm_iI ⟨F49, r_q1x18, trivial⟩
                  · rw [qL8_leans_122]
                    refine zd_cI (K := fun v => True) F0 (zd_C8_given F0.2 h_a0 (by unfold zv_rg; omega)) fun q1x19v q1x19h F50 r_q1x19 k_q1x19 => ?_
                    dsimp only
                    exact zm_iI ⟨F50, r_q1x19, trivial⟩
          · rw [qL8_leans_66]
            refine zc_pI (K := fun v => True) (zc_C5_edits F0.2 ((Or.imp id (zc_Vb F0.1.1) k_q2).resolve_left c3).1) fun q1x20v r_q1x20 k_q1x20 => ?_
            dsimp only
            refine zm_if (fun c52 => ?_) (fun c52 => ?_)
            · rw [qL8_leans_94]
              refine zd_cI (K := fun v => True) F0 (zd_C8_refused F0.2 h_a0 (by unfold zv_rg; omega)) fun q1x21v q1x21h F53 r_q1x21 k_q1x21 => ?_
              dsimp only
              exact zm_iI ⟨F53, r_q1x21, trivial⟩
            · refine zc_pI (K := fun v => True) (zc_C5_edits F0.2 ((Or.imp id (zc_Vb F0.1.1) k_q2).resolve_left c3).1) fun q2x4v r_q2x4 k_q2x4 => ?_
              dsimp only
              refine zm_if (fun c55 => ?_) (fun c55 => ?_)
              · rw [qL8_leans_94]
                refine zd_cI (K := fun v => True) F0 (zd_C8_refused F0.2 h_a0 (by unfold zv_rg; omega)) fun q1x22v q1x22h F56 r_q1x22 k_q1x22 => ?_
                dsimp only
                exact zm_iI ⟨F56, r_q1x22, trivial⟩
              · refine zc_pI (K := fun v => True) (zc_C0_onLine F0.2 (zc_Vq F0.1.1 ((Or.imp id (zc_Vb F0.1.1) k_q2).resolve_left c3)) (Or.inr (zc_Vq F0.1.1 ((Or.imp id (zc_Vb F0.1.1) k_q2).resolve_left c3)))) fun q3x3v r_q3x3 k_q3x3 => ?_
                dsimp only
                refine zm_if (fun c58 => ?_) (fun c58 => ?_)
                · rw [qL8_leans_94]
                  refine zd_cI (K := fun v => True) F0 (zd_C8_refused F0.2 h_a0 (by unfold zv_rg; omega)) fun q1x23v q1x23h F59 r_q1x23 k_q1x23 => ?_
                  dsimp only
                  exact zm_iI ⟨F59, r_q1x23, trivial⟩
                · refine zd_rJ F0 ((Or.imp id (zc_Vb F0.1.1) k_q2).resolve_left c3).1 fun v4x3 => ?_
                  refine zc_pJ (zc_C5_bit F0.2 ((Or.imp id (zc_Vb F0.1.1) k_q2).resolve_left c3).1) fun q5x3v => ?_
                  dsimp only
                  refine zm_if (fun c61 => ?_) (fun c61 => ?_)
                  · rw [qL8_leans_122]
                    refine zd_cI (K := fun v => True) F0 (zd_C8_given F0.2 h_a0 (by unfold zv_rg; omega)) fun q1x24v q1x24h F62 r_q1x24 k_q1x24 => ?_
                    dsimp only
                    exact zm_iI ⟨F62, r_q1x24, trivial⟩
                  · rw [qL8_leans_122]
                    refine zd_cI (K := fun v => True) F0 (zd_C8_given F0.2 h_a0 (by unfold zv_rg; omega)) fun q1x25v q1x25h F63 r_q1x25 k_q1x25 => ?_
                    dsimp only
                    exact zm_iI ⟨F63, r_q1x25, trivial⟩
theorem zd_C8_leans {d : Nat} {h : zv_H} {a0 : Nat} {a1 : Int} {a2 : Int} (hA : zc_A h) (h_a0 : zv_lay a0 = (1, 8)) (h_a1 : zv_rg a1) (h_a2 : zv_rg a2) : zm_R (C8_leans (d + 2) a0 a1 a2 h) (fun q => zd_Q h q.2 ∧ zv_rg q.1 ∧ True) := zm_cI (fun e => lC8_leans (zc_ob hA h_a0) e) (zd_E8_leans hA h_a0 h_a1 h_a2)
theorem zd_E8_common {d : Nat} {h : zv_H} {a0 : Nat} {a1 : Int} {a2 : Int} (hA : zc_A h) (h_a0 : zv_lay a0 = (1, 8)) (h_a1 : zv_rg a1) (h_a2 : zv_rg a2) : zm_R (E8_common (d + 2) a0 a1 a2 h) (zm_I fun v h' => zd_Q h h' ∧ zv_rg v ∧ True) := by
  have F0 := zd_Q_r hA
  rw [qE8_common]
  refine zd_rRo F0 h_a0 ?_
  refine zc_pN (K := fun v => (v = 0 ∨ zc_V h v)) (zc_C0_at F0.2 (zd_xH8 F0 h_a0).1 h_a1) fun q2v k_q2 => ?_
  dsimp only
  refine zd_rRo F0 h_a0 ?_
  refine zc_pN (K := fun v => (v = 0 ∨ zc_V h v)) (zc_C0_at F0.2 (zd_xH8 F0 h_a0).1 h_a2) fun q4v k_q4 => ?_
  dsimp only
  refine zm_if (fun c3 => ?_) (fun c3 => ?_)
  · rw [qL8_common_28]
    refine zd_cI (K := fun v => True) F0 (zd_C8_refused F0.2 h_a0 (by unfold zv_rg; omega)) fun q1v q1h F4 r_q1 k_q1 => ?_
    dsimp only
    exact zm_iI ⟨F4, r_q1, trivial⟩
  · refine zm_if (fun c5 => ?_) (fun c5 => ?_)
    · rw [qL8_common_28]
      refine zd_cI (K := fun v => True) F0 (zd_C8_refused F0.2 h_a0 (by unfold zv_rg; omega)) fun q1x1v q1x1h F6 r_q1x1 k_q1x1 => ?_
      dsimp only
      exact zm_iI ⟨F6, r_q1x1, trivial⟩
    · refine zc_pN (K := fun v => zc_V h v) (zc_C0_nearest F0.2 (zc_Vq F0.1.1 ((Or.imp id (zc_Vb F0.1.1) k_q2).resolve_left c3)) (zc_Vq F0.1.1 ((Or.imp id (zc_Vb F0.1.1) k_q4).resolve_left c5))) fun q5v k_q5 => ?_
      dsimp only
      refine zd_rT F0 (zc_Vb F0.1.1 k_q5).1 fun v6 e_v6 r_v6 => ?_
      refine zd_cI (K := fun v => True) F0 (zd_C8_given F0.2 h_a0 r_v6) fun q7v q7h F8 r_q7 k_q7 => ?_
      dsimp only
      exact zm_iI ⟨F8, r_q7, trivial⟩
theorem zd_C8_common {d : Nat} {h : zv_H} {a0 : Nat} {a1 : Int} {a2 : Int} (hA : zc_A h) (h_a0 : zv_lay a0 = (1, 8)) (h_a1 : zv_rg a1) (h_a2 : zv_rg a2) : zm_R (C8_common (d + 3) a0 a1 a2 h) (fun q => zd_Q h q.2 ∧ zv_rg q.1 ∧ True) := zm_cI (fun e => lC8_common (zc_ob hA h_a0) e) (zd_E8_common hA h_a0 h_a1 h_a2)
theorem zd_E8_way {d : Nat} {h : zv_H} {a0 : Nat} {a1 : Int} {a2 : Int} {a3 : Int} (hA : zc_A h) (h_a0 : zv_lay a0 = (1, 8)) (h_a1 : zv_rg a1) (h_a2 : zv_rg a2) (h_a3 : zv_rg a3) : zm_R (E8_way (d + 4) a0 a1 a2 a3 h) (zm_I fun v h' => zd_Q h h' ∧ zv_rg v ∧ True) := by
  have F0 := zd_Q_r hA
  rw [qE8_way]
  refine zm_if (fun c1 => ?_) (fun c1 => ?_)
  · refine zd_cI (K := fun v => True) F0 (zd_C8_refused F0.2 h_a0 (by unfold zv_rg; omega)) fun q1v q1h F2 r_q1 k_q1 => ?_
    dsimp only
    exact zm_iI ⟨F2, r_q1, trivial⟩
  · refine zd_rRo F0 h_a0 ?_
    refine zc_pN (K := fun v => (v = 0 ∨ zc_V h v)) (zc_C0_at F0.2 (zd_xH8 F0 h_a0).1 h_a1) fun q3v k_q3 => ?_
    dsimp only
    refine zd_rRo F0 h_a0 ?_
    refine zc_pN (K := fun v => (v = 0 ∨ zc_V h v)) (zc_C0_at F0.2 (zd_xH8 F0 h_a0).1 h_a2) fun q5v k_q5 => ?_
    dsimp only
    refine zm_if (fun c5 => ?_) (fun c5 => ?_)
    · rw [qL8_way_40]
      refine zd_cI (K := fun v => True) F0 (zd_C8_refused F0.2 h_a0 (by unfold zv_rg; omega)) fun q1x1v q1x1h F6 r_q1x1 k_q1x1 => ?_
      dsimp only
      exact zm_iI ⟨F6, r_q1x1, trivial⟩
    · refine zm_if (fun c7 => ?_) (fun c7 => ?_)
      · rw [qL8_way_40]
        refine zd_cI (K := fun v => True) F0 (zd_C8_refused F0.2 h_a0 (by unfold zv_rg; omega)) fun q1x2v q1x2h F8 r_q1x2 k_q1x2 => ?_
        dsimp only
        exact zm_iI ⟨F8, r_q1x2, trivial⟩
      · refine zc_pN (K := fun v => (v = 0 ∨ zc_V h v)) (zc_C0_onWay F0.2 (zc_Vq F0.1.1 ((Or.imp id (zc_Vb F0.1.1) k_q3).resolve_left c5)) (zc_Vq F0.1.1 ((Or.imp id (zc_Vb F0.1.1) k_q5).resolve_left c7)) h_a3) fun q6v k_q6 => ?_
        dsimp only
        refine zm_if (fun c10 => ?_) (fun c10 => ?_)
        · refine zd_cI (K := fun v => True) F0 (zd_C8_refused F0.2 h_a0 (by unfold zv_rg; omega)) fun q7v q7h F11 r_q7 k_q7 => ?_
          dsimp only
          exact zm_iI ⟨F11, r_q7, trivial⟩
        · refine zd_rT F0 ((Or.imp id (zc_Vb F0.1.1) k_q6).resolve_left c10).1 fun v8 e_v8 r_v8 => ?_
          refine zd_cI (K := fun v => True) F0 (zd_C8_given F0.2 h_a0 r_v8) fun q9v q9h F12 r_q9 k_q9 => ?_
          dsimp only
          exact zm_iI ⟨F12, r_q9, trivial⟩
theorem zd_C8_way {d : Nat} {h : zv_H} {a0 : Nat} {a1 : Int} {a2 : Int} {a3 : Int} (hA : zc_A h) (h_a0 : zv_lay a0 = (1, 8)) (h_a1 : zv_rg a1) (h_a2 : zv_rg a2) (h_a3 : zv_rg a3) : zm_R (C8_way (d + 5) a0 a1 a2 a3 h) (fun q => zd_Q h q.2 ∧ zv_rg q.1 ∧ True) := zm_cI (fun e => lC8_way (zc_ob hA h_a0) e) (zd_E8_way hA h_a0 h_a1 h_a2 h_a3)
theorem zd_E8_between {d : Nat} {h : zv_H} {a0 : Nat} {a1 : Int} {a2 : Int} {a3 : Int} (hA : zc_A h) (h_a0 : zv_lay a0 = (1, 8)) (h_a1 : zv_rg a1) (h_a2 : zv_rg a2) (h_a3 : zv_rg a3) : zm_R (E8_between (d + 3) a0 a1 a2 a3 h) (zm_I fun v h' => zd_Q h h' ∧ zv_rg v ∧ True) := by
  have F0 := zd_Q_r hA
  rw [qE8_between]
  refine zc_pI (K := fun v => (v = 0 ∨ v = 1)) (zc_C8_within F0.2 h_a3 (by unfold zv_rg; omega) (by unfold zv_rg; omega)) fun q1v r_q1 k_q1 => ?_
  dsimp only
  refine zm_if (fun c2 => ?_) (fun c2 => ?_)
  · refine zd_cI (K := fun v => True) F0 (zd_C8_refused F0.2 h_a0 (by unfold zv_rg; omega)) fun q2v q2h F3 r_q2 k_q2 => ?_
    dsimp only
    exact zm_iI ⟨F3, r_q2, trivial⟩
  · refine zd_rRo F0 h_a0 ?_
    refine zc_pN (K := fun v => (v = 0 ∨ zc_V h v)) (zc_C0_at F0.2 (zd_xH8 F0 h_a0).1 h_a1) fun q4v k_q4 => ?_
    dsimp only
    refine zd_rRo F0 h_a0 ?_
    refine zc_pN (K := fun v => (v = 0 ∨ zc_V h v)) (zc_C0_at F0.2 (zd_xH8 F0 h_a0).1 h_a2) fun q6v k_q6 => ?_
    dsimp only
    refine zm_if (fun c6 => ?_) (fun c6 => ?_)
    · rw [qL8_between_45]
      refine zd_cI (K := fun v => True) F0 (zd_C8_refused F0.2 h_a0 (by unfold zv_rg; omega)) fun q1x1v q1x1h F7 r_q1x1 k_q1x1 => ?_
      dsimp only
      exact zm_iI ⟨F7, r_q1x1, trivial⟩
    · refine zm_if (fun c8 => ?_) (fun c8 => ?_)
      · rw [qL8_between_45]
        refine zd_cI (K := fun v => True) F0 (zd_C8_refused F0.2 h_a0 (by unfold zv_rg; omega)) fun q1x2v q1x2h F9 r_q1x2 k_q1x2 => ?_
        dsimp only
        exact zm_iI ⟨F9, r_q1x2, trivial⟩
      · refine zm_if (fun c10 => ?_) (fun c10 => ?_)
        · refine zd_rRo F0 h_a0 ?_
          refine zc_pI (K := fun v => True) (zc_C0_keptOf F0.2 (zd_xH8 F0 h_a0).1 ((Or.imp id (zc_Vb F0.1.1) k_q4).resolve_left c6).1 ((Or.imp id (zc_Vb F0.1.1) k_q6).resolve_left c8).1) fun q8v r_q8 k_q8 => ?_
          dsimp only
          refine zd_cI (K := fun v => True) F0 (zd_C8_given F0.2 h_a0 r_q8) fun q9v q9h F12 r_q9 k_q9 => ?_
          dsimp only
          exact zm_iI ⟨F12, r_q9, trivial⟩
        · refine zm_if (fun c13 => ?_) (fun c13 => ?_)
          · refine zd_rI F0 ((Or.imp id (zc_Vb F0.1.1) k_q4).resolve_left c6).1 fun v10 e_v10 r_v10 => ?_
            have b_v10 := zd_bdv (k := 12) (m := 120) F0 ((Or.imp id (zc_Vb F0.1.1) k_q4).resolve_left c6).1 rfl
            rw [← e_v10] at b_v10
            refine zd_rRo F0 h_a0 ?_
            refine zc_pI (K := fun v => True) (zc_C0_keptOf F0.2 (zd_xH8 F0 h_a0).1 ((Or.imp id (zc_Vb F0.1.1) k_q4).resolve_left c6).1 ((Or.imp id (zc_Vb F0.1.1) k_q6).resolve_left c8).1) fun q12v r_q12 k_q12 => ?_
            dsimp only
            refine zd_cI (K := fun v => True) F0 (zd_C8_given F0.2 h_a0 (zc_w _)) fun q13v q13h F15 r_q13 k_q13 => ?_
            dsimp only
            exact zm_iI ⟨F15, r_q13, trivial⟩
          · refine zm_if (fun c16 => ?_) (fun c16 => ?_)
            · refine zd_rI F0 ((Or.imp id (zc_Vb F0.1.1) k_q6).resolve_left c8).1 fun v14 e_v14 r_v14 => ?_
              have b_v14 := zd_bdv (k := 12) (m := 120) F0 ((Or.imp id (zc_Vb F0.1.1) k_q6).resolve_left c8).1 rfl
              rw [← e_v14] at b_v14
              refine zd_rRo F0 h_a0 ?_
              refine zc_pI (K := fun v => True) (zc_C0_keptOf F0.2 (zd_xH8 F0 h_a0).1 ((Or.imp id (zc_Vb F0.1.1) k_q4).resolve_left c6).1 ((Or.imp id (zc_Vb F0.1.1) k_q6).resolve_left c8).1) fun q16v r_q16 k_q16 => ?_
              dsimp only
              refine zd_cI (K := fun v => True) F0 (zd_C8_given F0.2 h_a0 (zc_w _)) fun q17v q17h F18 r_q17 k_q17 => ?_
              dsimp only
              exact zm_iI ⟨F18, r_q17, trivial⟩
            · refine zd_rRo F0 h_a0 ?_
              refine zc_pI (K := fun v => True) (zc_C0_firstDifference F0.2 (zd_xH8 F0 h_a0).1 ((Or.imp id (zc_Vb F0.1.1) k_q4).resolve_left c6).1 ((Or.imp id (zc_Vb F0.1.1) k_q6).resolve_left c8).1) fun q19v r_q19 k_q19 => ?_
              dsimp only
              refine zd_cI (K := fun v => True) F0 (zd_C8_given F0.2 h_a0 r_q19) fun q20v q20h F20 r_q20 k_q20 => ?_
              dsimp only
              exact zm_iI ⟨F20, r_q20, trivial⟩
theorem zd_C8_between {d : Nat} {h : zv_H} {a0 : Nat} {a1 : Int} {a2 : Int} {a3 : Int} (hA : zc_A h) (h_a0 : zv_lay a0 = (1, 8)) (h_a1 : zv_rg a1) (h_a2 : zv_rg a2) (h_a3 : zv_rg a3) : zm_R (C8_between (d + 4) a0 a1 a2 a3 h) (fun q => zd_Q h q.2 ∧ zv_rg q.1 ∧ True) := zm_cI (fun e => lC8_between (zc_ob hA h_a0) e) (zd_E8_between hA h_a0 h_a1 h_a2 h_a3)
theorem zd_E8_least {d : Nat} {h : zv_H} {a0 : Nat} {a1 : Int} {a2 : Int} (hA : zc_A h) (h_a0 : zv_lay a0 = (1, 8)) (h_a1 : zv_rg a1) (h_a2 : zv_rg a2) : zm_R (E8_least (d + 3) a0 a1 a2 h) (zm_I fun v h' => zd_Q h h' ∧ zv_rg v ∧ True) := by
  have F0 := zd_Q_r hA
  rw [qE8_least]
  refine zd_rRo F0 h_a0 ?_
  refine zc_pN (K := fun v => (v = 0 ∨ zc_V h v)) (zc_C0_at F0.2 (zd_xH8 F0 h_a0).1 h_a1) fun q2v k_q2 => ?_
  dsimp only
  refine zd_rRo F0 h_a0 ?_
  refine zc_pN (K := fun v => (v = 0 ∨ zc_V h v)) (zc_C0_at F0.2 (zd_xH8 F0 h_a0).1 h_a2) fun q4v k_q4 => ?_
  dsimp only
  refine zm_if (fun c3 => ?_) (fun c3 => ?_)
  · rw [qL8_least_28]
    refine zd_cI (K := fun v => True) F0 (zd_C8_refused F0.2 h_a0 (by unfold zv_rg; omega)) fun q1v q1h F4 r_q1 k_q1 => ?_
    dsimp only
    exact zm_iI ⟨F4, r_q1, trivial⟩
  · refine zm_if (fun c5 => ?_) (fun c5 => ?_)
    · rw [qL8_least_28]
      refine zd_cI (K := fun v => True) F0 (zd_C8_refused F0.2 h_a0 (by unfold zv_rg; omega)) fun q1x1v q1x1h F6 r_q1x1 k_q1x1 => ?_
      dsimp only
      exact zm_iI ⟨F6, r_q1x1, trivial⟩
    · refine zd_rI F0 ((Or.imp id (zc_Vb F0.1.1) k_q2).resolve_left c3).1 fun v5 e_v5 r_v5 => ?_
      have b_v5 := zd_bdv (k := 12) (m := 120) F0 ((Or.imp id (zc_Vb F0.1.1) k_q2).resolve_left c3).1 rfl
      rw [← e_v5] at b_v5
      refine zd_rI F0 ((Or.imp id (zc_Vb F0.1.1) k_q4).resolve_left c5).1 fun v6 e_v6 r_v6 => ?_
      have b_v6 := zd_bdv (k := 12) (m := 120) F0 ((Or.imp id (zc_Vb F0.1.1) k_q4).resolve_left c5).1 rfl
      rw [← e_v6] at b_v6
      refine zd_rRo F0 h_a0 ?_
      refine zd_cI (K := fun v => True) F0 (zd_C0_longestCommon F0.2 (zd_xH8 F0 h_a0).1 ((Or.imp id (zc_Vb F0.1.1) k_q2).resolve_left c3).1 ((Or.imp id (zc_Vb F0.1.1) k_q4).resolve_left c5).1) fun q8v q8h F7 r_q8 k_q8 => ?_
      dsimp only
      refine zd_cI (K := fun v => True) F7 (zd_C8_given F7.2 h_a0 (zc_w _)) fun q9v q9h F8 r_q9 k_q9 => ?_
      dsimp only
      exact zm_iI ⟨F8, r_q9, trivial⟩
theorem zd_C8_least {d : Nat} {h : zv_H} {a0 : Nat} {a1 : Int} {a2 : Int} (hA : zc_A h) (h_a0 : zv_lay a0 = (1, 8)) (h_a1 : zv_rg a1) (h_a2 : zv_rg a2) : zm_R (C8_least (d + 4) a0 a1 a2 h) (fun q => zd_Q h q.2 ∧ zv_rg q.1 ∧ True) := zm_cI (fun e => lC8_least (zc_ob hA h_a0) e) (zd_E8_least hA h_a0 h_a1 h_a2)
theorem zd_E8_tellByte {d : Nat} {h : zv_H} {a0 : Nat} {a1 : Int} (hA : zc_A h) (h_a0 : zv_lay a0 = (1, 8)) (h_a1 : zv_rg a1) : zm_R (E8_tellByte (d + 0) a0 a1 h) (zm_V fun h' => zd_Q h h') := by
  have F0 := zd_Q_r hA
  rw [qE8_tellByte]
  refine zd_rI F0 h_a0 fun v1 e_v1 r_v1 => ?_
  refine zm_if (fun c1 => ?_) (fun c1 => ?_)
  · exact zm_iV F0
  · refine zd_rI F0 h_a0 fun v2 e_v2 r_v2 => ?_
    refine zd_rF F0 1 h_a0 ?_
    refine zd_rAl F0 (zc_y8_0 h_a0).1 fun v4 e_v4 => ?_
    refine zm_if (fun c2 => ?_) (fun c2 => ?_)
    · refine zd_rF F0 1 h_a0 ?_
      refine zd_rI F0 h_a0 fun v6 e_v6 r_v6 => ?_
      refine zd_wA F0 (zc_y8_0 h_a0).1 (zc_y8_0 h_a0).2 (zd_y8_0 h_a0) (by omega) (by omega) h_a1 fun g7 F3 u_g7 => ?_
      refine zd_rI F3 h_a0 fun v8 e_v8 r_v8 => ?_
      rw [u_g7 _ _ (by rw [h_a0])] at e_v8
      refine zd_wO F3 h_a0 (zc_frO h_a0 (zc_lt h_a0 (by decide)) (by decide) rfl (by decide)) (zc_w _) fun g9 F4 => ?_
      exact zm_iV F4
    · exact zm_iV F0
theorem zd_C8_tellByte {d : Nat} {h : zv_H} {a0 : Nat} {a1 : Int} (hA : zc_A h) (h_a0 : zv_lay a0 = (1, 8)) (h_a1 : zv_rg a1) : zm_R (C8_tellByte (d + 1) a0 a1 h) (fun q => zd_Q h q) := zm_cV (fun e => lC8_tellByte (zc_ob hA h_a0) e) (zd_E8_tellByte hA h_a0 h_a1)
theorem zd_E8_tellNumber {d : Nat} {h : zv_H} {a0 : Nat} {a1 : Int} (hA : zc_A h) (h_a0 : zv_lay a0 = (1, 8)) (h_a1 : zv_rg a1) : zm_R (E8_tellNumber (d + 1) a0 a1 h) (zm_V fun h' => zd_Q h h') := by
  have F0 := zd_Q_r hA
  rw [qE8_tellNumber]
  refine zm_if (fun c1 => ?_) (fun c1 => ?_)
  · rw [qL8_tellNumber_17]
    refine zd_cV F0 (zd_C8_tellByte F0.2 h_a0 (zc_w _)) fun g1 F2 => ?_
    exact zm_iV F2
  · refine zd_cV F0 (zd_C8_tellByte F0.2 h_a0 (zc_w _)) fun g1x1 F3 => ?_
    rw [qL8_tellNumber_17]
    refine zd_cV F3 (zd_C8_tellByte F3.2 h_a0 (zc_w _)) fun g1x2 F4 => ?_
    exact zm_iV F4
theorem zd_C8_tellNumber {d : Nat} {h : zv_H} {a0 : Nat} {a1 : Int} (hA : zc_A h) (h_a0 : zv_lay a0 = (1, 8)) (h_a1 : zv_rg a1) : zm_R (C8_tellNumber (d + 2) a0 a1 h) (fun q => zd_Q h q) := zm_cV (fun e => lC8_tellNumber (zc_ob hA h_a0) e) (zd_E8_tellNumber hA h_a0 h_a1)
theorem zd_L8_tellDocument_10 {d : Nat} {h0 : zv_H} (N_L8_tellDocument_10 : Nat) : ∀ {h : zv_H} {a0 : Nat} {a1 : Nat} {a2 : Int}, zd_Q h0 h → (zv_lay a0 = (1, 8)) → (zc_V h0 a1) → (0 ≤ a2 ∧ zv_rg a2) → (2147483647 - a2).toNat = N_L8_tellDocument_10 → zm_R (L8_tellDocument_10 (d + 2) a0 a1 a2 h) (zm_V fun h' => zd_Q h0 h') := by
  induction N_L8_tellDocument_10 using Nat.strongRecOn with
  | _ N_L8_tellDocument_10 ih_L8_tellDocument_10 =>
    intro h a0 a1 a2 F0 h_a0 h_a1 h_a2 eN
    rw [qL8_tellDocument_10]
    have z_a2 := h_a2.1
    refine zd_rI F0 h_a1.1 fun v1 e_v1 r_v1 => ?_
    have b_v1 := zd_bdv (k := 12) (m := 120) F0 h_a1.1 rfl
    rw [← e_v1] at b_v1
    refine zm_if (fun c1 => ?_) (fun c1 => ?_)
    · refine zd_rRo F0 h_a0 ?_
      refine zc_pI (K := fun v => True) (zc_C0_letterAt F0.2 (zd_xH8 F0 h_a0).1 h_a1.1 h_a2.2) fun q3v r_q3 k_q3 => ?_
      dsimp only
      refine zd_cV F0 (zd_C8_tellByte F0.2 h_a0 (zc_w _)) fun g4 F3 => ?_
      exact ih_L8_tellDocument_10 _ (by rw [← eN]; exact zc_up h_a2.2 r_v1 c1) F3 h_a0 h_a1 ⟨by rw [zc_up1 h_a2.2 r_v1 c1]; omega, zc_w _⟩  rfl
    · exact zm_iV F0
theorem zd_E8_tellDocument {d : Nat} {h : zv_H} {a0 : Nat} (hA : zc_A h) (h_a0 : zv_lay a0 = (1, 8)) : zm_R (E8_tellDocument (d + 2) a0 h) (zm_V fun h' => zd_Q h h') := by
  have F0 := zd_Q_r hA
  rw [qE8_tellDocument]
  refine zd_rRo F0 h_a0 ?_
  refine zd_rRo F0 (zd_xH8 F0 h_a0).1 ?_
  exact zd_L8_tellDocument_10  _ F0 h_a0 (zd_hV F0 (zd_xH8 F0 h_a0).1).1 ⟨by omega, (by unfold zv_rg; omega)⟩  rfl
theorem zd_C8_tellDocument {d : Nat} {h : zv_H} {a0 : Nat} (hA : zc_A h) (h_a0 : zv_lay a0 = (1, 8)) : zm_R (C8_tellDocument (d + 3) a0 h) (fun q => zd_Q h q) := zm_cV (fun e => lC8_tellDocument (zc_ob hA h_a0) e) (zd_E8_tellDocument hA h_a0)
theorem zd_L8_tellLine_10 {d : Nat} {h0 : zv_H} (N_L8_tellLine_10 : Nat) : ∀ {h : zv_H} {a0 : Nat} {a1 : Nat} {a2 : Int}, zd_Q h0 h → (zv_lay a0 = (1, 8)) → (zv_lay a1 = (1, 4)) → (0 ≤ a2 ∧ zv_rg a2) → (2147483647 - a2).toNat = N_L8_tellLine_10 → zm_R (L8_tellLine_10 (d + 4) a0 a1 a2 h) (zm_V fun h' => zd_Q h0 h') := by
  induction N_L8_tellLine_10 using Nat.strongRecOn with
  | _ N_L8_tellLine_10 ih_L8_tellLine_10 =>
    intro h a0 a1 a2 F0 h_a0 h_a1 h_a2 eN
    rw [qL8_tellLine_10]
    have z_a2 := h_a2.1
    refine zd_rI F0 h_a1 fun v1 e_v1 r_v1 => ?_
    have b_v1 := zd_bdv (k := 5) (m := 48) F0 h_a1 rfl
    rw [← e_v1] at b_v1
    refine zm_if (fun c1 => ?_) (fun c1 => ?_)
    · refine zm_if (fun c2 => ?_) (fun c2 => ?_)
      · rw [qL8_tellLine_28]
        refine zc_pI (K := fun v => True) (zc_C4_numberAt F0.2 h_a1 h_a2.2) fun q1v r_q1 k_q1 => ?_
        dsimp only
        refine zd_cV F0 (zd_C8_tellNumber F0.2 h_a0 r_q1) fun g2 F4 => ?_
        exact ih_L8_tellLine_10 _ (by rw [← eN]; exact zc_up h_a2.2 (show zv_rg (0 + 1) from (by unfold zv_rg at *; omega)) (by omega)) F4 h_a0 h_a1 ⟨by rw [zc_up1 h_a2.2 (show zv_rg (0 + 1) from (by unfold zv_rg at *; omega)) (by omega)]; omega, zc_w _⟩  rfl
      · refine zd_cV F0 (zd_C8_tellByte F0.2 h_a0 (by unfold zv_rg; omega)) fun g2x1 F5 => ?_
        rw [qL8_tellLine_28]
        refine zc_pI (K := fun v => True) (zc_C4_numberAt F5.2 h_a1 h_a2.2) fun q1x1v r_q1x1 k_q1x1 => ?_
        dsimp only
        refine zd_cV F5 (zd_C8_tellNumber F5.2 h_a0 r_q1x1) fun g2x2 F7 => ?_
        exact ih_L8_tellLine_10 _ (by rw [← eN]; exact zc_up h_a2.2 r_v1 c1) F7 h_a0 h_a1 ⟨by rw [zc_up1 h_a2.2 r_v1 c1]; omega, zc_w _⟩  rfl
    · exact zm_iV F0
theorem zd_E8_tellLine {d : Nat} {h : zv_H} {a0 : Nat} (hA : zc_A h) (h_a0 : zv_lay a0 = (1, 8)) : zm_R (E8_tellLine (d + 4) a0 h) (zm_V fun h' => zd_Q h h') := by
  have F0 := zd_Q_r hA
  rw [qE8_tellLine]
  refine zd_rRo F0 h_a0 ?_
  refine zd_cN (K := fun v => zv_lay v = (1, 4)) F0 (zd_C0_rowOfHere F0.2 (zd_xH8 F0 h_a0).1) fun q2v q2h F1 k_q2 => ?_
  dsimp only
  exact zd_L8_tellLine_10  _ F1 h_a0 k_q2 ⟨by omega, (by unfold zv_rg; omega)⟩  rfl
theorem zd_C8_tellLine {d : Nat} {h : zv_H} {a0 : Nat} (hA : zc_A h) (h_a0 : zv_lay a0 = (1, 8)) : zm_R (C8_tellLine (d + 5) a0 h) (fun q => zd_Q h q) := zm_cV (fun e => lC8_tellLine (zc_ob hA h_a0) e) (zd_E8_tellLine hA h_a0)
theorem zd_E8_out {d : Nat} {h : zv_H} {a0 : Nat} {a1 : Int} (hA : zc_A h) (h_a0 : zv_lay a0 = (1, 8)) (h_a1 : zv_rg a1) : zm_R (E8_out (d + 1) a0 a1 h) (zm_I fun v h' => zd_Q h h' ∧ zv_rg v ∧ True) := by
  have F0 := zd_Q_r hA
  rw [qE8_out]
  refine zm_if (fun c1 => ?_) (fun c1 => ?_)
  · refine zd_cI (K := fun v => True) F0 (zd_C8_refused F0.2 h_a0 (by unfold zv_rg; omega)) fun q1v q1h F2 r_q1 k_q1 => ?_
    dsimp only
    exact zm_iI ⟨F2, r_q1, trivial⟩
  · refine zd_rI F0 h_a0 fun v2 e_v2 r_v2 => ?_
    refine zm_if (fun c3 => ?_) (fun c3 => ?_)
    · refine zd_rF F0 1 h_a0 ?_
      refine zd_rAl F0 (zc_y8_0 h_a0).1 fun v4 e_v4 => ?_
      refine zm_if (fun c4 => ?_) (fun c4 => ?_)
      · refine zd_rF F0 1 h_a0 ?_
        refine zd_rA F0 (zc_y8_0 h_a0).1 (zc_y8_0 h_a0).2 (by omega) (by omega) fun v6 r_v6 => ?_
        refine zd_cI (K := fun v => True) F0 (zd_C8_given F0.2 h_a0 r_v6) fun q7v q7h F5 r_q7 k_q7 => ?_
        dsimp only
        exact zm_iI ⟨F5, r_q7, trivial⟩
      · rw [qL8_out_27]
        refine zd_cI (K := fun v => True) F0 (zd_C8_refused F0.2 h_a0 (by unfold zv_rg; omega)) fun q1x1v q1x1h F6 r_q1x1 k_q1x1 => ?_
        dsimp only
        exact zm_iI ⟨F6, r_q1x1, trivial⟩
    · rw [qL8_out_27]
      refine zd_cI (K := fun v => True) F0 (zd_C8_refused F0.2 h_a0 (by unfold zv_rg; omega)) fun q1x2v q1x2h F7 r_q1x2 k_q1x2 => ?_
      dsimp only
      exact zm_iI ⟨F7, r_q1x2, trivial⟩
theorem zd_C8_out {d : Nat} {h : zv_H} {a0 : Nat} {a1 : Int} (hA : zc_A h) (h_a0 : zv_lay a0 = (1, 8)) (h_a1 : zv_rg a1) : zm_R (C8_out (d + 2) a0 a1 h) (fun q => zd_Q h q.2 ∧ zv_rg q.1 ∧ True) := zm_cI (fun e => lC8_out (zc_ob hA h_a0) e) (zd_E8_out hA h_a0 h_a1)
theorem zd_E8_leaning {d : Nat} {h : zv_H} {a0 : Nat} {a1 : Int} {a2 : Int} (hA : zc_A h) (h_a0 : zv_lay a0 = (1, 8)) (h_a1 : zv_rg a1) (h_a2 : zv_rg a2) : zm_R (E8_leaning (d + 4) a0 a1 a2 h) (zm_I fun v h' => zd_Q h h' ∧ zv_rg v ∧ True) := by
  have F0 := zd_Q_r hA
  rw [qE8_leaning]
  refine zc_pI (K := fun v => (v = 0 ∨ v = 1)) (zc_C8_within F0.2 h_a2 (by unfold zv_rg; omega) (by unfold zv_rg; omega)) fun q1v r_q1 k_q1 => ?_
  dsimp only
  refine zm_if (fun c2 => ?_) (fun c2 => ?_)
  · refine zd_cI (K := fun v => True) F0 (zd_C8_refused F0.2 h_a0 (by unfold zv_rg; omega)) fun q2v q2h F3 r_q2 k_q2 => ?_
    dsimp only
    exact zm_iI ⟨F3, r_q2, trivial⟩
  · refine zd_rRo F0 h_a0 ?_
    refine zc_pN (K := fun v => (v = 0 ∨ zc_V h v)) (zc_C0_at F0.2 (zd_xH8 F0 h_a0).1 h_a1) fun q4v k_q4 => ?_
    dsimp only
    refine zm_if (fun c5 => ?_) (fun c5 => ?_)
    · refine zd_cI (K := fun v => True) F0 (zd_C8_refused F0.2 h_a0 (by unfold zv_rg; omega)) fun q5v q5h F6 r_q5 k_q5 => ?_
      dsimp only
      exact zm_iI ⟨F6, r_q5, trivial⟩
    · refine zd_rRo F0 h_a0 ?_
      refine zd_cN (K := fun v => zv_lay v = (1, 4)) F0 (zd_C0_rowOfHere F0.2 (zd_xH8 F0 h_a0).1) fun q7v q7h F7 k_q7 => ?_
      dsimp only
      refine zd_rJ F7 k_q7 fun v8 => ?_
      refine zc_pJ (zc_C5_bit F7.2 ((Or.imp id (zc_Vb F0.1.1) k_q4).resolve_left c5).1) fun q9v => ?_
      dsimp only
      refine zm_if (fun c9 => ?_) (fun c9 => ?_)
      · refine zd_cI (K := fun v => True) F7 (zd_C8_refused F7.2 h_a0 (by unfold zv_rg; omega)) fun q10v q10h F10 r_q10 k_q10 => ?_
        dsimp only
        exact zm_iI ⟨F10, r_q10, trivial⟩
      · refine zc_pJ (zc_C4_leaningOn F7.2 k_q7 ((Or.imp id (zc_Vb F0.1.1) k_q4).resolve_left c5).1) fun q11v => ?_
        dsimp only
        refine zm_if (fun c12 => ?_) (fun c12 => ?_)
        · refine zc_pI (K := fun v => True) (zc_C12_bitCount F7.2 ) fun q12v r_q12 k_q12 => ?_
          dsimp only
          refine zd_cI (K := fun v => True) F7 (zd_C8_given F7.2 h_a0 r_q12) fun q13v q13h F14 r_q13 k_q13 => ?_
          dsimp only
          exact zm_iI ⟨F14, r_q13, trivial⟩
        · refine zm_if (fun c15 => ?_) (fun c15 => ?_)
          · refine zd_rJ F7 k_q7 fun v14 => ?_
            refine zc_pI (K := fun v => True) (zc_C12_bitCount F7.2 ) fun q15v r_q15 k_q15 => ?_
            dsimp only
            refine zd_cI (K := fun v => True) F7 (zd_C8_given F7.2 h_a0 r_q15) fun q16v q16h F17 r_q16 k_q16 => ?_
            dsimp only
            exact zm_iI ⟨F17, r_q16, trivial⟩
          · refine zm_if (fun c18 => ?_) (fun c18 => ?_)
            · refine zd_rRo F7 h_a0 ?_
              refine zc_pI (K := fun v => True) (zc_C0_lettersOfHereBy F7.2 (zd_xH8 F7 h_a0).1) fun q18v r_q18 k_q18 => ?_
              dsimp only
              refine zd_cI (K := fun v => True) F7 (zd_C8_given F7.2 h_a0 r_q18) fun q19v q19h F20 r_q19 k_q19 => ?_
              dsimp only
              exact zm_iI ⟨F20, r_q19, trivial⟩
            · refine zd_rJ F7 k_q7 fun v20 => ?_
              refine zd_cV F7 (zd_C4_look F7.2 k_q7) fun g21 F21 => ?_
              refine zd_rI F21 k_q7 fun v22 e_v22 r_v22 => ?_
              refine zd_cI (K := fun v => True) F21 (zd_C8_given F21.2 h_a0 r_v22) fun q23v q23h F22 r_q23 k_q23 => ?_
              dsimp only
              exact zm_iI ⟨F22, r_q23, trivial⟩
theorem zd_C8_leaning {d : Nat} {h : zv_H} {a0 : Nat} {a1 : Int} {a2 : Int} (hA : zc_A h) (h_a0 : zv_lay a0 = (1, 8)) (h_a1 : zv_rg a1) (h_a2 : zv_rg a2) : zm_R (C8_leaning (d + 5) a0 a1 a2 h) (fun q => zd_Q h q.2 ∧ zv_rg q.1 ∧ True) := zm_cI (fun e => lC8_leaning (zc_ob hA h_a0) e) (zd_E8_leaning hA h_a0 h_a1 h_a2)
theorem zd_E8_find {d : Nat} {h : zv_H} {a0 : Nat} {a1 : Int} (hA : zc_A h) (h_a0 : zv_lay a0 = (1, 8)) (h_a1 : zv_rg a1) : zm_R (E8_find (d + 5) a0 a1 h) (zm_I fun v h' => zd_Q h h' ∧ zv_rg v ∧ True) := by
  have F0 := zd_Q_r hA
  rw [qE8_find]
  refine zc_pI (K := fun v => (v = 0 ∨ v = 1)) (zc_C8_within F0.2 h_a1 (by unfold zv_rg; omega) (by unfold zv_rg; omega)) fun q1v r_q1 k_q1 => ?_
  dsimp only
  refine zm_if (fun c2 => ?_) (fun c2 => ?_)
  · rw [qL8_find_19]
    refine zd_cI (K := fun v => True) F0 (zd_C8_refused F0.2 h_a0 (by unfold zv_rg; omega)) fun q1x1v q1x1h F3 r_q1x1 k_q1x1 => ?_
    dsimp only
    exact zm_iI ⟨F3, r_q1x1, trivial⟩
  · refine zd_rF F0 2 h_a0 ?_
    refine zd_rI F0 (zc_y8_1 h_a0).1 fun v3 e_v3 r_v3 => ?_
    have b_v3 := zd_bdv (k := 1) (m := 40) F0 (zc_y8_1 h_a0).1 rfl
    rw [← e_v3] at b_v3
    refine zm_if (fun c4 => ?_) (fun c4 => ?_)
    · rw [qL8_find_19]
      refine zd_cI (K := fun v => True) F0 (zd_C8_refused F0.2 h_a0 (by unfold zv_rg; omega)) fun q1x2v q1x2h F5 r_q1x2 k_q1x2 => ?_
      dsimp only
      exact zm_iI ⟨F5, r_q1x2, trivial⟩
    · refine zm_if (fun c6 => ?_) (fun c6 => ?_)
      · refine zd_rRo F0 h_a0 ?_
        refine zd_rF F0 2 h_a0 ?_
        refine zc_pI (K := fun v => True) (zc_C0_statesWith F0.2 (zd_xH8 F0 h_a0).1 (zc_y8_1 h_a0).1) fun q6v r_q6 k_q6 => ?_
        dsimp only
        refine zd_cI (K := fun v => True) F0 (zd_C8_given F0.2 h_a0 r_q6) fun q7v q7h F8 r_q7 k_q7 => ?_
        dsimp only
        exact zm_iI ⟨F8, r_q7, trivial⟩
      · refine zm_if (fun c9 => ?_) (fun c9 => ?_)
        · refine zd_rRo F0 h_a0 ?_
          refine zd_rF F0 2 h_a0 ?_
          refine zc_pI (K := fun v => True) (zc_C0_leastWith F0.2 (zd_xH8 F0 h_a0).1 (zc_y8_1 h_a0).1) fun q10v r_q10 k_q10 => ?_
          dsimp only
          rw [qL8_find_82]
          refine zm_if (fun c11 => ?_) (fun c11 => ?_)
          · refine zd_cI (K := fun v => True) F0 (zd_C8_refused F0.2 h_a0 (by unfold zv_rg; omega)) fun q1x3v q1x3h F12 r_q1x3 k_q1x3 => ?_
            dsimp only
            exact zm_iI ⟨F12, r_q1x3, trivial⟩
          · refine zd_cI (K := fun v => True) F0 (zd_C8_given F0.2 h_a0 r_q10) fun q2v q2h F13 r_q2 k_q2 => ?_
            dsimp only
            exact zm_iI ⟨F13, r_q2, trivial⟩
        · refine zd_rRo F0 h_a0 ?_
          refine zd_rRo F0 h_a0 ?_
          refine zd_rRo F0 (zd_xH8 F0 h_a0).1 ?_
          refine zd_rF F0 2 h_a0 ?_
          refine zc_pI (K := fun v => True) (zc_C0_placeIn F0.2 (zd_xH8 F0 h_a0).1 (zd_hV F0 (zd_xH8 F0 h_a0).1).1.1 (zc_y8_1 h_a0).1) fun q15v r_q15 k_q15 => ?_
          dsimp only
          rw [qL8_find_82]
          refine zm_if (fun c15 => ?_) (fun c15 => ?_)
          · refine zd_cI (K := fun v => True) F0 (zd_C8_refused F0.2 h_a0 (by unfold zv_rg; omega)) fun q1x4v q1x4h F16 r_q1x4 k_q1x4 => ?_
            dsimp only
            exact zm_iI ⟨F16, r_q1x4, trivial⟩
          · refine zd_cI (K := fun v => True) F0 (zd_C8_given F0.2 h_a0 r_q15) fun q2x1v q2x1h F17 r_q2x1 k_q2x1 => ?_
            dsimp only
            exact zm_iI ⟨F17, r_q2x1, trivial⟩
theorem zd_C8_find {d : Nat} {h : zv_H} {a0 : Nat} {a1 : Int} (hA : zc_A h) (h_a0 : zv_lay a0 = (1, 8)) (h_a1 : zv_rg a1) : zm_R (C8_find (d + 6) a0 a1 h) (fun q => zd_Q h q.2 ∧ zv_rg q.1 ∧ True) := zm_cI (fun e => lC8_find (zc_ob hA h_a0) e) (zd_E8_find hA h_a0 h_a1)
theorem zd_E8_first {d : Nat} {h : zv_H} {a0 : Nat} (hA : zc_A h) (h_a0 : zv_lay a0 = (1, 8)) : zm_R (E8_first (d + 2) a0 h) (zm_I fun v h' => zd_Q h h' ∧ zv_rg v ∧ True) := by
  have F0 := zd_Q_r hA
  rw [qE8_first]
  refine zd_rRo F0 h_a0 ?_
  refine zc_pN (K := fun v => (v = 0 ∨ zc_V h v)) (zc_C0_nextToGo F0.2 (zd_xH8 F0 h_a0).1) fun q2v k_q2 => ?_
  dsimp only
  refine zm_if (fun c2 => ?_) (fun c2 => ?_)
  · refine zd_cI (K := fun v => True) F0 (zd_C8_refused F0.2 h_a0 (by unfold zv_rg; omega)) fun q3v q3h F3 r_q3 k_q3 => ?_
    dsimp only
    exact zm_iI ⟨F3, r_q3, trivial⟩
  · refine zd_rT F0 ((Or.imp id (zc_Vb F0.1.1) k_q2).resolve_left c2).1 fun v4 e_v4 r_v4 => ?_
    refine zd_cI (K := fun v => True) F0 (zd_C8_given F0.2 h_a0 r_v4) fun q5v q5h F4 r_q5 k_q5 => ?_
    dsimp only
    exact zm_iI ⟨F4, r_q5, trivial⟩
theorem zd_C8_first {d : Nat} {h : zv_H} {a0 : Nat} (hA : zc_A h) (h_a0 : zv_lay a0 = (1, 8)) : zm_R (C8_first (d + 3) a0 h) (fun q => zd_Q h q.2 ∧ zv_rg q.1 ∧ True) := zm_cI (fun e => lC8_first (zc_ob hA h_a0) e) (zd_E8_first hA h_a0)
theorem zd_E8_twin {d : Nat} {h : zv_H} {a0 : Nat} {a1 : Int} (hA : zc_A h) (h_a0 : zv_lay a0 = (1, 8)) (h_a1 : zv_rg a1) : zm_R (E8_twin (d + 4) a0 a1 h) (zm_I fun v h' => zd_Q h h' ∧ zv_rg v ∧ True) := by
  have F0 := zd_Q_r hA
  rw [qE8_twin]
  refine zd_rRo F0 h_a0 ?_
  refine zc_pN (K := fun v => (v = 0 ∨ zc_V h v)) (zc_C0_at F0.2 (zd_xH8 F0 h_a0).1 h_a1) fun q2v k_q2 => ?_
  dsimp only
  refine zm_if (fun c2 => ?_) (fun c2 => ?_)
  · refine zd_cI (K := fun v => True) F0 (zd_C8_refused F0.2 h_a0 (by unfold zv_rg; omega)) fun q3v q3h F3 r_q3 k_q3 => ?_
    dsimp only
    exact zm_iI ⟨F3, r_q3, trivial⟩
  · refine zd_rRo F0 h_a0 ?_
    refine zc_pI (K := fun v => True) (zc_C0_twinOf F0.2 (zd_xH8 F0 h_a0).1 ((Or.imp id (zc_Vb F0.1.1) k_q2).resolve_left c2).1) fun q5v r_q5 k_q5 => ?_
    dsimp only
    refine zm_if (fun c5 => ?_) (fun c5 => ?_)
    · refine zd_cI (K := fun v => True) F0 (zd_C8_refused F0.2 h_a0 (by unfold zv_rg; omega)) fun q6v q6h F6 r_q6 k_q6 => ?_
      dsimp only
      exact zm_iI ⟨F6, r_q6, trivial⟩
    · refine zd_cI (K := fun v => True) F0 (zd_C8_given F0.2 h_a0 r_q5) fun q7v q7h F7 r_q7 k_q7 => ?_
      dsimp only
      exact zm_iI ⟨F7, r_q7, trivial⟩
theorem zd_C8_twin {d : Nat} {h : zv_H} {a0 : Nat} {a1 : Int} (hA : zc_A h) (h_a0 : zv_lay a0 = (1, 8)) (h_a1 : zv_rg a1) : zm_R (C8_twin (d + 5) a0 a1 h) (fun q => zd_Q h q.2 ∧ zv_rg q.1 ∧ True) := zm_cI (fun e => lC8_twin (zc_ob hA h_a0) e) (zd_E8_twin hA h_a0 h_a1)
theorem zd_E8_back {d : Nat} {h : zv_H} {a0 : Nat} {a1 : Int} (hA : zc_A h) (h_a0 : zv_lay a0 = (1, 8)) (h_a1 : zv_rg a1) : zm_R (E8_back (d + 1) a0 a1 h) (zm_I fun v h' => zd_Q h h' ∧ zv_rg v ∧ True) := by
  have F0 := zd_Q_r hA
  rw [qE8_back]
  refine zc_pI (K := fun v => (v = 0 ∨ v = 1)) (zc_C8_within F0.2 h_a1 (by unfold zv_rg; omega) (by unfold zv_rg; omega)) fun q1v r_q1 k_q1 => ?_
  dsimp only
  refine zm_if (fun c2 => ?_) (fun c2 => ?_)
  · refine zd_cI (K := fun v => True) F0 (zd_C8_refused F0.2 h_a0 (by unfold zv_rg; omega)) fun q2v q2h F3 r_q2 k_q2 => ?_
    dsimp only
    exact zm_iI ⟨F3, r_q2, trivial⟩
  · refine zd_rRo F0 h_a0 ?_
    refine zc_pN (K := fun v => (v = 0 ∨ zc_V h v)) (zc_C0_behind F0.2 (zd_xH8 F0 h_a0).1 h_a1) fun q4v k_q4 => ?_
    dsimp only
    refine zm_if (fun c5 => ?_) (fun c5 => ?_)
    · refine zd_cI (K := fun v => True) F0 (zd_C8_refused F0.2 h_a0 (by unfold zv_rg; omega)) fun q5v q5h F6 r_q5 k_q5 => ?_
      dsimp only
      exact zm_iI ⟨F6, r_q5, trivial⟩
    · refine zd_rT F0 ((Or.imp id (zc_Vb F0.1.1) k_q4).resolve_left c5).1 fun v6 e_v6 r_v6 => ?_
      refine zd_cI (K := fun v => True) F0 (zd_C8_given F0.2 h_a0 r_v6) fun q7v q7h F7 r_q7 k_q7 => ?_
      dsimp only
      exact zm_iI ⟨F7, r_q7, trivial⟩
theorem zd_C8_back {d : Nat} {h : zv_H} {a0 : Nat} {a1 : Int} (hA : zc_A h) (h_a0 : zv_lay a0 = (1, 8)) (h_a1 : zv_rg a1) : zm_R (C8_back (d + 2) a0 a1 h) (fun q => zd_Q h q.2 ∧ zv_rg q.1 ∧ True) := zm_cI (fun e => lC8_back (zc_ob hA h_a0) e) (zd_E8_back hA h_a0 h_a1)
