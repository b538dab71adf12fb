/-! A94.zd -/
section
/-! ===== the class: what is asked changes reckoned cells alone (genzd.py) ===== -/
theorem zd_L4_walk_28 {d : Nat} {h0 : zv_H} (N_L4_walk_28 : Nat) : ∀ {h : zv_H} {a0 : Nat} {a2 : Int64} {a4 : Int64} {a6 : Nat}, zd_Q h0 h → (zv_lay a0 = (1, 4)) → (a6 = 0 ∨ zc_V h0 a6) → zc_dm h0 a6 = N_L4_walk_28 → zm_R (L4_walk_28 (d + 1) a0 a2 a4 a6 h) (zm_V fun h' => zd_Q h0 h') := by
  induction N_L4_walk_28 using Nat.strongRecOn with
  | _ N_L4_walk_28 ih_L4_walk_28 =>
    intro h a0 a2 a4 a6 F0 h_a0 h_a6 eN
    rw [qL4_walk_28]
    refine zm_if (fun c1 => ?_) (fun c1 => ?_)
    · refine zd_rJ F0 h_a0 fun v1 => ?_
      refine zd_wJ F0 h_a0 (zc_lt h_a0 (by decide)) fun g2 F2 => ?_
      exact zm_iV F2
    · refine zd_rT F0 (h_a6.resolve_left c1).1 fun v3 e_v3 r_v3 => ?_
      have d_v3 := (zd_dep F0 (h_a6.resolve_left c1)).1
      rw [← e_v3] at d_v3
      refine zm_if (fun c3 => ?_) (fun c3 => ?_)
      · rw [qL4_walk_63]
        refine zc_pI (K := fun v => True) (zc_C5_edits F0.2 (h_a6.resolve_left c1).1) fun q1v r_q1 k_q1 => ?_
        dsimp only
        refine zm_if (fun c5 => ?_) (fun c5 => ?_)
        · rw [qL4_walk_85]
          refine zd_rI F0 (h_a6.resolve_left c1).1 fun v1x1 e_v1x1 r_v1x1 => ?_
          refine zm_if (fun c6 => ?_) (fun c6 => ?_)
          · refine zd_rJ F0 (h_a6.resolve_left c1).1 fun v2 => ?_
            refine zd_rJ F0 (h_a6.resolve_left c1).1 fun v3x1 => ?_
            refine zd_rR5 F0 (h_a6.resolve_left c1).1 ?_
            exact ih_L4_walk_28 _ (by rw [← eN]; exact zd_dmP F0 (h_a6.resolve_left c1)) F0 h_a0 (zd_pV F0 (h_a6.resolve_left c1))  rfl
          · refine zd_rJ F0 (h_a6.resolve_left c1).1 fun v5 => ?_
            refine zd_rR5 F0 (h_a6.resolve_left c1).1 ?_
            exact ih_L4_walk_28 _ (by rw [← eN]; exact zd_dmP F0 (h_a6.resolve_left c1)) F0 h_a0 (zd_pV F0 (h_a6.resolve_left c1))  rfl
        · refine zd_rJ F0 h_a0 fun v2x1 => ?_
          refine zc_pJ (zc_C5_bit F0.2 (h_a6.resolve_left c1).1) fun q3v => ?_
          dsimp only
          refine zd_wJ F0 h_a0 (zc_lt h_a0 (by decide)) fun g4 F8 => ?_
          rw [qL4_walk_85]
          refine zd_rI F8 (h_a6.resolve_left c1).1 fun v1x2 e_v1x2 r_v1x2 => ?_
          refine zm_if (fun c9 => ?_) (fun c9 => ?_)
          · refine zd_rJ F8 (h_a6.resolve_left c1).1 fun v2x2 => ?_
            refine zd_rJ F8 (h_a6.resolve_left c1).1 fun v3x2 => ?_
            refine zd_rR5 F8 (h_a6.resolve_left c1).1 ?_
            exact ih_L4_walk_28 _ (by rw [← eN]; exact zd_dmP F8 (h_a6.resolve_left c1)) F8 h_a0 (zd_pV F8 (h_a6.resolve_left c1))  rfl
          · refine zd_rJ F8 (h_a6.resolve_left c1).1 fun v5x1 => ?_
            refine zd_rR5 F8 (h_a6.resolve_left c1).1 ?_
            exact ih_L4_walk_28 _ (by rw [← eN]; exact zd_dmP F8 (h_a6.resolve_left c1)) F8 h_a0 (zd_pV F8 (h_a6.resolve_left c1))  rfl
      · refine zd_rT F0 (h_a6.resolve_left c1).1 fun v4x2 e_v4x2 r_v4x2 => ?_
        have d_v4x2 := (zd_dep F0 (h_a6.resolve_left c1)).1
        rw [← e_v4x2] at d_v4x2
        refine zm_if (fun c10 => ?_) (fun c10 => ?_)
        · refine zd_rF F0 1 h_a0 ?_
          refine zd_rT F0 (h_a6.resolve_left c1).1 fun v6x2 e_v6x2 r_v6x2 => ?_
          have d_v6x2 := (zd_dep F0 (h_a6.resolve_left c1)).1
          rw [← e_v6x2] at d_v6x2
          refine zd_wP F0 h_a0 (by omega) (by omega) (h_a6.resolve_left c1).1 fun g7 F11 => ?_
          rw [qL4_walk_63]
          refine zc_pI (K := fun v => True) (zc_C5_edits F11.2 (h_a6.resolve_left c1).1) fun q1x1v r_q1x1 k_q1x1 => ?_
          dsimp only
          refine zm_if (fun c13 => ?_) (fun c13 => ?_)
          · rw [qL4_walk_85]
            refine zd_rI F11 (h_a6.resolve_left c1).1 fun v1x3 e_v1x3 r_v1x3 => ?_
            refine zm_if (fun c14 => ?_) (fun c14 => ?_)
            · refine zd_rJ F11 (h_a6.resolve_left c1).1 fun v2x3 => ?_
              refine zd_rJ F11 (h_a6.resolve_left c1).1 fun v3x3 => ?_
              refine zd_rR5 F11 (h_a6.resolve_left c1).1 ?_
              exact ih_L4_walk_28 _ (by rw [← eN]; exact zd_dmP F11 (h_a6.resolve_left c1)) F11 h_a0 (zd_pV F11 (h_a6.resolve_left c1))  rfl
            · refine zd_rJ F11 (h_a6.resolve_left c1).1 fun v5x3 => ?_
              refine zd_rR5 F11 (h_a6.resolve_left c1).1 ?_
              exact ih_L4_walk_28 _ (by rw [← eN]; exact zd_dmP F11 (h_a6.resolve_left c1)) F11 h_a0 (zd_pV F11 (h_a6.resolve_left c1))  rfl
          · refine zd_rJ F11 h_a0 fun v2x4 => ?_
            refine zc_pJ (zc_C5_bit F11.2 (h_a6.resolve_left c1).1) fun q3x1v => ?_
            dsimp only
            refine zd_wJ F11 h_a0 (zc_lt h_a0 (by decide)) fun g4x1 F16 => ?_
            rw [qL4_walk_85]
            refine zd_rI F16 (h_a6.resolve_left c1).1 fun v1x4 e_v1x4 r_v1x4 => ?_
            refine zm_if (fun c17 => ?_) (fun c17 => ?_)
            · refine zd_rJ F16 (h_a6.resolve_left c1).1 fun v2x5 => ?_
              refine zd_rJ F16 (h_a6.resolve_left c1).1 fun v3x4 => ?_
              refine zd_rR5 F16 (h_a6.resolve_left c1).1 ?_
              exact ih_L4_walk_28 _ (by rw [← eN]; exact zd_dmP F16 (h_a6.resolve_left c1)) F16 h_a0 (zd_pV F16 (h_a6.resolve_left c1))  rfl
            · refine zd_rJ F16 (h_a6.resolve_left c1).1 fun v5x4 => ?_
              refine zd_rR5 F16 (h_a6.resolve_left c1).1 ?_
              exact ih_L4_walk_28 _ (by rw [← eN]; exact zd_dmP F16 (h_a6.resolve_left c1)) F16 h_a0 (zd_pV F16 (h_a6.resolve_left c1))  rfl
        · rw [qL4_walk_63]
          refine zc_pI (K := fun v => True) (zc_C5_edits F0.2 (h_a6.resolve_left c1).1) fun q1x2v r_q1x2 k_q1x2 => ?_
          dsimp only
          refine zm_if (fun c19 => ?_) (fun c19 => ?_)
          · rw [qL4_walk_85]
            refine zd_rI F0 (h_a6.resolve_left c1).1 fun v1x5 e_v1x5 r_v1x5 => ?_
            refine zm_if (fun c20 => ?_) (fun c20 => ?_)
            · refine zd_rJ F0 (h_a6.resolve_left c1).1 fun v2x6 => ?_
              refine zd_rJ F0 (h_a6.resolve_left c1).1 fun v3x5 => ?_
              refine zd_rR5 F0 (h_a6.resolve_left c1).1 ?_
              exact ih_L4_walk_28 _ (by rw [← eN]; exact zd_dmP F0 (h_a6.resolve_left c1)) F0 h_a0 (zd_pV F0 (h_a6.resolve_left c1))  rfl
            · refine zd_rJ F0 (h_a6.resolve_left c1).1 fun v5x5 => ?_
              refine zd_rR5 F0 (h_a6.resolve_left c1).1 ?_
              exact ih_L4_walk_28 _ (by rw [← eN]; exact zd_dmP F0 (h_a6.resolve_left c1)) F0 h_a0 (zd_pV F0 (h_a6.resolve_left c1))  rfl
          · refine zd_rJ F0 h_a0 fun v2x7 => ?_
            refine zc_pJ (zc_C5_bit F0.2 (h_a6.resolve_left c1).1) fun q3x2v => ?_
            dsimp only
            refine zd_wJ F0 h_a0 (zc_lt h_a0 (by decide)) fun g4x2 F22 => ?_
            rw [qL4_walk_85]
            refine zd_rI F22 (h_a6.resolve_left c1).1 fun v1x6 e_v1x6 r_v1x6 => ?_
            refine zm_if (fun c23 => ?_) (fun c23 => ?_)
            · refine zd_rJ F22 (h_a6.resolve_left c1).1 fun v2x8 => ?_
              refine zd_rJ F22 (h_a6.resolve_left c1).1 fun v3x6 => ?_
              refine zd_rR5 F22 (h_a6.resolve_left c1).1 ?_
              exact ih_L4_walk_28 _ (by rw [← eN]; exact zd_dmP F22 (h_a6.resolve_left c1)) F22 h_a0 (zd_pV F22 (h_a6.resolve_left c1))  rfl
            · refine zd_rJ F22 (h_a6.resolve_left c1).1 fun v5x6 => ?_
              refine zd_rR5 F22 (h_a6.resolve_left c1).1 ?_
              exact ih_L4_walk_28 _ (by rw [← eN]; exact zd_dmP F22 (h_a6.resolve_left c1)) F22 h_a0 (zd_pV F22 (h_a6.resolve_left c1))  rfl
theorem zd_E4_walk {d : Nat} {h : zv_H} {a0 : Nat} {a1 : Nat} (hA : zc_A h) (h_a0 : zv_lay a0 = (1, 4)) (h_a1 : zc_V h a1) : zm_R (E4_walk (d + 1) a0 a1 h) (zm_V fun h' => zd_Q h h') := by
  have F0 := zd_Q_r hA
  rw [qE4_walk]
  refine zd_wJ F0 h_a0 (zc_lt h_a0 (by decide)) fun g1 F1 => ?_
  refine zd_rT F1 h_a1.1 fun v2 e_v2 r_v2 => ?_
  have d_v2 := (zd_dep F1 h_a1).1
  rw [← e_v2] at d_v2
  refine zd_wL (m := 48) F1 h_a0 rfl (by rw [zm_w (by omega)]; omega) (by rw [zm_w (by omega)]; omega) ?_ (fun _ => by decide)
  intro g3 F2
  exact zd_L4_walk_28  _ F2 h_a0 (Or.inr h_a1)  rfl
theorem zd_C4_walk {d : Nat} {h : zv_H} {a0 : Nat} {a1 : Nat} (hA : zc_A h) (h_a0 : zv_lay a0 = (1, 4)) (h_a1 : zc_V h a1) : zm_R (C4_walk (d + 2) a0 a1 h) (fun q => zd_Q h q) := zm_cV (fun e => lC4_walk (zc_ob hA h_a0) e) (zd_E4_walk hA h_a0 h_a1)
theorem zd_L4_link_31 {d : Nat} {h0 : zv_H} (N_L4_link_31 : Nat) : ∀ {h : zv_H} {a0 : Nat} {a1 : Nat} {a2 : Int} {a3 : Int} {a4 : Int}, zd_Q h0 h → (zv_lay a0 = (1, 4)) → (zv_lay a1 = (1, 5)) → ((0 ≤ a2 ∧ a2 < 605) ∧ zv_rg a2) → (zv_rg a3) → (0 ≤ a4 ∧ zv_rg a4) → (2147483647 - a4).toNat = N_L4_link_31 → zm_R (L4_link_31 (d + 1) a0 a1 a2 a3 a4 h) (zm_V fun h' => zd_Q h0 h') := by
  induction N_L4_link_31 using Nat.strongRecOn with
  | _ N_L4_link_31 ih_L4_link_31 =>
    intro h a0 a1 a2 a3 a4 F0 h_a0 h_a1 h_a2 h_a3 h_a4 eN
    rw [qL4_link_31]
    have z_a2 := h_a2.1
    have z_a4 := h_a4.1
    refine zd_rI F0 h_a1 fun v1 e_v1 r_v1 => ?_
    refine zm_if (fun c1 => ?_) (fun c1 => ?_)
    · refine zd_rT F0 h_a1 fun v2 e_v2 r_v2 => ?_
      refine zc_pI (K := fun v => True) (zc_C4_id F0.2 r_v2 h_a4.2) fun q3v r_q3 k_q3 => ?_
      dsimp only
      refine zc_pI (K := fun v => (v = 0 ∨ (v = 1 ∧ 0 ≤ q3v ∧ q3v < 604))) (zc_C4_isId F0.2 r_q3) fun q4v r_q4 k_q4 => ?_
      dsimp only
      refine zm_if (fun c4 => ?_) (fun c4 => ?_)
      · exact ih_L4_link_31 _ (by rw [← eN]; exact zc_up h_a4.2 r_v1 c1) F0 h_a0 h_a1 ⟨by unfold zv_rg at *; omega, h_a2.2⟩ h_a3 ⟨by rw [zc_up1 h_a4.2 r_v1 c1]; omega, zc_w _⟩  rfl
      · refine zd_rF F0 5 h_a0 ?_
        refine zd_wA F0 (zc_y4_4 h_a0).1 (zc_y4_4 h_a0).2 (zd_y4_4 h_a0) (by omega) (by omega) r_q3 fun g6 F5 u_g6 => ?_
        exact ih_L4_link_31 _ (by rw [← eN]; exact zc_up h_a4.2 r_v1 c1) F5 h_a0 h_a1 ⟨by unfold zv_rg at *; omega, r_q3⟩ h_a3 ⟨by rw [zc_up1 h_a4.2 r_v1 c1]; omega, zc_w _⟩  rfl
    · refine zd_rF F0 5 h_a0 ?_
      refine zd_wA F0 (zc_y4_4 h_a0).1 (zc_y4_4 h_a0).2 (zd_y4_4 h_a0) (by omega) (by omega) h_a3 fun g8 F6 u_g8 => ?_
      exact zm_iV F6
theorem zd_E4_link {d : Nat} {h : zv_H} {a0 : Nat} {a1 : Nat} (hA : zc_A h) (h_a0 : zv_lay a0 = (1, 4)) (h_a1 : zv_lay a1 = (1, 5)) : zm_R (E4_link (d + 1) a0 a1 h) (zm_V fun h' => zd_Q h h') := by
  have F0 := zd_Q_r hA
  rw [qE4_link]
  refine zd_rI F0 h_a1 fun v1 e_v1 r_v1 => ?_
  refine zc_pI (K := fun v => (v = 0 ∨ (v = 1 ∧ 0 ≤ v1 ∧ v1 < 604))) (zc_C4_isId F0.2 r_v1) fun q2v r_q2 k_q2 => ?_
  dsimp only
  refine zm_if (fun c2 => ?_) (fun c2 => ?_)
  · refine zd_rF F0 5 h_a0 ?_
    refine zd_rA F0 (zc_y4_4 h_a0).1 (zc_y4_4 h_a0).2 (by omega) (by omega) fun v4 r_v4 => ?_
    exact zd_L4_link_31  _ F0 h_a0 h_a1 ⟨by unfold zv_rg at *; omega, (by unfold zv_rg; omega)⟩ r_v4 ⟨by omega, (by unfold zv_rg; omega)⟩  rfl
  · refine zd_rI F0 h_a1 fun v5 e_v5 r_v5 => ?_
    refine zd_rF F0 5 h_a0 ?_
    refine zd_rA F0 (zc_y4_4 h_a0).1 (zc_y4_4 h_a0).2 (by omega) (by omega) fun v7 r_v7 => ?_
    exact zd_L4_link_31  _ F0 h_a0 h_a1 ⟨by unfold zv_rg at *; omega, r_v5⟩ r_v7 ⟨by omega, (by unfold zv_rg; omega)⟩  rfl
theorem zd_C4_link {d : Nat} {h : zv_H} {a0 : Nat} {a1 : Nat} (hA : zc_A h) (h_a0 : zv_lay a0 = (1, 4)) (h_a1 : zv_lay a1 = (1, 5)) : zm_R (C4_link (d + 2) a0 a1 h) (fun q => zd_Q h q) := zm_cV (fun e => lC4_link (zc_ob hA h_a0) e) (zd_E4_link hA h_a0 h_a1)
theorem zd_L4_look_43 {d : Nat} {h0 : zv_H} {N_L4_look_24 : Nat} (ih_L4_look_24 : ∀ m, m < N_L4_look_24 → ∀ {h : zv_H} {a0 : Nat} {a1 : Int64} {a3 : Int}, zd_Q h0 h → (zv_lay a0 = (1, 4)) → (0 ≤ a3 ∧ zv_rg a3) → (2147483647 - a3).toNat = m → zm_R (L4_look_24 (d + 1) a0 a1 a3 h) (zm_V fun h' => zd_Q h0 h')) (N_L4_look_43 : Nat) : ∀ {h : zv_H} {a0 : Nat} {a1 : Int64} {a3 : Int} {a4 : Nat} {a5 : Int}, zd_Q h0 h → (zv_lay a0 = (1, 4)) → (zv_rg a3) → (a4 = 0 ∨ zv_lay a4 = (1, 5)) → (0 ≤ a5 ∧ zv_rg a5) → ((2147483647 - (zv_w (a3 + 1))).toNat < N_L4_look_24 ∧ 0 ≤ (zv_w (a3 + 1))) → (2147483647 - a5).toNat = N_L4_look_43 → zm_R (L4_look_43 (d + 1) a0 a1 a3 a4 a5 h) (zm_V fun h' => zd_Q h0 h') := by
  induction N_L4_look_43 using Nat.strongRecOn with
  | _ N_L4_look_43 ih_L4_look_43 =>
    intro h a0 a1 a3 a4 a5 F0 h_a0 h_a3 h_a4 h_a5 hm_L4_look_24 eN
    rw [qL4_look_43]
    have z_a5 := h_a5.1
    refine zm_if (fun c1 => ?_) (fun c1 => ?_)
    · exact ih_L4_look_24 _ hm_L4_look_24.1 F0 h_a0 ⟨hm_L4_look_24.2, (zc_w _)⟩  rfl
    · refine zc_pJ (zc_C5_bit F0.2 (h_a4.resolve_left c1)) fun q1v => ?_
      dsimp only
      refine zm_if (fun c3 => ?_) (fun c3 => ?_)
      · exact ih_L4_look_24 _ hm_L4_look_24.1 F0 h_a0 ⟨hm_L4_look_24.2, (zc_w _)⟩  rfl
      · refine zd_rI F0 (h_a4.resolve_left c1) fun v2 e_v2 r_v2 => ?_
        refine zm_if (fun c4 => ?_) (fun c4 => ?_)
        · refine zc_pI (K := fun v => True) (zc_C5_tookAt F0.2 (h_a4.resolve_left c1) h_a5.2) fun q3v r_q3 k_q3 => ?_
          dsimp only
          refine zc_pI (K := fun v => (v = 0 ∨ (v = 1 ∧ 0 ≤ q3v ∧ q3v < 604))) (zc_C4_isId F0.2 r_q3) fun q4v r_q4 k_q4 => ?_
          dsimp only
          refine zm_if (fun c7 => ?_) (fun c7 => ?_)
          · exact ih_L4_look_43 _ (by rw [← eN]; exact zc_up h_a5.2 r_v2 c4) F0 h_a0 h_a3 (Or.inr (h_a4.resolve_left c1)) ⟨by rw [zc_up1 h_a5.2 r_v2 c4]; omega, zc_w _⟩ hm_L4_look_24 rfl
          · refine zd_rF F0 4 h_a0 ?_
            refine zd_wB F0 (zc_y4_3 h_a0).1 (zc_y4_3 h_a0).2 (zd_y4_3 h_a0) (by omega) (by omega) fun g6 F8 u_g6 => ?_
            exact ih_L4_look_43 _ (by rw [← eN]; exact zc_up h_a5.2 r_v2 c4) F8 h_a0 h_a3 (Or.inr (h_a4.resolve_left c1)) ⟨by rw [zc_up1 h_a5.2 r_v2 c4]; omega, zc_w _⟩ hm_L4_look_24 rfl
        · exact ih_L4_look_24 _ hm_L4_look_24.1 F0 h_a0 ⟨hm_L4_look_24.2, (zc_w _)⟩  rfl
theorem zd_L4_look_114 {d : Nat} {h0 : zv_H} (N_L4_look_114 : Nat) : ∀ {h : zv_H} {a0 : Nat} {a1 : Int64} {a3 : Int}, zd_Q h0 h → (zv_lay a0 = (1, 4)) → (0 ≤ a3 ∧ zv_rg a3) → (2147483647 - a3).toNat = N_L4_look_114 → zm_R (L4_look_114 (d + 1) a0 a1 a3 h) (zm_V fun h' => zd_Q h0 h') := by
  induction N_L4_look_114 using Nat.strongRecOn with
  | _ N_L4_look_114 ih_L4_look_114 =>
    intro h a0 a1 a3 F0 h_a0 h_a3 eN
    rw [qL4_look_114]
    have z_a3 := h_a3.1
    refine zd_rI F0 h_a0 fun v1 e_v1 r_v1 => ?_
    refine zm_if (fun c1 => ?_) (fun c1 => ?_)
    · refine zm_if (fun c2 => ?_) (fun c2 => ?_)
      · refine zd_rF F0 2 h_a0 ?_
        refine zd_rA F0 (zc_y4_1 h_a0).1 (zc_y4_1 h_a0).2 (by omega) (by omega) fun v3 r_v3 => ?_
        refine zc_pI (K := fun v => True) (zc_C4_putter F0.2 r_v3) fun q4v r_q4 k_q4 => ?_
        dsimp only
        refine zd_rF F0 3 h_a0 ?_
        refine zc_pI (K := fun v => (v = 0 ∨ (v = 1 ∧ 0 ≤ v3 ∧ v3 < 604))) (zc_C4_isId F0.2 r_v3) fun q6v r_q6 k_q6 => ?_
        dsimp only
        refine zm_if (fun c5 => ?_) (fun c5 => ?_)
        · rw [qL4_look_187]
          rw [qL4_look_188]
          refine zd_wB F0 (zc_y4_2 h_a0).1 (zc_y4_2 h_a0).2 (zd_y4_2 h_a0) (by omega) (by omega) fun g1 F6 u_g1 => ?_
          refine zd_rI F6 h_a0 fun v2x1 e_v2x1 r_v2x1 => ?_
          rw [u_g1 _ _ (by rw [h_a0])] at e_v2x1
          refine zd_rF F6 3 h_a0 ?_
          refine zd_rB F6 (zc_y4_2 h_a0).1 (zc_y4_2 h_a0).2 (by omega) (by omega) fun v4 r_v4 => ?_
          refine zm_if (fun c7 => ?_) (fun c7 => ?_)
          · refine zd_wO F6 h_a0 (zc_frO h_a0 (zc_lt h_a0 (by decide)) (by decide) rfl (by decide)) (zc_w _) fun g5 F8 => ?_
            exact ih_L4_look_114 _ (by rw [← eN]; exact zc_up h_a3.2 (by unfold zv_rg; omega) c2) F8 h_a0 ⟨by rw [zc_up1 h_a3.2 (by unfold zv_rg; omega) c2]; omega, zc_w _⟩  rfl
          · refine zd_wO F6 h_a0 (zc_frO h_a0 (zc_lt h_a0 (by decide)) (by decide) rfl (by decide)) (zc_w _) fun g6 F9 => ?_
            exact ih_L4_look_114 _ (by rw [← eN]; exact zc_up h_a3.2 (by unfold zv_rg; omega) c2) F9 h_a0 ⟨by rw [zc_up1 h_a3.2 (by unfold zv_rg; omega) c2]; omega, zc_w _⟩  rfl
        · refine zd_rF F0 4 h_a0 ?_
          refine zd_rB F0 (zc_y4_3 h_a0).1 (zc_y4_3 h_a0).2 (by omega) (by omega) fun v8 r_v8 => ?_
          refine zm_if (fun c10 => ?_) (fun c10 => ?_)
          · refine zm_if (fun c11 => ?_) (fun c11 => ?_)
            · rw [qL4_look_183]
              rw [qL4_look_188]
              refine zd_wB F0 (zc_y4_2 h_a0).1 (zc_y4_2 h_a0).2 (zd_y4_2 h_a0) (by omega) (by omega) fun g1x1 F12 u_g1x1 => ?_
              refine zd_rI F12 h_a0 fun v2x2 e_v2x2 r_v2x2 => ?_
              rw [u_g1x1 _ _ (by rw [h_a0])] at e_v2x2
              refine zd_rF F12 3 h_a0 ?_
              refine zd_rB F12 (zc_y4_2 h_a0).1 (zc_y4_2 h_a0).2 (by omega) (by omega) fun v4x1 r_v4x1 => ?_
              refine zm_if (fun c13 => ?_) (fun c13 => ?_)
              · refine zd_wO F12 h_a0 (zc_frO h_a0 (zc_lt h_a0 (by decide)) (by decide) rfl (by decide)) (zc_w _) fun g5x1 F14 => ?_
                exact ih_L4_look_114 _ (by rw [← eN]; exact zc_up h_a3.2 (by unfold zv_rg; omega) c2) F14 h_a0 ⟨by rw [zc_up1 h_a3.2 (by unfold zv_rg; omega) c2]; omega, zc_w _⟩  rfl
              · refine zd_wO F12 h_a0 (zc_frO h_a0 (zc_lt h_a0 (by decide)) (by decide) rfl (by decide)) (zc_w _) fun g6x1 F15 => ?_
                exact ih_L4_look_114 _ (by rw [← eN]; exact zc_up h_a3.2 (by unfold zv_rg; omega) c2) F15 h_a0 ⟨by rw [zc_up1 h_a3.2 (by unfold zv_rg; omega) c2]; omega, zc_w _⟩  rfl
            · refine zm_if (fun c16 => ?_) (fun c16 => ?_)
              · rw [qL4_look_187]
                rw [qL4_look_188]
                refine zd_wB F0 (zc_y4_2 h_a0).1 (zc_y4_2 h_a0).2 (zd_y4_2 h_a0) (by omega) (by omega) fun g1x2 F17 u_g1x2 => ?_
                refine zd_rI F17 h_a0 fun v2x3 e_v2x3 r_v2x3 => ?_
                rw [u_g1x2 _ _ (by rw [h_a0])] at e_v2x3
                refine zd_rF F17 3 h_a0 ?_
                refine zd_rB F17 (zc_y4_2 h_a0).1 (zc_y4_2 h_a0).2 (by omega) (by omega) fun v4x2 r_v4x2 => ?_
                refine zm_if (fun c18 => ?_) (fun c18 => ?_)
                · refine zd_wO F17 h_a0 (zc_frO h_a0 (zc_lt h_a0 (by decide)) (by decide) rfl (by decide)) (zc_w _) fun g5x2 F19 => ?_
                  exact ih_L4_look_114 _ (by rw [← eN]; exact zc_up h_a3.2 (by unfold zv_rg; omega) c2) F19 h_a0 ⟨by rw [zc_up1 h_a3.2 (by unfold zv_rg; omega) c2]; omega, zc_w _⟩  rfl
                · refine zd_wO F17 h_a0 (zc_frO h_a0 (zc_lt h_a0 (by decide)) (by decide) rfl (by decide)) (zc_w _) fun g6x2 F20 => ?_
                  exact ih_L4_look_114 _ (by rw [← eN]; exact zc_up h_a3.2 (by unfold zv_rg; omega) c2) F20 h_a0 ⟨by rw [zc_up1 h_a3.2 (by unfold zv_rg; omega) c2]; omega, zc_w _⟩  rfl
              · rw [qL4_look_183]
                rw [qL4_look_188]
                refine zd_wB F0 (zc_y4_2 h_a0).1 (zc_y4_2 h_a0).2 (zd_y4_2 h_a0) (by omega) (by omega) fun g1x3 F21 u_g1x3 => ?_
                refine zd_rI F21 h_a0 fun v2x4 e_v2x4 r_v2x4 => ?_
                rw [u_g1x3 _ _ (by rw [h_a0])] at e_v2x4
                refine zd_rF F21 3 h_a0 ?_
                refine zd_rB F21 (zc_y4_2 h_a0).1 (zc_y4_2 h_a0).2 (by omega) (by omega) fun v4x3 r_v4x3 => ?_
                refine zm_if (fun c22 => ?_) (fun c22 => ?_)
                · refine zd_wO F21 h_a0 (zc_frO h_a0 (zc_lt h_a0 (by decide)) (by decide) rfl (by decide)) (zc_w _) fun g5x3 F23 => ?_
                  exact ih_L4_look_114 _ (by rw [← eN]; exact zc_up h_a3.2 (by unfold zv_rg; omega) c2) F23 h_a0 ⟨by rw [zc_up1 h_a3.2 (by unfold zv_rg; omega) c2]; omega, zc_w _⟩  rfl
                · refine zd_wO F21 h_a0 (zc_frO h_a0 (zc_lt h_a0 (by decide)) (by decide) rfl (by decide)) (zc_w _) fun g6x3 F24 => ?_
                  exact ih_L4_look_114 _ (by rw [← eN]; exact zc_up h_a3.2 (by unfold zv_rg; omega) c2) F24 h_a0 ⟨by rw [zc_up1 h_a3.2 (by unfold zv_rg; omega) c2]; omega, zc_w _⟩  rfl
          · rw [qL4_look_187]
            rw [qL4_look_188]
            refine zd_wB F0 (zc_y4_2 h_a0).1 (zc_y4_2 h_a0).2 (zd_y4_2 h_a0) (by omega) (by omega) fun g1x4 F25 u_g1x4 => ?_
            refine zd_rI F25 h_a0 fun v2x5 e_v2x5 r_v2x5 => ?_
            rw [u_g1x4 _ _ (by rw [h_a0])] at e_v2x5
            refine zd_rF F25 3 h_a0 ?_
            refine zd_rB F25 (zc_y4_2 h_a0).1 (zc_y4_2 h_a0).2 (by omega) (by omega) fun v4x4 r_v4x4 => ?_
            refine zm_if (fun c26 => ?_) (fun c26 => ?_)
            · refine zd_wO F25 h_a0 (zc_frO h_a0 (zc_lt h_a0 (by decide)) (by decide) rfl (by decide)) (zc_w _) fun g5x4 F27 => ?_
              exact ih_L4_look_114 _ (by rw [← eN]; exact zc_up h_a3.2 (by unfold zv_rg; omega) c2) F27 h_a0 ⟨by rw [zc_up1 h_a3.2 (by unfold zv_rg; omega) c2]; omega, zc_w _⟩  rfl
            · refine zd_wO F25 h_a0 (zc_frO h_a0 (zc_lt h_a0 (by decide)) (by decide) rfl (by decide)) (zc_w _) fun g6x4 F28 => ?_
              exact ih_L4_look_114 _ (by rw [← eN]; exact zc_up h_a3.2 (by unfold zv_rg; omega) c2) F28 h_a0 ⟨by rw [zc_up1 h_a3.2 (by unfold zv_rg; omega) c2]; omega, zc_w _⟩  rfl
      · exact zm_iV F0
    · exact zm_iV F0
theorem zd_L4_look_24 {d : Nat} {h0 : zv_H} (N_L4_look_24 : Nat) : ∀ {h : zv_H} {a0 : Nat} {a1 : Int64} {a3 : Int}, zd_Q h0 h → (zv_lay a0 = (1, 4)) → (0 ≤ a3 ∧ zv_rg a3) → (2147483647 - a3).toNat = N_L4_look_24 → zm_R (L4_look_24 (d + 1) a0 a1 a3 h) (zm_V fun h' => zd_Q h0 h') := by
  induction N_L4_look_24 using Nat.strongRecOn with
  | _ N_L4_look_24 ih_L4_look_24 =>
    intro h a0 a1 a3 F0 h_a0 h_a3 eN
    rw [qL4_look_24]
    have z_a3 := h_a3.1
    refine zd_rI F0 h_a0 fun v1 e_v1 r_v1 => ?_
    have b_v1 := zd_bdv (k := 5) (m := 48) F0 h_a0 rfl
    rw [← e_v1] at b_v1
    refine zm_if (fun c1 => ?_) (fun c1 => ?_)
    · refine zd_rF F0 1 h_a0 ?_
      refine zd_rQ F0 h_a0 (by omega) (by omega) ?_
      exact zd_L4_look_43 ih_L4_look_24 _ F0 h_a0 h_a3.2 (zd_pa F0 h_a0 (a3).toNat) ⟨by omega, (by unfold zv_rg; omega)⟩ ⟨(by rw [← eN]; exact zc_up h_a3.2 r_v1 c1), (⟨by rw [zc_up1 h_a3.2 r_v1 c1]; omega, zc_w _⟩ : 0 ≤ (zv_w (a3 + 1)) ∧ zv_rg (zv_w (a3 + 1))).1⟩ rfl
    · refine zd_wO F0 h_a0 (zc_frO h_a0 (zc_lt h_a0 (by decide)) (by decide) rfl (by decide)) (by unfold zv_rg; omega) fun g4 F2 => ?_
      exact zd_L4_look_114  _ F2 h_a0 ⟨by omega, (by unfold zv_rg; omega)⟩  rfl
theorem zd_L4_look_2 {d : Nat} {h0 : zv_H} (N_L4_look_2 : Nat) : ∀ {h : zv_H} {a0 : Nat} {a1 : Int64} {a3 : Int}, zd_Q h0 h → (zv_lay a0 = (1, 4)) → (0 ≤ a3 ∧ zv_rg a3) → (2147483647 - a3).toNat = N_L4_look_2 → zm_R (L4_look_2 (d + 1) a0 a1 a3 h) (zm_V fun h' => zd_Q h0 h') := by
  induction N_L4_look_2 using Nat.strongRecOn with
  | _ N_L4_look_2 ih_L4_look_2 =>
    intro h a0 a1 a3 F0 h_a0 h_a3 eN
    rw [qL4_look_2]
    have z_a3 := h_a3.1
    refine zm_if (fun c1 => ?_) (fun c1 => ?_)
    · refine zd_rF F0 4 h_a0 ?_
      refine zd_wB F0 (zc_y4_3 h_a0).1 (zc_y4_3 h_a0).2 (zd_y4_3 h_a0) (by omega) (by omega) fun g2 F2 u_g2 => ?_
      exact ih_L4_look_2 _ (by rw [← eN]; exact zc_up h_a3.2 (by unfold zv_rg; omega) c1) F2 h_a0 ⟨by rw [zc_up1 h_a3.2 (by unfold zv_rg; omega) c1]; omega, zc_w _⟩  rfl
    · exact zd_L4_look_24  _ F0 h_a0 ⟨by omega, (by unfold zv_rg; omega)⟩  rfl
theorem zd_E4_look {d : Nat} {h : zv_H} {a0 : Nat} {a1 : Int64} (hA : zc_A h) (h_a0 : zv_lay a0 = (1, 4)) : zm_R (E4_look (d + 1) a0 a1 h) (zm_V fun h' => zd_Q h h') := by
  have F0 := zd_Q_r hA
  rw [qE4_look]
  exact zd_L4_look_2  _ F0 h_a0 ⟨by omega, (by unfold zv_rg; omega)⟩  rfl
theorem zd_C4_look {d : Nat} {h : zv_H} {a0 : Nat} {a1 : Int64} (hA : zc_A h) (h_a0 : zv_lay a0 = (1, 4)) : zm_R (C4_look (d + 2) a0 a1 h) (fun q => zd_Q h q) := zm_cV (fun e => lC4_look (zc_ob hA h_a0) e) (zd_E4_look hA h_a0)
theorem zd_L4_lay_77 {d : Nat} {h0 : zv_H} (N_L4_lay_77 : Nat) : ∀ {h : zv_H} {a0 : Nat} {a2 : Int} {a3 : Int}, zd_Q h0 h → (zv_lay a0 = (1, 4)) → (zv_rg a2) → (0 ≤ a3 ∧ zv_rg a3) → (2147483647 - a3).toNat = N_L4_lay_77 → zm_R (L4_lay_77 (d + 2) a0 a2 a3 h) (zm_V fun h' => zd_Q h0 h') := by
  induction N_L4_lay_77 using Nat.strongRecOn with
  | _ N_L4_lay_77 ih_L4_lay_77 =>
    intro h a0 a2 a3 F0 h_a0 h_a2 h_a3 eN
    rw [qL4_lay_77]
    have z_a3 := h_a3.1
    refine zm_if (fun c1 => ?_) (fun c1 => ?_)
    · refine zc_pI (K := fun v => (v = 0 ∨ (v = 1 ∧ 0 ≤ a2 ∧ a2 < 604))) (zc_C4_isId F0.2 h_a2) fun q1v r_q1 k_q1 => ?_
      dsimp only
      refine zm_if (fun c3 => ?_) (fun c3 => ?_)
      · rw [qL4_lay_118]
        refine zd_rJ F0 h_a0 fun v1 => ?_
        refine zd_cV F0 (zd_C4_look F0.2 h_a0) fun g2 F4 => ?_
        exact zm_iV F4
      · refine zd_rF F0 2 h_a0 ?_
        refine zd_wA F0 (zc_y4_1 h_a0).1 (zc_y4_1 h_a0).2 (zd_y4_1 h_a0) (by omega) (by omega) h_a2 fun g3 F5 u_g3 => ?_
        refine zd_wO F5 h_a0 (zc_frO h_a0 (zc_lt h_a0 (by decide)) (by decide) rfl (by decide)) (zc_w _) fun g4 F6 => ?_
        refine zd_rF F6 5 h_a0 ?_
        refine zd_rA F6 (zc_y4_4 h_a0).1 (zc_y4_4 h_a0).2 (by omega) (by omega) fun v6 r_v6 => ?_
        exact ih_L4_lay_77 _ (by rw [← eN]; exact zc_up h_a3.2 (by unfold zv_rg; omega) c1) F6 h_a0 r_v6 ⟨by rw [zc_up1 h_a3.2 (by unfold zv_rg; omega) c1]; omega, zc_w _⟩  rfl
    · rw [qL4_lay_118]
      refine zd_rJ F0 h_a0 fun v1x1 => ?_
      refine zd_cV F0 (zd_C4_look F0.2 h_a0) fun g2x1 F7 => ?_
      exact zm_iV F7
theorem zd_L4_lay_16 {d : Nat} {h0 : zv_H} (N_L4_lay_16 : Nat) : ∀ {h : zv_H} {a0 : Nat} {a2 : Int}, zd_Q h0 h → (zv_lay a0 = (1, 4)) → (0 ≤ a2 ∧ zv_rg a2) → (2147483647 - a2).toNat = N_L4_lay_16 → zm_R (L4_lay_16 (d + 2) a0 a2 h) (zm_V fun h' => zd_Q h0 h') := by
  induction N_L4_lay_16 using Nat.strongRecOn with
  | _ N_L4_lay_16 ih_L4_lay_16 =>
    intro h a0 a2 F0 h_a0 h_a2 eN
    rw [qL4_lay_16]
    have z_a2 := h_a2.1
    refine zd_rI F0 h_a0 fun v1 e_v1 r_v1 => ?_
    have b_v1 := zd_bdv (k := 5) (m := 48) F0 h_a0 rfl
    rw [← e_v1] at b_v1
    refine zm_if (fun c1 => ?_) (fun c1 => ?_)
    · refine zd_rF F0 1 h_a0 ?_
      refine zd_rQ F0 h_a0 (by omega) (by omega) ?_
      refine zm_if (fun c2 => ?_) (fun c2 => ?_)
      · exact ih_L4_lay_16 _ (by rw [← eN]; exact zc_up h_a2.2 r_v1 c1) F0 h_a0 ⟨by rw [zc_up1 h_a2.2 r_v1 c1]; omega, zc_w _⟩  rfl
      · refine zd_rF F0 1 h_a0 ?_
        refine zd_rQ F0 h_a0 (by omega) (by omega) ?_
        refine zc_pI (K := fun v => True) (zc_C5_brings F0.2 ((zd_pa F0 h_a0 (a2).toNat).resolve_left c2)) fun q6v r_q6 k_q6 => ?_
        dsimp only
        refine zm_if (fun c4 => ?_) (fun c4 => ?_)
        · exact ih_L4_lay_16 _ (by rw [← eN]; exact zc_up h_a2.2 r_v1 c1) F0 h_a0 ⟨by rw [zc_up1 h_a2.2 r_v1 c1]; omega, zc_w _⟩  rfl
        · refine zd_rF F0 1 h_a0 ?_
          refine zd_rQ F0 h_a0 (by omega) (by omega) ?_
          refine zd_cV F0 (zd_C4_link F0.2 h_a0 ((zd_pa F0 h_a0 (a2).toNat).resolve_left c2)) fun g9 F5 => ?_
          exact ih_L4_lay_16 _ (by rw [← eN]; exact zc_up h_a2.2 r_v1 c1) F5 h_a0 ⟨by rw [zc_up1 h_a2.2 r_v1 c1]; omega, zc_w _⟩  rfl
    · refine zd_wO F0 h_a0 (zc_frO h_a0 (zc_lt h_a0 (by decide)) (by decide) rfl (by decide)) (by unfold zv_rg; omega) fun g10 F6 => ?_
      refine zd_rF F6 5 h_a0 ?_
      refine zd_rA F6 (zc_y4_4 h_a0).1 (zc_y4_4 h_a0).2 (by omega) (by omega) fun v12 r_v12 => ?_
      exact zd_L4_lay_77  _ F6 h_a0 r_v12 ⟨by omega, (by unfold zv_rg; omega)⟩  rfl
theorem zd_E4_lay {d : Nat} {h : zv_H} {a0 : Nat} {a1 : Nat} (hA : zc_A h) (h_a0 : zv_lay a0 = (1, 4)) (h_a1 : zc_V h a1) : zm_R (E4_lay (d + 2) a0 a1 h) (zm_V fun h' => zd_Q h h') := by
  have F0 := zd_Q_r hA
  rw [qE4_lay]
  refine zd_cV F0 (zd_C4_walk F0.2 h_a0 (zc_Vq F0.1.1 h_a1)) fun g1 F1 => ?_
  refine zd_rF F1 5 h_a0 ?_
  refine zd_wA F1 (zc_y4_4 h_a0).1 (zc_y4_4 h_a0).2 (zd_y4_4 h_a0) (by omega) (by omega) (by unfold zv_rg; omega) fun g3 F2 u_g3 => ?_
  exact zd_L4_lay_16  _ F2 h_a0 ⟨by omega, (by unfold zv_rg; omega)⟩  rfl
theorem zd_C4_lay {d : Nat} {h : zv_H} {a0 : Nat} {a1 : Nat} (hA : zc_A h) (h_a0 : zv_lay a0 = (1, 4)) (h_a1 : zc_V h a1) : zm_R (C4_lay (d + 3) a0 a1 h) (fun q => zd_Q h q) := zm_cV (fun e => lC4_lay (zc_ob hA h_a0) e) (zd_E4_lay hA h_a0 h_a1)
theorem zd_E8_refused {d : Nat} {h : zv_H} {a0 : Nat} {a1 : Int} (hA : zc_A h) (h_a0 : zv_lay a0 = (1, 8)) (h_a1 : zv_rg a1) : zm_R (E8_refused (d + 0) a0 a1 h) (zm_I fun v h' => zd_Q h h' ∧ zv_rg v ∧ True) := by
  have F0 := zd_Q_r hA
  rw [qE8_refused]
  refine zd_wO F0 h_a0 (zc_frO h_a0 (zc_lt h_a0 (by decide)) (by decide) rfl (by decide)) h_a1 fun g1 F1 => ?_
  exact zm_iI ⟨F1, (by unfold zv_rg; omega), trivial⟩
theorem zd_C8_refused {d : Nat} {h : zv_H} {a0 : Nat} {a1 : Int} (hA : zc_A h) (h_a0 : zv_lay a0 = (1, 8)) (h_a1 : zv_rg a1) : zm_R (C8_refused (d + 1) a0 a1 h) (fun q => zd_Q h q.2 ∧ zv_rg q.1 ∧ True) := zm_cI (fun e => lC8_refused (zc_ob hA h_a0) e) (zd_E8_refused hA h_a0 h_a1)
theorem zd_E8_given {d : Nat} {h : zv_H} {a0 : Nat} {a1 : Int} (hA : zc_A h) (h_a0 : zv_lay a0 = (1, 8)) (h_a1 : zv_rg a1) : zm_R (E8_given (d + 0) a0 a1 h) (zm_I fun v h' => zd_Q h h' ∧ zv_rg v ∧ True) := by
  have F0 := zd_Q_r hA
  rw [qE8_given]
  refine zd_wO F0 h_a0 (zc_frO h_a0 (zc_lt h_a0 (by decide)) (by decide) rfl (by decide)) (by unfold zv_rg; omega) fun g1 F1 => ?_
  exact zm_iI ⟨F1, h_a1, trivial⟩
theorem zd_C8_given {d : Nat} {h : zv_H} {a0 : Nat} {a1 : Int} (hA : zc_A h) (h_a0 : zv_lay a0 = (1, 8)) (h_a1 : zv_rg a1) : zm_R (C8_given (d + 1) a0 a1 h) (fun q => zd_Q h q.2 ∧ zv_rg q.1 ∧ True) := zm_cI (fun e => lC8_given (zc_ob hA h_a0) e) (zd_E8_given hA h_a0 h_a1)
theorem zd_E0_rowOfHere {d : Nat} {h : zv_H} {a0 : Nat} (hA : zc_A h) (h_a0 : zv_lay a0 = (1, 0)) : zm_R (E0_rowOfHere (d + 3) a0 h) (zm_N fun v h' => zd_Q h h' ∧ (zv_lay v = (1, 4))) := by
  have F0 := zd_Q_r hA
  rw [qE0_rowOfHere]
  refine zd_rF F0 8 h_a0 ?_
  refine zd_rRo F0 h_a0 ?_
  refine zd_cV F0 (zd_C4_lay F0.2 (zc_y0_5 h_a0).1 (zc_Vq F0.1.1 (zd_hV F0 h_a0).1)) fun g3 F1 => ?_
  refine zd_rF F1 8 h_a0 ?_
  exact zm_iN ⟨F1, (zc_y0_5 h_a0).1⟩
theorem zd_C0_rowOfHere {d : Nat} {h : zv_H} {a0 : Nat} (hA : zc_A h) (h_a0 : zv_lay a0 = (1, 0)) : zm_R (C0_rowOfHere (d + 4) a0 h) (fun q => zd_Q h q.2 ∧ (zv_lay q.1 = (1, 4))) := zm_cN (fun e => lC0_rowOfHere (zc_ob hA h_a0) e) (zd_E0_rowOfHere hA h_a0)
theorem zd_L0_findNewest_49 {d : Nat} {h0 : zv_H} {N_L0_findNewest_35 : Nat} (ih_L0_findNewest_35 : ∀ m, m < N_L0_findNewest_35 → ∀ {h : zv_H} {a0 : Nat} {a1 : Int}, zd_Q h0 h → (zv_lay a0 = (1, 0)) → (0 ≤ a1 ∧ zv_rg a1) → (2147483647 - a1).toNat = m → zm_R (L0_findNewest_35 (d + 1) a0 a1 h) (zm_V fun h' => zd_Q h0 h')) (N_L0_findNewest_49 : Nat) : ∀ {h : zv_H} {a0 : Nat} {a1 : Int} {a2 : Nat} {a3 : Nat}, zd_Q h0 h → (zv_lay a0 = (1, 0)) → (zv_rg a1) → (a3 = 0 ∨ zc_V h0 a2) → (a3 = 0 ∨ zc_V h0 a3) → ((2147483647 - (zv_w (a1 + 1))).toNat < N_L0_findNewest_35 ∧ 0 ≤ (zv_w (a1 + 1))) → zc_dm h0 a3 = N_L0_findNewest_49 → zm_R (L0_findNewest_49 (d + 1) a0 a1 a2 a3 h) (zm_V fun h' => zd_Q h0 h') := by
  induction N_L0_findNewest_49 using Nat.strongRecOn with
  | _ N_L0_findNewest_49 ih_L0_findNewest_49 =>
    intro h a0 a1 a2 a3 F0 h_a0 h_a1 h_a2 h_a3 hm_L0_findNewest_35 eN
    rw [qL0_findNewest_49]
    refine zm_if (fun c1 => ?_) (fun c1 => ?_)
    · exact ih_L0_findNewest_35 _ hm_L0_findNewest_35.1 F0 h_a0 ⟨hm_L0_findNewest_35.2, (zc_w _)⟩  rfl
    · refine zd_rI F0 (h_a3.resolve_left c1).1 fun v1 e_v1 r_v1 => ?_
      refine zd_rI F0 (h_a2.resolve_left c1).1 fun v2 e_v2 r_v2 => ?_
      refine zd_wO F0 (h_a3.resolve_left c1).1 (zc_frO (h_a3.resolve_left c1).1 (zc_lt (h_a3.resolve_left c1).1 (by decide)) (by decide) rfl (by decide)) (zc_mx r_v1 r_v2) fun g3 F2 => ?_
      refine zd_rR5 F2 (h_a3.resolve_left c1).1 ?_
      exact ih_L0_findNewest_49 _ (by rw [← eN]; exact zd_dmP F2 (h_a3.resolve_left c1)) F2 h_a0 h_a1 (Or.inr (h_a2.resolve_left c1)) (zd_pV F2 (h_a3.resolve_left c1)) hm_L0_findNewest_35 rfl
theorem zd_L0_findNewest_35 {d : Nat} {h0 : zv_H} (N_L0_findNewest_35 : Nat) : ∀ {h : zv_H} {a0 : Nat} {a1 : Int}, zd_Q h0 h → (zv_lay a0 = (1, 0)) → (0 ≤ a1 ∧ zv_rg a1) → (2147483647 - a1).toNat = N_L0_findNewest_35 → zm_R (L0_findNewest_35 (d + 1) a0 a1 h) (zm_V fun h' => zd_Q h0 h') := by
  induction N_L0_findNewest_35 using Nat.strongRecOn with
  | _ N_L0_findNewest_35 ih_L0_findNewest_35 =>
    intro h a0 a1 F0 h_a0 h_a1 eN
    rw [qL0_findNewest_35]
    have z_a1 := h_a1.1
    refine zm_if (fun c1 => ?_) (fun c1 => ?_)
    · refine zc_pN (K := fun v => (v = 0 ∨ zc_V h v)) (zc_C0_at F0.2 h_a0 h_a1.2) fun q1v k_q1 => ?_
      dsimp only
      exact zd_L0_findNewest_49 ih_L0_findNewest_35 _ F0 h_a0 h_a1.2 (Or.imp id (zc_Vb F0.1.1) k_q1) (Or.imp id (zc_Vb F0.1.1) k_q1) ⟨(by rw [← eN]; exact zc_up h_a1.2 (by unfold zv_rg; omega) c1), (⟨by rw [zc_up1 h_a1.2 (by unfold zv_rg; omega) c1]; omega, zc_w _⟩ : 0 ≤ (zv_w (a1 + 1)) ∧ zv_rg (zv_w (a1 + 1))).1⟩ rfl
    · exact zm_iV F0
theorem zd_L0_findNewest_2 {d : Nat} {h0 : zv_H} (N_L0_findNewest_2 : Nat) : ∀ {h : zv_H} {a0 : Nat} {a1 : Int}, zd_Q h0 h → (zv_lay a0 = (1, 0)) → (0 ≤ a1 ∧ zv_rg a1) → (2147483647 - a1).toNat = N_L0_findNewest_2 → zm_R (L0_findNewest_2 (d + 1) a0 a1 h) (zm_V fun h' => zd_Q h0 h') := by
  induction N_L0_findNewest_2 using Nat.strongRecOn with
  | _ N_L0_findNewest_2 ih_L0_findNewest_2 =>
    intro h a0 a1 F0 h_a0 h_a1 eN
    rw [qL0_findNewest_2]
    have z_a1 := h_a1.1
    refine zm_if (fun c1 => ?_) (fun c1 => ?_)
    · refine zd_rF F0 4 h_a0 ?_
      refine zd_rS F0 h_a0 (by omega) (by omega) fun v2 l_v2 f_v2 e_v2 n_v2 => ?_
      refine zm_if (fun c2 => ?_) (fun c2 => ?_)
      · exact absurd c2 (zc_nz l_v2)
      · refine zd_rF F0 4 h_a0 ?_
        refine zd_rS F0 h_a0 (by omega) (by omega) fun v4 l_v4 f_v4 e_v4 n_v4 => ?_
        refine zd_wO F0 l_v4 (zc_frO l_v4 (zc_lt l_v4 (by decide)) (by decide) rfl (by decide)) (by unfold zv_rg; omega) fun g5 F3 => ?_
        exact ih_L0_findNewest_2 _ (by rw [← eN]; exact zc_up h_a1.2 (by unfold zv_rg; omega) c1) F3 h_a0 ⟨by rw [zc_up1 h_a1.2 (by unfold zv_rg; omega) c1]; omega, zc_w _⟩  rfl
    · exact zd_L0_findNewest_35  _ F0 h_a0 ⟨by omega, (by unfold zv_rg; omega)⟩  rfl
theorem zd_E0_findNewest {d : Nat} {h : zv_H} {a0 : Nat} (hA : zc_A h) (h_a0 : zv_lay a0 = (1, 0)) : zm_R (E0_findNewest (d + 1) a0 h) (zm_V fun h' => zd_Q h h') := by
  have F0 := zd_Q_r hA
  rw [qE0_findNewest]
  exact zd_L0_findNewest_2  _ F0 h_a0 ⟨by omega, (by unfold zv_rg; omega)⟩  rfl
theorem zd_C0_findNewest {d : Nat} {h : zv_H} {a0 : Nat} (hA : zc_A h) (h_a0 : zv_lay a0 = (1, 0)) : zm_R (C0_findNewest (d + 2) a0 h) (fun q => zd_Q h q) := zm_cV (fun e => lC0_findNewest (zc_ob hA h_a0) e) (zd_E0_findNewest hA h_a0)
theorem zd_L0_childOf_34 {d : Nat} {h0 : zv_H} (N_L0_childOf_34 : Nat) : ∀ {h : zv_H} {a0 : Nat} {a1 : Nat} {a2 : Int} {a3 : Nat} {a4 : Int} {a5 : Int}, zd_Q h0 h → (zv_lay a0 = (1, 0)) → (zv_lay a1 = (1, 5)) → ((-2147483648 ≤ a2 ∧ a2 < 2147483647) ∧ zv_rg a2) → (a3 = 0 ∨ zc_V h0 a3) → (zv_rg a4) → (0 ≤ a5 ∧ zv_rg a5) → (2147483647 - a5).toNat = N_L0_childOf_34 → zm_R (L0_childOf_34 (d + 2) a0 a1 a2 a3 a4 a5 h) (zm_N fun v h' => zd_Q h0 h' ∧ ((v = 0 ∨ zc_V h0 v))) := by
  induction N_L0_childOf_34 using Nat.strongRecOn with
  | _ N_L0_childOf_34 ih_L0_childOf_34 =>
    intro h a0 a1 a2 a3 a4 a5 F0 h_a0 h_a1 h_a2 h_a3 h_a4 h_a5 eN
    rw [qL0_childOf_34]
    have z_a2 := h_a2.1
    have z_a5 := h_a5.1
    refine zm_if (fun c1 => ?_) (fun c1 => ?_)
    · refine zc_pN (K := fun v => (v = 0 ∨ zc_V h v)) (zc_C0_newestChild F0.2 h_a0 h_a1 h_a4) fun q1v k_q1 => ?_
      dsimp only
      refine zm_if (fun c3 => ?_) (fun c3 => ?_)
      · exact zm_iN ⟨F0, Or.inl rfl⟩
      · refine zd_rI F0 ((Or.imp id (zc_Vb F0.1.1) k_q1).resolve_left c3).1 fun v2 e_v2 r_v2 => ?_
        exact ih_L0_childOf_34 _ (by rw [← eN]; exact zc_up h_a5.2 (show zv_rg (a2 + 1) from (by unfold zv_rg at *; omega)) (by omega)) F0 h_a0 h_a1 ⟨by unfold zv_rg at *; omega, h_a2.2⟩ (Or.inr ((Or.imp id (zc_Vb F0.1.1) k_q1).resolve_left c3)) r_v2 ⟨by rw [zc_up1 h_a5.2 (show zv_rg (a2 + 1) from (by unfold zv_rg at *; omega)) (by omega)]; omega, zc_w _⟩  rfl
    · exact zm_iN ⟨F0, h_a3⟩
theorem zd_E0_childOf {d : Nat} {h : zv_H} {a0 : Nat} {a1 : Nat} {a2 : Int} (hA : zc_A h) (h_a0 : zv_lay a0 = (1, 0)) (h_a1 : zv_lay a1 = (1, 5)) (h_a2 : zv_rg a2) : zm_R (E0_childOf (d + 2) a0 a1 a2 h) (zm_N fun v h' => zd_Q h h' ∧ ((v = 0 ∨ zc_V h v))) := by
  have F0 := zd_Q_r hA
  rw [qE0_childOf]
  refine zm_if (fun c1 => ?_) (fun c1 => ?_)
  · exact zm_iN ⟨F0, Or.inl rfl⟩
  · refine zd_rT F0 h_a1 fun v1 e_v1 r_v1 => ?_
    refine zm_if (fun c2 => ?_) (fun c2 => ?_)
    · refine zd_cV F0 (zd_C0_findNewest F0.2 h_a0) fun g2 F3 => ?_
      refine zd_rF F3 17 h_a0 ?_
      refine zd_rI F3 (zc_y0_7 h_a0).1 fun v4 e_v4 r_v4 => ?_
      exact zd_L0_childOf_34  _ F3 h_a0 h_a1 ⟨by unfold zv_rg at *; omega, h_a2⟩ (Or.inl rfl) (zc_w _) ⟨by omega, (by unfold zv_rg; omega)⟩  rfl
    · exact zm_iN ⟨F0, Or.inl rfl⟩
theorem zd_C0_childOf {d : Nat} {h : zv_H} {a0 : Nat} {a1 : Nat} {a2 : Int} (hA : zc_A h) (h_a0 : zv_lay a0 = (1, 0)) (h_a1 : zv_lay a1 = (1, 5)) (h_a2 : zv_rg a2) : zm_R (C0_childOf (d + 3) a0 a1 a2 h) (fun q => zd_Q h q.2 ∧ ((q.1 = 0 ∨ zc_V h q.1))) := zm_cN (fun e => lC0_childOf (zc_ob hA h_a0) e) (zd_E0_childOf hA h_a0 h_a1 h_a2)
theorem zd_L0_longestCommon_58 {d : Nat} {h0 : zv_H} {N_L0_longestCommon_34 : Nat} (ih_L0_longestCommon_34 : ∀ m, m < N_L0_longestCommon_34 → ∀ {h : zv_H} {a0 : Nat} {a1 : Nat} {a2 : Nat} {a3 : Int} {a4 : Int}, zd_Q h0 h → (zv_lay a0 = (1, 0)) → (zv_lay a1 = (1, 5)) → (zv_lay a2 = (1, 5)) → ((0 ≤ a3 ∧ a3 < 121) ∧ zv_rg a3) → (0 ≤ a4 ∧ zv_rg a4) → (2147483647 - a4).toNat = m → zm_R (L0_longestCommon_34 (d + 2) a0 a1 a2 a3 a4 h) (zm_I fun v h' => zd_Q h0 h' ∧ zv_rg v ∧ True)) (N_L0_longestCommon_58 : Nat) : ∀ {h : zv_H} {a0 : Nat} {a1 : Nat} {a2 : Nat} {a3 : Int} {a4 : Int} {a5 : Int} {a6 : Int} {a7 : Int}, zd_Q h0 h → (zv_lay a0 = (1, 0)) → (zv_lay a1 = (1, 5)) → (zv_lay a2 = (1, 5)) → ((0 ≤ a3 ∧ a3 < 121) ∧ zv_rg a3) → (zv_rg a4) → (zv_rg a5) → (zv_rg a6) → ((1 ≤ a7 ∧ a7 < 2147483648) ∧ zv_rg a7) → ((2147483647 - (zv_w (a4 + 1))).toNat < N_L0_longestCommon_34 ∧ 0 ≤ (zv_w (a4 + 1))) → (2147483647 - a7).toNat = N_L0_longestCommon_58 → zm_R (L0_longestCommon_58 (d + 2) a0 a1 a2 a3 a4 a5 a6 a7 h) (zm_I fun v h' => zd_Q h0 h' ∧ zv_rg v ∧ True) := by
  induction N_L0_longestCommon_58 using Nat.strongRecOn with
  | _ N_L0_longestCommon_58 ih_L0_longestCommon_58 =>
    intro h a0 a1 a2 a3 a4 a5 a6 a7 F0 h_a0 h_a1 h_a2 h_a3 h_a4 h_a5 h_a6 h_a7 hm_L0_longestCommon_34 eN
    rw [qL0_longestCommon_58]
    have z_a3 := h_a3.1
    have z_a7 := h_a7.1
    refine zm_if (fun c1 => ?_) (fun c1 => ?_)
    · refine zd_rF F0 7 h_a0 ?_
      refine zd_rA F0 (zc_y0_4 h_a0).1 (zc_y0_4 h_a0).2 (by omega) (by omega) fun v2 r_v2 => ?_
      refine zd_rF F0 7 h_a0 ?_
      refine zc_pI (K := fun v => True) (zc_C0_letterAt F0.2 h_a0 h_a2 (zc_w _)) fun q4v r_q4 k_q4 => ?_
      dsimp only
      refine zm_if (fun c3 => ?_) (fun c3 => ?_)
      · refine zd_wA F0 (zc_y0_4 h_a0).1 (zc_y0_4 h_a0).2 (zd_y0_4 h_a0) (by omega) (by omega) (zc_w _) fun g5 F4 u_g5 => ?_
        exact ih_L0_longestCommon_58 _ (by rw [← eN]; exact zc_up h_a7.2 (show zv_rg (a3 + 1) from (by unfold zv_rg at *; omega)) (by omega)) F4 h_a0 h_a1 h_a2 ⟨by unfold zv_rg at *; omega, h_a3.2⟩ h_a4 h_a5 r_v2 ⟨by rw [zm_w (by omega)]; omega, (zc_w _)⟩ hm_L0_longestCommon_34 rfl
      · refine zd_rF F0 7 h_a0 ?_
        refine zd_rA F0 (zc_y0_4 h_a0).1 (zc_y0_4 h_a0).2 (by first | omega | (rw [zm_w (by omega)]; omega)) (by first | omega | (rw [zm_w (by omega)]; omega)) fun v7 r_v7 => ?_
        refine zd_wA F0 (zc_y0_4 h_a0).1 (zc_y0_4 h_a0).2 (zd_y0_4 h_a0) (by omega) (by omega) (zc_mx r_v2 r_v7) fun g8 F5 u_g8 => ?_
        exact ih_L0_longestCommon_58 _ (by rw [← eN]; exact zc_up h_a7.2 (show zv_rg (a3 + 1) from (by unfold zv_rg at *; omega)) (by omega)) F5 h_a0 h_a1 h_a2 ⟨by unfold zv_rg at *; omega, h_a3.2⟩ h_a4 h_a5 r_v2 ⟨by rw [zm_w (by omega)]; omega, (zc_w _)⟩ hm_L0_longestCommon_34 rfl
    · exact ih_L0_longestCommon_34 _ hm_L0_longestCommon_34.1 F0 h_a0 h_a1 h_a2 ⟨by unfold zv_rg at *; omega, h_a3.2⟩ ⟨hm_L0_longestCommon_34.2, (zc_w _)⟩  rfl
theorem zd_L0_longestCommon_34 {d : Nat} {h0 : zv_H} (N_L0_longestCommon_34 : Nat) : ∀ {h : zv_H} {a0 : Nat} {a1 : Nat} {a2 : Nat} {a3 : Int} {a4 : Int}, zd_Q h0 h → (zv_lay a0 = (1, 0)) → (zv_lay a1 = (1, 5)) → (zv_lay a2 = (1, 5)) → ((0 ≤ a3 ∧ a3 < 121) ∧ zv_rg a3) → (0 ≤ a4 ∧ zv_rg a4) → (2147483647 - a4).toNat = N_L0_longestCommon_34 → zm_R (L0_longestCommon_34 (d + 2) a0 a1 a2 a3 a4 h) (zm_I fun v h' => zd_Q h0 h' ∧ zv_rg v ∧ True) := by
  induction N_L0_longestCommon_34 using Nat.strongRecOn with
  | _ N_L0_longestCommon_34 ih_L0_longestCommon_34 =>
    intro h a0 a1 a2 a3 a4 F0 h_a0 h_a1 h_a2 h_a3 h_a4 eN
    rw [qL0_longestCommon_34]
    have z_a3 := h_a3.1
    have z_a4 := h_a4.1
    refine zd_rI F0 h_a1 fun v1 e_v1 r_v1 => ?_
    have b_v1 := zd_bdv (k := 12) (m := 120) F0 h_a1 rfl
    rw [← e_v1] at b_v1
    refine zm_if (fun c1 => ?_) (fun c1 => ?_)
    · refine zc_pI (K := fun v => True) (zc_C0_letterAt F0.2 h_a0 h_a1 h_a4.2) fun q2v r_q2 k_q2 => ?_
      dsimp only
      exact zd_L0_longestCommon_58 ih_L0_longestCommon_34 _ F0 h_a0 h_a1 h_a2 ⟨by unfold zv_rg at *; omega, h_a3.2⟩ h_a4.2 r_q2 (by unfold zv_rg; omega) ⟨by unfold zv_rg at *; omega, (by unfold zv_rg; omega)⟩ ⟨(by rw [← eN]; exact zc_up h_a4.2 r_v1 c1), (⟨by rw [zc_up1 h_a4.2 r_v1 c1]; omega, zc_w _⟩ : 0 ≤ (zv_w (a4 + 1)) ∧ zv_rg (zv_w (a4 + 1))).1⟩ rfl
    · refine zd_rF F0 7 h_a0 ?_
      refine zd_rA F0 (zc_y0_4 h_a0).1 (zc_y0_4 h_a0).2 (by omega) (by omega) fun v4 r_v4 => ?_
      exact zm_iI ⟨F0, r_v4, trivial⟩
theorem zd_L0_longestCommon_2 {d : Nat} {h0 : zv_H} (N_L0_longestCommon_2 : Nat) : ∀ {h : zv_H} {a0 : Nat} {a1 : Nat} {a2 : Nat} {a3 : Int}, zd_Q h0 h → (zv_lay a0 = (1, 0)) → (zv_lay a1 = (1, 5)) → (zv_lay a2 = (1, 5)) → (0 ≤ a3 ∧ zv_rg a3) → (2147483647 - a3).toNat = N_L0_longestCommon_2 → zm_R (L0_longestCommon_2 (d + 2) a0 a1 a2 a3 h) (zm_I fun v h' => zd_Q h0 h' ∧ zv_rg v ∧ True) := by
  induction N_L0_longestCommon_2 using Nat.strongRecOn with
  | _ N_L0_longestCommon_2 ih_L0_longestCommon_2 =>
    intro h a0 a1 a2 a3 F0 h_a0 h_a1 h_a2 h_a3 eN
    rw [qL0_longestCommon_2]
    have z_a3 := h_a3.1
    refine zm_if (fun c1 => ?_) (fun c1 => ?_)
    · refine zd_rF F0 7 h_a0 ?_
      refine zd_wA F0 (zc_y0_4 h_a0).1 (zc_y0_4 h_a0).2 (zd_y0_4 h_a0) (by omega) (by omega) (by unfold zv_rg; omega) fun g2 F2 u_g2 => ?_
      exact ih_L0_longestCommon_2 _ (by rw [← eN]; exact zc_up h_a3.2 (show zv_rg ((120 : Int) + 1) from (by unfold zv_rg at *; omega)) (by omega)) F2 h_a0 h_a1 h_a2 ⟨by rw [zc_up1 h_a3.2 (show zv_rg ((120 : Int) + 1) from (by unfold zv_rg at *; omega)) (by omega)]; omega, zc_w _⟩  rfl
    · refine zd_rI F0 h_a2 fun v3 e_v3 r_v3 => ?_
      have b_v3 := zd_bdv (k := 12) (m := 120) F0 h_a2 rfl
      rw [← e_v3] at b_v3
      exact zd_L0_longestCommon_34  _ F0 h_a0 h_a1 h_a2 ⟨by unfold zv_rg at *; omega, (zc_mn r_v3 (by unfold zv_rg; omega))⟩ ⟨by omega, (by unfold zv_rg; omega)⟩  rfl
theorem zd_E0_longestCommon {d : Nat} {h : zv_H} {a0 : Nat} {a1 : Nat} {a2 : Nat} (hA : zc_A h) (h_a0 : zv_lay a0 = (1, 0)) (h_a1 : zv_lay a1 = (1, 5)) (h_a2 : zv_lay a2 = (1, 5)) : zm_R (E0_longestCommon (d + 2) a0 a1 a2 h) (zm_I fun v h' => zd_Q h h' ∧ zv_rg v ∧ True) := by
  have F0 := zd_Q_r hA
  rw [qE0_longestCommon]
  exact zd_L0_longestCommon_2  _ F0 h_a0 h_a1 h_a2 ⟨by omega, (by unfold zv_rg; omega)⟩  rfl
theorem zd_C0_longestCommon {d : Nat} {h : zv_H} {a0 : Nat} {a1 : Nat} {a2 : Nat} (hA : zc_A h) (h_a0 : zv_lay a0 = (1, 0)) (h_a1 : zv_lay a1 = (1, 5)) (h_a2 : zv_lay a2 = (1, 5)) : zm_R (C0_longestCommon (d + 3) a0 a1 a2 h) (fun q => zd_Q h q.2 ∧ zv_rg q.1 ∧ True) := zm_cI (fun e => lC0_longestCommon (zc_ob hA h_a0) e) (zd_E0_longestCommon hA h_a0 h_a1 h_a2)
theorem zd_E8_many {d : Nat} {h : zv_H} {a0 : Nat} {a1 : Int} (hA : zc_A h) (h_a0 : zv_lay a0 = (1, 8)) (h_a1 : zv_rg a1) : zm_R (E8_many (d + 4) a0 a1 h) (zm_I fun v h' => zd_Q h h' ∧ zv_rg v ∧ True) := by
  have F0 := zd_Q_r hA
  rw [qE8_many]
  refine zm_if (fun c1 => ?_) (fun c1 => ?_)
  · refine zd_rRo F0 h_a0 ?_
    refine zd_rI F0 (zd_xH8 F0 h_a0).1 fun v2 e_v2 r_v2 => ?_
    refine zd_cI (K := fun v => True) F0 (zd_C8_given F0.2 h_a0 r_v2) fun q3v q3h F2 r_q3 k_q3 => ?_
    dsimp only
    exact zm_iI ⟨F2, r_q3, trivial⟩
  · refine zm_if (fun c3 => ?_) (fun c3 => ?_)
    · refine zd_rRo F0 h_a0 ?_
      refine zd_rRo F0 (zd_xH8 F0 h_a0).1 ?_
      refine zd_rT F0 (zd_hV F0 (zd_xH8 F0 h_a0).1).1.1 fun v6 e_v6 r_v6 => ?_
      refine zd_cI (K := fun v => True) F0 (zd_C8_given F0.2 h_a0 r_v6) fun q7v q7h F4 r_q7 k_q7 => ?_
      dsimp only
      exact zm_iI ⟨F4, r_q7, trivial⟩
    · refine zm_if (fun c5 => ?_) (fun c5 => ?_)
      · refine zd_rRo F0 h_a0 ?_
        refine zd_rI F0 (zd_xH8 F0 h_a0).1 fun v9 e_v9 r_v9 => ?_
        refine zd_cI (K := fun v => True) F0 (zd_C8_given F0.2 h_a0 r_v9) fun q10v q10h F6 r_q10 k_q10 => ?_
        dsimp only
        exact zm_iI ⟨F6, r_q10, trivial⟩
      · refine zm_if (fun c7 => ?_) (fun c7 => ?_)
        · refine zd_rRo F0 h_a0 ?_
          refine zd_rRo F0 (zd_xH8 F0 h_a0).1 ?_
          refine zd_rI F0 (zd_hV F0 (zd_xH8 F0 h_a0).1).1.1 fun v13 e_v13 r_v13 => ?_
          have b_v13 := zd_bdv (k := 12) (m := 120) F0 (zd_hV F0 (zd_xH8 F0 h_a0).1).1.1 rfl
          rw [← e_v13] at b_v13
          refine zd_cI (K := fun v => True) F0 (zd_C8_given F0.2 h_a0 r_v13) fun q14v q14h F8 r_q14 k_q14 => ?_
          dsimp only
          exact zm_iI ⟨F8, r_q14, trivial⟩
        · refine zm_if (fun c9 => ?_) (fun c9 => ?_)
          · refine zd_rRo F0 h_a0 ?_
            refine zd_cN (K := fun v => zv_lay v = (1, 4)) F0 (zd_C0_rowOfHere F0.2 (zd_xH8 F0 h_a0).1) fun q16v q16h F10 k_q16 => ?_
            dsimp only
            refine zd_rI F10 k_q16 fun v17 e_v17 r_v17 => ?_
            refine zd_cI (K := fun v => True) F10 (zd_C8_given F10.2 h_a0 r_v17) fun q18v q18h F11 r_q18 k_q18 => ?_
            dsimp only
            exact zm_iI ⟨F11, r_q18, trivial⟩
          · refine zm_if (fun c12 => ?_) (fun c12 => ?_)
            · refine zd_rRo F0 h_a0 ?_
              refine zd_rF F0 14 (zd_xH8 F0 h_a0).1 ?_
              refine zd_rI F0 (zc_y0_6 (zd_xH8 F0 h_a0).1).1 fun v21 e_v21 r_v21 => ?_
              refine zd_cI (K := fun v => True) F0 (zd_C8_given F0.2 h_a0 r_v21) fun q22v q22h F13 r_q22 k_q22 => ?_
              dsimp only
              exact zm_iI ⟨F13, r_q22, trivial⟩
            · refine zm_if (fun c14 => ?_) (fun c14 => ?_)
              · refine zd_rRo F0 h_a0 ?_
                refine zc_pI (K := fun v => True) (zc_C0_leaves F0.2 (zd_xH8 F0 h_a0).1) fun q24v r_q24 k_q24 => ?_
                dsimp only
                refine zd_cI (K := fun v => True) F0 (zd_C8_given F0.2 h_a0 r_q24) fun q25v q25h F16 r_q25 k_q25 => ?_
                dsimp only
                exact zm_iI ⟨F16, r_q25, trivial⟩
              · refine zm_if (fun c17 => ?_) (fun c17 => ?_)
                · refine zd_rRo F0 h_a0 ?_
                  refine zc_pI (K := fun v => True) (zc_C0_groups F0.2 (zd_xH8 F0 h_a0).1) fun q27v r_q27 k_q27 => ?_
                  dsimp only
                  refine zd_cI (K := fun v => True) F0 (zd_C8_given F0.2 h_a0 r_q27) fun q28v q28h F19 r_q28 k_q28 => ?_
                  dsimp only
                  exact zm_iI ⟨F19, r_q28, trivial⟩
                · refine zm_if (fun c20 => ?_) (fun c20 => ?_)
                  · refine zd_rRo F0 h_a0 ?_
                    refine zd_cN (K := fun v => zv_lay v = (1, 4)) F0 (zd_C0_rowOfHere F0.2 (zd_xH8 F0 h_a0).1) fun q30v q30h F21 k_q30 => ?_
                    dsimp only
                    refine zc_pJ (zc_C4_outOfForce F21.2 k_q30) fun q31v => ?_
                    dsimp only
                    refine zc_pI (K := fun v => True) (zc_C12_bitCount F21.2 ) fun q32v r_q32 k_q32 => ?_
                    dsimp only
                    refine zd_cI (K := fun v => True) F21 (zd_C8_given F21.2 h_a0 r_q32) fun q33v q33h F24 r_q33 k_q33 => ?_
                    dsimp only
                    exact zm_iI ⟨F24, r_q33, trivial⟩
                  · refine zm_if (fun c25 => ?_) (fun c25 => ?_)
                    · refine zd_rRo F0 h_a0 ?_
                      refine zd_rF F0 17 (zd_xH8 F0 h_a0).1 ?_
                      refine zd_rI F0 (zc_y0_7 (zd_xH8 F0 h_a0).1).1 fun v36 e_v36 r_v36 => ?_
                      refine zd_cI (K := fun v => True) F0 (zd_C8_given F0.2 h_a0 r_v36) fun q37v q37h F26 r_q37 k_q37 => ?_
                      dsimp only
                      exact zm_iI ⟨F26, r_q37, trivial⟩
                    · refine zd_cI (K := fun v => True) F0 (zd_C8_refused F0.2 h_a0 (by unfold zv_rg; omega)) fun q38v q38h F27 r_q38 k_q38 => ?_
                      dsimp only
                      exact zm_iI ⟨F27, r_q38, trivial⟩
theorem zd_C8_many {d : Nat} {h : zv_H} {a0 : Nat} {a1 : Int} (hA : zc_A h) (h_a0 : zv_lay a0 = (1, 8)) (h_a1 : zv_rg a1) : zm_R (C8_many (d + 5) a0 a1 h) (fun q => zd_Q h q.2 ∧ zv_rg q.1 ∧ True) := zm_cI (fun e => lC8_many (zc_ob hA h_a0) e) (zd_E8_many hA h_a0 h_a1)
theorem zd_E8_letter {d : Nat} {h : zv_H} {a0 : Nat} {a1 : Int} {a2 : Int} (hA : zc_A h) (h_a0 : zv_lay a0 = (1, 8)) (h_a1 : zv_rg a1) (h_a2 : zv_rg a2) : zm_R (E8_letter (d + 2) a0 a1 a2 h) (zm_I fun v h' => zd_Q h h' ∧ zv_rg v ∧ True) := by
  have F0 := zd_Q_r hA
  rw [qE8_letter]
  refine zm_if (fun c1 => ?_) (fun c1 => ?_)
  · refine zd_cI (K := fun v => True) F0 (zd_C8_refused F0.2 h_a0 (by unfold zv_rg; omega)) fun q1v q1h F2 r_q1 k_q1 => ?_
    dsimp only
    exact zm_iI ⟨F2, r_q1, trivial⟩
  · refine zd_rRo F0 h_a0 ?_
    refine zc_pN (K := fun v => (v = 0 ∨ zc_V h v)) (zc_C0_at F0.2 (zd_xH8 F0 h_a0).1 h_a1) fun q3v k_q3 => ?_
    dsimp only
    refine zm_if (fun c4 => ?_) (fun c4 => ?_)
    · refine zd_cI (K := fun v => True) F0 (zd_C8_refused F0.2 h_a0 (by unfold zv_rg; omega)) fun q4v q4h F5 r_q4 k_q4 => ?_
      dsimp only
      exact zm_iI ⟨F5, r_q4, trivial⟩
    · refine zd_rI F0 ((Or.imp id (zc_Vb F0.1.1) k_q3).resolve_left c4).1 fun v5 e_v5 r_v5 => ?_
      have b_v5 := zd_bdv (k := 12) (m := 120) F0 ((Or.imp id (zc_Vb F0.1.1) k_q3).resolve_left c4).1 rfl
      rw [← e_v5] at b_v5
      refine zm_if (fun c6 => ?_) (fun c6 => ?_)
      · refine zd_rRo F0 h_a0 ?_
        refine zc_pI (K := fun v => True) (zc_C0_letterAt F0.2 (zd_xH8 F0 h_a0).1 ((Or.imp id (zc_Vb F0.1.1) k_q3).resolve_left c4).1 h_a2) fun q7v r_q7 k_q7 => ?_
        dsimp only
        refine zd_cI (K := fun v => True) F0 (zd_C8_given F0.2 h_a0 r_q7) fun q8v q8h F8 r_q8 k_q8 => ?_
        dsimp only
        exact zm_iI ⟨F8, r_q8, trivial⟩
      · refine zd_cI (K := fun v => True) F0 (zd_C8_refused F0.2 h_a0 (by unfold zv_rg; omega)) fun q9v q9h F9 r_q9 k_q9 => ?_
        dsimp only
        exact zm_iI ⟨F9, r_q9, trivial⟩
theorem zd_C8_letter {d : Nat} {h : zv_H} {a0 : Nat} {a1 : Int} {a2 : Int} (hA : zc_A h) (h_a0 : zv_lay a0 = (1, 8)) (h_a1 : zv_rg a1) (h_a2 : zv_rg a2) : zm_R (C8_letter (d + 3) a0 a1 a2 h) (fun q => zd_Q h q.2 ∧ zv_rg q.1 ∧ True) := zm_cI (fun e => lC8_letter (zc_ob hA h_a0) e) (zd_E8_letter hA h_a0 h_a1 h_a2)
theorem zd_E8_state {d : Nat} {h : zv_H} {a0 : Nat} {a1 : Int} {a2 : Int} (hA : zc_A h) (h_a0 : zv_lay a0 = (1, 8)) (h_a1 : zv_rg a1) (h_a2 : zv_rg a2) : zm_R (E8_state (d + 1) a0 a1 a2 h) (zm_I fun v h' => zd_Q h h' ∧ zv_rg v ∧ True) := by
  have F0 := zd_Q_r hA
  rw [qE8_state]
  refine zc_pI (K := fun v => (v = 0 ∨ v = 1)) (zc_C8_within F0.2 h_a2 (by unfold zv_rg; omega) (by unfold zv_rg; omega)) fun q1v r_q1 k_q1 => ?_
  dsimp only
  refine zm_if (fun c2 => ?_) (fun c2 => ?_)
  · refine zd_cI (K := fun v => True) F0 (zd_C8_refused F0.2 h_a0 (by unfold zv_rg; omega)) fun q2v q2h F3 r_q2 k_q2 => ?_
    dsimp only
    exact zm_iI ⟨F3, r_q2, trivial⟩
  · refine zd_rRo F0 h_a0 ?_
    refine zc_pN (K := fun v => (v = 0 ∨ zc_V h v)) (zc_C0_at F0.2 (zd_xH8 F0 h_a0).1 h_a1) fun q4v k_q4 => ?_
    dsimp only
    refine zm_if (fun c5 => ?_) (fun c5 => ?_)
    · refine zd_cI (K := fun v => True) F0 (zd_C8_refused F0.2 h_a0 (by unfold zv_rg; omega)) fun q5v q5h F6 r_q5 k_q5 => ?_
      dsimp only
      exact zm_iI ⟨F6, r_q5, trivial⟩
    · refine zm_if (fun c7 => ?_) (fun c7 => ?_)
      · refine zd_rR5 F0 ((Or.imp id (zc_Vb F0.1.1) k_q4).resolve_left c5).1 ?_
        refine zm_if (fun c8 => ?_) (fun c8 => ?_)
        · rw [qL8_state_107]
          refine zd_cI (K := fun v => True) F0 (zd_C8_given F0.2 h_a0 (by unfold zv_rg; omega)) fun q1x1v q1x1h F9 r_q1x1 k_q1x1 => ?_
          dsimp only
          exact zm_iI ⟨F9, r_q1x1, trivial⟩
        · refine zd_rR5 F0 ((Or.imp id (zc_Vb F0.1.1) k_q4).resolve_left c5).1 ?_
          refine zd_rT F0 ((zd_pV F0 ((Or.imp id (zc_Vb F0.1.1) k_q4).resolve_left c5)).resolve_left c8).1 fun v8 e_v8 r_v8 => ?_
          rw [qL8_state_107]
          refine zd_cI (K := fun v => True) F0 (zd_C8_given F0.2 h_a0 r_v8) fun q1x2v q1x2h F10 r_q1x2 k_q1x2 => ?_
          dsimp only
          exact zm_iI ⟨F10, r_q1x2, trivial⟩
      · refine zm_if (fun c11 => ?_) (fun c11 => ?_)
        · refine zd_rI F0 ((Or.imp id (zc_Vb F0.1.1) k_q4).resolve_left c5).1 fun v9 e_v9 r_v9 => ?_
          refine zd_cI (K := fun v => True) F0 (zd_C8_given F0.2 h_a0 r_v9) fun q10v q10h F12 r_q10 k_q10 => ?_
          dsimp only
          exact zm_iI ⟨F12, r_q10, trivial⟩
        · refine zm_if (fun c13 => ?_) (fun c13 => ?_)
          · refine zd_rI F0 ((Or.imp id (zc_Vb F0.1.1) k_q4).resolve_left c5).1 fun v11 e_v11 r_v11 => ?_
            refine zd_cI (K := fun v => True) F0 (zd_C8_given F0.2 h_a0 r_v11) fun q12v q12h F14 r_q12 k_q12 => ?_
            dsimp only
            exact zm_iI ⟨F14, r_q12, trivial⟩
          · refine zm_if (fun c15 => ?_) (fun c15 => ?_)
            · refine zd_rI F0 ((Or.imp id (zc_Vb F0.1.1) k_q4).resolve_left c5).1 fun v13 e_v13 r_v13 => ?_
              refine zd_cI (K := fun v => True) F0 (zd_C8_given F0.2 h_a0 r_v13) fun q14v q14h F16 r_q14 k_q14 => ?_
              dsimp only
              exact zm_iI ⟨F16, r_q14, trivial⟩
            · refine zm_if (fun c17 => ?_) (fun c17 => ?_)
              · refine zd_rI F0 ((Or.imp id (zc_Vb F0.1.1) k_q4).resolve_left c5).1 fun v15 e_v15 r_v15 => ?_
                refine zd_cI (K := fun v => True) F0 (zd_C8_given F0.2 h_a0 r_v15) fun q16v q16h F18 r_q16 k_q16 => ?_
                dsimp only
                exact zm_iI ⟨F18, r_q16, trivial⟩
              · refine zm_if (fun c19 => ?_) (fun c19 => ?_)
                · refine zd_rR5 F0 ((Or.imp id (zc_Vb F0.1.1) k_q4).resolve_left c5).1 ?_
                  refine zm_if (fun c20 => ?_) (fun c20 => ?_)
                  · exact absurd c20 (zc_nz (zd_fV F0 ((Or.imp id (zc_Vb F0.1.1) k_q4).resolve_left c5)).1)
                  · refine zd_rR5 F0 ((Or.imp id (zc_Vb F0.1.1) k_q4).resolve_left c5).1 ?_
                    refine zd_rT F0 (zd_fV F0 ((Or.imp id (zc_Vb F0.1.1) k_q4).resolve_left c5)).1 fun v19 e_v19 r_v19 => ?_
                    rw [qL8_state_166]
                    refine zd_cI (K := fun v => True) F0 (zd_C8_given F0.2 h_a0 r_v19) fun q1x3v q1x3h F21 r_q1x3 k_q1x3 => ?_
                    dsimp only
                    exact zm_iI ⟨F21, r_q1x3, trivial⟩
                · refine zm_if (fun c22 => ?_) (fun c22 => ?_)
                  · refine zd_rT F0 ((Or.imp id (zc_Vb F0.1.1) k_q4).resolve_left c5).1 fun v20 e_v20 r_v20 => ?_
                    refine zd_cI (K := fun v => True) F0 (zd_C8_given F0.2 h_a0 r_v20) fun q21v q21h F23 r_q21 k_q21 => ?_
                    dsimp only
                    exact zm_iI ⟨F23, r_q21, trivial⟩
                  · refine zm_if (fun c24 => ?_) (fun c24 => ?_)
                    · refine zd_rT F0 ((Or.imp id (zc_Vb F0.1.1) k_q4).resolve_left c5).1 fun v22 e_v22 r_v22 => ?_
                      have d_v22 := (zd_dep F0 ((Or.imp id (zc_Vb F0.1.1) k_q4).resolve_left c5)).1
                      rw [← e_v22] at d_v22
                      refine zd_cI (K := fun v => True) F0 (zd_C8_given F0.2 h_a0 r_v22) fun q23v q23h F25 r_q23 k_q23 => ?_
                      dsimp only
                      exact zm_iI ⟨F25, r_q23, trivial⟩
                    · refine zm_if (fun c26 => ?_) (fun c26 => ?_)
                      · refine zd_rI F0 ((Or.imp id (zc_Vb F0.1.1) k_q4).resolve_left c5).1 fun v24 e_v24 r_v24 => ?_
                        have b_v24 := zd_bdv (k := 12) (m := 120) F0 ((Or.imp id (zc_Vb F0.1.1) k_q4).resolve_left c5).1 rfl
                        rw [← e_v24] at b_v24
                        refine zd_cI (K := fun v => True) F0 (zd_C8_given F0.2 h_a0 r_v24) fun q25v q25h F27 r_q25 k_q25 => ?_
                        dsimp only
                        exact zm_iI ⟨F27, r_q25, trivial⟩
                      · refine zd_rRo F0 h_a0 ?_
                        refine zd_rF F0 14 (zd_xH8 F0 h_a0).1 ?_
                        refine zd_rT F0 ((Or.imp id (zc_Vb F0.1.1) k_q4).resolve_left c5).1 fun v28 e_v28 r_v28 => ?_
                        refine zc_pI (K := fun v => True) (zc_C2_countOf F0.2 (zc_y0_6 (zd_xH8 F0 h_a0).1).1 r_v28) fun q29v r_q29 k_q29 => ?_
                        dsimp only
                        refine zd_cI (K := fun v => True) F0 (zd_C8_given F0.2 h_a0 r_q29) fun q30v q30h F29 r_q30 k_q30 => ?_
                        dsimp only
                        exact zm_iI ⟨F29, r_q30, trivial⟩
theorem zd_C8_state {d : Nat} {h : zv_H} {a0 : Nat} {a1 : Int} {a2 : Int} (hA : zc_A h) (h_a0 : zv_lay a0 = (1, 8)) (h_a1 : zv_rg a1) (h_a2 : zv_rg a2) : zm_R (C8_state (d + 2) a0 a1 a2 h) (fun q => zd_Q h q.2 ∧ zv_rg q.1 ∧ True) := zm_cI (fun e => lC8_state (zc_ob hA h_a0) e) (zd_E8_state hA h_a0 h_a1 h_a2)
theorem zd_E8_child {d : Nat} {h : zv_H} {a0 : Nat} {a1 : Int} {a2 : Int} (hA : zc_A h) (h_a0 : zv_lay a0 = (1, 8)) (h_a1 : zv_rg a1) (h_a2 : zv_rg a2) : zm_R (E8_child (d + 3) a0 a1 a2 h) (zm_I fun v h' => zd_Q h h' ∧ zv_rg v ∧ True) := by
  have F0 := zd_Q_r hA
  rw [qE8_child]
  refine zm_if (fun c1 => ?_) (fun c1 => ?_)
  · refine zd_cI (K := fun v => True) F0 (zd_C8_refused F0.2 h_a0 (by unfold zv_rg; omega)) fun q1v q1h F2 r_q1 k_q1 => ?_
    dsimp only
    exact zm_iI ⟨F2, r_q1, trivial⟩
  · refine zd_rRo F0 h_a0 ?_
    refine zc_pN (K := fun v => (v = 0 ∨ zc_V h v)) (zc_C0_at F0.2 (zd_xH8 F0 h_a0).1 h_a1) fun q3v k_q3 => ?_
    dsimp only
    refine zm_if (fun c4 => ?_) (fun c4 => ?_)
    · refine zd_cI (K := fun v => True) F0 (zd_C8_refused F0.2 h_a0 (by unfold zv_rg; omega)) fun q4v q4h F5 r_q4 k_q4 => ?_
      dsimp only
      exact zm_iI ⟨F5, r_q4, trivial⟩
    · refine zd_rRo F0 h_a0 ?_
      refine zd_cN (K := fun v => (v = 0 ∨ zc_V h v)) F0 (zd_C0_childOf F0.2 (zd_xH8 F0 h_a0).1 ((Or.imp id (zc_Vb F0.1.1) k_q3).resolve_left c4).1 h_a2) fun q6v q6h F6 k_q6 => ?_
      dsimp only
      refine zm_if (fun c7 => ?_) (fun c7 => ?_)
      · refine zd_cI (K := fun v => True) F6 (zd_C8_refused F6.2 h_a0 (by unfold zv_rg; omega)) fun q7v q7h F8 r_q7 k_q7 => ?_
        dsimp only
        exact zm_iI ⟨F8, r_q7, trivial⟩
      · refine zd_rT F6 ((Or.imp id (zc_Vb F0.1.1) k_q6).resolve_left c7).1 fun v8 e_v8 r_v8 => ?_
        refine zd_cI (K := fun v => True) F6 (zd_C8_given F6.2 h_a0 r_v8) fun q9v q9h F9 r_q9 k_q9 => ?_
        dsimp only
        exact zm_iI ⟨F9, r_q9, trivial⟩
theorem zd_C8_child {d : Nat} {h : zv_H} {a0 : Nat} {a1 : Int} {a2 : Int} (hA : zc_A h) (h_a0 : zv_lay a0 = (1, 8)) (h_a1 : zv_rg a1) (h_a2 : zv_rg a2) : zm_R (C8_child (d + 4) a0 a1 a2 h) (fun q => zd_Q h q.2 ∧ zv_rg q.1 ∧ True) := zm_cI (fun e => lC8_child (zc_ob hA h_a0) e) (zd_E8_child hA h_a0 h_a1 h_a2)
theorem zd_E8_force {d : Nat} {h : zv_H} {a0 : Nat} {a1 : Int} {a2 : Int} (hA : zc_A h) (h_a0 : zv_lay a0 = (1, 8)) (h_a1 : zv_rg a1) (h_a2 : zv_rg a2) : zm_R (E8_force (d + 2) a0 a1 a2 h) (zm_I fun v h' => zd_Q h h' ∧ zv_rg v ∧ True) := by
  have F0 := zd_Q_r hA
  rw [qE8_force]
  refine zd_rRo F0 h_a0 ?_
  refine zc_pN (K := fun v => (v = 0 ∨ zc_V h v)) (zc_C0_at F0.2 (zd_xH8 F0 h_a0).1 h_a1) fun q2v k_q2 => ?_
  dsimp only
  refine zd_rRo F0 h_a0 ?_
  refine zc_pN (K := fun v => (v = 0 ∨ zc_V h v)) (zc_C0_at F0.2 (zd_xH8 F0 h_a0).1 h_a2) fun q4v k_q4 => ?_
  dsimp only
  refine zm_if (fun c3 => ?_) (fun c3 => ?_)
  · rw [qL8_force_28]
    refine zd_cI (K := fun v => True) F0 (zd_C8_refused F0.2 h_a0 (by unfold zv_rg; omega)) fun q1v q1h F4 r_q1 k_q1 => ?_
    dsimp only
    exact zm_iI ⟨F4, r_q1, trivial⟩
  · refine zm_if (fun c5 => ?_) (fun c5 => ?_)
    · rw [qL8_force_28]
      refine zd_cI (K := fun v => True) F0 (zd_C8_refused F0.2 h_a0 (by unfold zv_rg; omega)) fun q1x1v q1x1h F6 r_q1x1 k_q1x1 => ?_
      dsimp only
      exact zm_iI ⟨F6, r_q1x1, trivial⟩
    · refine zd_rRo F0 h_a0 ?_
      refine zd_rF F0 8 (zd_xH8 F0 h_a0).1 ?_
      refine zd_cV F0 (zd_C4_walk F0.2 (zc_y0_5 (zd_xH8 F0 h_a0).1).1 (zc_Vq F0.1.1 ((Or.imp id (zc_Vb F0.1.1) k_q4).resolve_left c5))) fun g7 F7 => ?_
      refine zd_rJ F7 (zc_y0_5 (zd_xH8 F0 h_a0).1).1 fun v8 => ?_
      refine zc_pJ (zc_C5_bit F7.2 ((Or.imp id (zc_Vb F0.1.1) k_q2).resolve_left c3).1) fun q9v => ?_
      dsimp only
      refine zm_if (fun c9 => ?_) (fun c9 => ?_)
      · refine zd_cI (K := fun v => True) F7 (zd_C8_refused F7.2 h_a0 (by unfold zv_rg; omega)) fun q10v q10h F10 r_q10 k_q10 => ?_
        dsimp only
        exact zm_iI ⟨F10, r_q10, trivial⟩
      · refine zd_rJ F7 (zc_y0_5 (zd_xH8 F0 h_a0).1).1 fun v11 => ?_
        refine zc_pJ (zc_C5_bit F7.2 ((Or.imp id (zc_Vb F0.1.1) k_q2).resolve_left c3).1) fun q12v => ?_
        dsimp only
        refine zm_if (fun c12 => ?_) (fun c12 => ?_)
        · rw [qL8_force_92]
          refine zd_cI (K := fun v => True) F7 (zd_C8_given F7.2 h_a0 (by unfold zv_rg; omega)) fun q1x2v q1x2h F13 r_q1x2 k_q1x2 => ?_
          dsimp only
          exact zm_iI ⟨F13, r_q1x2, trivial⟩
        · rw [qL8_force_92]
          refine zd_cI (K := fun v => True) F7 (zd_C8_given F7.2 h_a0 (by unfold zv_rg; omega)) fun q1x3v q1x3h F14 r_q1x3 k_q1x3 => ?_
          dsimp only
          exact zm_iI ⟨F14, r_q1x3, trivial⟩
theorem zd_C8_force {d : Nat} {h : zv_H} {a0 : Nat} {a1 : Int} {a2 : Int} (hA : zc_A h) (h_a0 : zv_lay a0 = (1, 8)) (h_a1 : zv_rg a1) (h_a2 : zv_rg a2) : zm_R (C8_force (d + 3) a0 a1 a2 h) (fun q => zd_Q h q.2 ∧ zv_rg q.1 ∧ True) := zm_cI (fun e => lC8_force (zc_ob hA h_a0) e) (zd_E8_force hA h_a0 h_a1 h_a2)
theorem zd_E8_blame {d : Nat} {h : zv_H} {a0 : Nat} {a1 : Int} {a2 : Int} (hA : zc_A h) (h_a0 : zv_lay a0 = (1, 8)) (h_a1 : zv_rg a1) (h_a2 : zv_rg a2) : zm_R (E8_blame (d + 4) a0 a1 a2 h) (zm_I fun v h' => zd_Q h h' ∧ zv_rg v ∧ True) := by
  have F0 := zd_Q_r hA
  rw [qE8_blame]
  refine zm_if (fun c1 => ?_) (fun c1 => ?_)
  · rw [qL8_blame_13]
    refine zd_cI (K := fun v => True) F0 (zd_C8_refused F0.2 h_a0 (by unfold zv_rg; omega)) fun q1v q1h F2 r_q1 k_q1 => ?_
    dsimp only
    exact zm_iI ⟨F2, r_q1, trivial⟩
  · refine zc_pI (K := fun v => (v = 0 ∨ v = 1)) (zc_C8_within F0.2 h_a2 (by unfold zv_rg; omega) (by unfold zv_rg; omega)) fun q1x1v r_q1x1 k_q1x1 => ?_
    dsimp only
    refine zm_if (fun c4 => ?_) (fun c4 => ?_)
    · rw [qL8_blame_13]
      refine zd_cI (K := fun v => True) F0 (zd_C8_refused F0.2 h_a0 (by unfold zv_rg; omega)) fun q1x2v q1x2h F5 r_q1x2 k_q1x2 => ?_
      dsimp only
      exact zm_iI ⟨F5, r_q1x2, trivial⟩
    · refine zd_rRo F0 h_a0 ?_
      refine zd_rRo F0 (zd_xH8 F0 h_a0).1 ?_
      refine zc_pI (K := fun v => True) (zc_C5_idAt F0.2 (zd_hV F0 (zd_xH8 F0 h_a0).1).1.1 h_a1) fun q4v r_q4 k_q4 => ?_
      dsimp only
      refine zm_if (fun c7 => ?_) (fun c7 => ?_)
      · refine zd_cI (K := fun v => True) F0 (zd_C8_refused F0.2 h_a0 (by unfold zv_rg; omega)) fun q5v q5h F8 r_q5 k_q5 => ?_
        dsimp only
        exact zm_iI ⟨F8, r_q5, trivial⟩
      · refine zm_if (fun c9 => ?_) (fun c9 => ?_)
        · refine zc_pI (K := fun v => True) (zc_C4_putter F0.2 r_q4) fun q6v r_q6 k_q6 => ?_
          dsimp only
          refine zd_cI (K := fun v => True) F0 (zd_C8_given F0.2 h_a0 r_q6) fun q7v q7h F11 r_q7 k_q7 => ?_
          dsimp only
          exact zm_iI ⟨F11, r_q7, trivial⟩
        · refine zm_if (fun c12 => ?_) (fun c12 => ?_)
          · refine zc_pI (K := fun v => True) (zc_C4_order F0.2 r_q4) fun q8v r_q8 k_q8 => ?_
            dsimp only
            refine zd_cI (K := fun v => True) F0 (zd_C8_given F0.2 h_a0 r_q8) fun q9v q9h F14 r_q9 k_q9 => ?_
            dsimp only
            exact zm_iI ⟨F14, r_q9, trivial⟩
          · refine zd_rRo F0 h_a0 ?_
            refine zd_cN (K := fun v => zv_lay v = (1, 4)) F0 (zd_C0_rowOfHere F0.2 (zd_xH8 F0 h_a0).1) fun q11v q11h F15 k_q11 => ?_
            dsimp only
            refine zc_pI (K := fun v => v < 2147483647) (zc_C4_placeOf F15.2 k_q11 r_q4) fun q12v r_q12 k_q12 => ?_
            dsimp only
            refine zd_cI (K := fun v => True) F15 (zd_C8_given F15.2 h_a0 r_q12) fun q13v q13h F17 r_q13 k_q13 => ?_
            dsimp only
            exact zm_iI ⟨F17, r_q13, trivial⟩
theorem zd_C8_blame {d : Nat} {h : zv_H} {a0 : Nat} {a1 : Int} {a2 : Int} (hA : zc_A h) (h_a0 : zv_lay a0 = (1, 8)) (h_a1 : zv_rg a1) (h_a2 : zv_rg a2) : zm_R (C8_blame (d + 5) a0 a1 a2 h) (fun q => zd_Q h q.2 ∧ zv_rg q.1 ∧ True) := zm_cI (fun e => lC8_blame (zc_ob hA h_a0) e) (zd_E8_blame hA h_a0 h_a1 h_a2)
theorem zd_E8_row {d : Nat} {h : zv_H} {a0 : Nat} {a1 : Int} {a2 : Int} (hA : zc_A h) (h_a0 : zv_lay a0 = (1, 8)) (h_a1 : zv_rg a1) (h_a2 : zv_rg a2) : zm_R (E8_row (d + 4) a0 a1 a2 h) (zm_I fun v h' => zd_Q h h' ∧ zv_rg v ∧ True) := by
  have F0 := zd_Q_r hA
  rw [qE8_row]
  refine zm_if (fun c1 => ?_) (fun c1 => ?_)
  · rw [qL8_row_13]
    refine zd_cI (K := fun v => True) F0 (zd_C8_refused F0.2 h_a0 (by unfold zv_rg; omega)) fun q1v q1h F2 r_q1 k_q1 => ?_
    dsimp only
    exact zm_iI ⟨F2, r_q1, trivial⟩
  · refine zc_pI (K := fun v => (v = 0 ∨ v = 1)) (zc_C8_within F0.2 h_a2 (by unfold zv_rg; omega) (by unfold zv_rg; omega)) fun q1x1v r_q1x1 k_q1x1 => ?_
    dsimp only
    refine zm_if (fun c4 => ?_) (fun c4 => ?_)
    · rw [qL8_row_13]
      refine zd_cI (K := fun v => True) F0 (zd_C8_refused F0.2 h_a0 (by unfold zv_rg; omega)) fun q1x2v q1x2h F5 r_q1x2 k_q1x2 => ?_
      dsimp only
      exact zm_iI ⟨F5, r_q1x2, trivial⟩
    · refine zd_rRo F0 h_a0 ?_
      refine zd_cN (K := fun v => zv_lay v = (1, 4)) F0 (zd_C0_rowOfHere F0.2 (zd_xH8 F0 h_a0).1) fun q3v q3h F6 k_q3 => ?_
      dsimp only
      refine zc_pI (K := fun v => True) (zc_C4_idAt F6.2 k_q3 h_a1) fun q4v r_q4 k_q4 => ?_
      dsimp only
      refine zm_if (fun c8 => ?_) (fun c8 => ?_)
      · refine zd_cI (K := fun v => True) F6 (zd_C8_refused F6.2 h_a0 (by unfold zv_rg; omega)) fun q5v q5h F9 r_q5 k_q5 => ?_
        dsimp only
        exact zm_iI ⟨F9, r_q5, trivial⟩
      · refine zm_if (fun c10 => ?_) (fun c10 => ?_)
        · refine zd_rRo F6 h_a0 ?_
          refine zc_pI (K := fun v => True) (zc_C0_glyph F6.2 (zd_xH8 F6 h_a0).1 r_q4) fun q7v r_q7 k_q7 => ?_
          dsimp only
          refine zd_cI (K := fun v => True) F6 (zd_C8_given F6.2 h_a0 r_q7) fun q8v q8h F12 r_q8 k_q8 => ?_
          dsimp only
          exact zm_iI ⟨F12, r_q8, trivial⟩
        · refine zm_if (fun c13 => ?_) (fun c13 => ?_)
          · refine zc_pI (K := fun v => True) (zc_C4_putter F6.2 r_q4) fun q9v r_q9 k_q9 => ?_
            dsimp only
            refine zd_cI (K := fun v => True) F6 (zd_C8_given F6.2 h_a0 r_q9) fun q10v q10h F15 r_q10 k_q10 => ?_
            dsimp only
            exact zm_iI ⟨F15, r_q10, trivial⟩
          · refine zm_if (fun c16 => ?_) (fun c16 => ?_)
            · refine zc_pI (K := fun v => True) (zc_C4_seesAt F6.2 k_q3 h_a1) fun q11v r_q11 k_q11 => ?_
              dsimp only
              refine zm_if (fun c18 => ?_) (fun c18 => ?_)
              · rw [qL8_row_114]
                refine zd_cI (K := fun v => True) F6 (zd_C8_given F6.2 h_a0 (by unfold zv_rg; omega)) fun q1x3v q1x3h F19 r_q1x3 k_q1x3 => ?_
                dsimp only
                exact zm_iI ⟨F19, r_q1x3, trivial⟩
              · rw [qL8_row_114]
                refine zd_cI (K := fun v => True) F6 (zd_C8_given F6.2 h_a0 (by unfold zv_rg; omega)) fun q1x4v q1x4h F20 r_q1x4 k_q1x4 => ?_
                dsimp only
                exact zm_iI ⟨F20, r_q1x4, trivial⟩
            · refine zm_if (fun c21 => ?_) (fun c21 => ?_)
              · refine zc_pI (K := fun v => True) (zc_C4_cutsInForce F6.2 k_q3 r_q4) fun q12v r_q12 k_q12 => ?_
                dsimp only
                refine zd_cI (K := fun v => True) F6 (zd_C8_given F6.2 h_a0 r_q12) fun q13v q13h F23 r_q13 k_q13 => ?_
                dsimp only
                exact zm_iI ⟨F23, r_q13, trivial⟩
              · refine zc_pI (K := fun v => True) (zc_C4_lastCut F6.2 k_q3 r_q4) fun q14v r_q14 k_q14 => ?_
                dsimp only
                refine zd_cI (K := fun v => True) F6 (zd_C8_given F6.2 h_a0 r_q14) fun q15v q15h F25 r_q15 k_q15 => ?_
                dsimp only
                exact zm_iI ⟨F25, r_q15, trivial⟩
theorem zd_C8_row {d : Nat} {h : zv_H} {a0 : Nat} {a1 : Int} {a2 : Int} (hA : zc_A h) (h_a0 : zv_lay a0 = (1, 8)) (h_a1 : zv_rg a1) (h_a2 : zv_rg a2) : zm_R (C8_row (d + 5) a0 a1 a2 h) (fun q => zd_Q h q.2 ∧ zv_rg q.1 ∧ True) := zm_cI (fun e => lC8_row (zc_ob hA h_a0) e) (zd_E8_row hA h_a0 h_a1 h_a2)
theorem zd_E8_visit {d : Nat} {h : zv_H} {a0 : Nat} {a1 : Int} {a2 : Int} (hA : zc_A h) (h_a0 : zv_lay a0 = (1, 8)) (h_a1 : zv_rg a1) (h_a2 : zv_rg a2) : zm_R (E8_visit (d + 2) a0 a1 a2 h) (zm_I fun v h' => zd_Q h h' ∧ zv_rg v ∧ True) := by
  have F0 := zd_Q_r hA
  rw [qE8_visit]
  refine zc_pI (K := fun v => (v = 0 ∨ v = 1)) (zc_C8_within F0.2 h_a1 (by unfold zv_rg; omega) (by unfold zv_rg; omega)) fun q1v r_q1 k_q1 => ?_
  dsimp only
  refine zm_if (fun c2 => ?_) (fun c2 => ?_)
  · rw [qL8_visit_19]
    refine zd_cI (K := fun v => True) F0 (zd_C8_refused F0.2 h_a0 (by unfold zv_rg; omega)) fun q1x1v q1x1h F3 r_q1x1 k_q1x1 => ?_
    dsimp only
    exact zm_iI ⟨F3, r_q1x1, trivial⟩
  · refine zc_pI (K := fun v => (v = 0 ∨ v = 1)) (zc_C8_within F0.2 h_a2 (by unfold zv_rg; omega) (by unfold zv_rg; omega)) fun q2v r_q2 k_q2 => ?_
    dsimp only
    refine zm_if (fun c5 => ?_) (fun c5 => ?_)
    · rw [qL8_visit_19]
      refine zd_cI (K := fun v => True) F0 (zd_C8_refused F0.2 h_a0 (by unfold zv_rg; omega)) fun q1x2v q1x2h F6 r_q1x2 k_q1x2 => ?_
      dsimp only
      exact zm_iI ⟨F6, r_q1x2, trivial⟩
    · refine zd_rRo F0 h_a0 ?_
      refine zd_rF F0 17 (zd_xH8 F0 h_a0).1 ?_
      refine zd_rI F0 (zc_y0_7 (zd_xH8 F0 h_a0).1).1 fun v5 e_v5 r_v5 => ?_
      refine zm_if (fun c7 => ?_) (fun c7 => ?_)
      · refine zm_if (fun c8 => ?_) (fun c8 => ?_)
        · refine zd_rRo F0 h_a0 ?_
          refine zd_rF F0 17 (zd_xH8 F0 h_a0).1 ?_
          refine zc_pI (K := fun v => True) (zc_C6_stateAt F0.2 (zc_y0_7 (zd_xH8 F0 h_a0).1).1 h_a1) fun q8v r_q8 k_q8 => ?_
          dsimp only
          rw [qL8_visit_75]
          refine zd_cI (K := fun v => True) F0 (zd_C8_given F0.2 h_a0 r_q8) fun q1x3v q1x3h F10 r_q1x3 k_q1x3 => ?_
          dsimp only
          exact zm_iI ⟨F10, r_q1x3, trivial⟩
        · refine zd_rRo F0 h_a0 ?_
          refine zd_rF F0 17 (zd_xH8 F0 h_a0).1 ?_
          refine zc_pI (K := fun v => True) (zc_C6_timeAt F0.2 (zc_y0_7 (zd_xH8 F0 h_a0).1).1 h_a1) fun q11v r_q11 k_q11 => ?_
          dsimp only
          rw [qL8_visit_75]
          refine zd_cI (K := fun v => True) F0 (zd_C8_given F0.2 h_a0 r_q11) fun q1x4v q1x4h F12 r_q1x4 k_q1x4 => ?_
          dsimp only
          exact zm_iI ⟨F12, r_q1x4, trivial⟩
      · refine zd_cI (K := fun v => True) F0 (zd_C8_refused F0.2 h_a0 (by unfold zv_rg; omega)) fun q12v q12h F13 r_q12 k_q12 => ?_
        dsimp only
        exact zm_iI ⟨F13, r_q12, trivial⟩
theorem zd_C8_visit {d : Nat} {h : zv_H} {a0 : Nat} {a1 : Int} {a2 : Int} (hA : zc_A h) (h_a0 : zv_lay a0 = (1, 8)) (h_a1 : zv_rg a1) (h_a2 : zv_rg a2) : zm_R (C8_visit (d + 3) a0 a1 a2 h) (fun q => zd_Q h q.2 ∧ zv_rg q.1 ∧ True) := zm_cI (fun e => lC8_visit (zc_ob hA h_a0) e) (zd_E8_visit hA h_a0 h_a1 h_a2)
theorem zd_E8_named {d : Nat} {h : zv_H} {a0 : Nat} (hA : zc_A h) (h_a0 : zv_lay a0 = (1, 8)) : zm_R (E8_named (d + 2) a0 h) (zm_I fun v h' => zd_Q h h' ∧ zv_rg v ∧ True) := by
  have F0 := zd_Q_r hA
  rw [qE8_named]
  refine zd_rF F0 2 h_a0 ?_
  refine zc_pI (K := fun v => True) (zc_C7_key F0.2 (zc_y8_1 h_a0).1) fun q2v r_q2 k_q2 => ?_
  dsimp only
  refine zm_if (fun c2 => ?_) (fun c2 => ?_)
  · refine zd_cI (K := fun v => True) F0 (zd_C8_refused F0.2 h_a0 (by unfold zv_rg; omega)) fun q3v q3h F3 r_q3 k_q3 => ?_
    dsimp only
    exact zm_iI ⟨F3, r_q3, trivial⟩
  · refine zd_rRo F0 h_a0 ?_
    refine zd_rF F0 14 (zd_xH8 F0 h_a0).1 ?_
    refine zc_pI (K := fun v => (v = -1 ∨ (0 ≤ v ∧ v < 12))) (zc_C2_indexOf F0.2 (zc_y0_6 (zd_xH8 F0 h_a0).1).1 r_q2) fun q6v r_q6 k_q6 => ?_
    dsimp only
    refine zm_if (fun c5 => ?_) (fun c5 => ?_)
    · refine zd_cI (K := fun v => True) F0 (zd_C8_refused F0.2 h_a0 (by unfold zv_rg; omega)) fun q7v q7h F6 r_q7 k_q7 => ?_
      dsimp only
      exact zm_iI ⟨F6, r_q7, trivial⟩
    · refine zd_rRo F0 h_a0 ?_
      refine zd_rF F0 14 (zd_xH8 F0 h_a0).1 ?_
      refine zc_pI (K := fun v => True) (zc_C2_ownerAt F0.2 (zc_y0_6 (zd_xH8 F0 h_a0).1).1 r_q6) fun q10v r_q10 k_q10 => ?_
      dsimp only
      refine zd_cI (K := fun v => True) F0 (zd_C8_given F0.2 h_a0 r_q10) fun q11v q11h F8 r_q11 k_q11 => ?_
      dsimp only
      exact zm_iI ⟨F8, r_q11, trivial⟩
theorem zd_C8_named {d : Nat} {h : zv_H} {a0 : Nat} (hA : zc_A h) (h_a0 : zv_lay a0 = (1, 8)) : zm_R (C8_named (d + 3) a0 h) (fun q => zd_Q h q.2 ∧ zv_rg q.1 ∧ True) := zm_cI (fun e => lC8_named (zc_ob hA h_a0) e) (zd_E8_named hA h_a0)
theorem zd_E8_leans {d : Nat} {h : zv_H} {a0 : Nat} {a1 : Int} {a2 : Int} (hA : zc_A h) (h_a0 : zv_lay a0 = (1, 8)) (h_a1 : zv_rg a1) (h_a2 : zv_rg a2) : zm_R (E8_leans (d + 1) a0 a1 a2 h) (zm_I fun v h' => zd_Q h h' ∧ zv_rg v ∧ True) := by
  have F0 := zd_Q_r hA
  rw [qE8_leans]
  refine zd_rRo F0 h_a0 ?_
  refine zc_pN (K := fun v => (v = 0 ∨ zc_V h v)) (zc_C0_at F0.2 (zd_xH8 F0 h_a0).1 h_a1) fun q2v k_q2 => ?_
  dsimp only
  refine zd_rRo F0 h_a0 ?_
  refine zc_pN (K := fun v => (v = 0 ∨ zc_V h v)) (zc_C0_at F0.2 (zd_xH8 F0 h_a0).1 h_a2) fun q4v k_q4 => ?_
  dsimp only
  refine zm_if (fun c3 => ?_) (fun c3 => ?_)
  · rw [qL8_leans_28]
    refine zd_cI (K := fun v => True) F0 (zd_C8_refused F0.2 h_a0 (by unfold zv_rg; omega)) fun q1v q1h F4 r_q1 k_q1 => ?_
    dsimp only
    exact zm_iI ⟨F4, r_q1, trivial⟩
  · refine zm_if (fun c5 => ?_) (fun c5 => ?_)
    · rw [qL8_leans_28]
      refine zd_cI (K := fun v => True) F0 (zd_C8_refused F0.2 h_a0 (by unfold zv_rg; omega)) fun q1x1v q1x1h F6 r_q1x1 k_q1x1 => ?_
      dsimp only
      exact zm_iI ⟨F6, r_q1x1, trivial⟩
    · refine zd_rT F0 ((Or.imp id (zc_Vb F0.1.1) k_q2).resolve_left c3).1 fun v5 e_v5 r_v5 => ?_
      have d_v5 := (zd_dep F0 ((Or.imp id (zc_Vb F0.1.1) k_q2).resolve_left c3)).1
      rw [← e_v5] at d_v5
      refine zd_rT F0 ((Or.imp id (zc_Vb F0.1.1) k_q4).resolve_left c5).1 fun v6 e_v6 r_v6 => ?_
      have d_v6 := (zd_dep F0 ((Or.imp id (zc_Vb F0.1.1) k_q4).resolve_left c5)).1
      rw [← e_v6] at d_v6
      refine zm_if (fun c7 => ?_) (fun c7 => ?_)
      · rw [qL8_leans_52]
        refine zm_if (fun c8 => ?_) (fun c8 => ?_)
        · have w_e0 := zv_lay_lt (zc_ly ((Or.imp id (zc_Vb F0.1.1) k_q4).resolve_left c5).1)
          have w_a3 := zv_lay_lt (zc_ly ((Or.imp id (zc_Vb F0.1.1) k_q2).resolve_left c3).1)
          omega
        · refine zm_if (fun c9 => ?_) (fun c9 => ?_)
          · rw [qL8_leans_66]
            refine zc_pI (K := fun v => True) (zc_C5_edits F0.2 ((Or.imp id (zc_Vb F0.1.1) k_q4).resolve_left c5).1) fun q1x2v r_q1x2 k_q1x2 => ?_
            dsimp only
            refine zm_if (fun c11 => ?_) (fun c11 => ?_)
            · rw [qL8_leans_94]
              refine zd_cI (K := fun v => True) F0 (zd_C8_refused F0.2 h_a0 (by unfold zv_rg; omega)) fun q1x3v q1x3h F12 r_q1x3 k_q1x3 => ?_
              dsimp only
              exact zm_iI ⟨F12, r_q1x3, trivial⟩
            · refine zc_pI (K := fun v => True) (zc_C5_edits F0.2 ((Or.imp id (zc_Vb F0.1.1) k_q4).resolve_left c5).1) fun q2x1v r_q2x1 k_q2x1 => ?_
              dsimp only
              refine zm_if (fun c14 => ?_) (fun c14 => ?_)
              · rw [qL8_leans_94]
                refine zd_cI (K := fun v => True) F0 (zd_C8_refused F0.2 h_a0 (by unfold zv_rg; omega)) fun q1x4v q1x4h F15 r_q1x4 k_q1x4 => ?_
                dsimp only
                exact zm_iI ⟨F15, r_q1x4, trivial⟩
              · refine zc_pI (K := fun v => True) (zc_C0_onLine F0.2 (zc_Vq F0.1.1 ((Or.imp id (zc_Vb F0.1.1) k_q4).resolve_left c5)) (Or.inr (zc_Vq F0.1.1 ((Or.imp id (zc_Vb F0.1.1) k_q4).resolve_left c5)))) fun q3v r_q3 k_q3 => ?_
                dsimp only
                refine zm_if (fun c17 => ?_) (fun c17 => ?_)
                · rw [qL8_leans_94]
                  refine zd_cI (K := fun v => True) F0 (zd_C8_refused F0.2 h_a0 (by unfold zv_rg; omega)) fun q1x5v q1x5h F18 r_q1x5 k_q1x5 => ?_
                  dsimp only
                  exact zm_iI ⟨F18, r_q1x5, trivial⟩
                · refine zd_rJ F0 ((Or.imp id (zc_Vb F0.1.1) k_q4).resolve_left c5).1 fun v4 => ?_
                  refine zc_pJ (zc_C5_bit F0.2 ((Or.imp id (zc_Vb F0.1.1) k_q4).resolve_left c5).1) fun q5v => ?_
                  dsimp only
                  refine zm_if (fun c20 => ?_) (fun c20 => ?_)
                  · rw [qL8_leans_122]
                    refine zd_cI (K := fun v => True) F0 (zd_C8_given F0.2 h_a0 (by unfold zv_rg; omega)) fun q1x6v q1x6h F21 r_q1x6 k_q1x6 => ?_
                    dsimp only
                    exact zm_iI ⟨F21, r_q1x6, trivial⟩
                  · rw [qL8_leans_122]
                    refine zd_cI (K := fun v => True) F0 (zd_C8_given F0.2 h_a0 (by unfold zv_rg; omega)) fun q1x7v q1x7h F22 r_q1x7 k_q1x7 => ?_
                    dsimp only
                    exact zm_iI ⟨F22, r_q1x7, trivial⟩
          · rw [qL8_leans_66]
            refine zc_pI (K := fun v => True) (zc_C5_edits F0.2 ((Or.imp id (zc_Vb F0.1.1) k_q4).resolve_left c5).1) fun q1x8v r_q1x8 k_q1x8 => ?_
            dsimp only
            refine zm_if (fun c24 => ?_) (fun c24 => ?_)
            · rw [qL8_leans_94]
              refine zd_cI (K := fun v => True) F0 (zd_C8_refused F0.2 h_a0 (by unfold zv_rg; omega)) fun q1x9v q1x9h F25 r_q1x9 k_q1x9 => ?_
              dsimp only
              exact zm_iI ⟨F25, r_q1x9, trivial⟩
            · refine zc_pI (K := fun v => True) (zc_C5_edits F0.2 ((Or.imp id (zc_Vb F0.1.1) k_q2).resolve_left c3).1) fun q2x2v r_q2x2 k_q2x2 => ?_
              dsimp only
              refine zm_if (fun c27 => ?_) (fun c27 => ?_)
              · rw [qL8_leans_94]
                refine zd_cI (K := fun v => True) F0 (zd_C8_refused F0.2 h_a0 (by unfold zv_rg; omega)) fun q1x10v q1x10h F28 r_q1x10 k_q1x10 => ?_
                dsimp only
                exact zm_iI ⟨F28, r_q1x10, trivial⟩
              · refine zc_pI (K := fun v => True) (zc_C0_onLine F0.2 (zc_Vq F0.1.1 ((Or.imp id (zc_Vb F0.1.1) k_q2).resolve_left c3)) (Or.inr (zc_Vq F0.1.1 ((Or.imp id (zc_Vb F0.1.1) k_q4).resolve_left c5)))) fun q3x1v r_q3x1 k_q3x1 => ?_
                dsimp only
                refine zm_if (fun c30 => ?_) (fun c30 => ?_)
                · rw [qL8_leans_94]
                  refine zd_cI (K := fun v => True) F0 (zd_C8_refused F0.2 h_a0 (by unfold zv_rg; omega)) fun q1x11v q1x11h F31 r_q1x11 k_q1x11 => ?_
                  dsimp only
                  exact zm_iI ⟨F31, r_q1x11, trivial⟩
                · refine zd_rJ F0 ((Or.imp id (zc_Vb F0.1.1) k_q4).resolve_left c5).1 fun v4x1 => ?_
                  refine zc_pJ (zc_C5_bit F0.2 ((Or.imp id (zc_Vb F0.1.1) k_q2).resolve_left c3).1) fun q5x1v => ?_
                  dsimp only
                  refine zm_if (fun c33 => ?_) (fun c33 => ?_)
                  · rw [qL8_leans_122]
                    refine zd_cI (K := fun v => True) F0 (zd_C8_given F0.2 h_a0 (by unfold zv_rg; omega)) fun q1x12v q1x12h F34 r_q1x12 k_q1x12 => ?_
                    dsimp only
                    exact zm_iI ⟨F34, r_q1x12, trivial⟩
                  · rw [qL8_leans_122]
                    refine zd_cI (K := fun v => True) F0 (zd_C8_given F0.2 h_a0 (by unfold zv_rg; omega)) fun q1x13v q1x13h F35 r_q1x13 k_q1x13 => ?_
                    dsimp only
                    exact zm_iI ⟨F35, r_q1x13, trivial⟩
      · rw [qL8_leans_52]
        refine zm_if (fun c36 => ?_) (fun c36 => ?_)
        · have w_e0 := zv_lay_lt (zc_ly ((Or.imp id (zc_Vb F0.1.1) k_q2).resolve_left c3).1)
          have w_a3 := zv_lay_lt (zc_ly ((Or.imp id (zc_Vb F0.1.1) k_q2).resolve_left c3).1)
          omega
        · refine zm_if (fun c37 => ?_) (fun c37 => ?_)
          · rw [qL8_leans_66]
            refine zc_pI (K := fun v => True) (zc_C5_edits F0.2 ((Or.imp id (zc_Vb F0.1.1) k_q2).resolve_left c3).1) fun q1x14v r_q1x14 k_q1x14 => ?_
            dsimp only
            refine zm_if (fun c39 => ?_) (fun c39 => ?_)
            · rw [qL8_leans_94]
              refine zd_cI (K := fun v => True) F0 (zd_C8_refused F0.2 h_a0 (by unfold zv_rg; omega)) fun q1x15v q1x15h F40 r_q1x15 k_q1x15 => ?_
              dsimp only
              exact zm_iI ⟨F40, r_q1x15, trivial⟩
            · refine zc_pI (K := fun v => True) (zc_C5_edits F0.2 ((Or.imp id (zc_Vb F0.1.1) k_q4).resolve_left c5).1) fun q2x3v r_q2x3 k_q2x3 => ?_
              dsimp only
              refine zm_if (fun c42 => ?_) (fun c42 => ?_)
              · rw [qL8_leans_94]
                refine zd_cI (K := fun v => True) F0 (zd_C8_refused F0.2 h_a0 (by unfold zv_rg; omega)) fun q1x16v q1x16h F43 r_q1x16 k_q1x16 => ?_
                dsimp only
                exact zm_iI ⟨F43, r_q1x16, trivial⟩
              · refine zc_pI (K := fun v => True) (zc_C0_onLine F0.2 (zc_Vq F0.1.1 ((Or.imp id (zc_Vb F0.1.1) k_q4).resolve_left c5)) (Or.inr (zc_Vq F0.1.1 ((Or.imp id (zc_Vb F0.1.1) k_q2).resolve_left c3)))) fun q3x2v r_q3x2 k_q3x2 => ?_
                dsimp only
                refine zm_if (fun c45 => ?_) (fun c45 => ?_)
                · rw [qL8_leans_94]
                  refine zd_cI (K := fun v => True) F0 (zd_C8_refused F0.2 h_a0 (by unfold zv_rg; omega)) fun q1x17v q1x17h F46 r_q1x17 k_q1x17 => ?_
                  dsimp only
                  exact zm_iI ⟨F46, r_q1x17, trivial⟩
                · refine zd_rJ F0 ((Or.imp id (zc_Vb F0.1.1) k_q2).resolve_left c3).1 fun v4x2 => ?_
                  refine zc_pJ (zc_C5_bit F0.2 ((Or.imp id (zc_Vb F0.1.1) k_q4).resolve_left c5).1) fun q5x2v => ?_
                  dsimp only
                  refine zm_if (fun c48 => ?_) (fun c48 => ?_)
                  · rw [qL8_leans_122]
                    refine zd_cI (K := fun v => True) F0 (zd_C8_given F0.2 h_a0 (by unfold zv_rg; omega)) fun q1x18v q1x18h F49 r_q1x18 k_q1x18 => ?_
                    dsimp only
                    exact zm_iI ⟨F49, r_q1x18, trivial⟩
                  · rw [qL8_leans_122]
                    refine zd_cI (K := fun v => True) F0 (zd_C8_given F0.2 h_a0 (by unfold zv_rg; omega)) fun q1x19v q1x19h F50 r_q1x19 k_q1x19 => ?_
                    dsimp only
                    exact zm_iI ⟨F50, r_q1x19, trivial⟩
          · rw [qL8_leans_66]
            refine zc_pI (K := fun v => True) (zc_C5_edits F0.2 ((Or.imp id (zc_Vb F0.1.1) k_q2).resolve_left c3).1) fun q1x20v r_q1x20 k_q1x20 => ?_
            dsimp only
            refine zm_if (fun c52 => ?_) (fun c52 => ?_)
            · rw [qL8_leans_94]
              refine zd_cI (K := fun v => True) F0 (zd_C8_refused F0.2 h_a0 (by unfold zv_rg; omega)) fun q1x21v q1x21h F53 r_q1x21 k_q1x21 => ?_
              dsimp only
              exact zm_iI ⟨F53, r_q1x21, trivial⟩
            · refine zc_pI (K := fun v => True) (zc_C5_edits F0.2 ((Or.imp id (zc_Vb F0.1.1) k_q2).resolve_left c3).1) fun q2x4v r_q2x4 k_q2x4 => ?_
              dsimp only
              refine zm_if (fun c55 => ?_) (fun c55 => ?_)
              · rw [qL8_leans_94]
                refine zd_cI (K := fun v => True) F0 (zd_C8_refused F0.2 h_a0 (by unfold zv_rg; omega)) fun q1x22v q1x22h F56 r_q1x22 k_q1x22 => ?_
                dsimp only
                exact zm_iI ⟨F56, r_q1x22, trivial⟩
              · refine zc_pI (K := fun v => True) (zc_C0_onLine F0.2 (zc_Vq F0.1.1 ((Or.imp id (zc_Vb F0.1.1) k_q2).resolve_left c3)) (Or.inr (zc_Vq F0.1.1 ((Or.imp id (zc_Vb F0.1.1) k_q2).resolve_left c3)))) fun q3x3v r_q3x3 k_q3x3 => ?_
                dsimp only
                refine zm_if (fun c58 => ?_) (fun c58 => ?_)
                · rw [qL8_leans_94]
                  refine zd_cI (K := fun v => True) F0 (zd_C8_refused F0.2 h_a0 (by unfold zv_rg; omega)) fun q1x23v q1x23h F59 r_q1x23 k_q1x23 => ?_
                  dsimp only
                  exact zm_iI ⟨F59, r_q1x23, trivial⟩
                · refine zd_rJ F0 ((Or.imp id (zc_Vb F0.1.1) k_q2).resolve_left c3).1 fun v4x3 => ?_
                  refine zc_pJ (zc_C5_bit F0.2 ((Or.imp id (zc_Vb F0.1.1) k_q2).resolve_left c3).1) fun q5x3v => ?_
                  dsimp only
                  refine zm_if (fun c61 => ?_) (fun c61 => ?_)
                  · rw [qL8_leans_122]
                    refine zd_cI (K := fun v => True) F0 (zd_C8_given F0.2 h_a0 (by unfold zv_rg; omega)) fun q1x24v q1x24h F62 r_q1x24 k_q1x24 => ?_
                    dsimp only
                    exact zm_iI ⟨F62, r_q1x24, trivial⟩
                  · rw [qL8_leans_122]
                    refine zd_cI (K := fun v => True) F0 (zd_C8_given F0.2 h_a0 (by unfold zv_rg; omega)) fun q1x25v q1x25h F63 r_q1x25 k_q1x25 => ?_
                    dsimp only
                    exact zm_iI ⟨F63, r_q1x25, trivial⟩
theorem zd_C8_leans {d : Nat} {h : zv_H} {a0 : Nat} {a1 : Int} {a2 : Int} (hA : zc_A h) (h_a0 : zv_lay a0 = (1, 8)) (h_a1 : zv_rg a1) (h_a2 : zv_rg a2) : zm_R (C8_leans (d + 2) a0 a1 a2 h) (fun q => zd_Q h q.2 ∧ zv_rg q.1 ∧ True) := zm_cI (fun e => lC8_leans (zc_ob hA h_a0) e) (zd_E8_leans hA h_a0 h_a1 h_a2)
theorem zd_E8_common {d : Nat} {h : zv_H} {a0 : Nat} {a1 : Int} {a2 : Int} (hA : zc_A h) (h_a0 : zv_lay a0 = (1, 8)) (h_a1 : zv_rg a1) (h_a2 : zv_rg a2) : zm_R (E8_common (d + 2) a0 a1 a2 h) (zm_I fun v h' => zd_Q h h' ∧ zv_rg v ∧ True) := by
  have F0 := zd_Q_r hA
  rw [qE8_common]
  refine zd_rRo F0 h_a0 ?_
  refine zc_pN (K := fun v => (v = 0 ∨ zc_V h v)) (zc_C0_at F0.2 (zd_xH8 F0 h_a0).1 h_a1) fun q2v k_q2 => ?_
  dsimp only
  refine zd_rRo F0 h_a0 ?_
  refine zc_pN (K := fun v => (v = 0 ∨ zc_V h v)) (zc_C0_at F0.2 (zd_xH8 F0 h_a0).1 h_a2) fun q4v k_q4 => ?_
  dsimp only
  refine zm_if (fun c3 => ?_) (fun c3 => ?_)
  · rw [qL8_common_28]
    refine zd_cI (K := fun v => True) F0 (zd_C8_refused F0.2 h_a0 (by unfold zv_rg; omega)) fun q1v q1h F4 r_q1 k_q1 => ?_
    dsimp only
    exact zm_iI ⟨F4, r_q1, trivial⟩
  · refine zm_if (fun c5 => ?_) (fun c5 => ?_)
    · rw [qL8_common_28]
      refine zd_cI (K := fun v => True) F0 (zd_C8_refused F0.2 h_a0 (by unfold zv_rg; omega)) fun q1x1v q1x1h F6 r_q1x1 k_q1x1 => ?_
      dsimp only
      exact zm_iI ⟨F6, r_q1x1, trivial⟩
    · refine zc_pN (K := fun v => zc_V h v) (zc_C0_nearest F0.2 (zc_Vq F0.1.1 ((Or.imp id (zc_Vb F0.1.1) k_q2).resolve_left c3)) (zc_Vq F0.1.1 ((Or.imp id (zc_Vb F0.1.1) k_q4).resolve_left c5))) fun q5v k_q5 => ?_
      dsimp only
      refine zd_rT F0 (zc_Vb F0.1.1 k_q5).1 fun v6 e_v6 r_v6 => ?_
      refine zd_cI (K := fun v => True) F0 (zd_C8_given F0.2 h_a0 r_v6) fun q7v q7h F8 r_q7 k_q7 => ?_
      dsimp only
      exact zm_iI ⟨F8, r_q7, trivial⟩
theorem zd_C8_common {d : Nat} {h : zv_H} {a0 : Nat} {a1 : Int} {a2 : Int} (hA : zc_A h) (h_a0 : zv_lay a0 = (1, 8)) (h_a1 : zv_rg a1) (h_a2 : zv_rg a2) : zm_R (C8_common (d + 3) a0 a1 a2 h) (fun q => zd_Q h q.2 ∧ zv_rg q.1 ∧ True) := zm_cI (fun e => lC8_common (zc_ob hA h_a0) e) (zd_E8_common hA h_a0 h_a1 h_a2)
theorem zd_E8_way {d : Nat} {h : zv_H} {a0 : Nat} {a1 : Int} {a2 : Int} {a3 : Int} (hA : zc_A h) (h_a0 : zv_lay a0 = (1, 8)) (h_a1 : zv_rg a1) (h_a2 : zv_rg a2) (h_a3 : zv_rg a3) : zm_R (E8_way (d + 4) a0 a1 a2 a3 h) (zm_I fun v h' => zd_Q h h' ∧ zv_rg v ∧ True) := by
  have F0 := zd_Q_r hA
  rw [qE8_way]
  refine zm_if (fun c1 => ?_) (fun c1 => ?_)
  · refine zd_cI (K := fun v => True) F0 (zd_C8_refused F0.2 h_a0 (by unfold zv_rg; omega)) fun q1v q1h F2 r_q1 k_q1 => ?_
    dsimp only
    exact zm_iI ⟨F2, r_q1, trivial⟩
  · refine zd_rRo F0 h_a0 ?_
    refine zc_pN (K := fun v => (v = 0 ∨ zc_V h v)) (zc_C0_at F0.2 (zd_xH8 F0 h_a0).1 h_a1) fun q3v k_q3 => ?_
    dsimp only
    refine zd_rRo F0 h_a0 ?_
    refine zc_pN (K := fun v => (v = 0 ∨ zc_V h v)) (zc_C0_at F0.2 (zd_xH8 F0 h_a0).1 h_a2) fun q5v k_q5 => ?_
    dsimp only
    refine zm_if (fun c5 => ?_) (fun c5 => ?_)
    · rw [qL8_way_40]
      refine zd_cI (K := fun v => True) F0 (zd_C8_refused F0.2 h_a0 (by unfold zv_rg; omega)) fun q1x1v q1x1h F6 r_q1x1 k_q1x1 => ?_
      dsimp only
      exact zm_iI ⟨F6, r_q1x1, trivial⟩
    · refine zm_if (fun c7 => ?_) (fun c7 => ?_)
      · rw [qL8_way_40]
        refine zd_cI (K := fun v => True) F0 (zd_C8_refused F0.2 h_a0 (by unfold zv_rg; omega)) fun q1x2v q1x2h F8 r_q1x2 k_q1x2 => ?_
        dsimp only
        exact zm_iI ⟨F8, r_q1x2, trivial⟩
      · refine zc_pN (K := fun v => (v = 0 ∨ zc_V h v)) (zc_C0_onWay F0.2 (zc_Vq F0.1.1 ((Or.imp id (zc_Vb F0.1.1) k_q3).resolve_left c5)) (zc_Vq F0.1.1 ((Or.imp id (zc_Vb F0.1.1) k_q5).resolve_left c7)) h_a3) fun q6v k_q6 => ?_
        dsimp only
        refine zm_if (fun c10 => ?_) (fun c10 => ?_)
        · refine zd_cI (K := fun v => True) F0 (zd_C8_refused F0.2 h_a0 (by unfold zv_rg; omega)) fun q7v q7h F11 r_q7 k_q7 => ?_
          dsimp only
          exact zm_iI ⟨F11, r_q7, trivial⟩
        · refine zd_rT F0 ((Or.imp id (zc_Vb F0.1.1) k_q6).resolve_left c10).1 fun v8 e_v8 r_v8 => ?_
          refine zd_cI (K := fun v => True) F0 (zd_C8_given F0.2 h_a0 r_v8) fun q9v q9h F12 r_q9 k_q9 => ?_
          dsimp only
          exact zm_iI ⟨F12, r_q9, trivial⟩
theorem zd_C8_way {d : Nat} {h : zv_H} {a0 : Nat} {a1 : Int} {a2 : Int} {a3 : Int} (hA : zc_A h) (h_a0 : zv_lay a0 = (1, 8)) (h_a1 : zv_rg a1) (h_a2 : zv_rg a2) (h_a3 : zv_rg a3) : zm_R (C8_way (d + 5) a0 a1 a2 a3 h) (fun q => zd_Q h q.2 ∧ zv_rg q.1 ∧ True) := zm_cI (fun e => lC8_way (zc_ob hA h_a0) e) (zd_E8_way hA h_a0 h_a1 h_a2 h_a3)
theorem zd_E8_between {d : Nat} {h : zv_H} {a0 : Nat} {a1 : Int} {a2 : Int} {a3 : Int} (hA : zc_A h) (h_a0 : zv_lay a0 = (1, 8)) (h_a1 : zv_rg a1) (h_a2 : zv_rg a2) (h_a3 : zv_rg a3) : zm_R (E8_between (d + 3) a0 a1 a2 a3 h) (zm_I fun v h' => zd_Q h h' ∧ zv_rg v ∧ True) := by
  have F0 := zd_Q_r hA
  rw [qE8_between]
  refine zc_pI (K := fun v => (v = 0 ∨ v = 1)) (zc_C8_within F0.2 h_a3 (by unfold zv_rg; omega) (by unfold zv_rg; omega)) fun q1v r_q1 k_q1 => ?_
  dsimp only
  refine zm_if (fun c2 => ?_) (fun c2 => ?_)
  · refine zd_cI (K := fun v => True) F0 (zd_C8_refused F0.2 h_a0 (by unfold zv_rg; omega)) fun q2v q2h F3 r_q2 k_q2 => ?_
    dsimp only
    exact zm_iI ⟨F3, r_q2, trivial⟩
  · refine zd_rRo F0 h_a0 ?_
    refine zc_pN (K := fun v => (v = 0 ∨ zc_V h v)) (zc_C0_at F0.2 (zd_xH8 F0 h_a0).1 h_a1) fun q4v k_q4 => ?_
    dsimp only
    refine zd_rRo F0 h_a0 ?_
    refine zc_pN (K := fun v => (v = 0 ∨ zc_V h v)) (zc_C0_at F0.2 (zd_xH8 F0 h_a0).1 h_a2) fun q6v k_q6 => ?_
    dsimp only
    refine zm_if (fun c6 => ?_) (fun c6 => ?_)
    · rw [qL8_between_45]
      refine zd_cI (K := fun v => True) F0 (zd_C8_refused F0.2 h_a0 (by unfold zv_rg; omega)) fun q1x1v q1x1h F7 r_q1x1 k_q1x1 => ?_
      dsimp only
      exact zm_iI ⟨F7, r_q1x1, trivial⟩
    · refine zm_if (fun c8 => ?_) (fun c8 => ?_)
      · rw [qL8_between_45]
        refine zd_cI (K := fun v => True) F0 (zd_C8_refused F0.2 h_a0 (by unfold zv_rg; omega)) fun q1x2v q1x2h F9 r_q1x2 k_q1x2 => ?_
        dsimp only
        exact zm_iI ⟨F9, r_q1x2, trivial⟩
      · refine zm_if (fun c10 => ?_) (fun c10 => ?_)
        · refine zd_rRo F0 h_a0 ?_
          refine zc_pI (K := fun v => True) (zc_C0_keptOf F0.2 (zd_xH8 F0 h_a0).1 ((Or.imp id (zc_Vb F0.1.1) k_q4).resolve_left c6).1 ((Or.imp id (zc_Vb F0.1.1) k_q6).resolve_left c8).1) fun q8v r_q8 k_q8 => ?_
          dsimp only
          refine zd_cI (K := fun v => True) F0 (zd_C8_given F0.2 h_a0 r_q8) fun q9v q9h F12 r_q9 k_q9 => ?_
          dsimp only
          exact zm_iI ⟨F12, r_q9, trivial⟩
        · refine zm_if (fun c13 => ?_) (fun c13 => ?_)
          · refine zd_rI F0 ((Or.imp id (zc_Vb F0.1.1) k_q4).resolve_left c6).1 fun v10 e_v10 r_v10 => ?_
            have b_v10 := zd_bdv (k := 12) (m := 120) F0 ((Or.imp id (zc_Vb F0.1.1) k_q4).resolve_left c6).1 rfl
            rw [← e_v10] at b_v10
            refine zd_rRo F0 h_a0 ?_
            refine zc_pI (K := fun v => True) (zc_C0_keptOf F0.2 (zd_xH8 F0 h_a0).1 ((Or.imp id (zc_Vb F0.1.1) k_q4).resolve_left c6).1 ((Or.imp id (zc_Vb F0.1.1) k_q6).resolve_left c8).1) fun q12v r_q12 k_q12 => ?_
            dsimp only
            refine zd_cI (K := fun v => True) F0 (zd_C8_given F0.2 h_a0 (zc_w _)) fun q13v q13h F15 r_q13 k_q13 => ?_
            dsimp only
            exact zm_iI ⟨F15, r_q13, trivial⟩
          · refine zm_if (fun c16 => ?_) (fun c16 => ?_)
            · refine zd_rI F0 ((Or.imp id (zc_Vb F0.1.1) k_q6).resolve_left c8).1 fun v14 e_v14 r_v14 => ?_
              have b_v14 := zd_bdv (k := 12) (m := 120) F0 ((Or.imp id (zc_Vb F0.1.1) k_q6).resolve_left c8).1 rfl
              rw [← e_v14] at b_v14
              refine zd_rRo F0 h_a0 ?_
              refine zc_pI (K := fun v => True) (zc_C0_keptOf F0.2 (zd_xH8 F0 h_a0).1 ((Or.imp id (zc_Vb F0.1.1) k_q4).resolve_left c6).1 ((Or.imp id (zc_Vb F0.1.1) k_q6).resolve_left c8).1) fun q16v r_q16 k_q16 => ?_
              dsimp only
              refine zd_cI (K := fun v => True) F0 (zd_C8_given F0.2 h_a0 (zc_w _)) fun q17v q17h F18 r_q17 k_q17 => ?_
              dsimp only
              exact zm_iI ⟨F18, r_q17, trivial⟩
            · refine zd_rRo F0 h_a0 ?_
              refine zc_pI (K := fun v => True) (zc_C0_firstDifference F0.2 (zd_xH8 F0 h_a0).1 ((Or.imp id (zc_Vb F0.1.1) k_q4).resolve_left c6).1 ((Or.imp id (zc_Vb F0.1.1) k_q6).resolve_left c8).1) fun q19v r_q19 k_q19 => ?_
              dsimp only
              refine zd_cI (K := fun v => True) F0 (zd_C8_given F0.2 h_a0 r_q19) fun q20v q20h F20 r_q20 k_q20 => ?_
              dsimp only
              exact zm_iI ⟨F20, r_q20, trivial⟩
theorem zd_C8_between {d : Nat} {h : zv_H} {a0 : Nat} {a1 : Int} {a2 : Int} {a3 : Int} (hA : zc_A h) (h_a0 : zv_lay a0 = (1, 8)) (h_a1 : zv_rg a1) (h_a2 : zv_rg a2) (h_a3 : zv_rg a3) : zm_R (C8_between (d + 4) a0 a1 a2 a3 h) (fun q => zd_Q h q.2 ∧ zv_rg q.1 ∧ True) := zm_cI (fun e => lC8_between (zc_ob hA h_a0) e) (zd_E8_between hA h_a0 h_a1 h_a2 h_a3)
theorem zd_E8_least {d : Nat} {h : zv_H} {a0 : Nat} {a1 : Int} {a2 : Int} (hA : zc_A h) (h_a0 : zv_lay a0 = (1, 8)) (h_a1 : zv_rg a1) (h_a2 : zv_rg a2) : zm_R (E8_least (d + 3) a0 a1 a2 h) (zm_I fun v h' => zd_Q h h' ∧ zv_rg v ∧ True) := by
  have F0 := zd_Q_r hA
  rw [qE8_least]
  refine zd_rRo F0 h_a0 ?_
  refine zc_pN (K := fun v => (v = 0 ∨ zc_V h v)) (zc_C0_at F0.2 (zd_xH8 F0 h_a0).1 h_a1) fun q2v k_q2 => ?_
  dsimp only
  refine zd_rRo F0 h_a0 ?_
  refine zc_pN (K := fun v => (v = 0 ∨ zc_V h v)) (zc_C0_at F0.2 (zd_xH8 F0 h_a0).1 h_a2) fun q4v k_q4 => ?_
  dsimp only
  refine zm_if (fun c3 => ?_) (fun c3 => ?_)
  · rw [qL8_least_28]
    refine zd_cI (K := fun v => True) F0 (zd_C8_refused F0.2 h_a0 (by unfold zv_rg; omega)) fun q1v q1h F4 r_q1 k_q1 => ?_
    dsimp only
    exact zm_iI ⟨F4, r_q1, trivial⟩
  · refine zm_if (fun c5 => ?_) (fun c5 => ?_)
    · rw [qL8_least_28]
      refine zd_cI (K := fun v => True) F0 (zd_C8_refused F0.2 h_a0 (by unfold zv_rg; omega)) fun q1x1v q1x1h F6 r_q1x1 k_q1x1 => ?_
      dsimp only
      exact zm_iI ⟨F6, r_q1x1, trivial⟩
    · refine zd_rI F0 ((Or.imp id (zc_Vb F0.1.1) k_q2).resolve_left c3).1 fun v5 e_v5 r_v5 => ?_
      have b_v5 := zd_bdv (k := 12) (m := 120) F0 ((Or.imp id (zc_Vb F0.1.1) k_q2).resolve_left c3).1 rfl
      rw [← e_v5] at b_v5
      refine zd_rI F0 ((Or.imp id (zc_Vb F0.1.1) k_q4).resolve_left c5).1 fun v6 e_v6 r_v6 => ?_
      have b_v6 := zd_bdv (k := 12) (m := 120) F0 ((Or.imp id (zc_Vb F0.1.1) k_q4).resolve_left c5).1 rfl
      rw [← e_v6] at b_v6
      refine zd_rRo F0 h_a0 ?_
      refine zd_cI (K := fun v => True) F0 (zd_C0_longestCommon F0.2 (zd_xH8 F0 h_a0).1 ((Or.imp id (zc_Vb F0.1.1) k_q2).resolve_left c3).1 ((Or.imp id (zc_Vb F0.1.1) k_q4).resolve_left c5).1) fun q8v q8h F7 r_q8 k_q8 => ?_
      dsimp only
      refine zd_cI (K := fun v => True) F7 (zd_C8_given F7.2 h_a0 (zc_w _)) fun q9v q9h F8 r_q9 k_q9 => ?_
      dsimp only
      exact zm_iI ⟨F8, r_q9, trivial⟩
theorem zd_C8_least {d : Nat} {h : zv_H} {a0 : Nat} {a1 : Int} {a2 : Int} (hA : zc_A h) (h_a0 : zv_lay a0 = (1, 8)) (h_a1 : zv_rg a1) (h_a2 : zv_rg a2) : zm_R (C8_least (d + 4) a0 a1 a2 h) (fun q => zd_Q h q.2 ∧ zv_rg q.1 ∧ True) := zm_cI (fun e => lC8_least (zc_ob hA h_a0) e) (zd_E8_least hA h_a0 h_a1 h_a2)
theorem zd_E8_tellByte {d : Nat} {h : zv_H} {a0 : Nat} {a1 : Int} (hA : zc_A h) (h_a0 : zv_lay a0 = (1, 8)) (h_a1 : zv_rg a1) : zm_R (E8_tellByte (d + 0) a0 a1 h) (zm_V fun h' => zd_Q h h') := by
  have F0 := zd_Q_r hA
  rw [qE8_tellByte]
  refine zd_rI F0 h_a0 fun v1 e_v1 r_v1 => ?_
  refine zm_if (fun c1 => ?_) (fun c1 => ?_)
  · exact zm_iV F0
  · refine zd_rI F0 h_a0 fun v2 e_v2 r_v2 => ?_
    refine zd_rF F0 1 h_a0 ?_
    refine zd_rAl F0 (zc_y8_0 h_a0).1 fun v4 e_v4 => ?_
    refine zm_if (fun c2 => ?_) (fun c2 => ?_)
    · refine zd_rF F0 1 h_a0 ?_
      refine zd_rI F0 h_a0 fun v6 e_v6 r_v6 => ?_
      refine zd_wA F0 (zc_y8_0 h_a0).1 (zc_y8_0 h_a0).2 (zd_y8_0 h_a0) (by omega) (by omega) h_a1 fun g7 F3 u_g7 => ?_
      refine zd_rI F3 h_a0 fun v8 e_v8 r_v8 => ?_
      rw [u_g7 _ _ (by rw [h_a0])] at e_v8
      refine zd_wO F3 h_a0 (zc_frO h_a0 (zc_lt h_a0 (by decide)) (by decide) rfl (by decide)) (zc_w _) fun g9 F4 => ?_
      exact zm_iV F4
    · exact zm_iV F0
theorem zd_C8_tellByte {d : Nat} {h : zv_H} {a0 : Nat} {a1 : Int} (hA : zc_A h) (h_a0 : zv_lay a0 = (1, 8)) (h_a1 : zv_rg a1) : zm_R (C8_tellByte (d + 1) a0 a1 h) (fun q => zd_Q h q) := zm_cV (fun e => lC8_tellByte (zc_ob hA h_a0) e) (zd_E8_tellByte hA h_a0 h_a1)
theorem zd_E8_tellNumber {d : Nat} {h : zv_H} {a0 : Nat} {a1 : Int} (hA : zc_A h) (h_a0 : zv_lay a0 = (1, 8)) (h_a1 : zv_rg a1) : zm_R (E8_tellNumber (d + 1) a0 a1 h) (zm_V fun h' => zd_Q h h') := by
  have F0 := zd_Q_r hA
  rw [qE8_tellNumber]
  refine zm_if (fun c1 => ?_) (fun c1 => ?_)
  · rw [qL8_tellNumber_17]
    refine zd_cV F0 (zd_C8_tellByte F0.2 h_a0 (zc_w _)) fun g1 F2 => ?_
    exact zm_iV F2
  · refine zd_cV F0 (zd_C8_tellByte F0.2 h_a0 (zc_w _)) fun g1x1 F3 => ?_
    rw [qL8_tellNumber_17]
    refine zd_cV F3 (zd_C8_tellByte F3.2 h_a0 (zc_w _)) fun g1x2 F4 => ?_
    exact zm_iV F4
theorem zd_C8_tellNumber {d : Nat} {h : zv_H} {a0 : Nat} {a1 : Int} (hA : zc_A h) (h_a0 : zv_lay a0 = (1, 8)) (h_a1 : zv_rg a1) : zm_R (C8_tellNumber (d + 2) a0 a1 h) (fun q => zd_Q h q) := zm_cV (fun e => lC8_tellNumber (zc_ob hA h_a0) e) (zd_E8_tellNumber hA h_a0 h_a1)
theorem zd_L8_tellDocument_10 {d : Nat} {h0 : zv_H} (N_L8_tellDocument_10 : Nat) : ∀ {h : zv_H} {a0 : Nat} {a1 : Nat} {a2 : Int}, zd_Q h0 h → (zv_lay a0 = (1, 8)) → (zc_V h0 a1) → (0 ≤ a2 ∧ zv_rg a2) → (2147483647 - a2).toNat = N_L8_tellDocument_10 → zm_R (L8_tellDocument_10 (d + 2) a0 a1 a2 h) (zm_V fun h' => zd_Q h0 h') := by
  induction N_L8_tellDocument_10 using Nat.strongRecOn with
  | _ N_L8_tellDocument_10 ih_L8_tellDocument_10 =>
    intro h a0 a1 a2 F0 h_a0 h_a1 h_a2 eN
    rw [qL8_tellDocument_10]
    have z_a2 := h_a2.1
    refine zd_rI F0 h_a1.1 fun v1 e_v1 r_v1 => ?_
    have b_v1 := zd_bdv (k := 12) (m := 120) F0 h_a1.1 rfl
    rw [← e_v1] at b_v1
    refine zm_if (fun c1 => ?_) (fun c1 => ?_)
    · refine zd_rRo F0 h_a0 ?_
      refine zc_pI (K := fun v => True) (zc_C0_letterAt F0.2 (zd_xH8 F0 h_a0).1 h_a1.1 h_a2.2) fun q3v r_q3 k_q3 => ?_
      dsimp only
      refine zd_cV F0 (zd_C8_tellByte F0.2 h_a0 (zc_w _)) fun g4 F3 => ?_
      exact ih_L8_tellDocument_10 _ (by rw [← eN]; exact zc_up h_a2.2 r_v1 c1) F3 h_a0 h_a1 ⟨by rw [zc_up1 h_a2.2 r_v1 c1]; omega, zc_w _⟩  rfl
    · exact zm_iV F0
theorem zd_E8_tellDocument {d : Nat} {h : zv_H} {a0 : Nat} (hA : zc_A h) (h_a0 : zv_lay a0 = (1, 8)) : zm_R (E8_tellDocument (d + 2) a0 h) (zm_V fun h' => zd_Q h h') := by
  have F0 := zd_Q_r hA
  rw [qE8_tellDocument]
  refine zd_rRo F0 h_a0 ?_
  refine zd_rRo F0 (zd_xH8 F0 h_a0).1 ?_
  exact zd_L8_tellDocument_10  _ F0 h_a0 (zd_hV F0 (zd_xH8 F0 h_a0).1).1 ⟨by omega, (by unfold zv_rg; omega)⟩  rfl
theorem zd_C8_tellDocument {d : Nat} {h : zv_H} {a0 : Nat} (hA : zc_A h) (h_a0 : zv_lay a0 = (1, 8)) : zm_R (C8_tellDocument (d + 3) a0 h) (fun q => zd_Q h q) := zm_cV (fun e => lC8_tellDocument (zc_ob hA h_a0) e) (zd_E8_tellDocument hA h_a0)
theorem zd_L8_tellLine_10 {d : Nat} {h0 : zv_H} (N_L8_tellLine_10 : Nat) : ∀ {h : zv_H} {a0 : Nat} {a1 : Nat} {a2 : Int}, zd_Q h0 h → (zv_lay a0 = (1, 8)) → (zv_lay a1 = (1, 4)) → (0 ≤ a2 ∧ zv_rg a2) → (2147483647 - a2).toNat = N_L8_tellLine_10 → zm_R (L8_tellLine_10 (d + 4) a0 a1 a2 h) (zm_V fun h' => zd_Q h0 h') := by
  induction N_L8_tellLine_10 using Nat.strongRecOn with
  | _ N_L8_tellLine_10 ih_L8_tellLine_10 =>
    intro h a0 a1 a2 F0 h_a0 h_a1 h_a2 eN
    rw [qL8_tellLine_10]
    have z_a2 := h_a2.1
    refine zd_rI F0 h_a1 fun v1 e_v1 r_v1 => ?_
    have b_v1 := zd_bdv (k := 5) (m := 48) F0 h_a1 rfl
    rw [← e_v1] at b_v1
    refine zm_if (fun c1 => ?_) (fun c1 => ?_)
    · refine zm_if (fun c2 => ?_) (fun c2 => ?_)
      · rw [qL8_tellLine_28]
        refine zc_pI (K := fun v => True) (zc_C4_numberAt F0.2 h_a1 h_a2.2) fun q1v r_q1 k_q1 => ?_
        dsimp only
        refine zd_cV F0 (zd_C8_tellNumber F0.2 h_a0 r_q1) fun g2 F4 => ?_
        exact ih_L8_tellLine_10 _ (by rw [← eN]; exact zc_up h_a2.2 (show zv_rg (0 + 1) from (by unfold zv_rg at *; omega)) (by omega)) F4 h_a0 h_a1 ⟨by rw [zc_up1 h_a2.2 (show zv_rg (0 + 1) from (by unfold zv_rg at *; omega)) (by omega)]; omega, zc_w _⟩  rfl
      · refine zd_cV F0 (zd_C8_tellByte F0.2 h_a0 (by unfold zv_rg; omega)) fun g2x1 F5 => ?_
        rw [qL8_tellLine_28]
        refine zc_pI (K := fun v => True) (zc_C4_numberAt F5.2 h_a1 h_a2.2) fun q1x1v r_q1x1 k_q1x1 => ?_
        dsimp only
        refine zd_cV F5 (zd_C8_tellNumber F5.2 h_a0 r_q1x1) fun g2x2 F7 => ?_
        exact ih_L8_tellLine_10 _ (by rw [← eN]; exact zc_up h_a2.2 r_v1 c1) F7 h_a0 h_a1 ⟨by rw [zc_up1 h_a2.2 r_v1 c1]; omega, zc_w _⟩  rfl
    · exact zm_iV F0
theorem zd_E8_tellLine {d : Nat} {h : zv_H} {a0 : Nat} (hA : zc_A h) (h_a0 : zv_lay a0 = (1, 8)) : zm_R (E8_tellLine (d + 4) a0 h) (zm_V fun h' => zd_Q h h') := by
  have F0 := zd_Q_r hA
  rw [qE8_tellLine]
  refine zd_rRo F0 h_a0 ?_
  refine zd_cN (K := fun v => zv_lay v = (1, 4)) F0 (zd_C0_rowOfHere F0.2 (zd_xH8 F0 h_a0).1) fun q2v q2h F1 k_q2 => ?_
  dsimp only
  exact zd_L8_tellLine_10  _ F1 h_a0 k_q2 ⟨by omega, (by unfold zv_rg; omega)⟩  rfl
theorem zd_C8_tellLine {d : Nat} {h : zv_H} {a0 : Nat} (hA : zc_A h) (h_a0 : zv_lay a0 = (1, 8)) : zm_R (C8_tellLine (d + 5) a0 h) (fun q => zd_Q h q) := zm_cV (fun e => lC8_tellLine (zc_ob hA h_a0) e) (zd_E8_tellLine hA h_a0)
theorem zd_E8_out {d : Nat} {h : zv_H} {a0 : Nat} {a1 : Int} (hA : zc_A h) (h_a0 : zv_lay a0 = (1, 8)) (h_a1 : zv_rg a1) : zm_R (E8_out (d + 1) a0 a1 h) (zm_I fun v h' => zd_Q h h' ∧ zv_rg v ∧ True) := by
  have F0 := zd_Q_r hA
  rw [qE8_out]
  refine zm_if (fun c1 => ?_) (fun c1 => ?_)
  · refine zd_cI (K := fun v => True) F0 (zd_C8_refused F0.2 h_a0 (by unfold zv_rg; omega)) fun q1v q1h F2 r_q1 k_q1 => ?_
    dsimp only
    exact zm_iI ⟨F2, r_q1, trivial⟩
  · refine zd_rI F0 h_a0 fun v2 e_v2 r_v2 => ?_
    refine zm_if (fun c3 => ?_) (fun c3 => ?_)
    · refine zd_rF F0 1 h_a0 ?_
      refine zd_rAl F0 (zc_y8_0 h_a0).1 fun v4 e_v4 => ?_
      refine zm_if (fun c4 => ?_) (fun c4 => ?_)
      · refine zd_rF F0 1 h_a0 ?_
        refine zd_rA F0 (zc_y8_0 h_a0).1 (zc_y8_0 h_a0).2 (by omega) (by omega) fun v6 r_v6 => ?_
        refine zd_cI (K := fun v => True) F0 (zd_C8_given F0.2 h_a0 r_v6) fun q7v q7h F5 r_q7 k_q7 => ?_
        dsimp only
        exact zm_iI ⟨F5, r_q7, trivial⟩
      · rw [qL8_out_27]
        refine zd_cI (K := fun v => True) F0 (zd_C8_refused F0.2 h_a0 (by unfold zv_rg; omega)) fun q1x1v q1x1h F6 r_q1x1 k_q1x1 => ?_
        dsimp only
        exact zm_iI ⟨F6, r_q1x1, trivial⟩
    · rw [qL8_out_27]
      refine zd_cI (K := fun v => True) F0 (zd_C8_refused F0.2 h_a0 (by unfold zv_rg; omega)) fun q1x2v q1x2h F7 r_q1x2 k_q1x2 => ?_
      dsimp only
      exact zm_iI ⟨F7, r_q1x2, trivial⟩
theorem zd_C8_out {d : Nat} {h : zv_H} {a0 : Nat} {a1 : Int} (hA : zc_A h) (h_a0 : zv_lay a0 = (1, 8)) (h_a1 : zv_rg a1) : zm_R (C8_out (d + 2) a0 a1 h) (fun q => zd_Q h q.2 ∧ zv_rg q.1 ∧ True) := zm_cI (fun e => lC8_out (zc_ob hA h_a0) e) (zd_E8_out hA h_a0 h_a1)
theorem zd_E8_leaning {d : Nat} {h : zv_H} {a0 : Nat} {a1 : Int} {a2 : Int} (hA : zc_A h) (h_a0 : zv_lay a0 = (1, 8)) (h_a1 : zv_rg a1) (h_a2 : zv_rg a2) : zm_R (E8_leaning (d + 4) a0 a1 a2 h) (zm_I fun v h' => zd_Q h h' ∧ zv_rg v ∧ True) := by
  have F0 := zd_Q_r hA
  rw [qE8_leaning]
  refine zc_pI (K := fun v => (v = 0 ∨ v = 1)) (zc_C8_within F0.2 h_a2 (by unfold zv_rg; omega) (by unfold zv_rg; omega)) fun q1v r_q1 k_q1 => ?_
  dsimp only
  refine zm_if (fun c2 => ?_) (fun c2 => ?_)
  · refine zd_cI (K := fun v => True) F0 (zd_C8_refused F0.2 h_a0 (by unfold zv_rg; omega)) fun q2v q2h F3 r_q2 k_q2 => ?_
    dsimp only
    exact zm_iI ⟨F3, r_q2, trivial⟩
  · refine zd_rRo F0 h_a0 ?_
    refine zc_pN (K := fun v => (v = 0 ∨ zc_V h v)) (zc_C0_at F0.2 (zd_xH8 F0 h_a0).1 h_a1) fun q4v k_q4 => ?_
    dsimp only
    refine zm_if (fun c5 => ?_) (fun c5 => ?_)
    · refine zd_cI (K := fun v => True) F0 (zd_C8_refused F0.2 h_a0 (by unfold zv_rg; omega)) fun q5v q5h F6 r_q5 k_q5 => ?_
      dsimp only
      exact zm_iI ⟨F6, r_q5, trivial⟩
    · refine zd_rRo F0 h_a0 ?_
      refine zd_cN (K := fun v => zv_lay v = (1, 4)) F0 (zd_C0_rowOfHere F0.2 (zd_xH8 F0 h_a0).1) fun q7v q7h F7 k_q7 => ?_
      dsimp only
      refine zd_rJ F7 k_q7 fun v8 => ?_
      refine zc_pJ (zc_C5_bit F7.2 ((Or.imp id (zc_Vb F0.1.1) k_q4).resolve_left c5).1) fun q9v => ?_
      dsimp only
      refine zm_if (fun c9 => ?_) (fun c9 => ?_)
      · refine zd_cI (K := fun v => True) F7 (zd_C8_refused F7.2 h_a0 (by unfold zv_rg; omega)) fun q10v q10h F10 r_q10 k_q10 => ?_
        dsimp only
        exact zm_iI ⟨F10, r_q10, trivial⟩
      · refine zc_pJ (zc_C4_leaningOn F7.2 k_q7 ((Or.imp id (zc_Vb F0.1.1) k_q4).resolve_left c5).1) fun q11v => ?_
        dsimp only
        refine zm_if (fun c12 => ?_) (fun c12 => ?_)
        · refine zc_pI (K := fun v => True) (zc_C12_bitCount F7.2 ) fun q12v r_q12 k_q12 => ?_
          dsimp only
          refine zd_cI (K := fun v => True) F7 (zd_C8_given F7.2 h_a0 r_q12) fun q13v q13h F14 r_q13 k_q13 => ?_
          dsimp only
          exact zm_iI ⟨F14, r_q13, trivial⟩
        · refine zm_if (fun c15 => ?_) (fun c15 => ?_)
          · refine zd_rJ F7 k_q7 fun v14 => ?_
            refine zc_pI (K := fun v => True) (zc_C12_bitCount F7.2 ) fun q15v r_q15 k_q15 => ?_
            dsimp only
            refine zd_cI (K := fun v => True) F7 (zd_C8_given F7.2 h_a0 r_q15) fun q16v q16h F17 r_q16 k_q16 => ?_
            dsimp only
            exact zm_iI ⟨F17, r_q16, trivial⟩
          · refine zm_if (fun c18 => ?_) (fun c18 => ?_)
            · refine zd_rRo F7 h_a0 ?_
              refine zc_pI (K := fun v => True) (zc_C0_lettersOfHereBy F7.2 (zd_xH8 F7 h_a0).1) fun q18v r_q18 k_q18 => ?_
              dsimp only
              refine zd_cI (K := fun v => True) F7 (zd_C8_given F7.2 h_a0 r_q18) fun q19v q19h F20 r_q19 k_q19 => ?_
              dsimp only
              exact zm_iI ⟨F20, r_q19, trivial⟩
            · refine zd_rJ F7 k_q7 fun v20 => ?_
              refine zd_cV F7 (zd_C4_look F7.2 k_q7) fun g21 F21 => ?_
              refine zd_rI F21 k_q7 fun v22 e_v22 r_v22 => ?_
              refine zd_cI (K := fun v => True) F21 (zd_C8_given F21.2 h_a0 r_v22) fun q23v q23h F22 r_q23 k_q23 => ?_
              dsimp only
              exact zm_iI ⟨F22, r_q23, trivial⟩
theorem zd_C8_leaning {d : Nat} {h : zv_H} {a0 : Nat} {a1 : Int} {a2 : Int} (hA : zc_A h) (h_a0 : zv_lay a0 = (1, 8)) (h_a1 : zv_rg a1) (h_a2 : zv_rg a2) : zm_R (C8_leaning (d + 5) a0 a1 a2 h) (fun q => zd_Q h q.2 ∧ zv_rg q.1 ∧ True) := zm_cI (fun e => lC8_leaning (zc_ob hA h_a0) e) (zd_E8_leaning hA h_a0 h_a1 h_a2)
theorem zd_E8_find {d : Nat} {h : zv_H} {a0 : Nat} {a1 : Int} (hA : zc_A h) (h_a0 : zv_lay a0 = (1, 8)) (h_a1 : zv_rg a1) : zm_R (E8_find (d + 5) a0 a1 h) (zm_I fun v h' => zd_Q h h' ∧ zv_rg v ∧ True) := by
  have F0 := zd_Q_r hA
  rw [qE8_find]
  refine zc_pI (K := fun v => (v = 0 ∨ v = 1)) (zc_C8_within F0.2 h_a1 (by unfold zv_rg; omega) (by unfold zv_rg; omega)) fun q1v r_q1 k_q1 => ?_
  dsimp only
  refine zm_if (fun c2 => ?_) (fun c2 => ?_)
  · rw [qL8_find_19]
    refine zd_cI (K := fun v => True) F0 (zd_C8_refused F0.2 h_a0 (by unfold zv_rg; omega)) fun q1x1v q1x1h F3 r_q1x1 k_q1x1 => ?_
    dsimp only
    exact zm_iI ⟨F3, r_q1x1, trivial⟩
  · refine zd_rF F0 2 h_a0 ?_
    refine zd_rI F0 (zc_y8_1 h_a0).1 fun v3 e_v3 r_v3 => ?_
    have b_v3 := zd_bdv (k := 1) (m := 40) F0 (zc_y8_1 h_a0).1 rfl
    rw [← e_v3] at b_v3
    refine zm_if (fun c4 => ?_) (fun c4 => ?_)
    · rw [qL8_find_19]
      refine zd_cI (K := fun v => True) F0 (zd_C8_refused F0.2 h_a0 (by unfold zv_rg; omega)) fun q1x2v q1x2h F5 r_q1x2 k_q1x2 => ?_
      dsimp only
      exact zm_iI ⟨F5, r_q1x2, trivial⟩
    · refine zm_if (fun c6 => ?_) (fun c6 => ?_)
      · refine zd_rRo F0 h_a0 ?_
        refine zd_rF F0 2 h_a0 ?_
        refine zc_pI (K := fun v => True) (zc_C0_statesWith F0.2 (zd_xH8 F0 h_a0).1 (zc_y8_1 h_a0).1) fun q6v r_q6 k_q6 => ?_
        dsimp only
        refine zd_cI (K := fun v => True) F0 (zd_C8_given F0.2 h_a0 r_q6) fun q7v q7h F8 r_q7 k_q7 => ?_
        dsimp only
        exact zm_iI ⟨F8, r_q7, trivial⟩
      · refine zm_if (fun c9 => ?_) (fun c9 => ?_)
        · refine zd_rRo F0 h_a0 ?_
          refine zd_rF F0 2 h_a0 ?_
          refine zc_pI (K := fun v => True) (zc_C0_leastWith F0.2 (zd_xH8 F0 h_a0).1 (zc_y8_1 h_a0).1) fun q10v r_q10 k_q10 => ?_
          dsimp only
          rw [qL8_find_82]
          refine zm_if (fun c11 => ?_) (fun c11 => ?_)
          · refine zd_cI (K := fun v => True) F0 (zd_C8_refused F0.2 h_a0 (by unfold zv_rg; omega)) fun q1x3v q1x3h F12 r_q1x3 k_q1x3 => ?_
            dsimp only
            exact zm_iI ⟨F12, r_q1x3, trivial⟩
          · refine zd_cI (K := fun v => True) F0 (zd_C8_given F0.2 h_a0 r_q10) fun q2v q2h F13 r_q2 k_q2 => ?_
            dsimp only
            exact zm_iI ⟨F13, r_q2, trivial⟩
        · refine zd_rRo F0 h_a0 ?_
          refine zd_rRo F0 h_a0 ?_
          refine zd_rRo F0 (zd_xH8 F0 h_a0).1 ?_
          refine zd_rF F0 2 h_a0 ?_
          refine zc_pI (K := fun v => True) (zc_C0_placeIn F0.2 (zd_xH8 F0 h_a0).1 (zd_hV F0 (zd_xH8 F0 h_a0).1).1.1 (zc_y8_1 h_a0).1) fun q15v r_q15 k_q15 => ?_
          dsimp only
          rw [qL8_find_82]
          refine zm_if (fun c15 => ?_) (fun c15 => ?_)
          · refine zd_cI (K := fun v => True) F0 (zd_C8_refused F0.2 h_a0 (by unfold zv_rg; omega)) fun q1x4v q1x4h F16 r_q1x4 k_q1x4 => ?_
            dsimp only
            exact zm_iI ⟨F16, r_q1x4, trivial⟩
          · refine zd_cI (K := fun v => True) F0 (zd_C8_given F0.2 h_a0 r_q15) fun q2x1v q2x1h F17 r_q2x1 k_q2x1 => ?_
            dsimp only
            exact zm_iI ⟨F17, r_q2x1, trivial⟩
theorem zd_C8_find {d : Nat} {h : zv_H} {a0 : Nat} {a1 : Int} (hA : zc_A h) (h_a0 : zv_lay a0 = (1, 8)) (h_a1 : zv_rg a1) : zm_R (C8_find (d + 6) a0 a1 h) (fun q => zd_Q h q.2 ∧ zv_rg q.1 ∧ True) := zm_cI (fun e => lC8_find (zc_ob hA h_a0) e) (zd_E8_find hA h_a0 h_a1)
theorem zd_E8_first {d : Nat} {h : zv_H} {a0 : Nat} (hA : zc_A h) (h_a0 : zv_lay a0 = (1, 8)) : zm_R (E8_first (d + 2) a0 h) (zm_I fun v h' => zd_Q h h' ∧ zv_rg v ∧ True) := by
  have F0 := zd_Q_r hA
  rw [qE8_first]
  refine zd_rRo F0 h_a0 ?_
  refine zc_pN (K := fun v => (v = 0 ∨ zc_V h v)) (zc_C0_nextToGo F0.2 (zd_xH8 F0 h_a0).1) fun q2v k_q2 => ?_
  dsimp only
  refine zm_if (fun c2 => ?_) (fun c2 => ?_)
  · refine zd_cI (K := fun v => True) F0 (zd_C8_refused F0.2 h_a0 (by unfold zv_rg; omega)) fun q3v q3h F3 r_q3 k_q3 => ?_
    dsimp only
    exact zm_iI ⟨F3, r_q3, trivial⟩
  · refine zd_rT F0 ((Or.imp id (zc_Vb F0.1.1) k_q2).resolve_left c2).1 fun v4 e_v4 r_v4 => ?_
    refine zd_cI (K := fun v => True) F0 (zd_C8_given F0.2 h_a0 r_v4) fun q5v q5h F4 r_q5 k_q5 => ?_
    dsimp only
    exact zm_iI ⟨F4, r_q5, trivial⟩
theorem zd_C8_first {d : Nat} {h : zv_H} {a0 : Nat} (hA : zc_A h) (h_a0 : zv_lay a0 = (1, 8)) : zm_R (C8_first (d + 3) a0 h) (fun q => zd_Q h q.2 ∧ zv_rg q.1 ∧ True) := zm_cI (fun e => lC8_first (zc_ob hA h_a0) e) (zd_E8_first hA h_a0)
theorem zd_E8_twin {d : Nat} {h : zv_H} {a0 : Nat} {a1 : Int} (hA : zc_A h) (h_a0 : zv_lay a0 = (1, 8)) (h_a1 : zv_rg a1) : zm_R (E8_twin (d + 4) a0 a1 h) (zm_I fun v h' => zd_Q h h' ∧ zv_rg v ∧ True) := by
  have F0 := zd_Q_r hA
  rw [qE8_twin]
  refine zd_rRo F0 h_a0 ?_
  refine zc_pN (K := fun v => (v = 0 ∨ zc_V h v)) (zc_C0_at F0.2 (zd_xH8 F0 h_a0).1 h_a1) fun q2v k_q2 => ?_
  dsimp only
  refine zm_if (fun c2 => ?_) (fun c2 => ?_)
  · refine zd_cI (K := fun v => True) F0 (zd_C8_refused F0.2 h_a0 (by unfold zv_rg; omega)) fun q3v q3h F3 r_q3 k_q3 => ?_
    dsimp only
    exact zm_iI ⟨F3, r_q3, trivial⟩
  · refine zd_rRo F0 h_a0 ?_
    refine zc_pI (K := fun v => True) (zc_C0_twinOf F0.2 (zd_xH8 F0 h_a0).1 ((Or.imp id (zc_Vb F0.1.1) k_q2).resolve_left c2).1) fun q5v r_q5 k_q5 => ?_
    dsimp only
    refine zm_if (fun c5 => ?_) (fun c5 => ?_)
    · refine zd_cI (K := fun v => True) F0 (zd_C8_refused F0.2 h_a0 (by unfold zv_rg; omega)) fun q6v q6h F6 r_q6 k_q6 => ?_
      dsimp only
      exact zm_iI ⟨F6, r_q6, trivial⟩
    · refine zd_cI (K := fun v => True) F0 (zd_C8_given F0.2 h_a0 r_q5) fun q7v q7h F7 r_q7 k_q7 => ?_
      dsimp only
      exact zm_iI ⟨F7, r_q7, trivial⟩
theorem zd_C8_twin {d : Nat} {h : zv_H} {a0 : Nat} {a1 : Int} (hA : zc_A h) (h_a0 : zv_lay a0 = (1, 8)) (h_a1 : zv_rg a1) : zm_R (C8_twin (d + 5) a0 a1 h) (fun q => zd_Q h q.2 ∧ zv_rg q.1 ∧ True) := zm_cI (fun e => lC8_twin (zc_ob hA h_a0) e) (zd_E8_twin hA h_a0 h_a1)
theorem zd_E8_back {d : Nat} {h : zv_H} {a0 : Nat} {a1 : Int} (hA : zc_A h) (h_a0 : zv_lay a0 = (1, 8)) (h_a1 : zv_rg a1) : zm_R (E8_back (d + 1) a0 a1 h) (zm_I fun v h' => zd_Q h h' ∧ zv_rg v ∧ True) := by
  have F0 := zd_Q_r hA
  rw [qE8_back]
  refine zc_pI (K := fun v => (v = 0 ∨ v = 1)) (zc_C8_within F0.2 h_a1 (by unfold zv_rg; omega) (by unfold zv_rg; omega)) fun q1v r_q1 k_q1 => ?_
  dsimp only
  refine zm_if (fun c2 => ?_) (fun c2 => ?_)
  · refine zd_cI (K := fun v => True) F0 (zd_C8_refused F0.2 h_a0 (by unfold zv_rg; omega)) fun q2v q2h F3 r_q2 k_q2 => ?_
    dsimp only
    exact zm_iI ⟨F3, r_q2, trivial⟩
  · refine zd_rRo F0 h_a0 ?_
    refine zc_pN (K := fun v => (v = 0 ∨ zc_V h v)) (zc_C0_behind F0.2 (zd_xH8 F0 h_a0).1 h_a1) fun q4v k_q4 => ?_
    dsimp only
    refine zm_if (fun c5 => ?_) (fun c5 => ?_)
    · refine zd_cI (K := fun v => True) F0 (zd_C8_refused F0.2 h_a0 (by unfold zv_rg; omega)) fun q5v q5h F6 r_q5 k_q5 => ?_
      dsimp only
      exact zm_iI ⟨F6, r_q5, trivial⟩
    · refine zd_rT F0 ((Or.imp id (zc_Vb F0.1.1) k_q4).resolve_left c5).1 fun v6 e_v6 r_v6 => ?_
      refine zd_cI (K := fun v => True) F0 (zd_C8_given F0.2 h_a0 r_v6) fun q7v q7h F7 r_q7 k_q7 => ?_
      dsimp only
      exact zm_iI ⟨F7, r_q7, trivial⟩
theorem zd_C8_back {d : Nat} {h : zv_H} {a0 : Nat} {a1 : Int} (hA : zc_A h) (h_a0 : zv_lay a0 = (1, 8)) (h_a1 : zv_rg a1) : zm_R (C8_back (d + 2) a0 a1 h) (fun q => zd_Q h q.2 ∧ zv_rg q.1 ∧ True) := zm_cI (fun e => lC8_back (zc_ob hA h_a0) e) (zd_E8_back hA h_a0 h_a1)
end
/-! A95.zd -/
section
/-! ===== the class: telling changes reckoned cells alone ===== -/
section
variable {d : Nat} {h : zv_H}
theorem zd_C8_tellNames (hA : zc_A h) : zm_R (C8_tellNames (d + 4) 1 h) (fun q => zd_Q h q) := by
  refine zm_cV (fun e => lC8_tellNames (zc_ob hA zc_h8) e) ?_
  have F0 := zd_Q_r hA
  have hN := (zc_y0_6 (zd_xH F0).1).1
  have loop : ∀ (n : Nat) (g : zv_H) (i : Int), zd_Q h g → 0 ≤ i → (2147483647 - i).toNat = n → zv_rg i → zm_R (L8_tellNames_10 (d + 3) 1 (zv_R h 1 3 + 14) i g) (zm_V fun h' => zd_Q h h') := by
    intro n
    induction n using Nat.strongRecOn with
    | _ n ih =>
      intro g i F h0 hn ri
      rw [qL8_tellNames_10]
      refine zd_rI F hN fun v1 e1 r1 => ?_
      refine zm_if (fun c => ?_) (fun c => zm_iV F)
      have inner : ∀ (m : Nat) (g : zv_H) (k : Int), zd_Q h g → zv_rg k → k.toNat ≤ m → zm_R (L8_tellNames_34 (d + 3) 1 (zv_R h 1 3 + 14) i k g) (zm_V fun h' => zd_Q h h') := by
        intro m
        have stop : ∀ (g : zv_H) (k : Int), zd_Q h g → k ≤ 0 → zm_R (L8_tellNames_34 (d + 3) 1 (zv_R h 1 3 + 14) i k g) (zm_V fun h' => zd_Q h h') := fun g k F hk => by
          rw [qL8_tellNames_34, if_pos hk]
          refine zd_cV F (zd_C8_tellByte F.2 zc_h8 (by unfold zv_rg; omega)) fun g1 F => ?_
          refine zc_pI (K := fun _ => True) (zc_C2_ownerAt F.2 hN ri) fun v2 r2 _ => ?_
          dsimp only
          refine zd_cV F (zd_C8_tellNumber F.2 zc_h8 r2) fun g3 F => ?_
          exact ih _ (by rw [← hn]; exact zc_up ri r1 c) g3 _ F (by rw [zc_up1 ri r1 c]; omega) rfl (zc_w _)
        induction m with
        | zero => intro g k F rk hk; exact stop g k F (by omega)
        | succ m ihm =>
          intro g k F rk hk
          by_cases c0 : k ≤ 0
          · exact stop g k F c0
          · rw [qL8_tellNames_34, if_neg c0]
            refine zd_cV F (zd_C8_tellByte F.2 zc_h8 (zc_w _)) fun g1 F => ?_
            refine ihm g1 _ F (zc_ushr _ _) ?_
            unfold zv_rg at rk
            rw [zc_ushr5 (by omega) (by omega)]
            omega
      have L28 : ∀ g, zd_Q h g → zm_R (L8_tellNames_28 (d + 3) 1 (zv_R h 1 3 + 14) i g) (zm_V fun h' => zd_Q h h') := fun g F => by
        rw [qL8_tellNames_28]
        refine zc_pI (K := fun _ => True) (zc_C2_keyAt F.2 hN ri) fun v2 r2 _ => ?_
        exact inner _ g v2 F r2 (Nat.le_refl _)
      refine zm_if (fun c => L28 g F) (fun c => ?_)
      refine zd_cV F (zd_C8_tellByte F.2 zc_h8 (by unfold zv_rg; omega)) fun g1 F => ?_
      exact L28 g1 F
  rw [qE8_tellNames]
  refine zd_rRo F0 zc_h8 ?_
  refine zd_rF F0 14 (zd_xH F0).1 ?_
  exact loop _ h 0 F0 (by omega) rfl (by unfold zv_rg; omega)
theorem zd_C8_tell (hA : zc_A h) {x : Int} (rx : zv_rg x) : zm_R (C8_tell (d + 6) 1 x h) (fun q => zd_Q h q.2 ∧ zv_rg q.1 ∧ True) := by
  refine zm_cI (P := fun v h' => zd_Q h h' ∧ zv_rg v ∧ True) (fun e => lC8_tell (zc_ob hA zc_h8) e) ?_
  have F := zd_Q_r hA
  have fin : ∀ g, zd_Q h g → zm_R (L8_tell_47 (d + 5) 1 g) (zm_I fun v h' => zd_Q h h' ∧ zv_rg v ∧ True) := fun g F => by
    rw [qL8_tell_47]
    refine zd_rI F zc_h8 fun v1 e1 r1 => ?_
    refine zd_cI (K := fun _ => True) F (zd_C8_given F.2 zc_h8 r1) fun v2 h2 F2 r2 _ => ?_
    exact zm_iI ⟨F2, r2, trivial⟩
  rw [qE8_tell]
  refine zc_pI (K := fun v => (v = 0 ∨ v = 1)) (zc_C8_within hA rx (by unfold zv_rg; omega) (by unfold zv_rg; omega)) fun v1 r1 _ => ?_
  dsimp only
  refine zm_if (fun c => ?_) (fun c => ?_)
  · refine zd_cI (K := fun _ => True) F (zd_C8_refused hA zc_h8 (by unfold zv_rg; omega)) fun v2 h2 F2 r2 _ => ?_
    exact zm_iI ⟨F2, r2, trivial⟩
  · refine zd_wO F zc_h8 (zc_frO zc_h8 (by decide) (by decide) rfl (by decide)) (by unfold zv_rg; omega) fun g3 F => ?_
    refine zm_if (fun c => ?_) (fun c => ?_)
    · exact zd_cV F (zd_C8_tellDocument F.2 zc_h8) fun g4 F => fin g4 F
    · refine zm_if (fun c => ?_) (fun c => ?_)
      · exact zd_cV F (zd_C8_tellLine F.2 zc_h8) fun g4 F => fin g4 F
      · exact zd_cV F (zd_C8_tellNames F.2) fun g4 F => fin g4 F
end
end
/-! A96.zn -/
section
/-! ===== the reference: what is asked changes no number (genzn.py) ===== -/
/-- the numbers of all STATES are as they were -/
def zn_e (c c' : Nat → Int) : Prop := ∀ k : Nat, k < 4236 → ¬ (4080 ≤ k ∧ k < 4156) → c' k = c k
def zn_X (h h' : zv_H) : Prop := (zm_F [348, 349, 350, 351, 352, 353, 354, 355, 356, 357, 358, 359, 360, 362, 363, 364, 365, 370, 371, 372] [3, 4, 10, 11, 12, 19, 24, 47] h h' ∧ zn_e (zv_I h 348) (zv_I h' 348)) ∧ zm_MI h'
theorem zn_e_r (c : Nat → Int) : zn_e c c := fun _ _ _ => rfl
theorem zn_X_r {h : zv_H} (i : zm_MI h) : zn_X h h := ⟨⟨zm_F_r _ _ h, zn_e_r _⟩, i⟩
theorem zn_X_t {a b c : zv_H} (x : zn_X a b) (y : zn_X b c) : zn_X a c := ⟨⟨zm_F_t x.1.1 y.1.1, fun k k1 k2 => (y.1.2 k k1 k2).trans (x.1.2 k k1 k2)⟩, y.2⟩
theorem zn_X_a {h h' : zv_H} {A B : List Nat} (i : zm_MI h) (f : zm_F A B h h') (hA : (A.all fun r => List.contains [348, 349, 350, 351, 352, 353, 354, 355, 356, 357, 358, 359, 360, 362, 363, 364, 365, 370, 371, 372] r) = true) (hB : (B.all fun r => List.contains [3, 4, 10, 11, 12, 19, 24] r) = true) (h348 : A.contains 348 = false) : zn_X h h' := by
  have g : zm_F [348, 349, 350, 351, 352, 353, 354, 355, 356, 357, 358, 359, 360, 362, 363, 364, 365, 370, 371, 372] [3, 4, 10, 11, 12, 19, 24] h h' := zm_F_s f hA hB
  have e : zv_I h' 348 = zv_I h 348 := zm_F_a f 348 h348
  have g2 : zm_F [348, 349, 350, 351, 352, 353, 354, 355, 356, 357, 358, 359, 360, 361, 362, 363, 364, 365, 366, 370, 371, 372] [3, 4, 10, 11, 12, 19, 24] h h' := zm_F_s g rfl rfl
  exact ⟨⟨zm_F_s g rfl rfl, by rw [e]; exact zn_e_r _⟩, (zm_X_of i g2 rfl rfl (by rw [e]; exact i.2.1)).2⟩
theorem zn_isq {h : zv_H} {d : Nat} {w : Int} {T : Int × zv_H → zv_O} (i : zm_MI h) (k : w = 0 → ∀ h1 : zv_H, zm_F [] [3, 4] h h1 → zm_MI h1 → zm_R (T (1, h1)) (zm_I fun _ h' => zn_X h h')) : zm_R ((C9_is (d + 1) 347 w h).bind fun q => if q.1 = 0 then (some (some (zv_i (-1)), q.2) : zv_O) else T q) (zm_I fun _ h' => zn_X h h') := by
  have f : zm_F [] [3, 4] h (zv_sI (zv_sI h 347 4 0) 347 3 w) := zm_F_f (zm_F_f (zm_F_r _ _ h) rfl _) rfl _
  have x := zn_X_a i f rfl rfl rfl
  exact zm_gb (zm_is i.1 d w) (fun _ => zm_iI x) (fun hw => k hw _ f x.2)
theorem zn_X_i {h h1 : zv_H} (x : zn_X h h1) {o : zv_O} (r : zm_R o (zm_I fun _ h' => zn_X h1 h')) : zm_R o (zm_I fun _ h' => zn_X h h') := by
  refine zm_mono r ?_
  rintro ⟨ov, h'⟩ ⟨v, e, y⟩
  exact ⟨v, e, zn_X_t x y⟩
theorem zn_rX {h : zv_H} {o : Option (Int × zv_H)} (i : zm_MI h) (e : ∃ r : Int, o = some (r, h)) : zm_R (o.bind fun q => (some (some (zv_i q.1), q.2) : zv_O)) (zm_I fun _ h' => zn_X h h') := by
  obtain ⟨r, e⟩ := e
  rw [e]
  exact zm_iI ⟨⟨zm_F_r _ _ h, zn_e_r _⟩, i⟩
theorem zn_rX0 {h : zv_H} {r : Int} (i : zm_MI h) : zm_R (some (some (zv_i r), h) : zv_O) (zm_I fun _ h' => zn_X h h') := zm_iI ⟨⟨zm_F_r _ _ h, zn_e_r _⟩, i⟩
theorem zn_rfX {h : zv_H} (i : zm_MI h) (d : Nat) (w : Int) : zm_R ((C9_refuse (d + 1) 347 w h).bind fun q => (some (some (zv_i q.1), q.2) : zv_O)) (zm_I fun _ h' => zn_X h h') := by
  rw [zm_e (zm_refuse i.1 d w)]
  exact zm_iI (zn_X_a (A := []) (B := [3]) i (zm_F_f (zm_F_r _ _ h) rfl _) rfl rfl rfl)
theorem zn_see {h : zv_H} (i : zm_MI h) (d : Nat) {s : Int} (hs : zm_st (zv_I h 348) s) : ∃ (h1 : zv_H) (l : List Int), C9_sees (d + 4) 347 s h = some h1 ∧ zm_F [351, 352, 353, 354, 355] [10, 11, 12] h h1 ∧ zm_MI h1 ∧ zn_X h h1 ∧ zm_Sn h1 (zv_I h1 348) l ∧ (∀ t ∈ l, zm_st (zv_I h1 348) t) ∧ l.length ≤ 48 ∧ zm_G0 (zv_I h1 348) l ∧ ((zm_row (zv_I h1 348) l).filter (zm_sn (zv_I h1 348) l)).length ≤ 120 ∧ zv_I h1 348 = zv_I h 348 := by
  obtain ⟨l, a1, a2, a3, a4⟩ := zm_W_l i.2.1.1 hs
  obtain ⟨h1, e1, f1, n1⟩ := zm_sees_st i.1 rfl d a1 a2 a3 a4
  have ec : zv_I h1 348 = zv_I h 348 := zm_F_a f1 348
  have x := zn_X_a i f1 rfl rfl rfl
  refine ⟨h1, s :: l, e1, f1, x.2, x, ?_⟩
  rw [ec]
  exact ⟨n1, a1.2.1.2.2, by rw [List.length_cons]; clear hs; omega, a3, a1.2.2.2.2.2.2, rfl⟩
theorem zn_gone {h : zv_H} (i : zm_MI h) (d : Nat) : zm_R (C9_gone (d + 5) 347 h) (fun q => zn_X h q.2) := by
  refine zm_cI (P := fun _ h' => zn_X h h') (lC9_gone (zm_ob i.1)) ?_
  obtain ⟨h1, l, e1, f1, i1, x1, n1, s1, m1, g1, _⟩ := zn_see i d i.2.1.2.1
  rw [qE9_gone, zm_e (zm_here i.1 _)]
  dsimp only
  rw [zm_e e1]
  have hp : 1 ≤ l.length := by
    cases l with
    | nil => cases g1.2.1
    | cons t b => exact Nat.le_add_left 1 _
  obtain ⟨r, er⟩ := zm_gone_l (d + 2) (zm_Sn_lh i1.1 n1) s1 m1 (l.length - 1) 1 0 (Nat.le_refl _) (Or.inl (by omega)) (by decide)
  rw [show L9_gone_12 (d + 4) 347 0 1 h1 = _ from er]
  exact zm_iI x1
theorem zn_many {h : zv_H} (i : zm_MI h) (d : Nat) (w : Int) : zm_R (C9_many (d + 10) 347 w h) (fun q => zn_X h q.2) := by
  refine zm_cI (P := fun _ h' => zn_X h h') (lC9_many (zm_ob i.1)) ?_
  have l16 : ∀ v : Int, zm_R (L9_many_16 (d + 9) 347 w 347 v h) (zm_I fun _ h' => zn_X h h') := by
    intro v
    rw [qL9_many_16]
    refine zn_isq i (fun _ h1 f1 i1 => zn_X_i (zn_X_a i f1 rfl rfl rfl) ?_)
    dsimp only
    obtain ⟨h2, l, e2, f2, i2, x2, n2, s2, m2, g2, _⟩ := zn_see i1 (d + 5) i1.2.1.2.1
    rw [zm_e (zm_here i1.1 _)]
    dsimp only
    rw [zm_e e2]
    refine zn_X_i x2 ?_
    refine zm_if (fun _ => zn_rX i2 ⟨_, zm_states i2.1 _ i2.2.1.1.1⟩) (fun _ => zm_if (fun _ => zn_rX i2 ⟨_, zm_here i2.1 _⟩) (fun _ => zm_if (fun _ => ?_) (fun _ => zm_if (fun _ => ?_) (fun _ => zm_if (fun _ => ?_) (fun _ => zm_if (fun _ => ?_) (fun _ => zm_if (fun _ => zn_rX i2 (zm_leaves i2.1 (d + 5))) (fun _ => zm_if (fun _ => zn_rX i2 (zm_groups i2 (d + 7))) (fun _ => zm_if (fun _ => ?_) (fun _ => ?_)))))))))
    · rw [zm_e (zm_f0 i2.1), zm_e (zm_aI i2.1 zm_l348 rfl (by decide) (by decide))]
      exact zn_rX0 i2
    · rw [zm_e (zm_gI i2.1 12)]
      exact zn_rX0 i2
    · rw [zm_e (zm_gI i2.1 11)]
      exact zn_rX0 i2
    · rw [zm_e (zm_f0 i2.1), zm_e (zm_aI i2.1 zm_l348 rfl (by decide) (by decide))]
      exact zn_rX0 i2
    · obtain ⟨⟨v3, h3⟩, e3, x3⟩ := zn_gone i2 (d + 4)
      rw [zm_e e3]
      exact zm_iI x3
    · rw [zm_e (zm_f0 i2.1), zm_e (zm_aI i2.1 zm_l348 rfl (by decide) (by decide))]
      exact zn_rX0 i2
  rw [qE9_many]
  exact zm_gb (zm_isIn _ w 0 9) (fun _ => l16 1) (fun _ => l16 0)
theorem zn_letter {h : zv_H} (i : zm_MI h) (d : Nat) (s p : Int) : zm_R (C9_letter (d + 10) 347 s p h) (fun q => zn_X h q.2) := by
  refine zm_cI (P := fun _ h' => zn_X h h') (lC9_letter (zm_ob i.1)) ?_
  have l22 : ∀ v : Int, (v = 0 → zm_st (zv_I h 348) s ∧ 0 ≤ p) → zm_R (L9_letter_22 (d + 9) 347 s p 347 v h) (zm_I fun _ h' => zn_X h h') := by
    intro v hv
    rw [qL9_letter_22]
    refine zn_isq i (fun hw h1 f1 i1 => zn_X_i (zn_X_a i f1 rfl rfl rfl) ?_)
    obtain ⟨hs, hp⟩ := hv hw
    obtain ⟨h2, l, e2, f2, i2, x2, n2, s2, m2, g2, b2, _⟩ := zn_see i1 (d + 5) (s := s) (by rw [zm_F_a f1 348]; exact hs)
    dsimp only
    rw [zm_e e2, zm_e (zm_gI i2.1 12), n2.2.2.2.2]
    refine zn_X_i x2 ?_
    refine zm_if (fun hlt => ?_) (fun _ => zn_rfX i2 _ 5)
    obtain ⟨n, en⟩ : ∃ n : Nat, p = n := ⟨p.toNat, by clear hs; omega⟩
    subst en
    have h640 := zm_row640 g2 m2
    have rp := zm_rp_in (zm_sn (zv_I h2 348) l) (zm_row (zv_I h2 348) l) n (by clear hs; omega)
    obtain ⟨x, hx⟩ : ∃ x, ((zm_row (zv_I h2 348) l).filter (zm_sn (zv_I h2 348) l))[n]? = some x := ⟨_, List.getElem?_eq_getElem (by clear hs; omega)⟩
    have hx2 := rp.2.trans hx
    have ok := zm_row_ok (fun t ht => zm_st48 (s2 t ht)) g2 x (List.mem_of_getElem? hx2)
    rw [zm_e (zm_rowPlace i2.1 _ n2 h640 hp (by clear hs; omega))]
    dsimp only
    obtain ⟨k, ek⟩ : ∃ k : Nat, zm_rp (zm_sn (zv_I h2 348) l) (zm_row (zv_I h2 348) l) n = k := ⟨(zm_rp (zm_sn (zv_I h2 348) l) (zm_row (zv_I h2 348) l) n).toNat, by have := rp.1; clear hs; omega⟩
    rw [ek]
    rw [ek] at hx2
    exact zn_rX i2 ⟨_, zm_letterIn i2.1 rfl (d + 7) n2.2.1 h640 (k := k) hx2 ok.1 (by have := ok.2; clear hs; omega)⟩
  rw [qE9_letter]
  refine zm_if (fun _ => l22 1 (fun q => by cases q)) (fun hp => ?_)
  exact zm_gb (zm_isState i.1 _ s) (fun _ => l22 2 (fun q => by cases q)) (fun hs => l22 0 (fun _ => ⟨hs, by clear hs; omega⟩))
theorem zn_state {h : zv_H} (i : zm_MI h) (d : Nat) (s w : Int) : zm_R (C9_state (d + 10) 347 s w h) (fun q => zn_X h q.2) := by
  refine zm_cI (P := fun _ h' => zn_X h h') (lC9_state (zm_ob i.1)) ?_
  have l28 : ∀ v : Int, (v = 0 → zm_st (zv_I h 348) s ∧ 0 ≤ w ∧ w ≤ 9) → zm_R (L9_state_28 (d + 9) 347 s w 347 v h) (zm_I fun _ h' => zn_X h h') := by
    intro v hv
    rw [qL9_state_28]
    refine zn_isq i (fun hw h1 f1 i1 => zn_X_i (zn_X_a i f1 rfl rfl rfl) ?_)
    obtain ⟨hs0, hp⟩ := hv hw
    have hs : zm_st (zv_I h1 348) s := by rw [zm_F_a f1 348]; exact hs0
    obtain ⟨l, a1, a2, a3, a4⟩ := zm_W_l i1.2.1.1 hs
    have h3 := i1.2.1.2.2.1
    dsimp only
    refine zm_if (fun c1 => ?_) (fun _ => zm_if (fun _ => zn_rX i1 ⟨_, zm_childrenOf i1.1 _ s⟩) (fun _ => zm_if (fun _ => zn_rX i1 ⟨_, zm_depthOf i1.1 _ a1.1 (by clear hs hs0; omega)⟩) (fun _ => zm_if (fun _ => ?_) (fun _ => ?_))))
    · rw [zm_w (x := 1 + w) (by clear hs hs0; omega)]
      exact zn_rX i1 ⟨_, zm_of i1.1 _ (zm_st48 hs) (by clear hs hs0; omega)⟩
    · obtain ⟨⟨n, h2⟩, e2, en, f2, n2⟩ := zm_lettersOf i1.1 (d + 4) (zm_sees_st i1.1 rfl (d + 4) a1 a2 a3 a4)
      rw [zm_e e2]
      exact zm_iI (zn_X_a i1 f2 rfl rfl rfl)
    · obtain ⟨u, eu, _⟩ := zm_namesOf i1.1 (d + 8) s h3
      exact zn_rX i1 ⟨u, eu⟩
  rw [qE9_state]
  refine zm_gb (zm_isIn _ w 0 9) (fun _ => l28 1 (fun q => by cases q)) (fun hw => ?_)
  exact zm_gb (zm_isState i.1 _ s) (fun _ => l28 2 (fun q => by cases q)) (fun hs => l28 0 (fun _ => ⟨hs, hw⟩))
theorem zn_child {h : zv_H} (i : zm_MI h) (d : Nat) (s n : Int) : zm_R (C9_child (d + 10) 347 s n h) (fun q => zn_X h q.2) := by
  refine zm_cI (P := fun _ h' => zn_X h h') (lC9_child (zm_ob i.1)) ?_
  have l22 : ∀ v : Int, zm_R (L9_child_22 (d + 9) 347 s n 347 v h) (zm_I fun _ h' => zn_X h h') := by
    intro v
    rw [qL9_child_22]
    refine zn_isq i (fun hw h1 f1 i1 => zn_X_i (zn_X_a i f1 rfl rfl rfl) ?_)
    have l46 : ∀ z : Int, zm_R (L9_child_46 (d + 9) 347 z h1) (zm_I fun _ h' => zn_X h1 h') := by
      intro z
      rw [qL9_child_46]
      exact zm_if (fun _ => zn_rfX i1 _ 5) (fun _ => zn_rX0 i1)
    dsimp only
    refine zm_if (fun _ => ?_) (fun _ => l46 (-1))
    obtain ⟨r, er, _⟩ := zm_childOf i1.1 (zm_WL_of i1.2.1.1) (d + 5) s n
    rw [zm_e er]
    exact l46 r
  rw [qE9_child]
  refine zm_if (fun _ => l22 1) (fun hp => ?_)
  exact zm_gb (zm_isState i.1 _ s) (fun _ => l22 2) (fun hs => l22 0)
theorem zn_force {h : zv_H} (i : zm_MI h) (d : Nat) (s t : Int) : zm_R (C9_force (d + 10) 347 s t h) (fun q => zn_X h q.2) := by
  refine zm_cI (P := fun _ h' => zn_X h h') (lC9_force (zm_ob i.1)) ?_
  have l43 : ∀ v : Int, (v = 0 → zm_st (zv_I h 348) s ∧ zm_st (zv_I h 348) t) → zm_R (L9_force_43 (d + 9) 347 s t 347 v h) (zm_I fun _ h' => zn_X h h') := by
    intro v hv
    rw [qL9_force_43]
    refine zn_isq i (fun hw h1 f1 i1 => zn_X_i (zn_X_a i f1 rfl rfl rfl) ?_)
    obtain ⟨hs, ht⟩ := hv hw
    obtain ⟨h2, l, e2, f2, i2, x2, n2, s2, m2, g2, b2, _⟩ := zn_see i1 (d + 5) (s := t) (by rw [zm_F_a f1 348]; exact ht)
    have s48 := zm_st48 hs
    have s49 : s < ((49 : Nat) : Int) := by
      clear hs ht
      omega
    dsimp only
    rw [zm_e e2, zm_e (zm_f8 i2.1), zm_e (zm_aB i2.1 zm_l354 (Or.inl rfl) rfl s48.1 s49)]
    refine zn_X_i x2 ?_
    exact zm_if (fun _ => zn_rX0 i2) (fun _ => zn_rX0 i2)
  rw [qE9_force]
  refine zm_gb (zm_isState i.1 _ s) (fun _ => ?_) (fun hs => ?_)
  · rw [qL9_force_17]
    exact l43 2 (fun q => by cases q)
  refine zm_gb (zm_isState i.1 _ t) (fun _ => ?_) (fun ht => ?_)
  · rw [qL9_force_17]
    exact l43 2 (fun q => by cases q)
  refine zm_gb (zm_isEdit i.1 _ (zm_st48 hs)) (fun _ => ?_) (fun _ => ?_)
  · rw [qL9_force_38]
    exact l43 5 (fun q => by cases q)
  obtain ⟨l, hl⟩ := zm_WL_of i.2.1.1 _ ht
  refine zm_gb (zm_isOfLine i.1 _ s hl) (fun _ => ?_) (fun _ => l43 0 (fun _ => ⟨hs, ht⟩))
  rw [qL9_force_38]
  exact l43 5 (fun q => by cases q)
theorem zn_blame {h : zv_H} (i : zm_MI h) (d : Nat) (p w : Int) : zm_R (C9_blame (d + 10) 347 p w h) (fun q => zn_X h q.2) := by
  refine zm_cI (P := fun _ h' => zn_X h h') (lC9_blame (zm_ob i.1)) ?_
  have l19 : ∀ v : Int, (v = 0 → 0 ≤ p) → zm_R (L9_blame_19 (d + 9) 347 p w 347 v h) (zm_I fun _ h' => zn_X h h') := by
    intro v hv
    rw [qL9_blame_19]
    refine zn_isq i (fun hw h1 f1 i1 => zn_X_i (zn_X_a i f1 rfl rfl rfl) ?_)
    have hp := hv hw
    obtain ⟨h2, l, e2, f2, i2, x2, n2, s2, m2, g2, b2, _⟩ := zn_see i1 (d + 5) i1.2.1.2.1
    dsimp only
    rw [zm_e (zm_here i1.1 _)]
    dsimp only
    rw [zm_e e2, zm_e (zm_gI i2.1 12), n2.2.2.2.2]
    refine zn_X_i x2 ?_
    refine zm_if (fun hlt => ?_) (fun _ => zn_rfX i2 _ 5)
    obtain ⟨n, en⟩ : ∃ n : Nat, p = n := ⟨p.toNat, by omega⟩
    subst en
    have h640 := zm_row640 g2 m2
    have rp := zm_rp_in (zm_sn (zv_I h2 348) l) (zm_row (zv_I h2 348) l) n (by omega)
    have rp2 := zm_rp_ge (zm_sn (zv_I h2 348) l) (zm_row (zv_I h2 348) l) n
    rw [zm_e (zm_rowPlace i2.1 _ n2 h640 hp (by omega))]
    dsimp only
    refine zm_if (fun _ => ?_) (fun _ => zm_if (fun _ => ?_) (fun _ => zn_rX0 i2))
    · rw [zm_e (zm_f6 i2.1), zm_e (zm_aI i2.1 zm_l352 rfl rp.1 (by omega))]
      exact zn_rX0 i2
    · rw [zm_e (zm_f7 i2.1), zm_e (zm_aI i2.1 zm_l353 rfl rp.1 (by omega))]
      exact zn_rX0 i2
  have l18 : zm_R (L9_blame_18 (d + 9) 347 p w 347 h) (zm_I fun _ h' => zn_X h h') := by
    rw [qL9_blame_18]
    exact l19 1 (fun q => by cases q)
  rw [qE9_blame]
  refine zm_if (fun _ => l18) (fun hp => ?_)
  exact zm_gb (zm_isIn _ w 0 2) (fun _ => l18) (fun _ => l19 0 (fun _ => by omega))
theorem zn_row_ {h : zv_H} (i : zm_MI h) (d : Nat) (p w : Int) : zm_R (C9_row (d + 10) 347 p w h) (fun q => zn_X h q.2) := by
  refine zm_cI (P := fun _ h' => zn_X h h') (lC9_row (zm_ob i.1)) ?_
  have l19 : ∀ v : Int, (v = 0 → 0 ≤ p) → zm_R (L9_row_19 (d + 9) 347 p w 347 v h) (zm_I fun _ h' => zn_X h h') := by
    intro v hv
    rw [qL9_row_19]
    refine zn_isq i (fun hw h1 f1 i1 => zn_X_i (zn_X_a i f1 rfl rfl rfl) ?_)
    have hp := hv hw
    obtain ⟨h2, l, e2, f2, i2, x2, n2, s2, m2, g2, b2, _⟩ := zn_see i1 (d + 5) i1.2.1.2.1
    dsimp only
    rw [zm_e (zm_here i1.1 _)]
    dsimp only
    rw [zm_e e2, zm_e (zm_gI i2.1 11), n2.2.1.1]
    refine zn_X_i x2 ?_
    refine zm_if (fun hlt => ?_) (fun _ => zn_rfX i2 _ 5)
    have h640 := zm_row640 g2 m2
    obtain ⟨n, en⟩ : ∃ n : Nat, p = n := ⟨p.toNat, by omega⟩
    subst en
    have j1 : (n : Int) < ((640 : Nat) : Int) := by omega
    obtain ⟨x, hx⟩ : ∃ x, (zm_row (zv_I h2 348) l)[n]? = some x := ⟨_, List.getElem?_eq_getElem (by omega)⟩
    have ok := zm_row_ok (fun t ht => zm_st48 (s2 t ht)) g2 x (List.mem_of_getElem? hx)
    refine zm_if (fun _ => zn_rX i2 ⟨_, zm_letterIn i2.1 rfl (d + 7) n2.2.1 h640 (k := n) hx ok.1 (by have := ok.2; omega)⟩) (fun _ => zm_if (fun _ => ?_) (fun _ => zm_if (fun _ => ?_) (fun _ => ?_)))
    · rw [zm_e (zm_f6 i2.1), zm_e (zm_aI i2.1 zm_l352 rfl hp j1)]
      exact zn_rX0 i2
    · rw [zm_e (zm_f9 i2.1), zm_e (zm_aB i2.1 zm_l355 (Or.inl rfl) rfl hp j1)]
      exact zm_if (fun _ => zn_rX0 i2) (fun _ => zn_rX0 i2)
    · rw [zm_e (zm_f6 i2.1), zm_e (zm_aI i2.1 zm_l352 rfl hp j1), zm_e (zm_f7 i2.1), zm_e (zm_aI i2.1 zm_l353 rfl hp j1)]
      have lp : 1 ≤ l.length := by
        cases l with
        | nil => cases g2.2.1
        | cons t b => exact Nat.le_add_left 1 _
      have l120 : ∀ z : Int, zm_R (L9_row_120 (d + 9) 347 (zv_I h2 352 ((n : Int)).toNat) (zv_I h2 353 ((n : Int)).toNat) z h2) (zm_I fun _ h' => zn_X h2 h') := by
        intro z
        have ec : ∃ r : Int, C9_cutsOf (d + 9) 347 (zv_I h2 352 ((n : Int)).toNat) (zv_I h2 353 ((n : Int)).toNat) z h2 = some (r, h2) := by
          have main : ∃ r : Int, E9_cutsOf (d + 8) 347 (zv_I h2 352 ((n : Int)).toNat) (zv_I h2 353 ((n : Int)).toNat) z h2 = some (some (zv_i r), h2) := by
            rw [qE9_cutsOf]
            by_cases c1 : z = 0
            · rw [if_pos c1]
              exact zm_cutsOf_l (d + 7) (zm_Sn_lh i2.1 n2) i2.2.1.1 s2 m2 _ _ _ (l.length - 1) 1 _ (Nat.le_refl _) (by omega)
            · rw [if_neg c1]
              exact zm_cutsOf_l (d + 7) (zm_Sn_lh i2.1 n2) i2.2.1.1 s2 m2 _ _ _ (l.length - 1) 1 _ (Nat.le_refl _) (by omega)
          obtain ⟨r, e⟩ := main
          exact ⟨r, lC9_cutsOf (zm_ob i2.1) e⟩
        rw [qL9_row_120]
        exact zn_rX i2 ec
      exact zm_if (fun _ => l120 1) (fun _ => l120 0)
  have l18 : zm_R (L9_row_18 (d + 9) 347 p w 347 h) (zm_I fun _ h' => zn_X h h') := by
    rw [qL9_row_18]
    exact l19 1 (fun q => by cases q)
  rw [qE9_row]
  refine zm_if (fun _ => l18) (fun hp => ?_)
  exact zm_gb (zm_isIn _ w 0 4) (fun _ => l18) (fun _ => l19 0 (fun _ => by omega))
theorem zn_visit {h : zv_H} (i : zm_MI h) (d : Nat) (n w : Int) : zm_R (C9_visit (d + 10) 347 n w h) (fun q => zn_X h q.2) := by
  refine zm_cI (P := fun _ h' => zn_X h h') (lC9_visit (zm_ob i.1)) ?_
  have l39 : ∀ v : Int, (v = 0 → (0 ≤ n ∧ n ≤ 39) ∧ 0 ≤ w ∧ w ≤ 1) → zm_R (L9_visit_39 (d + 9) 347 n w 347 v h) (zm_I fun _ h' => zn_X h h') := by
    intro v hv
    rw [qL9_visit_39]
    refine zn_isq i (fun hw h1 f1 i1 => zn_X_i (zn_X_a i f1 rfl rfl rfl) ?_)
    have hp := hv hw
    dsimp only
    rw [zm_e (zm_f0 i1.1), zm_w (x := 2 * n) (by omega), zm_w (x := 4156 + 2 * n) (by omega), zm_w (x := 4156 + 2 * n + w) (by omega), zm_e (zm_aI i1.1 zm_l348 rfl (by omega) (by omega))]
    exact zn_rX0 i1
  have l20 : zm_R (L9_visit_20 (d + 9) 347 n w 347 h) (zm_I fun _ h' => zn_X h h') := by
    rw [qL9_visit_20]
    exact l39 1 (fun q => by cases q)
  rw [qE9_visit]
  refine zm_gb (zm_isIn _ n 0 39) (fun _ => l20) (fun h1 => ?_)
  refine zm_gb (zm_isIn _ w 0 1) (fun _ => l20) (fun h2 => ?_)
  dsimp only
  rw [zm_e (zm_f0 i.1), zm_e (zm_aI i.1 zm_l348 rfl (by decide) (by decide))]
  exact zm_if (fun _ => l39 0 (fun _ => ⟨h1, h2⟩)) (fun _ => l39 5 (fun q => by cases q))
theorem zn_named {h : zv_H} (i : zm_MI h) (d : Nat) : zm_R (C9_named (d + 10) 347 h) (fun q => zn_X h q.2) := by
  refine zm_cI (P := fun _ h' => zn_X h h') (lC9_named (zm_ob i.1)) ?_
  have l19 : ∀ v : Int, zm_R (L9_named_19 (d + 9) 347 347 v h) (zm_I fun _ h' => zn_X h h') := by
    intro v
    rw [qL9_named_19]
    refine zn_isq i (fun hw h1 f1 i1 => zn_X_i (zn_X_a i f1 rfl rfl rfl) ?_)
    have h20 := i1.2.2.2.2.2.1
    have h3 := i1.2.1.2.2.1
    obtain ⟨u, eu⟩ := zm_packed i1.1 (d + 8) zm_l361 rfl (m := zv_I h1 347 20) (by omega) (by omega) (by decide)
    obtain ⟨k, ek, k0, k1⟩ := zm_nameAt i1.1 (d + 8) u h3
    dsimp only
    rw [zm_e (zm_f18 i1.1), zm_e (zm_gI i1.1 20), zm_e eu]
    dsimp only
    rw [zm_e ek]
    dsimp only
    refine zm_if (fun _ => zn_rfX i1 _ 5) (fun hk => ?_)
    rw [zm_e (zm_f0 i1.1), zm_w (x := 2 * k) (by omega), zm_w (x := 408 + 2 * k) (by omega), zm_w (x := 408 + 2 * k + 1) (by omega), zm_e (zm_aI i1.1 zm_l348 rfl (by omega) (by omega))]
    exact zn_rX0 i1
  rw [qE9_named, zm_e (zm_gI i.1 20)]
  exact zm_gb (zm_isIn _ _ 1 6) (fun _ => l19 1) (fun _ => l19 0)
theorem zn_leans {h : zv_H} (i : zm_MI h) (d : Nat) (s t : Int) : zm_R (C9_leans (d + 10) 347 s t h) (fun q => zn_X h q.2) := by
  refine zm_cI (P := fun _ h' => zn_X h h') (lC9_leans (zm_ob i.1)) ?_
  have l47 : ∀ v : Int, (v = 0 → (zm_st (zv_I h 348) s ∧ zm_ed (zv_I h 348) s) ∧ zm_st (zv_I h 348) t ∧ zm_ed (zv_I h 348) t) → zm_R (L9_leans_47 (d + 9) 347 s t 347 v h) (zm_I fun _ h' => zn_X h h') := by
    intro v hv
    rw [qL9_leans_47]
    refine zn_isq i (fun hw h1 f1 i1 => zn_X_i (zn_X_a i f1 rfl rfl rfl) ?_)
    obtain ⟨⟨a1, a2⟩, a3, a4⟩ := hv hw
    rw [← zm_F_a f1 348] at a1 a2 a3 a4
    obtain ⟨lt, hlt⟩ := zm_WL_of i1.2.1.1 _ a3
    obtain ⟨ls, hls⟩ := zm_WL_of i1.2.1.1 _ a1
    have lo : ∀ {x y : Int}, zm_st (zv_I h1 348) x → zm_ed (zv_I h1 348) x → zm_R ((C9_leansOn (d + 9) 347 x y h1).bind fun q => if q.1 = 0 then (some (some (zv_i 0), q.2) : zv_O) else some (some (zv_i 1), q.2)) (zm_I fun _ h' => zn_X h1 h') := by
      intro x y hx he
      obtain ⟨v, ev, _⟩ := zm_leansOn i1.1 (d + 7) i1.2.1.1 hx he y
      rw [zm_e ev]
      exact zm_if (fun _ => zn_rX0 i1) (fun _ => zn_rX0 i1)
    dsimp only
    refine zm_gb (zm_isOfLine i1.1 _ s hlt) (fun _ => ?_) (fun _ => lo a3 a4)
    exact zm_gb (zm_isOfLine i1.1 _ t hls) (fun _ => zn_rfX i1 _ 5) (fun _ => lo a1 a2)
  have l17 : zm_R (L9_leans_17 (d + 9) 347 s t 347 h) (zm_I fun _ h' => zn_X h h') := by
    rw [qL9_leans_17]
    exact l47 2 (fun q => by cases q)
  have l42 : zm_R (L9_leans_42 (d + 9) 347 s t 347 h) (zm_I fun _ h' => zn_X h h') := by
    rw [qL9_leans_42]
    exact l47 5 (fun q => by cases q)
  rw [qE9_leans]
  refine zm_gb (zm_isState i.1 _ s) (fun _ => l17) (fun hs => ?_)
  refine zm_gb (zm_isState i.1 _ t) (fun _ => l17) (fun ht => ?_)
  refine zm_if (fun _ => l42) (fun _ => ?_)
  refine zm_gb (zm_isEdit i.1 _ (zm_st48 hs)) (fun _ => l42) (fun hes => ?_)
  exact zm_gb (zm_isEdit i.1 _ (zm_st48 ht)) (fun _ => l42) (fun het => l47 0 (fun _ => ⟨⟨hs, hes⟩, ht, het⟩))
theorem zn_common {h : zv_H} (i : zm_MI h) (d : Nat) (s t : Int) : zm_R (C9_common (d + 10) 347 s t h) (fun q => zn_X h q.2) := by
  refine zm_cI (P := fun _ h' => zn_X h h') (lC9_common (zm_ob i.1)) ?_
  have l22 : ∀ v : Int, (v = 0 → zm_st (zv_I h 348) s ∧ zm_st (zv_I h 348) t) → zm_R (L9_common_22 (d + 9) 347 s t 347 v h) (zm_I fun _ h' => zn_X h h') := by
    intro v hv
    rw [qL9_common_22]
    refine zn_isq i (fun hw h1 f1 i1 => zn_X_i (zn_X_a i f1 rfl rfl rfl) ?_)
    obtain ⟨a1, a2⟩ := hv hw
    rw [← zm_F_a f1 348] at a1 a2
    obtain ⟨x, n, ls, lt, cm, _⟩ := zm_way3 i1 a1 a2
    exact zn_rX i1 ⟨x, cm (d + 6)⟩
  have l21 : zm_R (L9_common_21 (d + 9) 347 s t 347 h) (zm_I fun _ h' => zn_X h h') := by
    rw [qL9_common_21]
    exact l22 2 (fun q => by cases q)
  rw [qE9_common]
  refine zm_gb (zm_isState i.1 _ s) (fun _ => l21) (fun hs => ?_)
  exact zm_gb (zm_isState i.1 _ t) (fun _ => l21) (fun ht => l22 0 (fun _ => ⟨hs, ht⟩))
theorem zn_way {h : zv_H} (i : zm_MI h) (d : Nat) (s t p : Int) : zm_R (C9_way (d + 10) 347 s t p h) (fun q => zn_X h q.2) := by
  refine zm_cI (P := fun _ h' => zn_X h h') (lC9_way (zm_ob i.1)) ?_
  have l30 : ∀ v : Int, (v = 0 → 0 ≤ p ∧ zm_st (zv_I h 348) s ∧ zm_st (zv_I h 348) t) → zm_R (L9_way_30 (d + 9) 347 s t p 347 v h) (zm_I fun _ h' => zn_X h h') := by
    intro v hv
    rw [qL9_way_30]
    refine zn_isq i (fun hw h1 f1 i1 => zn_X_i (zn_X_a i f1 rfl rfl rfl) ?_)
    obtain ⟨hp, a1, a2⟩ := hv hw
    rw [← zm_F_a f1 348] at a1 a2
    obtain ⟨x, n, ls, lt, cm, dx, ds, wm, L1, L2, n0, n1, n2, m1, m2⟩ := zm_way3 i1 a1 a2
    clear a1 a2
    dsimp only
    rw [zm_e (ds (d + 7))]
    dsimp only
    rw [zm_e (cm (d + 6))]
    dsimp only
    rw [zm_e (dx (d + 7))]
    dsimp only
    rw [zm_e (wm (d + 5))]
    dsimp only
    rw [zm_w (x := (ls.length : Int) - n) (by omega)]
    refine zm_if (fun hle => ?_) (fun _ => zn_rfX i1 _ 5)
    have fin : ∀ {o : zv_O}, (∃ r : Int, o = some (some (zv_i r), h1)) → zm_R o (zm_I fun _ h' => zn_X h1 h') := by
      intro o ho
      obtain ⟨r, er⟩ := ho
      rw [er]
      exact zn_rX0 i1
    have l87 : ∀ u : Int, (p ≤ (ls.length : Int) - n → u = s) → (¬ p ≤ (ls.length : Int) - n → u = t) → zm_R (L9_way_87 (d + 9) 347 p ((ls.length : Int) - n) ((ls.length : Int) + lt.length - 2 * n) u h1) (zm_I fun _ h' => zn_X h1 h') := by
      intro u h1' h2'
      rw [qL9_way_87]
      refine zm_if (fun c => ?_) (fun c => ?_)
      · rw [h1' c]
        obtain ⟨m, em⟩ : ∃ m : Nat, p = m := ⟨p.toNat, by omega⟩
        subst em
        exact fin (zm_way105 i1.1 (d + 8) m L1 (by rw [List.length_cons]; omega) (by omega))
      · rw [h2' c, zm_w (x := (ls.length : Int) + lt.length - 2 * n - p) (by omega)]
        obtain ⟨m, em⟩ : ∃ m : Nat, (ls.length : Int) + lt.length - 2 * n - p = m := ⟨((ls.length : Int) + lt.length - 2 * n - p).toNat, by omega⟩
        rw [em]
        exact fin (zm_way105 i1.1 (d + 8) m L2 (by rw [List.length_cons]; omega) (by omega))
    exact zm_if (fun c => l87 s (fun _ => rfl) (fun q => absurd c q)) (fun c => l87 t (fun q => absurd q c) (fun _ => rfl))
  have l25 : zm_R (L9_way_25 (d + 9) 347 s t p 347 h) (zm_I fun _ h' => zn_X h h') := by
    rw [qL9_way_25]
    exact l30 2 (fun q => by cases q)
  rw [qE9_way]
  refine zm_if (fun _ => l30 1 (fun q => by cases q)) (fun hp => ?_)
  refine zm_gb (zm_isState i.1 _ s) (fun _ => l25) (fun hs => ?_)
  exact zm_gb (zm_isState i.1 _ t) (fun _ => l25) (fun ht => l30 0 (fun _ => ⟨by clear hs ht; omega, hs, ht⟩))
theorem zn_keptOf {h : zv_H} (i : zm_MI h) (d : Nat) {s t : Int} (hs : zm_st (zv_I h 348) s) (ht : zm_st (zv_I h 348) t) : ∃ (r : Int) (h' : zv_H), C9_keptOf (d + 6) 347 s t h = some (r, h') ∧ zn_X h h' ∧ zv_I h' 348 = zv_I h 348 := by
  obtain ⟨h1, l, e1, f1, i1, x1, n1, s1, m1, g1, b1, c1⟩ := zn_see i d hs
  have l640 := zm_row640 g1 m1
  obtain ⟨r, h2, e2, f2, r0, r1⟩ := zm_keysOf_l (d + 4) l640 (zm_row (zv_I h1 348) l).length 0 0 h1 (Nat.zero_add _) (by decide) (by decide) i1.1 n1.2.1.1
  have x2 := zn_X_a i1 f2 rfl rfl rfl
  have ek : C9_keysOf (d + 5) 347 s h = some (r, h2) := lC9_keysOf (zm_ob i.1) (by rw [qE9_keysOf, zm_e e1]; exact e2)
  have c2 : zv_I h2 348 = zv_I h 348 := (zm_F_a f2 348).trans c1
  obtain ⟨h3, l3, e3, f3, i3, x3, n3, s3, m3, g3, b3, c3⟩ := zn_see x2.2 (d + 1) (s := t) (by rw [c2]; exact ht)
  obtain ⟨n, en⟩ : ∃ n : Nat, r = n := ⟨r.toNat, by clear hs ht; omega⟩
  subst en
  obtain ⟨v, ev⟩ := zm_keptOf_l (d + 5) (zm_row640 g3 m3) i3.1 n3.2.1.1 (n := n) (by clear hs ht; omega) (zm_row (zv_I h3 348) l3).length 0 0 (Nat.zero_add _)
  refine ⟨v, h3, lC9_keptOf (zm_ob i.1) ?_, zn_X_t x1 (zn_X_t x2 x3), c3.trans c2⟩
  rw [qE9_keptOf, zm_e ek]
  dsimp only
  rw [zm_e e3]
  exact ev
theorem zn_cp {h : zv_H} (i : zm_MI h) (d : Nat) {s : Int} (hs : zm_st (zv_I h 348) s) {r : Nat} (hr : r = 356 ∨ r = 357) : ∃ (n : Nat) (h' : zv_H), C9_copies (d + 5) 347 s r h = some ((n : Int), h') ∧ zn_X h h' ∧ n ≤ 120 ∧ zv_I h' 348 = zv_I h 348 := by
  obtain ⟨l, a1, a2, a3, a4⟩ := zm_W_l i.2.1.1 hs
  obtain ⟨⟨n, h1⟩, e1, en, f1, n1, _⟩ := zm_copies i.1 rfl d (fun t ht => zm_st48 (a1.2.1.2.2 t ht)) a3 (by rw [List.length_cons]; clear hs; omega) (zm_sees_st i.1 rfl d a1 a2 a3 a4) hr
  dsimp only at en f1
  have b := a1.2.2.2.2.2.2
  refine ⟨((zm_row (zv_I h 348) (s :: l)).filter (zm_sn (zv_I h 348) (s :: l))).length, h1, by rw [e1, en], ?_, b, ?_⟩
  · rcases hr with q | q
    · subst q
      exact zn_X_a i f1 rfl rfl rfl
    · subst q
      exact zn_X_a i f1 rfl rfl rfl
  · rcases hr with q | q
    · subst q
      exact zm_F_a f1 348
    · subst q
      exact zm_F_a f1 348
theorem zn_differ {h : zv_H} (i : zm_MI h) (d : Nat) {s t : Int} (hs : zm_st (zv_I h 348) s) (ht : zm_st (zv_I h 348) t) : ∃ (r : Int) (h' : zv_H), C9_differ (d + 6) 347 s t h = some (r, h') ∧ zn_X h h' ∧ zv_I h' 348 = zv_I h 348 := by
  obtain ⟨a, h1, e1, x1, a1, c1⟩ := zn_cp i d hs (Or.inl rfl)
  obtain ⟨b, h2, e2, x2, b1, c2⟩ := zn_cp x1.2 d (s := t) (by rw [c1]; exact ht) (Or.inr rfl)
  obtain ⟨r, er⟩ := zm_differ_l x2.2.1 (d + 5) a1 b1 a 0 (Nat.zero_add _)
  refine ⟨r, h2, lC9_differ (zm_ob i.1) ?_, zn_X_t x1 x2, c2.trans c1⟩
  rw [qE9_differ, zm_e (zm_f13 i.1), zm_e e1]
  dsimp only
  rw [zm_e (zm_f14 x1.2.1), zm_e e2]
  exact er
theorem zn_lettersX {h : zv_H} (i : zm_MI h) (d : Nat) {s : Int} (hs : zm_st (zv_I h 348) s) : ∃ (r : Int) (h' : zv_H), C9_lettersOf (d + 5) 347 s h = some (r, h') ∧ zn_X h h' := by
  obtain ⟨l, a1, a2, a3, a4⟩ := zm_W_l i.2.1.1 hs
  obtain ⟨⟨n, h2⟩, e2, en, f2, n2⟩ := zm_lettersOf i.1 d (zm_sees_st i.1 rfl d a1 a2 a3 a4)
  exact ⟨n, h2, e2, zn_X_a i f2 rfl rfl rfl⟩
theorem zn_between {h : zv_H} (i : zm_MI h) (d : Nat) (s t w : Int) : zm_R (C9_between (d + 10) 347 s t w h) (fun q => zn_X h q.2) := by
  refine zm_cI (P := fun _ h' => zn_X h h') (lC9_between (zm_ob i.1)) ?_
  have l35 : ∀ v : Int, (v = 0 → zm_st (zv_I h 348) s ∧ zm_st (zv_I h 348) t) → zm_R (L9_between_35 (d + 9) 347 s t w 347 v h) (zm_I fun _ h' => zn_X h h') := by
    intro v hv
    rw [qL9_between_35]
    refine zn_isq i (fun hw h1 f1 i1 => zn_X_i (zn_X_a i f1 rfl rfl rfl) ?_)
    obtain ⟨a1, a2⟩ := hv hw
    rw [← zm_F_a f1 348] at a1 a2
    dsimp only
    refine zm_if (fun _ => ?_) (fun _ => ?_)
    · obtain ⟨r, h2, e2, x2, _⟩ := zn_differ i1 (d + 3) a1 a2
      rw [zm_e e2]
      exact zm_iI x2
    · obtain ⟨r, h2, e2, x2, c2⟩ := zn_keptOf i1 (d + 3) a1 a2
      rw [zm_e e2]
      refine zn_X_i x2 ?_
      refine zm_if (fun _ => zn_rX0 x2.2) (fun _ => zm_if (fun _ => ?_) (fun _ => ?_))
      · obtain ⟨r3, h3, e3, x3⟩ := zn_lettersX x2.2 (d + 4) (s := s) (by rw [c2]; exact a1)
        rw [zm_e e3]
        exact zm_iI x3
      · obtain ⟨r3, h3, e3, x3⟩ := zn_lettersX x2.2 (d + 4) (s := t) (by rw [c2]; exact a2)
        rw [zm_e e3]
        exact zm_iI x3
  have l30 : zm_R (L9_between_30 (d + 9) 347 s t w 347 h) (zm_I fun _ h' => zn_X h h') := by
    rw [qL9_between_30]
    exact l35 2 (fun q => by cases q)
  rw [qE9_between]
  refine zm_gb (zm_isIn _ w 0 3) (fun _ => l35 1 (fun q => by cases q)) (fun _ => ?_)
  refine zm_gb (zm_isState i.1 _ s) (fun _ => l30) (fun hs => ?_)
  exact zm_gb (zm_isState i.1 _ t) (fun _ => l30) (fun ht => l35 0 (fun _ => ⟨hs, ht⟩))
theorem zn_least {h : zv_H} (i : zm_MI h) (d : Nat) (s t : Int) : zm_R (C9_least (d + 10) 347 s t h) (fun q => zn_X h q.2) := by
  refine zm_cI (P := fun _ h' => zn_X h h') (lC9_least (zm_ob i.1)) ?_
  have l22 : ∀ v : Int, (v = 0 → zm_st (zv_I h 348) s ∧ zm_st (zv_I h 348) t) → zm_R (L9_least_22 (d + 9) 347 s t 347 v h) (zm_I fun _ h' => zn_X h h') := by
    intro v hv
    rw [qL9_least_22]
    refine zn_isq i (fun hw h1 f1 i1 => zn_X_i (zn_X_a i f1 rfl rfl rfl) ?_)
    obtain ⟨a1, a2⟩ := hv hw
    rw [← zm_F_a f1 348] at a1 a2
    obtain ⟨a, h2, e2, x2, p2, c2⟩ := zn_cp i1 (d + 4) a1 (Or.inl rfl)
    obtain ⟨b, h3, e3, x3, p3, c3⟩ := zn_cp x2.2 (d + 4) (s := t) (by rw [c2]; exact a2) (Or.inr rfl)
    obtain ⟨v, h4, e4, f4⟩ := zm_least58 (d + 9) p2 p3 (a + 1) 0 h3 (Nat.zero_add _) x3.2.1
    dsimp only
    rw [zm_e (zm_f13 i1.1), zm_e e2]
    dsimp only
    rw [zm_e (zm_f14 x2.2.1), zm_e e3]
    dsimp only
    rw [show L9_least_58 (d + 9) 347 a b 121 0 h3 = _ from e4]
    exact zm_iI (zn_X_t x2 (zn_X_t x3 (zn_X_a x3.2 f4 rfl rfl rfl)))
  have l21 : zm_R (L9_least_21 (d + 9) 347 s t 347 h) (zm_I fun _ h' => zn_X h h') := by
    rw [qL9_least_21]
    exact l22 2 (fun q => by cases q)
  rw [qE9_least]
  refine zm_gb (zm_isState i.1 _ s) (fun _ => l21) (fun hs => ?_)
  exact zm_gb (zm_isState i.1 _ t) (fun _ => l21) (fun ht => l22 0 (fun _ => ⟨hs, ht⟩))
theorem zn_X_o {h h' : zv_H} {A : List Nat} (i : zm_MI h) (f : zm_F A [3, 4, 10, 11, 12, 47] h h') (hA : (A.all fun r => List.contains [348, 349, 350, 351, 352, 353, 354, 355, 356, 357, 358, 359, 360, 362, 363, 364, 365, 370, 371, 372] r) = true) (h348 : A.contains 348 = false) (b : 0 ≤ zv_I h' 347 47 ∧ zv_I h' 347 47 ≤ 200) : zn_X h h' := by
  obtain ⟨i1, i2, i3, i4, i5, i6, i7⟩ := i
  refine ⟨⟨zm_F_s f hA rfl, by rw [zm_F_a f 348 h348]; exact zn_e_r _⟩, zm_F_M f i1, by rw [zm_F_a f 348 h348]; exact i2, zm_K_F i3 f, by rw [zm_F_g f 27]; exact i4, by rw [zm_F_g f 35]; exact i5, by rw [zm_F_g f 20]; exact i6, b⟩
theorem zn_tell118 (d : Nat) {h : zv_H} (i : zm_MI h) (w : Int) (h0 : w = 2 → zv_I h 347 47 = 0) : zm_R (L9_tell_118 (d + 3) 347 w h) (zm_I fun _ h' => zn_X h h') := by
  rw [qL9_tell_118]
  refine zm_if (fun c => ?_) (fun _ => ?_)
  · have h3 := i.2.1.2.2.1
    obtain ⟨m, em⟩ : ∃ m : Nat, zv_I h 348 3 = m := ⟨(zv_I h 348 3).toNat, by omega⟩
    have z := h0 c
    obtain ⟨h1, e1, f1, q0, q1⟩ := zm_tellsNames_l d (m := m) (by omega) m 0 h (Nat.zero_add _) i.1 em (by omega) (by omega)
    have e : C9_tellsNames (d + 3) 347 h = some h1 := lC9_tellsNames (zm_ob i.1) (by rw [qE9_tellsNames]; exact e1)
    rw [zm_e e, zm_e (zm_gI (zm_F_M f1 i.1) 47)]
    exact zm_iI (zn_X_o i (A := [372]) (zm_F_s f1 rfl rfl) rfl rfl (by omega))
  · rw [zm_e (zm_gI i.1 47)]
    exact zn_rX0 i
theorem zn_tell79 (d : Nat) (w : Int) {c : Nat → Int} {l : List Int} (hn : l.length ≤ 48) : ∀ (m k : Nat) (h : zv_H), k + m = l.length → zm_MI h → zm_lh c l h → (w = 2 → zv_I h 347 47 = 0) → (w = 1 → zv_I h 347 47 ≤ 3 * k) → zm_R (L9_tell_79 (d + 3) 347 w k h) (zm_I fun _ h' => zn_X h h')
  | 0, k, h, hk, i, hh, h0, h1 => by
    rw [qL9_tell_79, zm_e (zm_gI i.1 10), hh.2.2.1, if_neg (by omega)]
    exact zn_tell118 d i w h0
  | m + 1, k, h, hk, i, hh, h0, h1 => by
    have w1 : zv_w ((k : Int) + 1) = ((k + 1 : Nat) : Int) := by
      rw [zm_w (by omega)]
      rfl
    have i7 := i.2.2.2.2.2.2
    rw [qL9_tell_79, zm_e (zm_gI i.1 10), hh.2.2.1, if_pos (by omega)]
    refine zm_if (fun c1 => ?_) (fun _ => zn_tell118 d i w h0)
    have q1 := h1 c1
    have l102 : ∀ g : zv_H, zn_X h g → zm_lh c l g → zv_I g 347 47 ≤ 3 * (k : Int) + 1 → zm_R (L9_tell_102 (d + 3) 347 w k g) (zm_I fun _ h' => zn_X h h') := by
      intro g xg hg g1
      have ig := xg.2
      have g7 := ig.2.2.2.2.2.2
      obtain ⟨t, _, et⟩ := zm_lh_g hg hn (j := k) (by omega) (by omega)
      obtain ⟨h5, e5, f5, s5, s6⟩ := zm_tellsNumber ig.1 (d + 1) t (by omega)
      have x5 := zn_X_o ig (A := [372]) (zm_F_s f5 rfl rfl) rfl rfl (by omega)
      rw [qL9_tell_102, zm_e (zm_f5 ig.1), zm_e et, zm_e e5, w1]
      exact zn_X_i xg (zn_X_i x5 (zn_tell79 d w hn m (k + 1) h5 (by omega) x5.2 (zm_lh_F hg f5) (fun q => by rw [q] at c1; cases c1) (fun _ => by omega)))
    refine zm_if (fun _ => l102 h (zn_X_a (A := []) (B := []) i (zm_F_r _ _ h) rfl rfl rfl) hh (by omega)) (fun _ => ?_)
    obtain ⟨h4, e4, f4, s4⟩ := zm_tells i.1 (d + 2) 60 (by omega)
    rw [zm_e e4]
    exact l102 h4 (zn_X_o i (A := [372]) (zm_F_s f4 rfl rfl) rfl rfl (by omega)) (zm_lh_F hh f4) (by omega)
theorem zn_tell38 (d : Nat) (w : Int) {c : Nat → Int} {l : List Int} (hn : l.length ≤ 48) (g : zm_G0 c l) (hl : ∀ t ∈ l, 0 ≤ t ∧ t ≤ 48) (hb : ((zm_row c l).filter (zm_sn c l)).length ≤ 120) : ∀ (b a : List (Int × Int)), a ++ b = zm_row c l → ∀ h : zv_H, zm_MI h → zv_I h 348 = c → zm_Sn h c l → (w ≠ 0 → zv_I h 347 47 = 0) → (w = 0 → zv_I h 347 47 = (a.filter (zm_sn c l)).length) → zm_R (L9_tell_38 (d + 3) 347 w a.length h) (zm_I fun _ h' => zn_X h h')
  | [], a, e, h, i, hc, n, h0, h1 => by
    have lp : 0 + l.length = l.length := Nat.zero_add _
    rw [List.append_nil] at e
    rw [qL9_tell_38, zm_e (zm_gI i.1 11), n.2.1.1, if_neg (by rw [e]; exact Int.lt_irrefl _)]
    exact zn_tell79 d w hn l.length 0 h lp i ⟨i.1, hc, n.1.1, n.1.2⟩ (fun q => h0 (by rw [q]; decide)) (fun q => by rw [h0 (by rw [q]; decide)]; exact Int.le_refl _)
  | x :: b, a, e, h, i, hc, n, h0, h1 => by
    have h640 := zm_row640 g hn
    have hlen : (zm_row c l).length = a.length + (b.length + 1) := by rw [← e, List.length_append, List.length_cons]
    have hx : (zm_row c l)[a.length]? = some x := by
      rw [← e, List.getElem?_append_right (Nat.le_refl _), Nat.sub_self]
      rfl
    have e' : (a ++ [x]) ++ b = zm_row c l := by
      rw [List.append_assoc]
      exact e
    have w1 : zv_w ((a.length : Int) + 1) = (((a ++ [x]).length : Nat) : Int) := by
      rw [zm_w (by omega), List.length_append]
      rfl
    rw [qL9_tell_38, zm_e (zm_gI i.1 11), n.2.1.1, if_pos (by omega)]
    refine zm_if (fun c0 => ?_) (fun c0 => zn_tell79 d w hn l.length 0 h (Nat.zero_add _) i ⟨i.1, hc, n.1.1, n.1.2⟩ (fun _ => h0 c0) (fun _ => by rw [h0 c0]; exact Int.le_refl _))
    have q1 := h1 c0
    rw [zm_e (zm_f9 i.1), zm_e (zm_aB i.1 zm_l355 (Or.inl rfl) rfl (by omega) (by omega)), show ((a.length : Int)).toNat = a.length by omega, n.2.2.2.1 _ x hx, w1]
    by_cases c1 : zm_sn c l x = true
    · have ok := zm_row_ok hl g x (List.mem_of_getElem? hx)
      have hfa : (a.filter (zm_sn c l)).length + 1 ≤ 120 := by
        have : ((zm_row c l).filter (zm_sn c l)).length = (a.filter (zm_sn c l)).length + (1 + (b.filter (zm_sn c l)).length) := by
          rw [← e, List.filter_append, List.length_append, List.filter_cons_of_pos c1, List.length_cons]
          omega
        omega
      rw [if_pos c1, if_neg (by decide), zm_e (zm_letterIn i.1 hc (d + 1) n.2.1 h640 hx ok.1 (by have := ok.2; omega))]
      dsimp only
      obtain ⟨h4, e4, f4, s4⟩ := zm_tells i.1 (d + 2) (zv_w (97 + zm_lt c x)) (by omega)
      have x4 := zn_X_o i (A := [372]) (zm_F_s f4 rfl rfl) rfl rfl (by omega)
      rw [zm_e e4]
      refine zn_X_i x4 (zn_tell38 d w hn g hl hb b (a ++ [x]) e' h4 x4.2 ((zm_F_a f4 348).trans hc) (zm_Sn_F n f4) (fun q => absurd c0 q) (fun _ => ?_))
      rw [s4, q1, List.filter_append, List.length_append, List.filter_cons_of_pos c1]
      rfl
    · rw [if_neg c1, if_pos rfl]
      refine zn_tell38 d w hn g hl hb b (a ++ [x]) e' h i hc n (fun q => absurd c0 q) (fun _ => ?_)
      rw [q1, List.filter_append, List.length_append, List.filter_cons_of_neg c1]
      rfl
theorem zn_tell {h : zv_H} (i : zm_MI h) (d : Nat) (w : Int) : zm_R (C9_tell (d + 10) 347 w h) (fun q => zn_X h q.2) := by
  refine zm_cI (P := fun _ h' => zn_X h h') (lC9_tell (zm_ob i.1)) ?_
  have l15 : ∀ v : Int, zm_R (L9_tell_15 (d + 9) 347 w 347 v h) (zm_I fun _ h' => zn_X h h') := by
    intro v
    rw [qL9_tell_15]
    refine zn_isq i (fun hw h1 f1 i1 => zn_X_i (zn_X_a i f1 rfl rfl rfl) ?_)
    dsimp only
    rw [zm_e (zm_pI i1.1 47 0)]
    have f2 : zm_F [] [3, 4, 10, 11, 12, 47] h1 (zv_sI h1 347 47 0) := zm_F_f (zm_F_r _ _ h1) rfl _
    have e2 : zv_I (zv_sI h1 347 47 0) 347 47 = 0 := by rw [zm_sgI, if_pos rfl]
    generalize zv_sI h1 347 47 0 = h2 at f2 e2
    have x2 := zn_X_o i1 f2 rfl rfl (by rw [e2]; decide)
    have i2 := x2.2
    obtain ⟨h3, l, e3, f3, i3, x3, n3, s3, m3, g3, b3, c3⟩ := zn_see i2 (d + 5) i2.2.1.2.1
    rw [zm_e (zm_here i2.1 _)]
    dsimp only
    rw [zm_e e3]
    refine zn_X_i x2 (zn_X_i x3 ?_)
    have z : zv_I h3 347 47 = 0 := (zm_F_g f3 47).trans e2
    exact zn_tell38 (d + 6) w m3 g3 (fun t ht => zm_st48 (s3 t ht)) b3 (zm_row (zv_I h3 348) l) [] rfl h3 i3 rfl n3 (fun _ => z) (fun _ => z)
  rw [qE9_tell]
  exact zm_gb (zm_isIn _ w 0 2) (fun _ => l15 1) (fun _ => l15 0)
theorem zn_out {h : zv_H} (i : zm_MI h) (d : Nat) (n : Int) : zm_R (C9_out (d + 10) 347 n h) (fun q => zn_X h q.2) := by
  refine zm_cI (P := fun _ h' => zn_X h h') (lC9_out (zm_ob i.1)) ?_
  have i7 := i.2.2.2.2.2.2
  have l22 : ∀ v : Int, (v = 0 → 0 ≤ n ∧ n < 200) → zm_R (L9_out_22 (d + 9) 347 n 347 v h) (zm_I fun _ h' => zn_X h h') := by
    intro v hv
    rw [qL9_out_22]
    refine zn_isq i (fun hw h1 f1 i1 => zn_X_i (zn_X_a i f1 rfl rfl rfl) ?_)
    have hn := hv hw
    dsimp only
    rw [zm_e (zm_f46 i1.1), zm_e (zm_aI i1.1 zm_l372 rfl hn.1 (by omega))]
    exact zn_rX0 i1
  rw [qE9_out]
  refine zm_if (fun _ => l22 1 (fun q => by cases q)) (fun c1 => ?_)
  rw [zm_e (zm_gI i.1 47)]
  exact zm_if (fun c2 => l22 0 (fun _ => by omega)) (fun _ => l22 5 (fun q => by cases q))
theorem zn_placeIn {h : zv_H} (i : zm_MI h) (d : Nat) {s : Int} (hs : zm_st (zv_I h 348) s) : ∃ (r : Int) (h' : zv_H), C9_placeIn (d + 6) 347 s h = some (r, h') ∧ zn_X h h' ∧ zv_I h' 348 = zv_I h 348 := by
  obtain ⟨n, h1, e1, x1, n1, c1⟩ := zn_cp i d hs (Or.inl rfl)
  have h20 := x1.2.2.2.2.2.2.1
  obtain ⟨m, em⟩ : ∃ m : Nat, zv_I h1 347 20 = m := ⟨(zv_I h1 347 20).toNat, by clear hs; omega⟩
  obtain ⟨r, er⟩ := zm_placeIn_l x1.2.1 (d + 5) n1 (m := m) (by clear hs; omega) em (n + 1) 0 (Nat.zero_add _)
  refine ⟨r, h1, lC9_placeIn (zm_ob i.1) ?_, x1, c1⟩
  rw [qE9_placeIn, zm_e (zm_f13 i.1), zm_e e1]
  exact er
theorem zn_find {h : zv_H} (i : zm_MI h) (d : Nat) (w : Int) : zm_R (C9_find (d + 10) 347 w h) (fun q => zn_X h q.2) := by
  refine zm_cI (P := fun _ h' => zn_X h h') (lC9_find (zm_ob i.1)) ?_
  have l107 : ∀ (v : Int) (g : zv_H), zm_MI g → zm_R (L9_find_107 (d + 9) 347 v g) (zm_I fun _ h' => zn_X g h') := by
    intro v g ig
    rw [qL9_find_107]
    exact zm_if (fun _ => zn_rfX ig _ 5) (fun _ => zn_rX0 ig)
  have l81 : ∀ (a b : Int) (g : zv_H), zm_MI g → zm_R (L9_find_81 (d + 9) 347 w a b g) (zm_I fun _ h' => zn_X g h') := by
    intro a b g ig
    rw [qL9_find_81]
    refine zm_if (fun _ => ?_) (fun _ => zm_if (fun _ => l107 a g ig) (fun _ => l107 b g ig))
    rw [zm_e (zm_here ig.1 _)]
    dsimp only
    obtain ⟨r, h2, e2, x2, _⟩ := zn_placeIn ig (d + 3) ig.2.1.2.1
    rw [zm_e e2]
    exact zn_X_i x2 (l107 r h2 x2.2)
  have l38 : ∀ (m : Nat) (k a b : Int) (g : zv_H), k + 1 = m → k ≤ 47 → zm_MI g → zm_R (L9_find_38 (d + 9) 347 w a b k g) (zm_I fun _ h' => zn_X g h') := by
    intro m
    induction m with
    | zero =>
      intro k a b g hk h47 ig
      rw [qL9_find_38, if_pos (by omega)]
      exact l81 a b g ig
    | succ m ih =>
      intro k a b g hk h47 ig
      have w1 : zv_w (k + -1) = k - 1 := by
        rw [zm_w (by omega)]
        omega
      have k1 : k - 1 + 1 = m := by omega
      have k2 : k - 1 ≤ 47 := by omega
      rw [qL9_find_38, if_neg (by omega), w1]
      refine zm_if (fun _ => ?_) (fun _ => l81 a b g ig)
      refine zm_gb (zm_isState ig.1 _ k) (fun _ => ih (k - 1) a b g k1 k2 ig) (fun hs => ?_)
      dsimp only
      obtain ⟨r, h2, e2, x2, _⟩ := zn_placeIn ig (d + 3) hs
      rw [zm_e e2]
      refine zn_X_i x2 ?_
      exact zm_if (fun _ => ih (k - 1) a b h2 k1 k2 x2.2) (fun _ => ih (k - 1) _ k h2 k1 k2 x2.2)
  have l22 : ∀ v : Int, zm_R (L9_find_22 (d + 9) 347 w 347 v h) (zm_I fun _ h' => zn_X h h') := by
    intro v
    rw [qL9_find_22]
    exact zn_isq i (fun hw h1 f1 i1 => zn_X_i (zn_X_a i f1 rfl rfl rfl) (l38 48 47 0 (-1) h1 (by decide) (by decide) i1))
  have l21 : zm_R (L9_find_21 (d + 9) 347 w 347 h) (zm_I fun _ h' => zn_X h h') := by
    rw [qL9_find_21]
    exact l22 1
  rw [qE9_find]
  refine zm_gb (zm_isIn _ w 0 2) (fun _ => l21) (fun _ => ?_)
  dsimp only
  rw [zm_e (zm_gI i.1 20)]
  exact zm_if (fun _ => l21) (fun _ => l22 0)
theorem zn_first {h : zv_H} (i : zm_MI h) (d : Nat) : zm_R (C9_first (d + 10) 347 h) (fun q => zn_X h q.2) := by
  refine zm_cI (P := fun _ h' => zn_X h h') (lC9_first (zm_ob i.1)) ?_
  have f : zm_F [] [3, 4] h (zv_sI (zv_sI h 347 4 0) 347 3 0) := zm_F_f (zm_F_f (zm_F_r _ _ h) rfl _) rfl _
  have x1 := zn_X_a i f rfl rfl rfl
  obtain ⟨v, ev, _⟩ := zm_firstOut x1.2.1 rfl x1.2.2.1.2.2.1 (d + 5)
  rw [qE9_first, zm_e (zm_is i.1 _ 0)]
  dsimp only
  rw [zm_e ev]
  exact zn_X_i x1 (zm_if (fun _ => zn_rfX x1.2 _ 5) (fun _ => zn_rX0 x1.2))
theorem zn_twin {h : zv_H} (i : zm_MI h) (d : Nat) (s : Int) : zm_R (C9_twin (d + 10) 347 s h) (fun q => zn_X h q.2) := by
  refine zm_cI (P := fun _ h' => zn_X h h') (lC9_twin (zm_ob i.1)) ?_
  have l24 : ∀ (m k : Nat) (g : zv_H), k + m = 48 → zm_MI g → zm_st (zv_I g 348) s → zm_R (L9_twin_24 (d + 9) 347 s k g) (zm_I fun _ h' => zn_X g h') := by
    intro m
    induction m with
    | zero =>
      intro k g hk ig hs
      rw [qL9_twin_24, if_neg (by clear hs; omega)]
      exact zn_rfX ig _ 5
    | succ m ih =>
      intro k g hk ig hs
      have w1 : zv_w ((k : Int) + 1) = ((k + 1 : Nat) : Int) := by
        rw [zm_w (by clear hs; omega)]
        rfl
      have k1 : (k + 1) + m = 48 := by
        clear hs
        omega
      rw [qL9_twin_24, if_pos (by clear hs; omega), w1]
      refine zm_gb (zm_isState ig.1 _ k) (fun _ => ih (k + 1) g k1 ig hs) (fun hk2 => ?_)
      dsimp only
      refine zm_if (fun _ => ih (k + 1) g k1 ig hs) (fun _ => ?_)
      obtain ⟨r, h2, e2, x2, c2⟩ := zn_differ ig (d + 3) hk2 hs
      rw [zm_e e2]
      refine zn_X_i x2 ?_
      exact zm_if (fun _ => zn_rX0 x2.2) (fun _ => ih (k + 1) h2 k1 x2.2 (by rw [c2]; exact hs))
  have l14 : ∀ v : Int, (v = 0 → zm_st (zv_I h 348) s) → zm_R (L9_twin_14 (d + 9) 347 s 347 v h) (zm_I fun _ h' => zn_X h h') := by
    intro v hv
    rw [qL9_twin_14]
    exact zn_isq i (fun hw h1 f1 i1 => zn_X_i (zn_X_a i f1 rfl rfl rfl) (l24 48 0 h1 (Nat.zero_add _) i1 (by rw [zm_F_a f1 348]; exact hv hw)))
  rw [qE9_twin]
  exact zm_gb (zm_isState i.1 _ s) (fun _ => l14 2 (fun q => by cases q)) (fun hs => l14 0 (fun _ => hs))
theorem zn_back {h : zv_H} (i : zm_MI h) (d : Nat) (n : Int) : zm_R (C9_back (d + 10) 347 n h) (fun q => zn_X h q.2) := by
  refine zm_cI (P := fun _ h' => zn_X h h') (lC9_back (zm_ob i.1)) ?_
  have l31 : ∀ (g : zv_H), zm_MI g → n ≤ 48 → ∀ (m k : Nat) (s : Int), n ≤ ((k + m : Nat) : Int) → k ≤ 100 → zm_st (zv_I g 348) s → zm_R (L9_back_31 (d + 9) 347 n s k g) (zm_I fun _ h' => zn_X g h') := by
    intro g ig hn m
    induction m with
    | zero =>
      intro k s hk k1 hs
      rw [qL9_back_31, if_neg (by clear hs; omega)]
      exact zn_rX0 ig
    | succ m ih =>
      intro k s hk k1 hs
      rw [qL9_back_31]
      refine zm_if (fun hlt => ?_) (fun _ => zn_rX0 ig)
      refine zm_if (fun _ => zn_rfX ig _ 5) (fun h0 => ?_)
      obtain ⟨p1, p2⟩ := zm_fp ig.2.1.1 hs h0
      have w1 : zv_w ((k : Int) + 1) = ((k + 1 : Nat) : Int) := by
        clear hs p1 p2
        rw [zm_w (by omega)]
        rfl
      rw [zm_e (zm_of ig.1 _ (zm_st48 hs) (by decide))]
      dsimp only
      rw [zm_e (zm_of ig.1 _ (zm_st48 p1) (by decide)), w1]
      exact ih (k + 1) _ (by clear hs p1 p2; omega) (by clear hs p1 p2; omega) p2
  have l16 : ∀ v : Int, (v = 0 → 1 ≤ n ∧ n ≤ 48) → zm_R (L9_back_16 (d + 9) 347 n 347 v h) (zm_I fun _ h' => zn_X h h') := by
    intro v hv
    rw [qL9_back_16]
    refine zn_isq i (fun hw h1 f1 i1 => zn_X_i (zn_X_a i f1 rfl rfl rfl) ?_)
    have hn := hv hw
    dsimp only
    rw [zm_e (zm_here i1.1 _)]
    exact l31 h1 i1 hn.2 48 0 _ (by omega) (by decide) i1.2.1.2.1
  rw [qE9_back]
  exact zm_gb (zm_isIn _ n 1 48) (fun _ => l16 1 (fun q => by cases q)) (fun hn => l16 0 (fun _ => hn))
theorem zn_status {h : zv_H} (i : zm_MI h) (d : Nat) : zm_R (C9_status (d + 10) 347 h) (fun q => zn_X h q.2) := by
  refine zm_cI (P := fun _ h' => zn_X h h') (lC9_status (zm_ob i.1)) ?_
  have f : zm_F [] [4] h (zv_sI h 347 4 0) := zm_F_f (zm_F_r _ _ h) rfl _
  rw [qE9_status, zm_e (zm_pI i.1 4 0), zm_e (zm_gI (zm_F_M f i.1) 3)]
  exact zm_iI (zn_X_a i f rfl rfl rfl)
theorem zn_fault {h : zv_H} (i : zm_MI h) (d : Nat) (n : Int) : zm_R (C9_fault (d + 10) 347 n h) (fun q => zn_X h q.2) := by
  refine zm_cI (P := fun _ h' => zn_X h h') (lC9_fault (zm_ob i.1)) ?_
  have f : zm_F [] [4] h (zv_sI h 347 4 0) := zm_F_f (zm_F_r _ _ h) rfl _
  have x := zn_X_a i f rfl rfl rfl
  rw [qE9_fault, zm_e (zm_pI i.1 4 0)]
  refine zm_if (fun _ => ?_) (fun _ => zm_if (fun _ => ?_) (fun _ => zm_iI x))
  · rw [zm_e (zm_gI x.2.1 28)]
    exact zm_iI x
  · rw [zm_e (zm_gI x.2.1 29)]
    exact zm_iI x
end
/-! A97.zn -/
section
/-! ===== the reference: leaning changes no number ===== -/
theorem zn_of {h h' : zv_H} {A B : List Nat} (i : zm_MI h) (f : zm_F A B h h') (hA : (A.all fun r => List.contains [348, 349, 350, 351, 352, 353, 354, 355, 356, 357, 358, 359, 360, 362, 363, 364, 365, 370, 371, 372] r) = true) (hB : (B.all fun r => List.contains [3, 4, 10, 11, 12, 19, 24] r) = true) (w : zm_W (zv_I h' 348)) (e : ∀ k : Nat, ¬ (4080 ≤ k ∧ k < 4156) → zv_I h' 348 k = zv_I h 348 k) : zn_X h h' := by
  have g : zm_F [348, 349, 350, 351, 352, 353, 354, 355, 356, 357, 358, 359, 360, 362, 363, 364, 365, 370, 371, 372] [3, 4, 10, 11, 12, 19, 24] h h' := zm_F_s f hA hB
  have g2 : zm_F [348, 349, 350, 351, 352, 353, 354, 355, 356, 357, 358, 359, 360, 361, 362, 363, 364, 365, 366, 370, 371, 372] [3, 4, 10, 11, 12, 19, 24] h h' := zm_F_s g rfl rfl
  exact ⟨⟨zm_F_s g rfl rfl, fun k _ k2 => e k k2⟩, (zm_X_of i g2 rfl rfl w).2⟩
theorem zn_let48 {h : zv_H} (i : zm_MI h) (d : Nat) {act : Int} (ha : act = 2 ∨ act = 3) : ∃ (r : Int) (h' : zv_H), ((C9_triesNames (d + 6) 347 act h).bind fun q3 => (C9_lettersOf (d + 6) 347 48 q3.2).bind fun q4 => (some (some (zv_i q4.1), q4.2) : zv_O)) = some (some (zv_i r), h') ∧ zn_X h h' := by
  obtain ⟨⟨many, h2⟩, e2, f2, tr, m0, m1⟩ := zm_triesNames i.1 rfl i.2.1 (d + 1) act
  dsimp only at f2 tr m0 m1
  have w2 := zm_Tr_W tr i.2.1
  have x2 := zn_of i f2 rfl rfl w2 tr.1
  have hM2 := x2.2.1
  generalize hc2 : zv_I h2 348 = c2 at tr w2
  obtain ⟨l, hl, hl2, g, gt⟩ := zm_W_l i.2.1.1 i.2.1.2.1
  have hagl : ∀ t ∈ zv_I h 348 0 :: l, zm_ag (zv_I h 348) c2 t := fun t ht => by
    have hst := hl.2.1.2.2 t ht
    exact zm_Tr_ag tr hst.1.1 hst.1.2
  have n48 : ¬ (48 : Int) ∈ zv_I h 348 0 :: l := fun q => by
    have := (hl.2.1.2.2 48 q).1
    omega
  have hLn : zm_Ln c2 (48 :: zv_I h 348 0 :: l) 48 := by
    refine ⟨by decide, ?_⟩
    rw [tr.2.1]
    exact zm_Ln_cg hagl hl.1
  have ned : ¬ zm_ed c2 48 := by
    intro q
    have h3 := tr.2.2.1
    rcases q with q | q
    · rw [h3] at q
      omega
    · rw [h3] at q
      omega
  have g48 : zm_G0 c2 (48 :: zv_I h 348 0 :: l) := by
    obtain ⟨a1, a2, a3, a4, a5⟩ := g
    have a0 := hagl 0 (List.mem_of_getLast? a2)
    refine ⟨List.nodup_cons.mpr ⟨n48, a1⟩, by rw [List.getLast?_cons_cons]; exact a2, by rw [a0 5 (by decide) (by decide) (by decide)]; exact a3, by rw [a0 2 (by decide) (by decide) (by decide)]; exact a4, fun t ht h0 he => ?_⟩
    rcases List.mem_cons.mp ht with q | q
    · rw [q] at he
      exact absurd he ned
    · rw [hagl t q 5 (by decide) (by decide) (by decide)]
      exact a5 t q h0 ((zm_ed_cg (hagl t q)).mp he)
  have gt48 : ∀ t ∈ 48 :: zv_I h 348 0 :: l, zm_o c2 t 2 = 1 → ∀ p ∈ zm_tk c2 t, p ∈ zm_row c2 (48 :: zv_I h 348 0 :: l) := by
    intro t ht hk p hp
    rcases List.mem_cons.mp ht with q | q
    · rw [q] at hk
      exact absurd (Or.inr hk) ned
    · rw [hagl t q 2 (by decide) (by decide) (by decide)] at hk
      rw [zm_tk_cg (hagl t q) (zm_cut12 g t q hk)] at hp
      rw [zm_row_c c2 48 (List.cons_ne_nil _ _), if_neg (fun q => ned (Or.inl q)), zm_row_cg hagl]
      exact gt t q hk p hp
  have ln : (48 :: zv_I h 348 0 :: l).length ≤ 49 := by
    rw [List.length_cons, List.length_cons]
    omega
  obtain ⟨⟨n, h3⟩, e3, en, f3, _⟩ := zm_lettersOf hM2 (d + 1) (zm_sees hM2 hc2 (d + 1) (by decide) hLn ln g48 gt48)
  dsimp only at f3
  exact ⟨n, h3, by rw [zm_e e2]; dsimp only; rw [zm_e e3], zn_X_t x2 (zn_X_a x2.2 f3 rfl rfl rfl)⟩
theorem zn_marksS {h : zv_H} (i : zm_MI h) (d : Nat) (s back : Int) : ∃ (h' : zv_H) (l : List Int), C9_marks (d + 5) 347 s back h = some h' ∧ zn_X h h' ∧ zm_Sn h' (zv_I h' 348) l ∧ (∀ t ∈ l, zm_st (zv_I h' 348) t) ∧ l.length ≤ 48 ∧ zm_G0 (zv_I h' 348) l := by
  have hM := i.1
  obtain ⟨l, hl, hl2, g, gt⟩ := zm_W_l i.2.1.1 i.2.1.2.1
  obtain ⟨h1, e1, f1, hSn⟩ := zm_sees_st hM rfl d hl hl2 g gt
  have hM1 := zm_F_M f1 hM
  have c1 : zv_I h1 348 = zv_I h 348 := zm_F_a f1 348
  have hh : zm_lh (zv_I h 348) (zv_I h 348 0 :: l) h1 := ⟨hM1, c1, hSn.1.1, hSn.1.2⟩
  obtain ⟨h2, i1, f2⟩ := zm_marks10 (d + 4) s back 48 0 h1 rfl hM1
  have hh2 := zm_lh_F hh f2
  have ln : (zv_I h 348 0 :: l).length ≤ 48 := by
    rw [List.length_cons]
    omega
  have l1 : 1 + l.length = (zv_I h 348 0 :: l).length := by
    rw [List.length_cons, Nat.add_comm]
  obtain ⟨h3, k1, f3⟩ := zm_marks40 (d + 2) i.2.1.1 hl.2.1.2.2 ln back l.length 1 h2 l1 (Nat.le_refl _) hh2
  have F : zm_F [351, 352, 353, 354, 355, 365] [10, 11, 12] h h3 := zm_F_t (zm_F_s f1 rfl rfl) (zm_F_t (zm_F_s f2 rfl rfl) (zm_F_s f3 rfl rfl))
  have ec : zv_I h3 348 = zv_I h 348 := zm_F_a F 348
  refine ⟨h3, zv_I h 348 0 :: l, lC9_marks (zm_ob hM) ?_, zn_X_a i F rfl rfl rfl, ?_⟩
  · rw [qE9_marks, zm_e (zm_here hM _)]
    dsimp only
    rw [zm_e e1, show L9_marks_10 (d + 4) 347 s back 0 h1 = _ from i1, qL9_marks_10, if_neg (by decide), show L9_marks_40 (d + 4) 347 back 1 h2 = _ from k1]
  · rw [ec]
    exact ⟨zm_Sn_F (zm_Sn_F hSn f2) f3, hl.2.1.2.2, ln, g⟩
theorem zn_leaning {h : zv_H} (i : zm_MI h) (d : Nat) (s w : Int) : zm_R (C9_leaning (d + 10) 347 s w h) (fun q => zn_X h q.2) := by
  refine zm_cI (P := fun _ h' => zn_X h h') (lC9_leaning (zm_ob i.1)) ?_
  have l52 : ∀ v : Int, zm_R (L9_leaning_52 (d + 9) 347 s w 347 v h) (zm_I fun _ h' => zn_X h h') := by
    intro v
    rw [qL9_leaning_52]
    refine zn_isq i (fun hw h1 f1 i1 => zn_X_i (zn_X_a i f1 rfl rfl rfl) ?_)
    obtain ⟨h2, l, e2, x2, n2, s2, m2, g2⟩ := zn_marksS i1 (d + 4) s 0
    dsimp only
    rw [zm_e e2]
    refine zn_X_i x2 ?_
    refine zm_if (fun _ => ?_) (fun _ => ?_)
    · obtain ⟨r, h3, e3, x3⟩ := zn_let48 x2.2 (d + 3) (act := 2) (Or.inl rfl)
      rw [e3]
      exact zm_iI x3
    · have hp : 1 ≤ l.length := by
        cases l with
        | nil => cases g2.2.1
        | cons t b => exact Nat.le_add_left 1 _
      obtain ⟨r, er⟩ := zm_leaning89 (d + 9) (zm_Sn_lh x2.2.1 n2) s2 m2 (zm_row640 g2 m2) n2.2.1.1 (fun k hk => by
        obtain ⟨x, hx⟩ : ∃ x, (zm_row (zv_I h2 348) l)[k]? = some x := ⟨_, List.getElem?_eq_getElem hk⟩
        rw [(n2.2.1.2 k x hx).1]
        exact (zm_row_ok (fun t ht => zm_st48 (s2 t ht)) g2 x (List.mem_of_getElem? hx)).1) w (l.length - 1) 1 0 (by omega)
      rw [show L9_leaning_89 (d + 9) 347 w 0 1 h2 = _ from er]
      exact zn_rX0 x2.2
  have l46 : zm_R (L9_leaning_46 (d + 9) 347 s w 347 h) (zm_I fun _ h' => zn_X h h') := by
    rw [qL9_leaning_46]
    exact l52 7
  rw [qE9_leaning]
  refine zm_gb (zm_isIn _ w 0 3) (fun _ => l52 1) (fun _ => ?_)
  refine zm_gb (zm_isState i.1 _ s) (fun _ => l52 2) (fun hs => ?_)
  dsimp only
  rw [zm_e (zm_here i.1 _)]
  dsimp only
  obtain ⟨l, hl⟩ := zm_WL_of i.2.1.1 _ i.2.1.2.1
  refine zm_gb (zm_isOfLine i.1 _ s hl) (fun _ => l46) (fun _ => ?_)
  exact zm_gb (zm_isEdit i.1 _ (zm_st48 hs)) (fun _ => l46) (fun _ => l52 0)
end
/-! A98.acts -/
section
/-! ===== the tie: acts, as they are called ===== -/
theorem zt_answered {d : Nat} {g : zv_H} (gL : zt_L g) (v : Int) : ∃ st, C8_answered (d + 2) 1 v g = some ((if v < 0 then -1 else v), zv_sI g 1 6 st) := by
  have l1 : zv_lay 1 = (1, 8) := rfl
  by_cases c : v < 0
  · refine ⟨zv_w (-v), lC8_answered (zl_ob gL l1) ?_⟩
    rw [qE8_answered, if_pos c, if_pos c, zm_e (zt_refused (d := d) gL _)]
  · refine ⟨0, lC8_answered (zl_ob gL l1) ?_⟩
    rw [qE8_answered, if_neg c, if_neg c, zm_e (zt_given (d := d) gL _)]
theorem zt_a1_e {v v' : Int} (h : zt_a1 v v') : (if v < 0 then -1 else v) = v' := by
  rcases h with ⟨h1, h2⟩ | ⟨h1, h2⟩
  · rw [if_pos h1, h2]
  · rw [if_neg (by omega), h2]
section
variable {a b m : Nat} {g k : zv_H}
/-- the reference's cells change, but no number -/
theorem zt_GG_F (S : zt_GG m a b g k) {A B : List Nat} {k' : zv_H} (F : zm_F A B k k') (h1 : A.contains 348 = false := by rfl) (h2 : A.contains 366 = false := by rfl) (h3 : A.contains 361 = false := by rfl) (b0 : B.contains 20 = false := by rfl) (b1 : B.contains 27 = false := by rfl) (b2 : B.contains 28 = false := by rfl) (b3 : B.contains 29 = false := by rfl) : zt_GG m a b g k' := by
  refine ⟨zt_GG_r S, zt_GG_s S, zt_GG_ab S, by rw [zm_F_a F 348 h1]; exact zt_GG_H S, zt_GG_N S, fun i hi => ?_, by rw [zm_F_a F 348 h1]; exact zt_GG_n1 S, by rw [zm_F_a F 348 h1]; exact zt_GG_n2 S, by rw [zm_F_g F 28 b2, zm_F_g F 29 b3]; exact zt_GG_fl S, zt_wt_k (zt_GG_wt S) (fun _ _ _ => rfl) (zm_F_g F 20 b0) (zm_F_a F 361 h3)⟩
  rw [zm_F_g F 27 b1] at hi
  rw [zm_F_a F 366 h2]
  exact zt_GG_tp S i hi
/-- an act on both -/
theorem zp_Z (S : zt_GG m a b g k) {y : Int} (hy : y ≤ 48) {q q' : Int × zv_H} (Z : zt_Z a y g k q q') : zt_GG (m + 1) a b q.2 q'.2 := by
  have lab := zt_lab (zt_GG_ab S)
  have lo := zt_k_lo lab.1 (zt_Z_k Z)
  have F := zt_Z_F Z
  have n1 := zt_GG_n1 S
  have n2 := zt_GG_n2 S
  have z1 := zt_Z_g1 Z
  have z2 := zt_Z_g2 Z
  refine ⟨(lo.2.2.2 3).trans (zt_GG_r S), (lo.2.2.2 4).trans (zt_GG_s S), zt_GG_ab S, zt_Z_H Z, fun i hi => ?_, fun i hi => ?_, by omega, by omega, ?_, zt_wt_k (zt_GG_wt S) (fun r i hr => zt_k_34 (zt_Z_k Z) hr i) (zm_F_g F 20) (zm_F_a F 361)⟩
  · have sl := zc_stl lab.2.1 hi
    exact ((zt_Z_k Z).2.2.1 _ 0 (zt_x5 sl.1 (by decide)) (fun q => lab.2.2 (q.2.2.symm.trans sl.2.1))).trans (zt_GG_N S i hi)
  · rw [zm_F_g F 27] at hi
    rw [lo.2.1 i, zm_F_a F 366]
    exact zt_GG_tp S i hi
  · rw [lo.2.2.1 7 (by decide), lo.1 8, lo.1 9, zm_F_g F 28, zm_F_g F 29]
    exact zt_GG_fl S
/-- an act, called -/
theorem zp_act (hA : zc_A g) (S : zt_GG m a b g k) {A B : List Nat} {k1 : zv_H} (F1 : zm_F A B k k1) {y : Int} {q q' : Int × zv_H} (Z : zt_Z a y g k1 q q') (hy : y ≤ 48) {d D : Nat} {E : zv_O} {C : Option (Int × zv_H)} {E' : zv_O} {C' : Option (Int × zv_H)} (eE : E = ((C8_answered (d + 27) 1 q.1 q.2).bind fun q3 => some (some (zv_i q3.1), q3.2))) (lC : ∀ {v : Int} {g' : zv_H}, E = some (some (zv_i v), g') → C = some (v, g')) (eE' : E' = some (some (zv_i q'.1), q'.2)) (lC' : ∀ {v : Int} {k' : zv_H}, E' = some (some (zv_i v), k') → C' = some (v, k')) (h1 : A.contains 348 = false := by rfl) (h2 : A.contains 366 = false := by rfl) (h3 : A.contains 361 = false := by rfl) (b0 : B.contains 20 = false := by rfl) (b1 : B.contains 27 = false := by rfl) (b2 : B.contains 28 = false := by rfl) (b3 : B.contains 29 = false := by rfl) : ∃ v g' k', C = some (v, g') ∧ C' = some (v, k') ∧ zt_GG (m + 1) a b g' k' := by
  have _ := hA
  have _ := D
  have A2 := (zt_Z_X Z).2
  obtain ⟨st, ea⟩ := zt_answered (d := d + 25) (zt_L_A A2) q.1
  rw [zm_e ea] at eE
  dsimp only at eE
  rw [zt_a1_e (zt_Z_a1 Z)] at eE
  exact ⟨q'.1, _, q'.2, lC eE, lC' eE', zt_GG_st (zp_Z (zt_GG_F S F1 h1 h2 h3 b0 b1 b2 b3) hy Z) st (zm_F_r [] [] _) rfl rfl rfl rfl⟩
/-- the reference begins to answer -/
theorem zp_is (hM : zm_M k) : ∃ k1, (∀ (D : Nat), C9_is (D + 1) 347 0 k = some (1, k1)) ∧ zm_F [] [3, 4] k k1 := ⟨zv_sI (zv_sI k 347 4 0) 347 3 0, fun D => by rw [zm_is hM D 0, if_pos rfl], zm_F_f (zm_F_f (zm_F_r _ _ k) rfl _) rfl _⟩
theorem zp_e3 (hA : zc_A g) (S : zt_GG m a b g k) : zv_gR g 1 8 3 = some a := (zl_gR (zt_L_A hA) (show zv_lay 1 = (1, 8) from rfl) 3).trans (by rw [zt_GG_r S])
theorem zp_b2 (S : zt_GG m a b g k) (hm : m ≤ 100000) : zv_I k 348 2 < 1999999000 ∧ (0 ≤ zv_I k 348 1 ∧ zv_I k 348 1 < 1999999000) := by
  have n1 := zt_GG_n1 S
  have n2 := zt_GG_n2 S
  omega
theorem zp_cut {d D : Nat} (hA : zc_A g) (I : zm_MI k) (S : zt_GG m a b g k) (hm : m ≤ 100000) {place many : Int} (rp : zv_rg place) (rm : zv_rg many) : ∃ v g' k', C8_cut (d + 28) 1 place many g = some (v, g') ∧ C9_cut (D + 28) 347 place many k = some (v, k') ∧ zt_GG (m + 1) a b g' k' := by
  obtain ⟨k1, i1, F1⟩ := zp_is I.1
  have S1 := zt_GG_F S F1
  have hM1 := zm_F_M F1 I.1
  have b0 := (zp_b2 S1 hm).1
  have b2 : zv_I k1 348 2 < 2000000000 := by omega
  obtain ⟨q, q', h1, h2, Z, _⟩ := zj_cut (d := d + 23) (D := D + 21) hA (zt_GG_H S1) hM1 rfl b2 rp rm
  refine zp_act hA S F1 Z (by decide) (d := d) (D := D) ?_ (fun h => lC8_cut (zl_ob (zt_L_A hA) (show zv_lay 1 = (1, 8) from rfl)) h) ?_ (fun h => lC9_cut (zm_ob I.1) h)
  · rw [qE8_cut, zm_e (zp_e3 hA S), zm_e h1]
  · rw [qE9_cut, zm_e (i1 (D + 26)), zm_e h2]
theorem zp_undo {d D : Nat} (hA : zc_A g) (I : zm_MI k) (S : zt_GG m a b g k) (hm : m ≤ 100000)  : ∃ v g' k', C8_undo (d + 28) 1 g = some (v, g') ∧ C9_undo (D + 28) 347 k = some (v, k') ∧ zt_GG (m + 1) a b g' k' := by
  obtain ⟨k1, i1, F1⟩ := zp_is I.1
  have S1 := zt_GG_F S F1
  have hM1 := zm_F_M F1 I.1
  have b0 := (zp_b2 S1 hm).1
  have b2 : zv_I k1 348 2 < 2000000000 := by omega
  obtain ⟨q, q', h1, h2, Z⟩ := zj_undo (d := d + 24) (D := D + 24) hA (zt_GG_H S1) hM1 rfl b2
  refine zp_act hA S F1 Z (by decide) (d := d) (D := D) ?_ (fun h => lC8_undo (zl_ob (zt_L_A hA) (show zv_lay 1 = (1, 8) from rfl)) h) ?_ (fun h => lC9_undo (zm_ob I.1) h)
  · rw [qE8_undo, zm_e (zp_e3 hA S), zm_e h1]
  · rw [qE9_undo, zm_e (i1 (D + 26)), zm_e h2]
theorem zp_redo {d D : Nat} (hA : zc_A g) (I : zm_MI k) (S : zt_GG m a b g k) (hm : m ≤ 100000)  : ∃ v g' k', C8_redo (d + 28) 1 g = some (v, g') ∧ C9_redo (D + 28) 347 k = some (v, k') ∧ zt_GG (m + 1) a b g' k' := by
  obtain ⟨k1, i1, F1⟩ := zp_is I.1
  have S1 := zt_GG_F S F1
  have hM1 := zm_F_M F1 I.1
  have b0 := (zp_b2 S1 hm).1
  have b2 : zv_I k1 348 2 < 2000000000 := by omega
  obtain ⟨q, q', h1, h2, Z⟩ := zj_redo (d := d + 23) (D := D + 22) hA (zt_GG_H S1) hM1 rfl b2
  refine zp_act hA S F1 Z (by decide) (d := d) (D := D) ?_ (fun h => lC8_redo (zl_ob (zt_L_A hA) (show zv_lay 1 = (1, 8) from rfl)) h) ?_ (fun h => lC9_redo (zm_ob I.1) h)
  · rw [qE8_redo, zm_e (zp_e3 hA S), zm_e h1]
  · rw [qE9_redo, zm_e (i1 (D + 26)), zm_e h2]
theorem zp_go {d D : Nat} (hA : zc_A g) (I : zm_MI k) (S : zt_GG m a b g k) (hm : m ≤ 100000) {s : Int} : ∃ v g' k', C8_go (d + 28) 1 s g = some (v, g') ∧ C9_go (D + 28) 347 s k = some (v, k') ∧ zt_GG (m + 1) a b g' k' := by
  obtain ⟨k1, i1, F1⟩ := zp_is I.1
  have S1 := zt_GG_F S F1
  have hM1 := zm_F_M F1 I.1
  have b0 := (zp_b2 S1 hm).1
  have b2 : zv_I k1 348 2 < 2000000000 := by omega
  obtain ⟨q, q', h1, h2, Z⟩ := zj_go (d := d + 23) (D := D + 22) hA (zt_GG_H S1) hM1 rfl b2 s
  refine zp_act hA S F1 Z (by decide) (d := d) (D := D) ?_ (fun h => lC8_go (zl_ob (zt_L_A hA) (show zv_lay 1 = (1, 8) from rfl)) h) ?_ (fun h => lC9_go (zm_ob I.1) h)
  · rw [qE8_go, zm_e (zp_e3 hA S), zm_e h1]
  · rw [qE9_go, zm_e (i1 (D + 26)), zm_e h2]
theorem zp_withdraw {d D : Nat} (hA : zc_A g) (I : zm_MI k) (S : zt_GG m a b g k) (hm : m ≤ 100000) {s : Int} (rs : zv_rg s) : ∃ v g' k', C8_withdraw (d + 28) 1 s g = some (v, g') ∧ C9_withdraw (D + 28) 347 s k = some (v, k') ∧ zt_GG (m + 1) a b g' k' := by
  obtain ⟨k1, i1, F1⟩ := zp_is I.1
  have S1 := zt_GG_F S F1
  have hM1 := zm_F_M F1 I.1
  have b0 := (zp_b2 S1 hm).1
  have b2 : zv_I k1 348 2 < 2000000000 := by omega
  obtain ⟨q, q', h1, h2, Z⟩ := zj_withdraw (d := d + 22) (D := D + 20) hA (zt_GG_H S1) hM1 rfl b2 rs
  refine zp_act hA S F1 Z (by decide) (d := d) (D := D) ?_ (fun h => lC8_withdraw (zl_ob (zt_L_A hA) (show zv_lay 1 = (1, 8) from rfl)) h) ?_ (fun h => lC9_withdraw (zm_ob I.1) h)
  · rw [qE8_withdraw, zm_e (zp_e3 hA S), zm_e h1]
  · rw [qE9_withdraw, zm_e (i1 (D + 26)), zm_e h2]
theorem zp_restore {d D : Nat} (hA : zc_A g) (I : zm_MI k) (S : zt_GG m a b g k) (hm : m ≤ 100000) {s : Int} (rs : zv_rg s) : ∃ v g' k', C8_restore (d + 28) 1 s g = some (v, g') ∧ C9_restore (D + 28) 347 s k = some (v, k') ∧ zt_GG (m + 1) a b g' k' := by
  obtain ⟨k1, i1, F1⟩ := zp_is I.1
  have S1 := zt_GG_F S F1
  have hM1 := zm_F_M F1 I.1
  have b0 := (zp_b2 S1 hm).1
  have b2 : zv_I k1 348 2 < 2000000000 := by omega
  obtain ⟨q, q', h1, h2, Z⟩ := zj_restore (d := d + 22) (D := D + 20) hA (zt_GG_H S1) hM1 rfl b2 rs
  refine zp_act hA S F1 Z (by decide) (d := d) (D := D) ?_ (fun h => lC8_restore (zl_ob (zt_L_A hA) (show zv_lay 1 = (1, 8) from rfl)) h) ?_ (fun h => lC9_restore (zm_ob I.1) h)
  · rw [qE8_restore, zm_e (zp_e3 hA S), zm_e h1]
  · rw [qE9_restore, zm_e (i1 (D + 26)), zm_e h2]
theorem zp_carry {d D : Nat} (hA : zc_A g) (I : zm_MI k) (S : zt_GG m a b g k) (hm : m ≤ 100000) {s : Int} (rs : zv_rg s) : ∃ v g' k', C8_carry (d + 28) 1 s g = some (v, g') ∧ C9_carry (D + 28) 347 s k = some (v, k') ∧ zt_GG (m + 1) a b g' k' := by
  obtain ⟨k1, i1, F1⟩ := zp_is I.1
  have S1 := zt_GG_F S F1
  have hM1 := zm_F_M F1 I.1
  have b0 := (zp_b2 S1 hm).1
  have b2 : zv_I k1 348 2 < 2000000000 := by omega
  obtain ⟨q, q', h1, h2, Z⟩ := zj_carry (d := d + 21) (D := D + 18) hA (zt_GG_H S1) hM1 rfl b2 rs
  refine zp_act hA S F1 Z (by decide) (d := d) (D := D) ?_ (fun h => lC8_carry (zl_ob (zt_L_A hA) (show zv_lay 1 = (1, 8) from rfl)) h) ?_ (fun h => lC9_carry (zm_ob I.1) h)
  · rw [qE8_carry, zm_e (zp_e3 hA S), zm_e h1]
  · rw [qE9_carry, zm_e (i1 (D + 26)), zm_e h2]
theorem zp_merge {d D : Nat} (hA : zc_A g) (I : zm_MI k) (S : zt_GG m a b g k) (hm : m ≤ 100000) {s : Int} (rs : zv_rg s) : ∃ v g' k', C8_merge (d + 28) 1 s g = some (v, g') ∧ C9_merge (D + 28) 347 s k = some (v, k') ∧ zt_GG (m + 1) a b g' k' := by
  obtain ⟨k1, i1, F1⟩ := zp_is I.1
  have S1 := zt_GG_F S F1
  have hM1 := zm_F_M F1 I.1
  have b0 := (zp_b2 S1 hm).1
  have b2 : zv_I k1 348 2 < 2000000000 := by omega
  obtain ⟨q, q', h1, h2, Z, _⟩ := zj_merge (d := d + 21) (D := D + 18) hA (zt_GG_H S1) hM1 rfl b0 rs
  refine zp_act hA S F1 Z (by decide) (d := d) (D := D) ?_ (fun h => lC8_merge (zl_ob (zt_L_A hA) (show zv_lay 1 = (1, 8) from rfl)) h) ?_ (fun h => lC9_merge (zm_ob I.1) h)
  · rw [qE8_merge, zm_e (zp_e3 hA S), zm_e h1]
  · rw [qE9_merge, zm_e (i1 (D + 26)), zm_e h2]
theorem zp_prune {d D : Nat} (hA : zc_A g) (I : zm_MI k) (S : zt_GG m a b g k) (hm : m ≤ 100000) {n : Int} (rn : zv_rg n) : ∃ v g' k', C8_prune (d + 28) 1 n g = some (v, g') ∧ C9_prune (D + 28) 347 n k = some (v, k') ∧ zt_GG (m + 1) a b g' k' := by
  obtain ⟨k1, i1, F1⟩ := zp_is I.1
  have S1 := zt_GG_F S F1
  have hM1 := zm_F_M F1 I.1
  have b0 := (zp_b2 S1 hm).1
  have b2 : zv_I k1 348 2 < 2000000000 := by omega
  obtain ⟨q, q', h1, h2, Z⟩ := zj_prune (d := d + 24) (D := D + 22) hA (zt_GG_H S1) hM1 rfl rn
  refine zp_act hA S F1 Z (by decide) (d := d) (D := D) ?_ (fun h => lC8_prune (zl_ob (zt_L_A hA) (show zv_lay 1 = (1, 8) from rfl)) h) ?_ (fun h => lC9_prune (zm_ob I.1) h)
  · rw [qE8_prune, zm_e (zp_e3 hA S), zm_e h1]
  · rw [qE9_prune, zm_e (i1 (D + 26)), zm_e h2]
end
end
