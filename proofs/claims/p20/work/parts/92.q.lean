theorem zc_L0_findNewest_49 {d : Nat} {h0 : zv_H} {N_L0_findNewest_35 : Nat} (ih_L0_findNewest_35 : ∀ m, m < N_L0_findNewest_35 → ∀ {h : zv_H} {a0 : Nat} {a1 : Int}, zc_Q h0 h → (zv_lay a0 = (1, 0)) → (0 ≤ a1 ∧ zv_rg a1) → (2147483647 - a1).toNat = m → zm_R (L0_findNewest_35 (d + 1) a0 a1 h) (zm_V fun h' => zc_Q h0 h')) (N_L0_findNewest_49 : Nat) : ∀ {h : zv_H} {a0 : Nat} {a1 : Int} {a2 : Nat} {a3 : Nat}, zc_Q h0 h → (zv_lay a0 = (1, 0)) → (zv_rg a1) → (a3 = 0 ∨ zc_V h0 a2) → (a3 = 0 ∨ zc_V h0 a3) → ((2147483647 - (zv_w (a1 + 1))).toNat < N_L0_findNewest_35 ∧ 0 ≤ (zv_w (a1 + 1))) → zc_dm h0 a3 = N_L0_findNewest_49 → zm_R (L0_findNewest_49 (d + 1) a0 a1 a2 a3 h) (zm_V fun h' => zc_Q h0 h') := by
  induction N_L0_findNewest_49 using Nat.strongRecOn with
  | _ N_L0_findNewest_49 ih_L0_findNewest_49 =>
    intro h a0 a1 a2 a3 F0 h_a0 h_a1 h_a2 h_a3 hm_L0_findNewest_35 eN
    rw [qL0_findNewest_49]
    refine zm_if (fun c1 => ?_) (fun c1 => ?_)
    · exact ih_L0_findNewest_35 _ hm_L0_findNewest_35.1 F0 h_a0 ⟨hm_L0_findNewest_35.2, (zc_w _)⟩  rfl
    · refine zc_rI F0 (h_a3.resolve_left c1).1 fun v1 e_v1 r_v1 => ?_
      refine zc_rI F0 (h_a2.resolve_left c1).1 fun v2 e_v2 r_v2 => ?_
      refine zc_wO F0 (h_a3.resolve_left c1).1 (zc_frO (h_a3.resolve_left c1).1 (zc_lt (h_a3.resolve_left c1).1 (by decide)) (by decide) rfl (by decide)) (zc_mx r_v1 r_v2) fun g3 F2 => ?_
      refine zc_rR5 F2 (h_a3.resolve_left c1).1 ?_
      exact ih_L0_findNewest_49 _ (by rw [← eN]; exact zc_dmP F2 (h_a3.resolve_left c1)) F2 h_a0 h_a1 (Or.inr (h_a2.resolve_left c1)) (zc_pV F2 (h_a3.resolve_left c1)) hm_L0_findNewest_35 rfl
theorem zc_L0_findNewest_35 {d : Nat} {h0 : zv_H} (N_L0_findNewest_35 : Nat) : ∀ {h : zv_H} {a0 : Nat} {a1 : Int}, zc_Q h0 h → (zv_lay a0 = (1, 0)) → (0 ≤ a1 ∧ zv_rg a1) → (2147483647 - a1).toNat = N_L0_findNewest_35 → zm_R (L0_findNewest_35 (d + 1) a0 a1 h) (zm_V fun h' => zc_Q h0 h') := by
  induction N_L0_findNewest_35 using Nat.strongRecOn with
  | _ N_L0_findNewest_35 ih_L0_findNewest_35 =>
    intro h a0 a1 F0 h_a0 h_a1 eN
    rw [qL0_findNewest_35]
    have z_a1 := h_a1.1
    refine zm_if (fun c1 => ?_) (fun c1 => ?_)
    · refine zc_pN (K := fun v => (v = 0 ∨ zc_V h v)) (zc_C0_at F0.2 h_a0 h_a1.2) fun q1v k_q1 => ?_
      dsimp only
      exact zc_L0_findNewest_49 ih_L0_findNewest_35 _ F0 h_a0 h_a1.2 (Or.imp id (zc_Vb F0.1) k_q1) (Or.imp id (zc_Vb F0.1) k_q1) ⟨(by rw [← eN]; exact zc_up h_a1.2 (by unfold zv_rg; omega) c1), (⟨by rw [zc_up1 h_a1.2 (by unfold zv_rg; omega) c1]; omega, zc_w _⟩ : 0 ≤ (zv_w (a1 + 1)) ∧ zv_rg (zv_w (a1 + 1))).1⟩ rfl
    · exact zm_iV F0
theorem zc_L0_findNewest_2 {d : Nat} {h0 : zv_H} (N_L0_findNewest_2 : Nat) : ∀ {h : zv_H} {a0 : Nat} {a1 : Int}, zc_Q h0 h → (zv_lay a0 = (1, 0)) → (0 ≤ a1 ∧ zv_rg a1) → (2147483647 - a1).toNat = N_L0_findNewest_2 → zm_R (L0_findNewest_2 (d + 1) a0 a1 h) (zm_V fun h' => zc_Q h0 h') := by
  induction N_L0_findNewest_2 using Nat.strongRecOn with
  | _ N_L0_findNewest_2 ih_L0_findNewest_2 =>
    intro h a0 a1 F0 h_a0 h_a1 eN
    rw [qL0_findNewest_2]
    have z_a1 := h_a1.1
    refine zm_if (fun c1 => ?_) (fun c1 => ?_)
    · refine zc_rF F0 4 h_a0 ?_
      refine zc_rS F0 h_a0 (by omega) (by omega) fun v2 l_v2 f_v2 e_v2 n_v2 => ?_
      refine zm_if (fun c2 => ?_) (fun c2 => ?_)
      · exact absurd c2 (zc_nz l_v2)
      · refine zc_rF F0 4 h_a0 ?_
        refine zc_rS F0 h_a0 (by omega) (by omega) fun v4 l_v4 f_v4 e_v4 n_v4 => ?_
        refine zc_wO F0 l_v4 (zc_frO l_v4 (zc_lt l_v4 (by decide)) (by decide) rfl (by decide)) (by unfold zv_rg; omega) fun g5 F3 => ?_
        exact ih_L0_findNewest_2 _ (by rw [← eN]; exact zc_up h_a1.2 (by unfold zv_rg; omega) c1) F3 h_a0 ⟨by rw [zc_up1 h_a1.2 (by unfold zv_rg; omega) c1]; omega, zc_w _⟩  rfl
    · exact zc_L0_findNewest_35  _ F0 h_a0 ⟨by omega, (by unfold zv_rg; omega)⟩  rfl
theorem zc_E0_findNewest {d : Nat} {h : zv_H} {a0 : Nat} (hA : zc_A h) (h_a0 : zv_lay a0 = (1, 0)) : zm_R (E0_findNewest (d + 1) a0 h) (zm_V fun h' => zc_Q h h') := by
  have F0 := zc_Q_r hA
  rw [qE0_findNewest]
  exact zc_L0_findNewest_2  _ F0 h_a0 ⟨by omega, (by unfold zv_rg; omega)⟩  rfl
theorem zc_C0_findNewest {d : Nat} {h : zv_H} {a0 : Nat} (hA : zc_A h) (h_a0 : zv_lay a0 = (1, 0)) : zm_R (C0_findNewest (d + 2) a0 h) (fun q => zc_Q h q) := zm_cV (fun e => lC0_findNewest (zc_ob hA h_a0) e) (zc_E0_findNewest hA h_a0)
theorem zc_L0_newestChild_5 {d : Nat} {h0 : zv_H} (hA : zc_A h0) (N_L0_newestChild_5 : Nat) : ∀ {a0 : Nat} {a1 : Nat} {a2 : Int} {a3 : Nat} {a4 : Int}, (zv_lay a0 = (1, 0)) → (zv_lay a1 = (1, 5)) → (zv_rg a2) → (a3 = 0 ∨ zc_V h0 a3) → (0 ≤ a4 ∧ zv_rg a4) → (2147483647 - a4).toNat = N_L0_newestChild_5 → zm_R (L0_newestChild_5 (d + 1) a0 a1 a2 a3 a4 h0) (zm_N fun v h' => h' = h0 ∧ ((v = 0 ∨ zc_V h0 v))) := by
  induction N_L0_newestChild_5 using Nat.strongRecOn with
  | _ N_L0_newestChild_5 ih_L0_newestChild_5 =>
    intro a0 a1 a2 a3 a4 h_a0 h_a1 h_a2 h_a3 h_a4 eN
    rw [qL0_newestChild_5]
    have z_a4 := h_a4.1
    refine zm_if (fun c1 => ?_) (fun c1 => ?_)
    · refine zc_pN (K := fun v => (v = 0 ∨ zc_V h0 v)) (zc_C0_at (zc_Q_r hA).2 h_a0 h_a4.2) fun q1v k_q1 => ?_
      dsimp only
      refine zm_if (fun c3 => ?_) (fun c3 => ?_)
      · exact ih_L0_newestChild_5 _ (by rw [← eN]; exact zc_up h_a4.2 (by unfold zv_rg; omega) c1) h_a0 h_a1 h_a2 h_a3 ⟨by rw [zc_up1 h_a4.2 (by unfold zv_rg; omega) c1]; omega, zc_w _⟩  rfl
      · refine zc_rR5 (zc_Q_r hA) ((Or.imp id (zc_Vb (zc_Q_r hA).1) k_q1).resolve_left c3).1 ?_
        refine zm_if (fun c4 => ?_) (fun c4 => ?_)
        · have w_v2 := zc_lt0 (zc_pV (zc_Q_r hA) ((Or.imp id (zc_Vb (zc_Q_r hA).1) k_q1).resolve_left c3))
          have w_a1 := zv_lay_lt (zc_ly h_a1)
          omega
        · refine zm_if (fun c5 => ?_) (fun c5 => ?_)
          · refine zc_rI (zc_Q_r hA) ((Or.imp id (zc_Vb (zc_Q_r hA).1) k_q1).resolve_left c3).1 fun v3 e_v3 r_v3 => ?_
            refine zm_if (fun c6 => ?_) (fun c6 => ?_)
            · refine zm_if (fun c7 => ?_) (fun c7 => ?_)
              · exact ih_L0_newestChild_5 _ (by rw [← eN]; exact zc_up h_a4.2 (by unfold zv_rg; omega) c1) h_a0 h_a1 h_a2 (Or.inr ((Or.imp id (zc_Vb (zc_Q_r hA).1) k_q1).resolve_left c3)) ⟨by rw [zc_up1 h_a4.2 (by unfold zv_rg; omega) c1]; omega, zc_w _⟩  rfl
              · refine zc_rI (zc_Q_r hA) ((Or.imp id (zc_Vb (zc_Q_r hA).1) k_q1).resolve_left c3).1 fun v4 e_v4 r_v4 => ?_
                refine zc_rI (zc_Q_r hA) (h_a3.resolve_left c7).1 fun v5 e_v5 r_v5 => ?_
                refine zm_if (fun c8 => ?_) (fun c8 => ?_)
                · exact ih_L0_newestChild_5 _ (by rw [← eN]; exact zc_up h_a4.2 (by unfold zv_rg; omega) c1) h_a0 h_a1 h_a2 (Or.inr (h_a3.resolve_left c7)) ⟨by rw [zc_up1 h_a4.2 (by unfold zv_rg; omega) c1]; omega, zc_w _⟩  rfl
                · exact ih_L0_newestChild_5 _ (by rw [← eN]; exact zc_up h_a4.2 (by unfold zv_rg; omega) c1) h_a0 h_a1 h_a2 (Or.inr ((Or.imp id (zc_Vb (zc_Q_r hA).1) k_q1).resolve_left c3)) ⟨by rw [zc_up1 h_a4.2 (by unfold zv_rg; omega) c1]; omega, zc_w _⟩  rfl
            · exact ih_L0_newestChild_5 _ (by rw [← eN]; exact zc_up h_a4.2 (by unfold zv_rg; omega) c1) h_a0 h_a1 h_a2 h_a3 ⟨by rw [zc_up1 h_a4.2 (by unfold zv_rg; omega) c1]; omega, zc_w _⟩  rfl
          · exact ih_L0_newestChild_5 _ (by rw [← eN]; exact zc_up h_a4.2 (by unfold zv_rg; omega) c1) h_a0 h_a1 h_a2 h_a3 ⟨by rw [zc_up1 h_a4.2 (by unfold zv_rg; omega) c1]; omega, zc_w _⟩  rfl
    · exact zm_iN ⟨rfl, h_a3⟩
theorem zc_E0_newestChild {d : Nat} {h : zv_H} {a0 : Nat} {a1 : Nat} {a2 : Int} (hA : zc_A h) (h_a0 : zv_lay a0 = (1, 0)) (h_a1 : zv_lay a1 = (1, 5)) (h_a2 : zv_rg a2) : zm_R (E0_newestChild (d + 1) a0 a1 a2 h) (zm_N fun v h' => h' = h ∧ ((v = 0 ∨ zc_V h v))) := by
  have F0 := zc_Q_r hA
  rw [qE0_newestChild]
  exact zc_L0_newestChild_5 hA  _ h_a0 h_a1 h_a2 (Or.inl rfl) ⟨by omega, (by unfold zv_rg; omega)⟩  rfl
theorem zc_C0_newestChild {d : Nat} {h : zv_H} {a0 : Nat} {a1 : Nat} {a2 : Int} (hA : zc_A h) (h_a0 : zv_lay a0 = (1, 0)) (h_a1 : zv_lay a1 = (1, 5)) (h_a2 : zv_rg a2) : zm_R (C0_newestChild (d + 2) a0 a1 a2 h) (fun q => q.2 = h ∧ ((q.1 = 0 ∨ zc_V h q.1))) := zm_cN (fun e => lC0_newestChild (zc_ob hA h_a0) e) (zc_E0_newestChild hA h_a0 h_a1 h_a2)
theorem zc_L0_childOf_34 {d : Nat} {h0 : zv_H} (N_L0_childOf_34 : Nat) : ∀ {h : zv_H} {a0 : Nat} {a1 : Nat} {a2 : Int} {a3 : Nat} {a4 : Int} {a5 : Int}, zc_Q h0 h → (zv_lay a0 = (1, 0)) → (zv_lay a1 = (1, 5)) → ((-2147483648 ≤ a2 ∧ a2 < 2147483647) ∧ zv_rg a2) → (a3 = 0 ∨ zc_V h0 a3) → (zv_rg a4) → (0 ≤ a5 ∧ zv_rg a5) → (2147483647 - a5).toNat = N_L0_childOf_34 → zm_R (L0_childOf_34 (d + 2) a0 a1 a2 a3 a4 a5 h) (zm_N fun v h' => zc_Q h0 h' ∧ ((v = 0 ∨ zc_V h0 v))) := by
  induction N_L0_childOf_34 using Nat.strongRecOn with
  | _ N_L0_childOf_34 ih_L0_childOf_34 =>
    intro h a0 a1 a2 a3 a4 a5 F0 h_a0 h_a1 h_a2 h_a3 h_a4 h_a5 eN
    rw [qL0_childOf_34]
    have z_a2 := h_a2.1
    have z_a5 := h_a5.1
    refine zm_if (fun c1 => ?_) (fun c1 => ?_)
    · refine zc_pN (K := fun v => (v = 0 ∨ zc_V h v)) (zc_C0_newestChild F0.2 h_a0 h_a1 h_a4) fun q1v k_q1 => ?_
      dsimp only
      refine zm_if (fun c3 => ?_) (fun c3 => ?_)
      · exact zm_iN ⟨F0, Or.inl rfl⟩
      · refine zc_rI F0 ((Or.imp id (zc_Vb F0.1) k_q1).resolve_left c3).1 fun v2 e_v2 r_v2 => ?_
        exact ih_L0_childOf_34 _ (by rw [← eN]; exact zc_up h_a5.2 (show zv_rg (a2 + 1) from (by unfold zv_rg at *; omega)) (by omega)) F0 h_a0 h_a1 ⟨by unfold zv_rg at *; omega, h_a2.2⟩ (Or.inr ((Or.imp id (zc_Vb F0.1) k_q1).resolve_left c3)) r_v2 ⟨by rw [zc_up1 h_a5.2 (show zv_rg (a2 + 1) from (by unfold zv_rg at *; omega)) (by omega)]; omega, zc_w _⟩  rfl
    · exact zm_iN ⟨F0, h_a3⟩
theorem zc_E0_childOf {d : Nat} {h : zv_H} {a0 : Nat} {a1 : Nat} {a2 : Int} (hA : zc_A h) (h_a0 : zv_lay a0 = (1, 0)) (h_a1 : zv_lay a1 = (1, 5)) (h_a2 : zv_rg a2) : zm_R (E0_childOf (d + 2) a0 a1 a2 h) (zm_N fun v h' => zc_Q h h' ∧ ((v = 0 ∨ zc_V h v))) := by
  have F0 := zc_Q_r hA
  rw [qE0_childOf]
  refine zm_if (fun c1 => ?_) (fun c1 => ?_)
  · exact zm_iN ⟨F0, Or.inl rfl⟩
  · refine zc_rT F0 h_a1 fun v1 e_v1 r_v1 => ?_
    refine zm_if (fun c2 => ?_) (fun c2 => ?_)
    · refine zc_cV F0 (zc_C0_findNewest F0.2 h_a0) fun g2 F3 => ?_
      refine zc_rF F3 17 h_a0 ?_
      refine zc_rI F3 (zc_y0_7 h_a0).1 fun v4 e_v4 r_v4 => ?_
      exact zc_L0_childOf_34  _ F3 h_a0 h_a1 ⟨by unfold zv_rg at *; omega, h_a2⟩ (Or.inl rfl) (zc_w _) ⟨by omega, (by unfold zv_rg; omega)⟩  rfl
    · exact zm_iN ⟨F0, Or.inl rfl⟩
theorem zc_C0_childOf {d : Nat} {h : zv_H} {a0 : Nat} {a1 : Nat} {a2 : Int} (hA : zc_A h) (h_a0 : zv_lay a0 = (1, 0)) (h_a1 : zv_lay a1 = (1, 5)) (h_a2 : zv_rg a2) : zm_R (C0_childOf (d + 3) a0 a1 a2 h) (fun q => zc_Q h q.2 ∧ ((q.1 = 0 ∨ zc_V h q.1))) := zm_cN (fun e => lC0_childOf (zc_ob hA h_a0) e) (zc_E0_childOf hA h_a0 h_a1 h_a2)
theorem zc_L0_nearest_2 {d : Nat} {h0 : zv_H} (hA : zc_A h0) (N_L0_nearest_2 : Nat) : ∀ {a1 : Nat} {a2 : Nat}, (zc_V h0 a1) → (zc_V h0 a2) → zc_dm h0 a2 = N_L0_nearest_2 → zm_R (L0_nearest_2 (d + 1) a1 a2 h0) (zm_N fun v h' => h' = h0 ∧ (zc_V h0 v)) := by
  induction N_L0_nearest_2 using Nat.strongRecOn with
  | _ N_L0_nearest_2 ih_L0_nearest_2 =>
    intro a1 a2 h_a1 h_a2 eN
    rw [qL0_nearest_2]
    refine zc_rR5 (zc_Q_r hA) h_a2.1 ?_
    refine zm_if (fun c1 => ?_) (fun c1 => ?_)
    · exact zm_iN ⟨rfl, h_a2⟩
    · refine zc_pI (K := fun v => True) (zc_C0_onLine (zc_Q_r hA).2 (zc_Vq (zc_Q_r hA).1 h_a2) (Or.inr (zc_Vq (zc_Q_r hA).1 h_a1))) fun q2v r_q2 k_q2 => ?_
      dsimp only
      refine zm_if (fun c3 => ?_) (fun c3 => ?_)
      · refine zc_rR5 (zc_Q_r hA) h_a2.1 ?_
        exact ih_L0_nearest_2 _ (by rw [← eN]; exact zc_dmP (zc_Q_r hA) h_a2) h_a1 ((zc_pV (zc_Q_r hA) h_a2).resolve_left c1)  rfl
      · exact zm_iN ⟨rfl, h_a2⟩
theorem zc_E0_nearest {d : Nat} {h : zv_H} {a0 : Nat} {a1 : Nat} (hA : zc_A h) (h_a0 : zc_V h a0) (h_a1 : zc_V h a1) : zm_R (E0_nearest (d + 1) a0 a1 h) (zm_N fun v h' => h' = h ∧ (zc_V h v)) := by
  have F0 := zc_Q_r hA
  rw [qE0_nearest]
  exact zc_L0_nearest_2 hA  _ h_a1 h_a0  rfl
theorem zc_C0_nearest {d : Nat} {h : zv_H} {a0 : Nat} {a1 : Nat} (hA : zc_A h) (h_a0 : zc_V h a0) (h_a1 : zc_V h a1) : zm_R (C0_nearest (d + 2) a0 a1 h) (fun q => q.2 = h ∧ (zc_V h q.1)) := zm_cN (fun e => lC0_nearest e) (zc_E0_nearest hA h_a0 h_a1)
theorem zc_E0_wayLength {d : Nat} {h : zv_H} {a0 : Nat} {a1 : Nat} (hA : zc_A h) (h_a0 : zc_V h a0) (h_a1 : zc_V h a1) : zm_R (E0_wayLength (d + 2) a0 a1 h) (zm_I fun v h' => h' = h ∧ zv_rg v ∧ True) := by
  have F0 := zc_Q_r hA
  rw [qE0_wayLength]
  refine zc_rT F0 h_a0.1 fun v1 e_v1 r_v1 => ?_
  have d_v1 := (zc_dep F0 h_a0).1
  rw [← e_v1] at d_v1
  refine zc_rT F0 h_a1.1 fun v2 e_v2 r_v2 => ?_
  have d_v2 := (zc_dep F0 h_a1).1
  rw [← e_v2] at d_v2
  refine zc_pN (K := fun v => zc_V h v) (zc_C0_nearest F0.2 (zc_Vq F0.1 h_a0) (zc_Vq F0.1 h_a1)) fun q3v k_q3 => ?_
  dsimp only
  refine zc_rT F0 (zc_Vb F0.1 k_q3).1 fun v4 e_v4 r_v4 => ?_
  have d_v4 := (zc_dep F0 (zc_Vb F0.1 k_q3)).1
  rw [← e_v4] at d_v4
  exact zm_iI ⟨rfl, (zc_w _), trivial⟩
theorem zc_C0_wayLength {d : Nat} {h : zv_H} {a0 : Nat} {a1 : Nat} (hA : zc_A h) (h_a0 : zc_V h a0) (h_a1 : zc_V h a1) : zm_R (C0_wayLength (d + 3) a0 a1 h) (fun q => q.2 = h ∧ zv_rg q.1 ∧ True) := zm_cI (fun e => lC0_wayLength e) (zc_E0_wayLength hA h_a0 h_a1)
theorem zc_E0_onWay {d : Nat} {h : zv_H} {a0 : Nat} {a1 : Nat} {a2 : Int} (hA : zc_A h) (h_a0 : zc_V h a0) (h_a1 : zc_V h a1) (h_a2 : zv_rg a2) : zm_R (E0_onWay (d + 3) a0 a1 a2 h) (zm_N fun v h' => h' = h ∧ ((v = 0 ∨ zc_V h v))) := by
  have F0 := zc_Q_r hA
  rw [qE0_onWay]
  refine zc_rT F0 h_a0.1 fun v1 e_v1 r_v1 => ?_
  have d_v1 := (zc_dep F0 h_a0).1
  rw [← e_v1] at d_v1
  refine zc_pN (K := fun v => zc_V h v) (zc_C0_nearest F0.2 (zc_Vq F0.1 h_a0) (zc_Vq F0.1 h_a1)) fun q2v k_q2 => ?_
  dsimp only
  refine zc_rT F0 (zc_Vb F0.1 k_q2).1 fun v3 e_v3 r_v3 => ?_
  have d_v3 := (zc_dep F0 (zc_Vb F0.1 k_q2)).1
  rw [← e_v3] at d_v3
  refine zc_pI (K := fun v => True) (zc_C0_wayLength F0.2 (zc_Vq F0.1 h_a0) (zc_Vq F0.1 h_a1)) fun q4v r_q4 k_q4 => ?_
  dsimp only
  refine zm_if (fun c3 => ?_) (fun c3 => ?_)
  · exact zm_iN ⟨rfl, Or.inl rfl⟩
  · refine zm_if (fun c4 => ?_) (fun c4 => ?_)
    · refine zm_if (fun c5 => ?_) (fun c5 => ?_)
      · refine zc_rT F0 h_a0.1 fun v5 e_v5 r_v5 => ?_
        have d_v5 := (zc_dep F0 h_a0).1
        rw [← e_v5] at d_v5
        refine zc_pN (K := fun v => (v = 0 ∨ zc_V h v)) (zc_C0_above F0.2 (Or.inr (zc_Vq F0.1 h_a0)) (zc_w _)) fun q6v k_q6 => ?_
        dsimp only
        exact zm_iN ⟨rfl, (Or.imp id (zc_Vb F0.1) k_q6)⟩
      · refine zc_rT F0 h_a1.1 fun v7 e_v7 r_v7 => ?_
        have d_v7 := (zc_dep F0 h_a1).1
        rw [← e_v7] at d_v7
        refine zc_pN (K := fun v => (v = 0 ∨ zc_V h v)) (zc_C0_above F0.2 (Or.inr (zc_Vq F0.1 h_a1)) (zc_w _)) fun q8v k_q8 => ?_
        dsimp only
        exact zm_iN ⟨rfl, (Or.imp id (zc_Vb F0.1) k_q8)⟩
    · exact zm_iN ⟨rfl, Or.inl rfl⟩
theorem zc_C0_onWay {d : Nat} {h : zv_H} {a0 : Nat} {a1 : Nat} {a2 : Int} (hA : zc_A h) (h_a0 : zc_V h a0) (h_a1 : zc_V h a1) (h_a2 : zv_rg a2) : zm_R (C0_onWay (d + 4) a0 a1 a2 h) (fun q => q.2 = h ∧ ((q.1 = 0 ∨ zc_V h q.1))) := zm_cN (fun e => lC0_onWay e) (zc_E0_onWay hA h_a0 h_a1 h_a2)
theorem zc_L0_nextToGo_4 {d : Nat} {h0 : zv_H} (hA : zc_A h0) (N_L0_nextToGo_4 : Nat) : ∀ {a0 : Nat} {a1 : Nat} {a2 : Int}, (zv_lay a0 = (1, 0)) → (a1 = 0 ∨ zc_V h0 a1) → (0 ≤ a2 ∧ zv_rg a2) → (2147483647 - a2).toNat = N_L0_nextToGo_4 → zm_R (L0_nextToGo_4 (d + 1) a0 a1 a2 h0) (zm_N fun v h' => h' = h0 ∧ ((v = 0 ∨ zc_V h0 v))) := by
  induction N_L0_nextToGo_4 using Nat.strongRecOn with
  | _ N_L0_nextToGo_4 ih_L0_nextToGo_4 =>
    intro a0 a1 a2 h_a0 h_a1 h_a2 eN
    rw [qL0_nextToGo_4]
    have z_a2 := h_a2.1
    refine zm_if (fun c1 => ?_) (fun c1 => ?_)
    · refine zc_pN (K := fun v => (v = 0 ∨ zc_V h0 v)) (zc_C0_at (zc_Q_r hA).2 h_a0 h_a2.2) fun q1v k_q1 => ?_
      dsimp only
      refine zm_if (fun c3 => ?_) (fun c3 => ?_)
      · exact ih_L0_nextToGo_4 _ (by rw [← eN]; exact zc_up h_a2.2 (by unfold zv_rg; omega) c1) h_a0 h_a1 ⟨by rw [zc_up1 h_a2.2 (by unfold zv_rg; omega) c1]; omega, zc_w _⟩  rfl
      · refine zc_rRo (zc_Q_r hA) h_a0 ?_
        refine zm_if (fun c4 => ?_) (fun c4 => ?_)
        · have w_v2 := zv_lay_lt (zc_ly (zc_hV (zc_Q_r hA) h_a0).1.1)
          have w_q1_1 := zv_lay_lt (zc_ly ((Or.imp id (zc_Vb (zc_Q_r hA).1) k_q1).resolve_left c3).1)
          omega
        · refine zm_if (fun c5 => ?_) (fun c5 => ?_)
          · exact ih_L0_nextToGo_4 _ (by rw [← eN]; exact zc_up h_a2.2 (by unfold zv_rg; omega) c1) h_a0 h_a1 ⟨by rw [zc_up1 h_a2.2 (by unfold zv_rg; omega) c1]; omega, zc_w _⟩  rfl
          · refine zc_rT (zc_Q_r hA) ((Or.imp id (zc_Vb (zc_Q_r hA).1) k_q1).resolve_left c3).1 fun v3 e_v3 r_v3 => ?_
            refine zm_if (fun c6 => ?_) (fun c6 => ?_)
            · refine zc_rF (zc_Q_r hA) 14 h_a0 ?_
              refine zc_pI (K := fun v => True) (zc_C2_countOf (zc_Q_r hA).2 (zc_y0_6 h_a0).1 h_a2.2) fun q5v r_q5 k_q5 => ?_
              dsimp only
              refine zm_if (fun c8 => ?_) (fun c8 => ?_)
              · refine zm_if (fun c9 => ?_) (fun c9 => ?_)
                · exact ih_L0_nextToGo_4 _ (by rw [← eN]; exact zc_up h_a2.2 (by unfold zv_rg; omega) c1) h_a0 (Or.inr ((Or.imp id (zc_Vb (zc_Q_r hA).1) k_q1).resolve_left c3)) ⟨by rw [zc_up1 h_a2.2 (by unfold zv_rg; omega) c1]; omega, zc_w _⟩  rfl
                · refine zc_rI (zc_Q_r hA) ((Or.imp id (zc_Vb (zc_Q_r hA).1) k_q1).resolve_left c3).1 fun v6 e_v6 r_v6 => ?_
                  refine zc_rI (zc_Q_r hA) (h_a1.resolve_left c9).1 fun v7 e_v7 r_v7 => ?_
                  refine zm_if (fun c10 => ?_) (fun c10 => ?_)
                  · exact ih_L0_nextToGo_4 _ (by rw [← eN]; exact zc_up h_a2.2 (by unfold zv_rg; omega) c1) h_a0 (Or.inr ((Or.imp id (zc_Vb (zc_Q_r hA).1) k_q1).resolve_left c3)) ⟨by rw [zc_up1 h_a2.2 (by unfold zv_rg; omega) c1]; omega, zc_w _⟩  rfl
                  · exact ih_L0_nextToGo_4 _ (by rw [← eN]; exact zc_up h_a2.2 (by unfold zv_rg; omega) c1) h_a0 (Or.inr (h_a1.resolve_left c9)) ⟨by rw [zc_up1 h_a2.2 (by unfold zv_rg; omega) c1]; omega, zc_w _⟩  rfl
              · exact ih_L0_nextToGo_4 _ (by rw [← eN]; exact zc_up h_a2.2 (by unfold zv_rg; omega) c1) h_a0 h_a1 ⟨by rw [zc_up1 h_a2.2 (by unfold zv_rg; omega) c1]; omega, zc_w _⟩  rfl
            · exact ih_L0_nextToGo_4 _ (by rw [← eN]; exact zc_up h_a2.2 (by unfold zv_rg; omega) c1) h_a0 h_a1 ⟨by rw [zc_up1 h_a2.2 (by unfold zv_rg; omega) c1]; omega, zc_w _⟩  rfl
    · exact zm_iN ⟨rfl, h_a1⟩
theorem zc_E0_nextToGo {d : Nat} {h : zv_H} {a0 : Nat} (hA : zc_A h) (h_a0 : zv_lay a0 = (1, 0)) : zm_R (E0_nextToGo (d + 1) a0 h) (zm_N fun v h' => h' = h ∧ ((v = 0 ∨ zc_V h v))) := by
  have F0 := zc_Q_r hA
  rw [qE0_nextToGo]
  exact zc_L0_nextToGo_4 hA  _ h_a0 (Or.inl rfl) ⟨by omega, (by unfold zv_rg; omega)⟩  rfl
theorem zc_C0_nextToGo {d : Nat} {h : zv_H} {a0 : Nat} (hA : zc_A h) (h_a0 : zv_lay a0 = (1, 0)) : zm_R (C0_nextToGo (d + 2) a0 h) (fun q => q.2 = h ∧ ((q.1 = 0 ∨ zc_V h q.1))) := zm_cN (fun e => lC0_nextToGo (zc_ob hA h_a0) e) (zc_E0_nextToGo hA h_a0)
