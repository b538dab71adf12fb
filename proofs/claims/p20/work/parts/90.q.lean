theorem zc_E6_slot {d : Nat} {h : zv_H} {a0 : Nat} {a1 : Int} (hA : zc_A h) (h_a0 : zv_lay a0 = (1, 6)) (h_a1 : zv_rg a1) : zm_R (E6_slot (d + 0) a0 a1 h) (zm_I fun v h' => h' = h ∧ zv_rg v ∧ True) := by
  have F0 := zc_Q_r hA
  rw [qE6_slot]
  refine zc_rI F0 h_a0 fun v1 e_v1 r_v1 => ?_
  exact zm_iI ⟨rfl, (zc_tm (zc_w _)), trivial⟩
theorem zc_C6_slot {d : Nat} {h : zv_H} {a0 : Nat} {a1 : Int} (hA : zc_A h) (h_a0 : zv_lay a0 = (1, 6)) (h_a1 : zv_rg a1) : zm_R (C6_slot (d + 1) a0 a1 h) (fun q => q.2 = h ∧ zv_rg q.1 ∧ True) := zm_cI (fun e => lC6_slot (zc_ob hA h_a0) e) (zc_E6_slot hA h_a0 h_a1)
theorem zc_E6_stateAt {d : Nat} {h : zv_H} {a0 : Nat} {a1 : Int} (hA : zc_A h) (h_a0 : zv_lay a0 = (1, 6)) (h_a1 : zv_rg a1) : zm_R (E6_stateAt (d + 1) a0 a1 h) (zm_I fun v h' => h' = h ∧ zv_rg v ∧ True) := by
  have F0 := zc_Q_r hA
  rw [qE6_stateAt]
  refine zc_pI (K := fun v => True) (zc_C6_slot F0.2 h_a0 h_a1) fun q1v r_q1 k_q1 => ?_
  dsimp only
  refine zm_if (fun c2 => ?_) (fun c2 => ?_)
  · exact zm_iI ⟨rfl, (by unfold zv_rg; omega), trivial⟩
  · refine zm_if (fun c3 => ?_) (fun c3 => ?_)
    · refine zc_rF F0 1 h_a0 ?_
      refine zc_rA F0 (zc_y6_0 h_a0).1 (zc_y6_0 h_a0).2 (by omega) (by omega) fun v3 r_v3 => ?_
      exact zm_iI ⟨rfl, r_v3, trivial⟩
    · exact zm_iI ⟨rfl, (by unfold zv_rg; omega), trivial⟩
theorem zc_C6_stateAt {d : Nat} {h : zv_H} {a0 : Nat} {a1 : Int} (hA : zc_A h) (h_a0 : zv_lay a0 = (1, 6)) (h_a1 : zv_rg a1) : zm_R (C6_stateAt (d + 2) a0 a1 h) (fun q => q.2 = h ∧ zv_rg q.1 ∧ True) := zm_cI (fun e => lC6_stateAt (zc_ob hA h_a0) e) (zc_E6_stateAt hA h_a0 h_a1)
theorem zc_E6_timeAt {d : Nat} {h : zv_H} {a0 : Nat} {a1 : Int} (hA : zc_A h) (h_a0 : zv_lay a0 = (1, 6)) (h_a1 : zv_rg a1) : zm_R (E6_timeAt (d + 1) a0 a1 h) (zm_I fun v h' => h' = h ∧ zv_rg v ∧ True) := by
  have F0 := zc_Q_r hA
  rw [qE6_timeAt]
  refine zc_pI (K := fun v => True) (zc_C6_slot F0.2 h_a0 h_a1) fun q1v r_q1 k_q1 => ?_
  dsimp only
  refine zm_if (fun c2 => ?_) (fun c2 => ?_)
  · exact zm_iI ⟨rfl, (by unfold zv_rg; omega), trivial⟩
  · refine zm_if (fun c3 => ?_) (fun c3 => ?_)
    · refine zc_rF F0 2 h_a0 ?_
      refine zc_rA F0 (zc_y6_1 h_a0).1 (zc_y6_1 h_a0).2 (by omega) (by omega) fun v3 r_v3 => ?_
      exact zm_iI ⟨rfl, r_v3, trivial⟩
    · exact zm_iI ⟨rfl, (by unfold zv_rg; omega), trivial⟩
theorem zc_C6_timeAt {d : Nat} {h : zv_H} {a0 : Nat} {a1 : Int} (hA : zc_A h) (h_a0 : zv_lay a0 = (1, 6)) (h_a1 : zv_rg a1) : zm_R (C6_timeAt (d + 2) a0 a1 h) (fun q => q.2 = h ∧ zv_rg q.1 ∧ True) := zm_cI (fun e => lC6_timeAt (zc_ob hA h_a0) e) (zc_E6_timeAt hA h_a0 h_a1)
theorem zc_E6_add {d : Nat} {h : zv_H} {a0 : Nat} {a1 : Nat} {a2 : Int} (hA : zc_A h) (h_a0 : zv_lay a0 = (1, 6)) (h_a1 : zv_lay a1 = (1, 5)) (h_a2 : zv_rg a2) : zm_R (E6_add (d + 0) a0 a1 a2 h) (zm_V fun h' => zc_Q h h') := by
  have F0 := zc_Q_r hA
  rw [qE6_add]
  refine zc_rI F0 h_a0 fun v1 e_v1 r_v1 => ?_
  refine zm_if (fun c1 => ?_) (fun c1 => ?_)
  · refine zc_rI F0 h_a0 fun v2 e_v2 r_v2 => ?_
    refine zc_wO F0 h_a0 (zc_frO h_a0 (zc_lt h_a0 (by decide)) (by decide) rfl (by decide)) (zc_w _) fun g3 F2 => ?_
    refine zc_rI F2 h_a0 fun v4 e_v4 r_v4 => ?_
    refine zc_wO F2 h_a1 (zc_frO h_a1 (zc_lt h_a1 (by decide)) (by decide) rfl (by decide)) r_v4 fun g5 F3 => ?_
    exact zm_iV F3
  · refine zm_if (fun c4 => ?_) (fun c4 => ?_)
    · refine zc_rF F0 1 h_a0 ?_
      refine zc_rT F0 h_a1 fun v7 e_v7 r_v7 => ?_
      refine zc_wA F0 (zc_y6_0 h_a0).1 (zc_y6_0 h_a0).2 (by omega) (by omega) r_v7 fun g8 F5 u_g8 => ?_
      refine zc_rF F5 2 h_a0 ?_
      refine zc_wA F5 (zc_y6_1 h_a0).1 (zc_y6_1 h_a0).2 (by omega) (by omega) h_a2 fun g10 F6 u_g10 => ?_
      refine zc_rI F6 h_a0 fun v11 e_v11 r_v11 => ?_
      rw [u_g10 _ _ (by rw [h_a0])] at e_v11
      rw [u_g8 _ _ (by rw [h_a0])] at e_v11
      refine zc_wO F6 h_a0 (zc_frO h_a0 (zc_lt h_a0 (by decide)) (by decide) rfl (by decide)) (zc_w _) fun g12 F7 => ?_
      refine zc_rI F7 h_a0 fun v13 e_v13 r_v13 => ?_
      refine zc_wO F7 h_a1 (zc_frO h_a1 (zc_lt h_a1 (by decide)) (by decide) rfl (by decide)) r_v13 fun g14 F8 => ?_
      exact zm_iV F8
    · refine zc_rI F0 h_a0 fun v15 e_v15 r_v15 => ?_
      refine zc_wO F0 h_a0 (zc_frO h_a0 (zc_lt h_a0 (by decide)) (by decide) rfl (by decide)) (zc_w _) fun g16 F9 => ?_
      refine zc_rI F9 h_a0 fun v17 e_v17 r_v17 => ?_
      refine zc_wO F9 h_a1 (zc_frO h_a1 (zc_lt h_a1 (by decide)) (by decide) rfl (by decide)) r_v17 fun g18 F10 => ?_
      exact zm_iV F10
theorem zc_C6_add {d : Nat} {h : zv_H} {a0 : Nat} {a1 : Nat} {a2 : Int} (hA : zc_A h) (h_a0 : zv_lay a0 = (1, 6)) (h_a1 : zv_lay a1 = (1, 5)) (h_a2 : zv_rg a2) : zm_R (C6_add (d + 1) a0 a1 a2 h) (fun q => zc_Q h q) := zm_cV (fun e => lC6_add (zc_ob hA h_a0) e) (zc_E6_add hA h_a0 h_a1 h_a2)
theorem zc_L6_forget_2 {d : Nat} {h0 : zv_H} (N_L6_forget_2 : Nat) : ∀ {h : zv_H} {a0 : Nat} {a1 : Int} {a2 : Int}, zc_Q h0 h → (zv_lay a0 = (1, 6)) → (zv_rg a1) → (0 ≤ a2 ∧ zv_rg a2) → (2147483647 - a2).toNat = N_L6_forget_2 → zm_R (L6_forget_2 (d + 0) a0 a1 a2 h) (zm_V fun h' => zc_Q h0 h') := by
  induction N_L6_forget_2 using Nat.strongRecOn with
  | _ N_L6_forget_2 ih_L6_forget_2 =>
    intro h a0 a1 a2 F0 h_a0 h_a1 h_a2 eN
    rw [qL6_forget_2]
    have z_a2 := h_a2.1
    refine zm_if (fun c1 => ?_) (fun c1 => ?_)
    · refine zc_rF F0 1 h_a0 ?_
      refine zc_rA F0 (zc_y6_0 h_a0).1 (zc_y6_0 h_a0).2 (by omega) (by omega) fun v2 r_v2 => ?_
      refine zm_if (fun c2 => ?_) (fun c2 => ?_)
      · refine zc_rF F0 1 h_a0 ?_
        refine zc_wA F0 (zc_y6_0 h_a0).1 (zc_y6_0 h_a0).2 (by omega) (by omega) (by unfold zv_rg; omega) fun g4 F3 u_g4 => ?_
        exact ih_L6_forget_2 _ (by rw [← eN]; exact zc_up h_a2.2 (by unfold zv_rg; omega) c1) F3 h_a0 h_a1 ⟨by rw [zc_up1 h_a2.2 (by unfold zv_rg; omega) c1]; omega, zc_w _⟩  rfl
      · exact ih_L6_forget_2 _ (by rw [← eN]; exact zc_up h_a2.2 (by unfold zv_rg; omega) c1) F0 h_a0 h_a1 ⟨by rw [zc_up1 h_a2.2 (by unfold zv_rg; omega) c1]; omega, zc_w _⟩  rfl
    · exact zm_iV F0
theorem zc_E6_forget {d : Nat} {h : zv_H} {a0 : Nat} {a1 : Int} (hA : zc_A h) (h_a0 : zv_lay a0 = (1, 6)) (h_a1 : zv_rg a1) : zm_R (E6_forget (d + 0) a0 a1 h) (zm_V fun h' => zc_Q h h') := by
  have F0 := zc_Q_r hA
  rw [qE6_forget]
  exact zc_L6_forget_2  _ F0 h_a0 h_a1 ⟨by omega, (by unfold zv_rg; omega)⟩  rfl
theorem zc_C6_forget {d : Nat} {h : zv_H} {a0 : Nat} {a1 : Int} (hA : zc_A h) (h_a0 : zv_lay a0 = (1, 6)) (h_a1 : zv_rg a1) : zm_R (C6_forget (d + 1) a0 a1 h) (fun q => zc_Q h q) := zm_cV (fun e => lC6_forget (zc_ob hA h_a0) e) (zc_E6_forget hA h_a0 h_a1)
theorem zc_E3_byteAt {d : Nat} {h : zv_H} {a0 : Nat} {a1 : Int} (hA : zc_A h) (h_a0 : zv_lay a0 = (1, 3)) (h_a1 : zv_rg a1) : zm_R (E3_byteAt (d + 0) a0 a1 h) (zm_I fun v h' => h' = h ∧ zv_rg v ∧ True) := by
  have F0 := zc_Q_r hA
  rw [qE3_byteAt]
  refine zm_if (fun c1 => ?_) (fun c1 => ?_)
  · exact zm_iI ⟨rfl, (by unfold zv_rg; omega), trivial⟩
  · refine zc_rI F0 h_a0 fun v1 e_v1 r_v1 => ?_
    refine zm_if (fun c2 => ?_) (fun c2 => ?_)
    · refine zm_if (fun c3 => ?_) (fun c3 => ?_)
      · refine zc_rF F0 1 h_a0 ?_
        refine zc_rA F0 (zc_y3_0 h_a0).1 (zc_y3_0 h_a0).2 (by omega) (by omega) fun v3 r_v3 => ?_
        exact zm_iI ⟨rfl, r_v3, trivial⟩
      · exact zm_iI ⟨rfl, (by unfold zv_rg; omega), trivial⟩
    · exact zm_iI ⟨rfl, (by unfold zv_rg; omega), trivial⟩
theorem zc_C3_byteAt {d : Nat} {h : zv_H} {a0 : Nat} {a1 : Int} (hA : zc_A h) (h_a0 : zv_lay a0 = (1, 3)) (h_a1 : zv_rg a1) : zm_R (C3_byteAt (d + 1) a0 a1 h) (fun q => q.2 = h ∧ zv_rg q.1 ∧ True) := zm_cI (fun e => lC3_byteAt (zc_ob hA h_a0) e) (zc_E3_byteAt hA h_a0 h_a1)
theorem zc_E3_fail {d : Nat} {h : zv_H} {a0 : Nat} {a1 : Int} (hA : zc_A h) (h_a0 : zv_lay a0 = (1, 3)) (h_a1 : zv_rg a1) : zm_R (E3_fail (d + 0) a0 a1 h) (zm_I fun v h' => zc_Q h h' ∧ zv_rg v ∧ ((v = 0))) := by
  have F0 := zc_Q_r hA
  rw [qE3_fail]
  refine zc_wO F0 h_a0 (zc_frO h_a0 (zc_lt h_a0 (by decide)) (by decide) rfl (by decide)) h_a1 fun g1 F1 => ?_
  refine zc_rI F1 h_a0 fun v2 e_v2 r_v2 => ?_
  refine zc_wO F1 h_a0 (zc_frO h_a0 (zc_lt h_a0 (by decide)) (by decide) rfl (by decide)) r_v2 fun g3 F2 => ?_
  exact zm_iI ⟨F2, (by unfold zv_rg; omega), by omega⟩
theorem zc_C3_fail {d : Nat} {h : zv_H} {a0 : Nat} {a1 : Int} (hA : zc_A h) (h_a0 : zv_lay a0 = (1, 3)) (h_a1 : zv_rg a1) : zm_R (C3_fail (d + 1) a0 a1 h) (fun q => zc_Q h q.2 ∧ zv_rg q.1 ∧ ((q.1 = 0))) := zm_cI (fun e => lC3_fail (zc_ob hA h_a0) e) (zc_E3_fail hA h_a0 h_a1)
theorem zc_E3_more {d : Nat} {h : zv_H} {a0 : Nat} (hA : zc_A h) (h_a0 : zv_lay a0 = (1, 3)) : zm_R (E3_more (d + 0) a0 h) (zm_I fun v h' => h' = h ∧ zv_rg v ∧ ((v = 0 ∨ v = 1))) := by
  have F0 := zc_Q_r hA
  rw [qE3_more]
  refine zc_rI F0 h_a0 fun v1 e_v1 r_v1 => ?_
  refine zm_if (fun c1 => ?_) (fun c1 => ?_)
  · refine zc_rI F0 h_a0 fun v2 e_v2 r_v2 => ?_
    refine zm_if (fun c2 => ?_) (fun c2 => ?_)
    · exact zm_iI ⟨rfl, (by unfold zv_rg; omega), by omega⟩
    · exact zm_iI ⟨rfl, (by unfold zv_rg; omega), by omega⟩
  · exact zm_iI ⟨rfl, (by unfold zv_rg; omega), by omega⟩
theorem zc_C3_more {d : Nat} {h : zv_H} {a0 : Nat} (hA : zc_A h) (h_a0 : zv_lay a0 = (1, 3)) : zm_R (C3_more (d + 1) a0 h) (fun q => q.2 = h ∧ zv_rg q.1 ∧ ((q.1 = 0 ∨ q.1 = 1))) := zm_cI (fun e => lC3_more (zc_ob hA h_a0) e) (zc_E3_more hA h_a0)
theorem zc_E3_isSmall {d : Nat} {h : zv_H} {a0 : Int} (hA : zc_A h) (h_a0 : zv_rg a0) : zm_R (E3_isSmall (d + 0) a0 h) (zm_I fun v h' => h' = h ∧ zv_rg v ∧ ((v = 0 ∨ v = 1))) := by
  have F0 := zc_Q_r hA
  rw [qE3_isSmall]
  refine zm_if (fun c1 => ?_) (fun c1 => ?_)
  · exact zm_iI ⟨rfl, (by unfold zv_rg; omega), by omega⟩
  · refine zm_if (fun c2 => ?_) (fun c2 => ?_)
    · exact zm_iI ⟨rfl, (by unfold zv_rg; omega), by omega⟩
    · exact zm_iI ⟨rfl, (by unfold zv_rg; omega), by omega⟩
theorem zc_C3_isSmall {d : Nat} {h : zv_H} {a0 : Int} (hA : zc_A h) (h_a0 : zv_rg a0) : zm_R (C3_isSmall (d + 1) a0 h) (fun q => q.2 = h ∧ zv_rg q.1 ∧ ((q.1 = 0 ∨ q.1 = 1))) := zm_cI (fun e => lC3_isSmall e) (zc_E3_isSmall hA h_a0)
theorem zc_E3_isDigit {d : Nat} {h : zv_H} {a0 : Int} (hA : zc_A h) (h_a0 : zv_rg a0) : zm_R (E3_isDigit (d + 0) a0 h) (zm_I fun v h' => h' = h ∧ zv_rg v ∧ ((v = 0 ∨ v = 1))) := by
  have F0 := zc_Q_r hA
  rw [qE3_isDigit]
  refine zm_if (fun c1 => ?_) (fun c1 => ?_)
  · exact zm_iI ⟨rfl, (by unfold zv_rg; omega), by omega⟩
  · refine zm_if (fun c2 => ?_) (fun c2 => ?_)
    · exact zm_iI ⟨rfl, (by unfold zv_rg; omega), by omega⟩
    · exact zm_iI ⟨rfl, (by unfold zv_rg; omega), by omega⟩
theorem zc_C3_isDigit {d : Nat} {h : zv_H} {a0 : Int} (hA : zc_A h) (h_a0 : zv_rg a0) : zm_R (C3_isDigit (d + 1) a0 h) (fun q => q.2 = h ∧ zv_rg q.1 ∧ ((q.1 = 0 ∨ q.1 = 1))) := zm_cI (fun e => lC3_isDigit e) (zc_E3_isDigit hA h_a0)
theorem zc_E3_isSign {d : Nat} {h : zv_H} {a0 : Nat} {a1 : Int} (hA : zc_A h) (h_a0 : zv_lay a0 = (1, 3)) (h_a1 : zv_rg a1) : zm_R (E3_isSign (d + 0) a0 a1 h) (zm_I fun v h' => h' = h ∧ zv_rg v ∧ ((v = 0 ∨ v = 1))) := by
  have F0 := zc_Q_r hA
  rw [qE3_isSign]
  refine zc_rI F0 h_a0 fun v1 e_v1 r_v1 => ?_
  refine zm_if (fun c1 => ?_) (fun c1 => ?_)
  · refine zc_rI F0 h_a0 fun v2 e_v2 r_v2 => ?_
    refine zm_if (fun c2 => ?_) (fun c2 => ?_)
    · exact zm_iI ⟨rfl, (by unfold zv_rg; omega), by omega⟩
    · exact zm_iI ⟨rfl, (by unfold zv_rg; omega), by omega⟩
  · exact zm_iI ⟨rfl, (by unfold zv_rg; omega), by omega⟩
theorem zc_C3_isSign {d : Nat} {h : zv_H} {a0 : Nat} {a1 : Int} (hA : zc_A h) (h_a0 : zv_lay a0 = (1, 3)) (h_a1 : zv_rg a1) : zm_R (C3_isSign (d + 1) a0 a1 h) (fun q => q.2 = h ∧ zv_rg q.1 ∧ ((q.1 = 0 ∨ q.1 = 1))) := zm_cI (fun e => lC3_isSign (zc_ob hA h_a0) e) (zc_E3_isSign hA h_a0 h_a1)
theorem zc_E3_closed {d : Nat} {h : zv_H} {a0 : Nat} (hA : zc_A h) (h_a0 : zv_lay a0 = (1, 3)) : zm_R (E3_closed (d + 1) a0 h) (zm_I fun v h' => zc_Q h h' ∧ zv_rg v ∧ ((v = 0 ∨ v = 1))) := by
  have F0 := zc_Q_r hA
  rw [qE3_closed]
  refine zc_pI (K := fun v => (v = 0 ∨ v = 1)) (zc_C3_isSign F0.2 h_a0 (by unfold zv_rg; omega)) fun q1v r_q1 k_q1 => ?_
  dsimp only
  refine zm_if (fun c2 => ?_) (fun c2 => ?_)
  · refine zc_cI (K := fun v => (v = 0)) F0 (zc_C3_fail F0.2 h_a0 (by unfold zv_rg; omega)) fun q2v q2h F3 r_q2 k_q2 => ?_
    dsimp only
    refine zm_if (fun c4 => ?_) (fun c4 => ?_)
    · exact zm_iI ⟨F3, (by unfold zv_rg; omega), by omega⟩
    · exact zm_iI ⟨F3, (by unfold zv_rg; omega), by omega⟩
  · exact zm_iI ⟨F0, (by unfold zv_rg; omega), by omega⟩
theorem zc_C3_closed {d : Nat} {h : zv_H} {a0 : Nat} (hA : zc_A h) (h_a0 : zv_lay a0 = (1, 3)) : zm_R (C3_closed (d + 2) a0 h) (fun q => zc_Q h q.2 ∧ zv_rg q.1 ∧ ((q.1 = 0 ∨ q.1 = 1))) := zm_cI (fun e => lC3_closed (zc_ob hA h_a0) e) (zc_E3_closed hA h_a0)
theorem zc_E8_within {d : Nat} {h : zv_H} {a0 : Int} {a1 : Int} {a2 : Int} (hA : zc_A h) (h_a0 : zv_rg a0) (h_a1 : zv_rg a1) (h_a2 : zv_rg a2) : zm_R (E8_within (d + 0) a0 a1 a2 h) (zm_I fun v h' => h' = h ∧ zv_rg v ∧ ((v = 0 ∨ v = 1))) := by
  have F0 := zc_Q_r hA
  rw [qE8_within]
  refine zm_if (fun c1 => ?_) (fun c1 => ?_)
  · exact zm_iI ⟨rfl, (by unfold zv_rg; omega), by omega⟩
  · refine zm_if (fun c2 => ?_) (fun c2 => ?_)
    · exact zm_iI ⟨rfl, (by unfold zv_rg; omega), by omega⟩
    · exact zm_iI ⟨rfl, (by unfold zv_rg; omega), by omega⟩
theorem zc_C8_within {d : Nat} {h : zv_H} {a0 : Int} {a1 : Int} {a2 : Int} (hA : zc_A h) (h_a0 : zv_rg a0) (h_a1 : zv_rg a1) (h_a2 : zv_rg a2) : zm_R (C8_within (d + 1) a0 a1 a2 h) (fun q => q.2 = h ∧ zv_rg q.1 ∧ ((q.1 = 0 ∨ q.1 = 1))) := zm_cI (fun e => lC8_within e) (zc_E8_within hA h_a0 h_a1 h_a2)
theorem zc_E8_status {d : Nat} {h : zv_H} {a0 : Nat} (hA : zc_A h) (h_a0 : zv_lay a0 = (1, 8)) : zm_R (E8_status (d + 0) a0 h) (zm_I fun v h' => h' = h ∧ zv_rg v ∧ True) := by
  have F0 := zc_Q_r hA
  rw [qE8_status]
  refine zc_rI F0 h_a0 fun v1 e_v1 r_v1 => ?_
  exact zm_iI ⟨rfl, r_v1, trivial⟩
theorem zc_C8_status {d : Nat} {h : zv_H} {a0 : Nat} (hA : zc_A h) (h_a0 : zv_lay a0 = (1, 8)) : zm_R (C8_status (d + 1) a0 h) (fun q => q.2 = h ∧ zv_rg q.1 ∧ True) := zm_cI (fun e => lC8_status (zc_ob hA h_a0) e) (zc_E8_status hA h_a0)
theorem zc_E8_refused {d : Nat} {h : zv_H} {a0 : Nat} {a1 : Int} (hA : zc_A h) (h_a0 : zv_lay a0 = (1, 8)) (h_a1 : zv_rg a1) : zm_R (E8_refused (d + 0) a0 a1 h) (zm_I fun v h' => zc_Q h h' ∧ zv_rg v ∧ True) := by
  have F0 := zc_Q_r hA
  rw [qE8_refused]
  refine zc_wO F0 h_a0 (zc_frO h_a0 (zc_lt h_a0 (by decide)) (by decide) rfl (by decide)) h_a1 fun g1 F1 => ?_
  exact zm_iI ⟨F1, (by unfold zv_rg; omega), trivial⟩
theorem zc_C8_refused {d : Nat} {h : zv_H} {a0 : Nat} {a1 : Int} (hA : zc_A h) (h_a0 : zv_lay a0 = (1, 8)) (h_a1 : zv_rg a1) : zm_R (C8_refused (d + 1) a0 a1 h) (fun q => zc_Q h q.2 ∧ zv_rg q.1 ∧ True) := zm_cI (fun e => lC8_refused (zc_ob hA h_a0) e) (zc_E8_refused hA h_a0 h_a1)
theorem zc_E8_given {d : Nat} {h : zv_H} {a0 : Nat} {a1 : Int} (hA : zc_A h) (h_a0 : zv_lay a0 = (1, 8)) (h_a1 : zv_rg a1) : zm_R (E8_given (d + 0) a0 a1 h) (zm_I fun v h' => zc_Q h h' ∧ zv_rg v ∧ True) := by
  have F0 := zc_Q_r hA
  rw [qE8_given]
  refine zc_wO F0 h_a0 (zc_frO h_a0 (zc_lt h_a0 (by decide)) (by decide) rfl (by decide)) (by unfold zv_rg; omega) fun g1 F1 => ?_
  exact zm_iI ⟨F1, h_a1, trivial⟩
theorem zc_C8_given {d : Nat} {h : zv_H} {a0 : Nat} {a1 : Int} (hA : zc_A h) (h_a0 : zv_lay a0 = (1, 8)) (h_a1 : zv_rg a1) : zm_R (C8_given (d + 1) a0 a1 h) (fun q => zc_Q h q.2 ∧ zv_rg q.1 ∧ True) := zm_cI (fun e => lC8_given (zc_ob hA h_a0) e) (zc_E8_given hA h_a0 h_a1)
theorem zc_E8_answered {d : Nat} {h : zv_H} {a0 : Nat} {a1 : Int} (hA : zc_A h) (h_a0 : zv_lay a0 = (1, 8)) (h_a1 : zv_rg a1) : zm_R (E8_answered (d + 1) a0 a1 h) (zm_I fun v h' => zc_Q h h' ∧ zv_rg v ∧ True) := by
  have F0 := zc_Q_r hA
  rw [qE8_answered]
  refine zm_if (fun c1 => ?_) (fun c1 => ?_)
  · refine zc_cI (K := fun v => True) F0 (zc_C8_refused F0.2 h_a0 (zc_w _)) fun q1v q1h F2 r_q1 k_q1 => ?_
    dsimp only
    exact zm_iI ⟨F2, r_q1, trivial⟩
  · refine zc_cI (K := fun v => True) F0 (zc_C8_given F0.2 h_a0 h_a1) fun q2v q2h F3 r_q2 k_q2 => ?_
    dsimp only
    exact zm_iI ⟨F3, r_q2, trivial⟩
theorem zc_C8_answered {d : Nat} {h : zv_H} {a0 : Nat} {a1 : Int} (hA : zc_A h) (h_a0 : zv_lay a0 = (1, 8)) (h_a1 : zv_rg a1) : zm_R (C8_answered (d + 2) a0 a1 h) (fun q => zc_Q h q.2 ∧ zv_rg q.1 ∧ True) := zm_cI (fun e => lC8_answered (zc_ob hA h_a0) e) (zc_E8_answered hA h_a0 h_a1)
theorem zc_E0_glyph {d : Nat} {h : zv_H} {a0 : Nat} {a1 : Int} (hA : zc_A h) (h_a0 : zv_lay a0 = (1, 0)) (h_a1 : zv_rg a1) : zm_R (E0_glyph (d + 0) a0 a1 h) (zm_I fun v h' => h' = h ∧ zv_rg v ∧ True) := by
  have F0 := zc_Q_r hA
  rw [qE0_glyph]
  refine zm_if (fun c1 => ?_) (fun c1 => ?_)
  · exact zm_iI ⟨rfl, (by unfold zv_rg; omega), trivial⟩
  · refine zm_if (fun c2 => ?_) (fun c2 => ?_)
    · refine zc_rF F0 5 h_a0 ?_
      refine zc_rA F0 (zc_y0_2 h_a0).1 (zc_y0_2 h_a0).2 (by omega) (by omega) fun v2 r_v2 => ?_
      exact zm_iI ⟨rfl, r_v2, trivial⟩
    · exact zm_iI ⟨rfl, (by unfold zv_rg; omega), trivial⟩
theorem zc_C0_glyph {d : Nat} {h : zv_H} {a0 : Nat} {a1 : Int} (hA : zc_A h) (h_a0 : zv_lay a0 = (1, 0)) (h_a1 : zv_rg a1) : zm_R (C0_glyph (d + 1) a0 a1 h) (fun q => q.2 = h ∧ zv_rg q.1 ∧ True) := zm_cI (fun e => lC0_glyph (zc_ob hA h_a0) e) (zc_E0_glyph hA h_a0 h_a1)
theorem zc_E0_setGlyph {d : Nat} {h : zv_H} {a0 : Nat} {a1 : Int} {a2 : Int} (hA : zc_A h) (h_a0 : zv_lay a0 = (1, 0)) (h_a1 : zv_rg a1) (h_a2 : zv_rg a2) : zm_R (E0_setGlyph (d + 0) a0 a1 a2 h) (zm_V fun h' => zc_Q h h') := by
  have F0 := zc_Q_r hA
  rw [qE0_setGlyph]
  refine zm_if (fun c1 => ?_) (fun c1 => ?_)
  · exact zm_iV F0
  · refine zm_if (fun c2 => ?_) (fun c2 => ?_)
    · refine zc_rF F0 5 h_a0 ?_
      refine zc_wA F0 (zc_y0_2 h_a0).1 (zc_y0_2 h_a0).2 (by omega) (by omega) h_a2 fun g2 F3 u_g2 => ?_
      exact zm_iV F3
    · exact zm_iV F0
theorem zc_C0_setGlyph {d : Nat} {h : zv_H} {a0 : Nat} {a1 : Int} {a2 : Int} (hA : zc_A h) (h_a0 : zv_lay a0 = (1, 0)) (h_a1 : zv_rg a1) (h_a2 : zv_rg a2) : zm_R (C0_setGlyph (d + 1) a0 a1 a2 h) (fun q => zc_Q h q) := zm_cV (fun e => lC0_setGlyph (zc_ob hA h_a0) e) (zc_E0_setGlyph hA h_a0 h_a1 h_a2)
theorem zc_E0_letterAt {d : Nat} {h : zv_H} {a0 : Nat} {a1 : Nat} {a2 : Int} (hA : zc_A h) (h_a0 : zv_lay a0 = (1, 0)) (h_a1 : zv_lay a1 = (1, 5)) (h_a2 : zv_rg a2) : zm_R (E0_letterAt (d + 1) a0 a1 a2 h) (zm_I fun v h' => h' = h ∧ zv_rg v ∧ True) := by
  have F0 := zc_Q_r hA
  rw [qE0_letterAt]
  refine zc_pI (K := fun v => True) (zc_C5_idAt F0.2 h_a1 h_a2) fun q1v r_q1 k_q1 => ?_
  dsimp only
  refine zc_pI (K := fun v => True) (zc_C0_glyph F0.2 h_a0 r_q1) fun q2v r_q2 k_q2 => ?_
  dsimp only
  exact zm_iI ⟨rfl, r_q2, trivial⟩
theorem zc_C0_letterAt {d : Nat} {h : zv_H} {a0 : Nat} {a1 : Nat} {a2 : Int} (hA : zc_A h) (h_a0 : zv_lay a0 = (1, 0)) (h_a1 : zv_lay a1 = (1, 5)) (h_a2 : zv_rg a2) : zm_R (C0_letterAt (d + 2) a0 a1 a2 h) (fun q => q.2 = h ∧ zv_rg q.1 ∧ True) := zm_cI (fun e => lC0_letterAt (zc_ob hA h_a0) e) (zc_E0_letterAt hA h_a0 h_a1 h_a2)
theorem zc_E0_standOf {d : Nat} {h : zv_H} {a0 : Nat} {a1 : Int} (hA : zc_A h) (h_a0 : zv_lay a0 = (1, 0)) (h_a1 : zv_rg a1) : zm_R (E0_standOf (d + 1) a0 a1 h) (zm_I fun v h' => h' = h ∧ zv_rg v ∧ True) := by
  have F0 := zc_Q_r hA
  rw [qE0_standOf]
  refine zc_pI (K := fun v => True) (zc_C4_putter F0.2 h_a1) fun q1v r_q1 k_q1 => ?_
  dsimp only
  refine zm_if (fun c2 => ?_) (fun c2 => ?_)
  · exact zm_iI ⟨rfl, (by unfold zv_rg; omega), trivial⟩
  · refine zm_if (fun c3 => ?_) (fun c3 => ?_)
    · exact zm_iI ⟨rfl, (by unfold zv_rg; omega), trivial⟩
    · refine zm_if (fun c4 => ?_) (fun c4 => ?_)
      · refine zc_rF F0 6 h_a0 ?_
        refine zc_rA F0 (zc_y0_3 h_a0).1 (zc_y0_3 h_a0).2 (by omega) (by omega) fun v3 r_v3 => ?_
        refine zc_pI (K := fun v => True) (zc_C4_order F0.2 h_a1) fun q4v r_q4 k_q4 => ?_
        dsimp only
        refine zc_pI (K := fun v => True) (zc_C4_id F0.2 r_v3 r_q4) fun q5v r_q5 k_q5 => ?_
        dsimp only
        exact zm_iI ⟨rfl, r_q5, trivial⟩
      · exact zm_iI ⟨rfl, (by unfold zv_rg; omega), trivial⟩
theorem zc_C0_standOf {d : Nat} {h : zv_H} {a0 : Nat} {a1 : Int} (hA : zc_A h) (h_a0 : zv_lay a0 = (1, 0)) (h_a1 : zv_rg a1) : zm_R (C0_standOf (d + 2) a0 a1 h) (fun q => q.2 = h ∧ zv_rg q.1 ∧ True) := zm_cI (fun e => lC0_standOf (zc_ob hA h_a0) e) (zc_E0_standOf hA h_a0 h_a1)
theorem zc_L0_standForThemselves_2 {d : Nat} {h0 : zv_H} (N_L0_standForThemselves_2 : Nat) : ∀ {h : zv_H} {a0 : Nat} {a1 : Int}, zc_Q h0 h → (zv_lay a0 = (1, 0)) → (0 ≤ a1 ∧ zv_rg a1) → (2147483647 - a1).toNat = N_L0_standForThemselves_2 → zm_R (L0_standForThemselves_2 (d + 0) a0 a1 h) (zm_V fun h' => zc_Q h0 h') := by
  induction N_L0_standForThemselves_2 using Nat.strongRecOn with
  | _ N_L0_standForThemselves_2 ih_L0_standForThemselves_2 =>
    intro h a0 a1 F0 h_a0 h_a1 eN
    rw [qL0_standForThemselves_2]
    have z_a1 := h_a1.1
    refine zm_if (fun c1 => ?_) (fun c1 => ?_)
    · refine zc_rF F0 6 h_a0 ?_
      refine zc_wA F0 (zc_y0_3 h_a0).1 (zc_y0_3 h_a0).2 (by omega) (by omega) h_a1.2 fun g2 F2 u_g2 => ?_
      exact ih_L0_standForThemselves_2 _ (by rw [← eN]; exact zc_up h_a1.2 (by unfold zv_rg; omega) c1) F2 h_a0 ⟨by rw [zc_up1 h_a1.2 (by unfold zv_rg; omega) c1]; omega, zc_w _⟩  rfl
    · exact zm_iV F0
theorem zc_E0_standForThemselves {d : Nat} {h : zv_H} {a0 : Nat} (hA : zc_A h) (h_a0 : zv_lay a0 = (1, 0)) : zm_R (E0_standForThemselves (d + 0) a0 h) (zm_V fun h' => zc_Q h h') := by
  have F0 := zc_Q_r hA
  rw [qE0_standForThemselves]
  exact zc_L0_standForThemselves_2  _ F0 h_a0 ⟨by omega, (by unfold zv_rg; omega)⟩  rfl
theorem zc_C0_standForThemselves {d : Nat} {h : zv_H} {a0 : Nat} (hA : zc_A h) (h_a0 : zv_lay a0 = (1, 0)) : zm_R (C0_standForThemselves (d + 1) a0 h) (fun q => zc_Q h q) := zm_cV (fun e => lC0_standForThemselves (zc_ob hA h_a0) e) (zc_E0_standForThemselves hA h_a0)
theorem zc_E0_baseOf {d : Nat} {h : zv_H} {a0 : Int} (hA : zc_A h) (h_a0 : zv_rg a0) : zm_R (E0_baseOf (d + 1) a0 h) (zm_J fun _ h' => h' = h) := by
  have F0 := zc_Q_r hA
  rw [qE0_baseOf]
  refine zm_if (fun c1 => ?_) (fun c1 => ?_)
  · exact zm_iJ rfl
  · refine zc_pI (K := fun v => True) (zc_C4_putter F0.2 h_a0) fun q1v r_q1 k_q1 => ?_
    dsimp only
    refine zm_if (fun c3 => ?_) (fun c3 => ?_)
    · exact zm_iJ rfl
    · refine zc_pI (K := fun v => True) (zc_C4_putter F0.2 h_a0) fun q2v r_q2 k_q2 => ?_
      dsimp only
      exact zm_iJ rfl
theorem zc_C0_baseOf {d : Nat} {h : zv_H} {a0 : Int} (hA : zc_A h) (h_a0 : zv_rg a0) : zm_R (C0_baseOf (d + 2) a0 h) (fun q => q.2 = h) := zm_cJ (fun e => lC0_baseOf e) (zc_E0_baseOf hA h_a0)
theorem zc_E0_rowOfHere {d : Nat} {h : zv_H} {a0 : Nat} (hA : zc_A h) (h_a0 : zv_lay a0 = (1, 0)) : zm_R (E0_rowOfHere (d + 3) a0 h) (zm_N fun v h' => zc_Q h h' ∧ (zv_lay v = (1, 4))) := by
  have F0 := zc_Q_r hA
  rw [qE0_rowOfHere]
  refine zc_rF F0 8 h_a0 ?_
  refine zc_rRo F0 h_a0 ?_
  refine zc_cV F0 (zc_C4_lay F0.2 (zc_y0_5 h_a0).1 (zc_Vq F0.1 (zc_hV F0 h_a0).1)) fun g3 F1 => ?_
  refine zc_rF F1 8 h_a0 ?_
  exact zm_iN ⟨F1, (zc_y0_5 h_a0).1⟩
theorem zc_C0_rowOfHere {d : Nat} {h : zv_H} {a0 : Nat} (hA : zc_A h) (h_a0 : zv_lay a0 = (1, 0)) : zm_R (C0_rowOfHere (d + 4) a0 h) (fun q => zc_Q h q.2 ∧ (zv_lay q.1 = (1, 4))) := zm_cN (fun e => lC0_rowOfHere (zc_ob hA h_a0) e) (zc_E0_rowOfHere hA h_a0)
