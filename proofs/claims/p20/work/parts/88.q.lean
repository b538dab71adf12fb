theorem zc_E1_clear {d : Nat} {h : zv_H} {a0 : Nat} (hA : zc_A h) (h_a0 : zv_lay a0 = (1, 1)) : zm_R (E1_clear (d + 0) a0 h) (zm_V fun h' => zc_Q h h') := by
  have F0 := zc_Q_r hA
  rw [qE1_clear]
  refine zc_wO F0 h_a0 (zc_frO h_a0 (zc_lt h_a0 (by decide)) (by decide) rfl (by decide)) (by unfold zv_rg; omega) fun g1 F1 => ?_
  exact zm_iV F1
theorem zc_C1_clear {d : Nat} {h : zv_H} {a0 : Nat} (hA : zc_A h) (h_a0 : zv_lay a0 = (1, 1)) : zm_R (C1_clear (d + 1) a0 h) (fun q => zc_Q h q) := zm_cV (fun e => lC1_clear (zc_ob hA h_a0) e) (zc_E1_clear hA h_a0)
theorem zc_E1_add {d : Nat} {h : zv_H} {a0 : Nat} {a1 : Int} {a2 : Int} (hA : zc_A h) (h_a0 : zv_lay a0 = (1, 1)) (h_a1 : zv_rg a1) (h_a2 : zv_rg a2) : zm_R (E1_add (d + 0) a0 a1 a2 h) (zm_V fun h' => zc_Q h h') := by
  have F0 := zc_Q_r hA
  rw [qE1_add]
  refine zc_rI F0 h_a0 fun v1 e_v1 r_v1 => ?_
  refine zm_if (fun c1 => ?_) (fun c1 => ?_)
  · exact zm_iV F0
  · refine zc_rI F0 h_a0 fun v2 e_v2 r_v2 => ?_
    refine zm_if (fun c2 => ?_) (fun c2 => ?_)
    · refine zc_rF F0 1 h_a0 ?_
      refine zc_rI F0 h_a0 fun v4 e_v4 r_v4 => ?_
      refine zc_wA F0 (zc_y1_0 h_a0).1 (zc_y1_0 h_a0).2 (by omega) (by omega) h_a1 fun g5 F3 u_g5 => ?_
      refine zc_rF F3 2 h_a0 ?_
      refine zc_rI F3 h_a0 fun v7 e_v7 r_v7 => ?_
      rw [u_g5 _ _ (by rw [h_a0])] at e_v7
      refine zc_wA F3 (zc_y1_1 h_a0).1 (zc_y1_1 h_a0).2 (by omega) (by omega) h_a2 fun g8 F4 u_g8 => ?_
      refine zc_rI F4 h_a0 fun v9 e_v9 r_v9 => ?_
      rw [u_g8 _ _ (by rw [h_a0])] at e_v9
      rw [u_g5 _ _ (by rw [h_a0])] at e_v9
      refine zc_wO F4 h_a0 (zc_frO h_a0 (zc_lt h_a0 (by decide)) (by decide) rfl (by decide)) (zc_w _) fun g10 F5 => ?_
      exact zm_iV F5
    · exact zm_iV F0
theorem zc_C1_add {d : Nat} {h : zv_H} {a0 : Nat} {a1 : Int} {a2 : Int} (hA : zc_A h) (h_a0 : zv_lay a0 = (1, 1)) (h_a1 : zv_rg a1) (h_a2 : zv_rg a2) : zm_R (C1_add (d + 1) a0 a1 a2 h) (fun q => zc_Q h q) := zm_cV (fun e => lC1_add (zc_ob hA h_a0) e) (zc_E1_add hA h_a0 h_a1 h_a2)
theorem zc_E1_compare {d : Nat} {h : zv_H} {a0 : Nat} {a1 : Int} {a2 : Int} {a3 : Int} (hA : zc_A h) (h_a0 : zv_lay a0 = (1, 1)) (h_a1 : zv_rg a1) (h_a2 : zv_rg a2) (h_a3 : zv_rg a3) : zm_R (E1_compare (d + 1) a0 a1 a2 a3 h) (zm_V fun h' => zc_Q h h') := by
  have F0 := zc_Q_r hA
  rw [qE1_compare]
  refine zc_cV F0 (zc_C1_add F0.2 h_a0 (zc_w _) h_a3) fun g1 F1 => ?_
  exact zm_iV F1
theorem zc_C1_compare {d : Nat} {h : zv_H} {a0 : Nat} {a1 : Int} {a2 : Int} {a3 : Int} (hA : zc_A h) (h_a0 : zv_lay a0 = (1, 1)) (h_a1 : zv_rg a1) (h_a2 : zv_rg a2) (h_a3 : zv_rg a3) : zm_R (C1_compare (d + 2) a0 a1 a2 a3 h) (fun q => zc_Q h q) := zm_cV (fun e => lC1_compare (zc_ob hA h_a0) e) (zc_E1_compare hA h_a0 h_a1 h_a2 h_a3)
theorem zc_E1_usual {d : Nat} {h : zv_H} {a0 : Nat} (hA : zc_A h) (h_a0 : zv_lay a0 = (1, 1)) : zm_R (E1_usual (d + 2) a0 h) (zm_V fun h' => zc_Q h h') := by
  have F0 := zc_Q_r hA
  rw [qE1_usual]
  refine zc_cV F0 (zc_C1_clear F0.2 h_a0) fun g1 F1 => ?_
  refine zc_cV F1 (zc_C1_compare F1.2 h_a0 (by unfold zv_rg; omega) (by unfold zv_rg; omega) (by unfold zv_rg; omega)) fun g2 F2 => ?_
  refine zc_cV F2 (zc_C1_compare F2.2 h_a0 (by unfold zv_rg; omega) (by unfold zv_rg; omega) (by unfold zv_rg; omega)) fun g3 F3 => ?_
  refine zc_cV F3 (zc_C1_add F3.2 h_a0 (by unfold zv_rg; omega) (by unfold zv_rg; omega)) fun g4 F4 => ?_
  refine zc_cV F4 (zc_C1_compare F4.2 h_a0 (by unfold zv_rg; omega) (by unfold zv_rg; omega) (by unfold zv_rg; omega)) fun g5 F5 => ?_
  refine zc_cV F5 (zc_C1_add F5.2 h_a0 (by unfold zv_rg; omega) (by unfold zv_rg; omega)) fun g6 F6 => ?_
  refine zc_cV F6 (zc_C1_compare F6.2 h_a0 (by unfold zv_rg; omega) (by unfold zv_rg; omega) (by unfold zv_rg; omega)) fun g7 F7 => ?_
  refine zc_cV F7 (zc_C1_add F7.2 h_a0 (by unfold zv_rg; omega) (by unfold zv_rg; omega)) fun g8 F8 => ?_
  exact zm_iV F8
theorem zc_C1_usual {d : Nat} {h : zv_H} {a0 : Nat} (hA : zc_A h) (h_a0 : zv_lay a0 = (1, 1)) : zm_R (C1_usual (d + 3) a0 h) (fun q => zc_Q h q) := zm_cV (fun e => lC1_usual (zc_ob hA h_a0) e) (zc_E1_usual hA h_a0)
theorem zc_E1_set {d : Nat} {h : zv_H} {a0 : Nat} {a1 : Int} {a2 : Int} (hA : zc_A h) (h_a0 : zv_lay a0 = (1, 1)) (h_a1 : zv_rg a1) (h_a2 : zv_rg a2) : zm_R (E1_set (d + 0) a0 a1 a2 h) (zm_V fun h' => zc_Q h h') := by
  have F0 := zc_Q_r hA
  rw [qE1_set]
  refine zm_if (fun c1 => ?_) (fun c1 => ?_)
  · exact zm_iV F0
  · refine zm_if (fun c2 => ?_) (fun c2 => ?_)
    · refine zc_rF F0 3 h_a0 ?_
      refine zc_wA F0 (zc_y1_2 h_a0).1 (zc_y1_2 h_a0).2 (by omega) (by omega) h_a2 fun g2 F3 u_g2 => ?_
      exact zm_iV F3
    · exact zm_iV F0
theorem zc_C1_set {d : Nat} {h : zv_H} {a0 : Nat} {a1 : Int} {a2 : Int} (hA : zc_A h) (h_a0 : zv_lay a0 = (1, 1)) (h_a1 : zv_rg a1) (h_a2 : zv_rg a2) : zm_R (C1_set (d + 1) a0 a1 a2 h) (fun q => zc_Q h q) := zm_cV (fun e => lC1_set (zc_ob hA h_a0) e) (zc_E1_set hA h_a0 h_a1 h_a2)
theorem zc_L1_holds_4 {d : Nat} {h0 : zv_H} (hA : zc_A h0) (N_L1_holds_4 : Nat) : ∀ {a0 : Nat} {a1 : Int64} {a3 : Int}, (zv_lay a0 = (1, 1)) → (0 ≤ a3 ∧ zv_rg a3) → (2147483647 - a3).toNat = N_L1_holds_4 → zm_R (L1_holds_4 (d + 0) a0 a1 a3 h0) (zm_I fun v h' => h' = h0 ∧ zv_rg v ∧ True) := by
  induction N_L1_holds_4 using Nat.strongRecOn with
  | _ N_L1_holds_4 ih_L1_holds_4 =>
    intro a0 a1 a3 h_a0 h_a3 eN
    rw [qL1_holds_4]
    have z_a3 := h_a3.1
    refine zc_rI (zc_Q_r hA) h_a0 fun v1 e_v1 r_v1 => ?_
    refine zm_if (fun c1 => ?_) (fun c1 => ?_)
    · refine zm_if (fun c2 => ?_) (fun c2 => ?_)
      · refine zc_rF (zc_Q_r hA) 1 h_a0 ?_
        refine zc_rA (zc_Q_r hA) (zc_y1_0 h_a0).1 (zc_y1_0 h_a0).2 (by omega) (by omega) fun v3 r_v3 => ?_
        refine zm_if (fun c3 => ?_) (fun c3 => ?_)
        · exact ih_L1_holds_4 _ (by rw [← eN]; exact zc_up h_a3.2 (by unfold zv_rg; omega) c2) h_a0 ⟨by rw [zc_up1 h_a3.2 (by unfold zv_rg; omega) c2]; omega, zc_w _⟩  rfl
        · refine zm_if (fun c4 => ?_) (fun c4 => ?_)
          · exact ih_L1_holds_4 _ (by rw [← eN]; exact zc_up h_a3.2 (by unfold zv_rg; omega) c2) h_a0 ⟨by rw [zc_up1 h_a3.2 (by unfold zv_rg; omega) c2]; omega, zc_w _⟩  rfl
          · refine zm_if (fun c5 => ?_) (fun c5 => ?_)
            · exact ih_L1_holds_4 _ (by rw [← eN]; exact zc_up h_a3.2 (by unfold zv_rg; omega) c2) h_a0 ⟨by rw [zc_up1 h_a3.2 (by unfold zv_rg; omega) c2]; omega, zc_w _⟩  rfl
            · refine zm_if (fun c6 => ?_) (fun c6 => ?_)
              · rw [qL1_holds_107]
                rw [qL1_holds_108]
                refine zm_if (fun c7 => ?_) (fun c7 => ?_)
                · refine zc_rF (zc_Q_r hA) 2 h_a0 ?_
                  refine zc_rA (zc_Q_r hA) (zc_y1_1 h_a0).1 (zc_y1_1 h_a0).2 (by omega) (by omega) fun v2x1 r_v2x1 => ?_
                  refine zm_if (fun c8 => ?_) (fun c8 => ?_)
                  · rw [qL1_holds_181]
                    refine zm_if (fun c9 => ?_) (fun c9 => ?_)
                    · exact ih_L1_holds_4 _ (by rw [← eN]; exact zc_up h_a3.2 (by unfold zv_rg; omega) c2) h_a0 ⟨by rw [zc_up1 h_a3.2 (by unfold zv_rg; omega) c2]; omega, zc_w _⟩  rfl
                    · exact ih_L1_holds_4 _ (by rw [← eN]; exact zc_up h_a3.2 (by unfold zv_rg; omega) c2) h_a0 ⟨by rw [zc_up1 h_a3.2 (by unfold zv_rg; omega) c2]; omega, zc_w _⟩  rfl
                  · rw [qL1_holds_181]
                    refine zm_if (fun c10 => ?_) (fun c10 => ?_)
                    · exact ih_L1_holds_4 _ (by rw [← eN]; exact zc_up h_a3.2 (by unfold zv_rg; omega) c2) h_a0 ⟨by rw [zc_up1 h_a3.2 (by unfold zv_rg; omega) c2]; omega, zc_w _⟩  rfl
                    · exact ih_L1_holds_4 _ (by rw [← eN]; exact zc_up h_a3.2 (by unfold zv_rg; omega) c2) h_a0 ⟨by rw [zc_up1 h_a3.2 (by unfold zv_rg; omega) c2]; omega, zc_w _⟩  rfl
                · refine zm_if (fun c11 => ?_) (fun c11 => ?_)
                  · refine zc_rF (zc_Q_r hA) 2 h_a0 ?_
                    refine zc_rA (zc_Q_r hA) (zc_y1_1 h_a0).1 (zc_y1_1 h_a0).2 (by omega) (by omega) fun v4 r_v4 => ?_
                    refine zm_if (fun c12 => ?_) (fun c12 => ?_)
                    · rw [qL1_holds_181]
                      refine zm_if (fun c13 => ?_) (fun c13 => ?_)
                      · exact ih_L1_holds_4 _ (by rw [← eN]; exact zc_up h_a3.2 (by unfold zv_rg; omega) c2) h_a0 ⟨by rw [zc_up1 h_a3.2 (by unfold zv_rg; omega) c2]; omega, zc_w _⟩  rfl
                      · exact ih_L1_holds_4 _ (by rw [← eN]; exact zc_up h_a3.2 (by unfold zv_rg; omega) c2) h_a0 ⟨by rw [zc_up1 h_a3.2 (by unfold zv_rg; omega) c2]; omega, zc_w _⟩  rfl
                    · rw [qL1_holds_181]
                      refine zm_if (fun c14 => ?_) (fun c14 => ?_)
                      · exact ih_L1_holds_4 _ (by rw [← eN]; exact zc_up h_a3.2 (by unfold zv_rg; omega) c2) h_a0 ⟨by rw [zc_up1 h_a3.2 (by unfold zv_rg; omega) c2]; omega, zc_w _⟩  rfl
                      · exact ih_L1_holds_4 _ (by rw [← eN]; exact zc_up h_a3.2 (by unfold zv_rg; omega) c2) h_a0 ⟨by rw [zc_up1 h_a3.2 (by unfold zv_rg; omega) c2]; omega, zc_w _⟩  rfl
                  · refine zc_rF (zc_Q_r hA) 2 h_a0 ?_
                    refine zc_rA (zc_Q_r hA) (zc_y1_1 h_a0).1 (zc_y1_1 h_a0).2 (by omega) (by omega) fun v6 r_v6 => ?_
                    refine zm_if (fun c15 => ?_) (fun c15 => ?_)
                    · rw [qL1_holds_181]
                      refine zm_if (fun c16 => ?_) (fun c16 => ?_)
                      · exact ih_L1_holds_4 _ (by rw [← eN]; exact zc_up h_a3.2 (by unfold zv_rg; omega) c2) h_a0 ⟨by rw [zc_up1 h_a3.2 (by unfold zv_rg; omega) c2]; omega, zc_w _⟩  rfl
                      · exact ih_L1_holds_4 _ (by rw [← eN]; exact zc_up h_a3.2 (by unfold zv_rg; omega) c2) h_a0 ⟨by rw [zc_up1 h_a3.2 (by unfold zv_rg; omega) c2]; omega, zc_w _⟩  rfl
                    · rw [qL1_holds_181]
                      refine zm_if (fun c17 => ?_) (fun c17 => ?_)
                      · exact ih_L1_holds_4 _ (by rw [← eN]; exact zc_up h_a3.2 (by unfold zv_rg; omega) c2) h_a0 ⟨by rw [zc_up1 h_a3.2 (by unfold zv_rg; omega) c2]; omega, zc_w _⟩  rfl
                      · exact ih_L1_holds_4 _ (by rw [← eN]; exact zc_up h_a3.2 (by unfold zv_rg; omega) c2) h_a0 ⟨by rw [zc_up1 h_a3.2 (by unfold zv_rg; omega) c2]; omega, zc_w _⟩  rfl
              · refine zm_if (fun c18 => ?_) (fun c18 => ?_)
                · refine zc_rF (zc_Q_r hA) 3 h_a0 ?_
                  refine zc_rA (zc_Q_r hA) (zc_y1_2 h_a0).1 (zc_y1_2 h_a0).2 (by first | omega | (rw [zm_w (by omega)]; omega)) (by first | omega | (rw [zm_w (by omega)]; omega)) fun v5x1 r_v5x1 => ?_
                  rw [qL1_holds_108]
                  refine zm_if (fun c19 => ?_) (fun c19 => ?_)
                  · refine zc_rF (zc_Q_r hA) 2 h_a0 ?_
                    refine zc_rA (zc_Q_r hA) (zc_y1_1 h_a0).1 (zc_y1_1 h_a0).2 (by omega) (by omega) fun v2x2 r_v2x2 => ?_
                    refine zm_if (fun c20 => ?_) (fun c20 => ?_)
                    · rw [qL1_holds_181]
                      refine zm_if (fun c21 => ?_) (fun c21 => ?_)
                      · exact ih_L1_holds_4 _ (by rw [← eN]; exact zc_up h_a3.2 (by unfold zv_rg; omega) c2) h_a0 ⟨by rw [zc_up1 h_a3.2 (by unfold zv_rg; omega) c2]; omega, zc_w _⟩  rfl
                      · exact ih_L1_holds_4 _ (by rw [← eN]; exact zc_up h_a3.2 (by unfold zv_rg; omega) c2) h_a0 ⟨by rw [zc_up1 h_a3.2 (by unfold zv_rg; omega) c2]; omega, zc_w _⟩  rfl
                    · rw [qL1_holds_181]
                      refine zm_if (fun c22 => ?_) (fun c22 => ?_)
                      · exact ih_L1_holds_4 _ (by rw [← eN]; exact zc_up h_a3.2 (by unfold zv_rg; omega) c2) h_a0 ⟨by rw [zc_up1 h_a3.2 (by unfold zv_rg; omega) c2]; omega, zc_w _⟩  rfl
                      · exact ih_L1_holds_4 _ (by rw [← eN]; exact zc_up h_a3.2 (by unfold zv_rg; omega) c2) h_a0 ⟨by rw [zc_up1 h_a3.2 (by unfold zv_rg; omega) c2]; omega, zc_w _⟩  rfl
                  · refine zm_if (fun c23 => ?_) (fun c23 => ?_)
                    · refine zc_rF (zc_Q_r hA) 2 h_a0 ?_
                      refine zc_rA (zc_Q_r hA) (zc_y1_1 h_a0).1 (zc_y1_1 h_a0).2 (by omega) (by omega) fun v4x2 r_v4x2 => ?_
                      refine zm_if (fun c24 => ?_) (fun c24 => ?_)
                      · rw [qL1_holds_181]
                        refine zm_if (fun c25 => ?_) (fun c25 => ?_)
                        · exact ih_L1_holds_4 _ (by rw [← eN]; exact zc_up h_a3.2 (by unfold zv_rg; omega) c2) h_a0 ⟨by rw [zc_up1 h_a3.2 (by unfold zv_rg; omega) c2]; omega, zc_w _⟩  rfl
                        · exact ih_L1_holds_4 _ (by rw [← eN]; exact zc_up h_a3.2 (by unfold zv_rg; omega) c2) h_a0 ⟨by rw [zc_up1 h_a3.2 (by unfold zv_rg; omega) c2]; omega, zc_w _⟩  rfl
                      · rw [qL1_holds_181]
                        refine zm_if (fun c26 => ?_) (fun c26 => ?_)
                        · exact ih_L1_holds_4 _ (by rw [← eN]; exact zc_up h_a3.2 (by unfold zv_rg; omega) c2) h_a0 ⟨by rw [zc_up1 h_a3.2 (by unfold zv_rg; omega) c2]; omega, zc_w _⟩  rfl
                        · exact ih_L1_holds_4 _ (by rw [← eN]; exact zc_up h_a3.2 (by unfold zv_rg; omega) c2) h_a0 ⟨by rw [zc_up1 h_a3.2 (by unfold zv_rg; omega) c2]; omega, zc_w _⟩  rfl
                    · refine zc_rF (zc_Q_r hA) 2 h_a0 ?_
                      refine zc_rA (zc_Q_r hA) (zc_y1_1 h_a0).1 (zc_y1_1 h_a0).2 (by omega) (by omega) fun v6x1 r_v6x1 => ?_
                      refine zm_if (fun c27 => ?_) (fun c27 => ?_)
                      · rw [qL1_holds_181]
                        refine zm_if (fun c28 => ?_) (fun c28 => ?_)
                        · exact ih_L1_holds_4 _ (by rw [← eN]; exact zc_up h_a3.2 (by unfold zv_rg; omega) c2) h_a0 ⟨by rw [zc_up1 h_a3.2 (by unfold zv_rg; omega) c2]; omega, zc_w _⟩  rfl
                        · exact ih_L1_holds_4 _ (by rw [← eN]; exact zc_up h_a3.2 (by unfold zv_rg; omega) c2) h_a0 ⟨by rw [zc_up1 h_a3.2 (by unfold zv_rg; omega) c2]; omega, zc_w _⟩  rfl
                      · rw [qL1_holds_181]
                        refine zm_if (fun c29 => ?_) (fun c29 => ?_)
                        · exact ih_L1_holds_4 _ (by rw [← eN]; exact zc_up h_a3.2 (by unfold zv_rg; omega) c2) h_a0 ⟨by rw [zc_up1 h_a3.2 (by unfold zv_rg; omega) c2]; omega, zc_w _⟩  rfl
                        · exact ih_L1_holds_4 _ (by rw [← eN]; exact zc_up h_a3.2 (by unfold zv_rg; omega) c2) h_a0 ⟨by rw [zc_up1 h_a3.2 (by unfold zv_rg; omega) c2]; omega, zc_w _⟩  rfl
                · rw [qL1_holds_107]
                  rw [qL1_holds_108]
                  refine zm_if (fun c30 => ?_) (fun c30 => ?_)
                  · refine zc_rF (zc_Q_r hA) 2 h_a0 ?_
                    refine zc_rA (zc_Q_r hA) (zc_y1_1 h_a0).1 (zc_y1_1 h_a0).2 (by omega) (by omega) fun v2x3 r_v2x3 => ?_
                    refine zm_if (fun c31 => ?_) (fun c31 => ?_)
                    · rw [qL1_holds_181]
                      refine zm_if (fun c32 => ?_) (fun c32 => ?_)
                      · exact ih_L1_holds_4 _ (by rw [← eN]; exact zc_up h_a3.2 (by unfold zv_rg; omega) c2) h_a0 ⟨by rw [zc_up1 h_a3.2 (by unfold zv_rg; omega) c2]; omega, zc_w _⟩  rfl
                      · exact ih_L1_holds_4 _ (by rw [← eN]; exact zc_up h_a3.2 (by unfold zv_rg; omega) c2) h_a0 ⟨by rw [zc_up1 h_a3.2 (by unfold zv_rg; omega) c2]; omega, zc_w _⟩  rfl
                    · rw [qL1_holds_181]
                      refine zm_if (fun c33 => ?_) (fun c33 => ?_)
                      · exact ih_L1_holds_4 _ (by rw [← eN]; exact zc_up h_a3.2 (by unfold zv_rg; omega) c2) h_a0 ⟨by rw [zc_up1 h_a3.2 (by unfold zv_rg; omega) c2]; omega, zc_w _⟩  rfl
                      · exact ih_L1_holds_4 _ (by rw [← eN]; exact zc_up h_a3.2 (by unfold zv_rg; omega) c2) h_a0 ⟨by rw [zc_up1 h_a3.2 (by unfold zv_rg; omega) c2]; omega, zc_w _⟩  rfl
                  · refine zm_if (fun c34 => ?_) (fun c34 => ?_)
                    · refine zc_rF (zc_Q_r hA) 2 h_a0 ?_
                      refine zc_rA (zc_Q_r hA) (zc_y1_1 h_a0).1 (zc_y1_1 h_a0).2 (by omega) (by omega) fun v4x3 r_v4x3 => ?_
                      refine zm_if (fun c35 => ?_) (fun c35 => ?_)
                      · rw [qL1_holds_181]
                        refine zm_if (fun c36 => ?_) (fun c36 => ?_)
                        · exact ih_L1_holds_4 _ (by rw [← eN]; exact zc_up h_a3.2 (by unfold zv_rg; omega) c2) h_a0 ⟨by rw [zc_up1 h_a3.2 (by unfold zv_rg; omega) c2]; omega, zc_w _⟩  rfl
                        · exact ih_L1_holds_4 _ (by rw [← eN]; exact zc_up h_a3.2 (by unfold zv_rg; omega) c2) h_a0 ⟨by rw [zc_up1 h_a3.2 (by unfold zv_rg; omega) c2]; omega, zc_w _⟩  rfl
                      · rw [qL1_holds_181]
                        refine zm_if (fun c37 => ?_) (fun c37 => ?_)
                        · exact ih_L1_holds_4 _ (by rw [← eN]; exact zc_up h_a3.2 (by unfold zv_rg; omega) c2) h_a0 ⟨by rw [zc_up1 h_a3.2 (by unfold zv_rg; omega) c2]; omega, zc_w _⟩  rfl
                        · exact ih_L1_holds_4 _ (by rw [← eN]; exact zc_up h_a3.2 (by unfold zv_rg; omega) c2) h_a0 ⟨by rw [zc_up1 h_a3.2 (by unfold zv_rg; omega) c2]; omega, zc_w _⟩  rfl
                    · refine zc_rF (zc_Q_r hA) 2 h_a0 ?_
                      refine zc_rA (zc_Q_r hA) (zc_y1_1 h_a0).1 (zc_y1_1 h_a0).2 (by omega) (by omega) fun v6x2 r_v6x2 => ?_
                      refine zm_if (fun c38 => ?_) (fun c38 => ?_)
                      · rw [qL1_holds_181]
                        refine zm_if (fun c39 => ?_) (fun c39 => ?_)
                        · exact ih_L1_holds_4 _ (by rw [← eN]; exact zc_up h_a3.2 (by unfold zv_rg; omega) c2) h_a0 ⟨by rw [zc_up1 h_a3.2 (by unfold zv_rg; omega) c2]; omega, zc_w _⟩  rfl
                        · exact ih_L1_holds_4 _ (by rw [← eN]; exact zc_up h_a3.2 (by unfold zv_rg; omega) c2) h_a0 ⟨by rw [zc_up1 h_a3.2 (by unfold zv_rg; omega) c2]; omega, zc_w _⟩  rfl
                      · rw [qL1_holds_181]
                        refine zm_if (fun c40 => ?_) (fun c40 => ?_)
                        · exact ih_L1_holds_4 _ (by rw [← eN]; exact zc_up h_a3.2 (by unfold zv_rg; omega) c2) h_a0 ⟨by rw [zc_up1 h_a3.2 (by unfold zv_rg; omega) c2]; omega, zc_w _⟩  rfl
                        · exact ih_L1_holds_4 _ (by rw [← eN]; exact zc_up h_a3.2 (by unfold zv_rg; omega) c2) h_a0 ⟨by rw [zc_up1 h_a3.2 (by unfold zv_rg; omega) c2]; omega, zc_w _⟩  rfl
      · rw [qL1_holds_204]
        refine zm_if (fun c41 => ?_) (fun c41 => ?_)
        · exact zm_iI ⟨rfl, (by unfold zv_rg; omega), trivial⟩
        · exact zm_iI ⟨rfl, (by unfold zv_rg; omega), trivial⟩
    · rw [qL1_holds_204]
      refine zm_if (fun c42 => ?_) (fun c42 => ?_)
      · exact zm_iI ⟨rfl, (by unfold zv_rg; omega), trivial⟩
      · exact zm_iI ⟨rfl, (by unfold zv_rg; omega), trivial⟩
theorem zc_E1_holds {d : Nat} {h : zv_H} {a0 : Nat} (hA : zc_A h) (h_a0 : zv_lay a0 = (1, 1)) : zm_R (E1_holds (d + 0) a0 h) (zm_I fun v h' => h' = h ∧ zv_rg v ∧ True) := by
  have F0 := zc_Q_r hA
  rw [qE1_holds]
  exact zc_L1_holds_4 hA  _ h_a0 ⟨by omega, (by unfold zv_rg; omega)⟩  rfl
theorem zc_C1_holds {d : Nat} {h : zv_H} {a0 : Nat} (hA : zc_A h) (h_a0 : zv_lay a0 = (1, 1)) : zm_R (C1_holds (d + 1) a0 h) (fun q => q.2 = h ∧ zv_rg q.1 ∧ True) := zm_cI (fun e => lC1_holds (zc_ob hA h_a0) e) (zc_E1_holds hA h_a0)
theorem zc_L2_indexOf_2 {d : Nat} {h0 : zv_H} (hA : zc_A h0) (N_L2_indexOf_2 : Nat) : ∀ {a0 : Nat} {a1 : Int} {a2 : Int}, (zv_lay a0 = (1, 2)) → (zv_rg a1) → (0 ≤ a2 ∧ zv_rg a2) → (2147483647 - a2).toNat = N_L2_indexOf_2 → zm_R (L2_indexOf_2 (d + 0) a0 a1 a2 h0) (zm_I fun v h' => h' = h0 ∧ zv_rg v ∧ ((v = -1 ∨ (0 ≤ v ∧ v < 12)))) := by
  induction N_L2_indexOf_2 using Nat.strongRecOn with
  | _ N_L2_indexOf_2 ih_L2_indexOf_2 =>
    intro a0 a1 a2 h_a0 h_a1 h_a2 eN
    rw [qL2_indexOf_2]
    have z_a2 := h_a2.1
    refine zc_rI (zc_Q_r hA) h_a0 fun v1 e_v1 r_v1 => ?_
    refine zm_if (fun c1 => ?_) (fun c1 => ?_)
    · refine zm_if (fun c2 => ?_) (fun c2 => ?_)
      · refine zc_rF (zc_Q_r hA) 1 h_a0 ?_
        refine zc_rA (zc_Q_r hA) (zc_y2_0 h_a0).1 (zc_y2_0 h_a0).2 (by omega) (by omega) fun v3 r_v3 => ?_
        refine zm_if (fun c3 => ?_) (fun c3 => ?_)
        · exact zm_iI ⟨rfl, h_a2.2, by omega⟩
        · exact ih_L2_indexOf_2 _ (by rw [← eN]; exact zc_up h_a2.2 (by unfold zv_rg; omega) c2) h_a0 h_a1 ⟨by rw [zc_up1 h_a2.2 (by unfold zv_rg; omega) c2]; omega, zc_w _⟩  rfl
      · exact zm_iI ⟨rfl, (by unfold zv_rg; omega), by omega⟩
    · exact zm_iI ⟨rfl, (by unfold zv_rg; omega), by omega⟩
theorem zc_E2_indexOf {d : Nat} {h : zv_H} {a0 : Nat} {a1 : Int} (hA : zc_A h) (h_a0 : zv_lay a0 = (1, 2)) (h_a1 : zv_rg a1) : zm_R (E2_indexOf (d + 0) a0 a1 h) (zm_I fun v h' => h' = h ∧ zv_rg v ∧ ((v = -1 ∨ (0 ≤ v ∧ v < 12)))) := by
  have F0 := zc_Q_r hA
  rw [qE2_indexOf]
  exact zc_L2_indexOf_2 hA  _ h_a0 h_a1 ⟨by omega, (by unfold zv_rg; omega)⟩  rfl
theorem zc_C2_indexOf {d : Nat} {h : zv_H} {a0 : Nat} {a1 : Int} (hA : zc_A h) (h_a0 : zv_lay a0 = (1, 2)) (h_a1 : zv_rg a1) : zm_R (C2_indexOf (d + 1) a0 a1 h) (fun q => q.2 = h ∧ zv_rg q.1 ∧ ((q.1 = -1 ∨ (0 ≤ q.1 ∧ q.1 < 12)))) := zm_cI (fun e => lC2_indexOf (zc_ob hA h_a0) e) (zc_E2_indexOf hA h_a0 h_a1)
theorem zc_E2_keyAt {d : Nat} {h : zv_H} {a0 : Nat} {a1 : Int} (hA : zc_A h) (h_a0 : zv_lay a0 = (1, 2)) (h_a1 : zv_rg a1) : zm_R (E2_keyAt (d + 0) a0 a1 h) (zm_I fun v h' => h' = h ∧ zv_rg v ∧ True) := by
  have F0 := zc_Q_r hA
  rw [qE2_keyAt]
  refine zm_if (fun c1 => ?_) (fun c1 => ?_)
  · exact zm_iI ⟨rfl, (by unfold zv_rg; omega), trivial⟩
  · refine zc_rI F0 h_a0 fun v1 e_v1 r_v1 => ?_
    refine zm_if (fun c2 => ?_) (fun c2 => ?_)
    · refine zm_if (fun c3 => ?_) (fun c3 => ?_)
      · refine zc_rF F0 1 h_a0 ?_
        refine zc_rA F0 (zc_y2_0 h_a0).1 (zc_y2_0 h_a0).2 (by omega) (by omega) fun v3 r_v3 => ?_
        exact zm_iI ⟨rfl, r_v3, trivial⟩
      · exact zm_iI ⟨rfl, (by unfold zv_rg; omega), trivial⟩
    · exact zm_iI ⟨rfl, (by unfold zv_rg; omega), trivial⟩
theorem zc_C2_keyAt {d : Nat} {h : zv_H} {a0 : Nat} {a1 : Int} (hA : zc_A h) (h_a0 : zv_lay a0 = (1, 2)) (h_a1 : zv_rg a1) : zm_R (C2_keyAt (d + 1) a0 a1 h) (fun q => q.2 = h ∧ zv_rg q.1 ∧ True) := zm_cI (fun e => lC2_keyAt (zc_ob hA h_a0) e) (zc_E2_keyAt hA h_a0 h_a1)
theorem zc_E2_ownerAt {d : Nat} {h : zv_H} {a0 : Nat} {a1 : Int} (hA : zc_A h) (h_a0 : zv_lay a0 = (1, 2)) (h_a1 : zv_rg a1) : zm_R (E2_ownerAt (d + 0) a0 a1 h) (zm_I fun v h' => h' = h ∧ zv_rg v ∧ True) := by
  have F0 := zc_Q_r hA
  rw [qE2_ownerAt]
  refine zm_if (fun c1 => ?_) (fun c1 => ?_)
  · exact zm_iI ⟨rfl, (by unfold zv_rg; omega), trivial⟩
  · refine zc_rI F0 h_a0 fun v1 e_v1 r_v1 => ?_
    refine zm_if (fun c2 => ?_) (fun c2 => ?_)
    · refine zm_if (fun c3 => ?_) (fun c3 => ?_)
      · refine zc_rF F0 2 h_a0 ?_
        refine zc_rA F0 (zc_y2_1 h_a0).1 (zc_y2_1 h_a0).2 (by omega) (by omega) fun v3 r_v3 => ?_
        exact zm_iI ⟨rfl, r_v3, trivial⟩
      · exact zm_iI ⟨rfl, (by unfold zv_rg; omega), trivial⟩
    · exact zm_iI ⟨rfl, (by unfold zv_rg; omega), trivial⟩
theorem zc_C2_ownerAt {d : Nat} {h : zv_H} {a0 : Nat} {a1 : Int} (hA : zc_A h) (h_a0 : zv_lay a0 = (1, 2)) (h_a1 : zv_rg a1) : zm_R (C2_ownerAt (d + 1) a0 a1 h) (fun q => q.2 = h ∧ zv_rg q.1 ∧ True) := zm_cI (fun e => lC2_ownerAt (zc_ob hA h_a0) e) (zc_E2_ownerAt hA h_a0 h_a1)
theorem zc_L2_countOf_4 {d : Nat} {h0 : zv_H} (hA : zc_A h0) (N_L2_countOf_4 : Nat) : ∀ {a0 : Nat} {a1 : Int} {a2 : Int} {a3 : Int}, (zv_lay a0 = (1, 2)) → (zv_rg a1) → (zv_rg a2) → (0 ≤ a3 ∧ zv_rg a3) → (2147483647 - a3).toNat = N_L2_countOf_4 → zm_R (L2_countOf_4 (d + 0) a0 a1 a2 a3 h0) (zm_I fun v h' => h' = h0 ∧ zv_rg v ∧ True) := by
  induction N_L2_countOf_4 using Nat.strongRecOn with
  | _ N_L2_countOf_4 ih_L2_countOf_4 =>
    intro a0 a1 a2 a3 h_a0 h_a1 h_a2 h_a3 eN
    rw [qL2_countOf_4]
    have z_a3 := h_a3.1
    refine zc_rI (zc_Q_r hA) h_a0 fun v1 e_v1 r_v1 => ?_
    refine zm_if (fun c1 => ?_) (fun c1 => ?_)
    · refine zm_if (fun c2 => ?_) (fun c2 => ?_)
      · refine zc_rF (zc_Q_r hA) 2 h_a0 ?_
        refine zc_rA (zc_Q_r hA) (zc_y2_1 h_a0).1 (zc_y2_1 h_a0).2 (by omega) (by omega) fun v3 r_v3 => ?_
        refine zm_if (fun c3 => ?_) (fun c3 => ?_)
        · exact ih_L2_countOf_4 _ (by rw [← eN]; exact zc_up h_a3.2 (by unfold zv_rg; omega) c2) h_a0 h_a1 (zc_w _) ⟨by rw [zc_up1 h_a3.2 (by unfold zv_rg; omega) c2]; omega, zc_w _⟩  rfl
        · exact ih_L2_countOf_4 _ (by rw [← eN]; exact zc_up h_a3.2 (by unfold zv_rg; omega) c2) h_a0 h_a1 (zc_w _) ⟨by rw [zc_up1 h_a3.2 (by unfold zv_rg; omega) c2]; omega, zc_w _⟩  rfl
      · exact zm_iI ⟨rfl, h_a2, trivial⟩
    · exact zm_iI ⟨rfl, h_a2, trivial⟩
theorem zc_E2_countOf {d : Nat} {h : zv_H} {a0 : Nat} {a1 : Int} (hA : zc_A h) (h_a0 : zv_lay a0 = (1, 2)) (h_a1 : zv_rg a1) : zm_R (E2_countOf (d + 0) a0 a1 h) (zm_I fun v h' => h' = h ∧ zv_rg v ∧ True) := by
  have F0 := zc_Q_r hA
  rw [qE2_countOf]
  exact zc_L2_countOf_4 hA  _ h_a0 h_a1 (by unfold zv_rg; omega) ⟨by omega, (by unfold zv_rg; omega)⟩  rfl
theorem zc_C2_countOf {d : Nat} {h : zv_H} {a0 : Nat} {a1 : Int} (hA : zc_A h) (h_a0 : zv_lay a0 = (1, 2)) (h_a1 : zv_rg a1) : zm_R (C2_countOf (d + 1) a0 a1 h) (fun q => q.2 = h ∧ zv_rg q.1 ∧ True) := zm_cI (fun e => lC2_countOf (zc_ob hA h_a0) e) (zc_E2_countOf hA h_a0 h_a1)
theorem zc_E2_own {d : Nat} {h : zv_H} {a0 : Nat} {a1 : Int} {a2 : Int} (hA : zc_A h) (h_a0 : zv_lay a0 = (1, 2)) (h_a1 : zv_rg a1) (h_a2 : zv_rg a2) : zm_R (E2_own (d + 1) a0 a1 a2 h) (zm_V fun h' => zc_Q h h') := by
  have F0 := zc_Q_r hA
  rw [qE2_own]
  refine zc_pI (K := fun v => (v = -1 ∨ (0 ≤ v ∧ v < 12))) (zc_C2_indexOf F0.2 h_a0 h_a1) fun q1v r_q1 k_q1 => ?_
  dsimp only
  refine zm_if (fun c2 => ?_) (fun c2 => ?_)
  · refine zc_rI F0 h_a0 fun v2 e_v2 r_v2 => ?_
    rw [qL2_own_16]
    refine zm_if (fun c3 => ?_) (fun c3 => ?_)
    · exact zm_iV F0
    · refine zm_if (fun c4 => ?_) (fun c4 => ?_)
      · refine zc_rF F0 1 h_a0 ?_
        refine zc_wA F0 (zc_y2_0 h_a0).1 (zc_y2_0 h_a0).2 (by omega) (by omega) h_a1 fun g2 F5 u_g2 => ?_
        refine zc_rF F5 2 h_a0 ?_
        refine zc_wA F5 (zc_y2_1 h_a0).1 (zc_y2_1 h_a0).2 (by omega) (by omega) h_a2 fun g4 F6 u_g4 => ?_
        refine zc_rI F6 h_a0 fun v5 e_v5 r_v5 => ?_
        rw [u_g4 _ _ (by rw [h_a0])] at e_v5
        rw [u_g2 _ _ (by rw [h_a0])] at e_v5
        refine zc_wO F6 h_a0 (zc_frO h_a0 (zc_lt h_a0 (by decide)) (by decide) rfl (by decide)) (zc_mx r_v5 (zc_w _)) fun g6 F7 => ?_
        exact zm_iV F7
      · exact zm_iV F0
  · rw [qL2_own_16]
    refine zm_if (fun c8 => ?_) (fun c8 => ?_)
    · exact zm_iV F0
    · refine zm_if (fun c9 => ?_) (fun c9 => ?_)
      · refine zc_rF F0 1 h_a0 ?_
        refine zc_wA F0 (zc_y2_0 h_a0).1 (zc_y2_0 h_a0).2 (by omega) (by omega) h_a1 fun g2x1 F10 u_g2x1 => ?_
        refine zc_rF F10 2 h_a0 ?_
        refine zc_wA F10 (zc_y2_1 h_a0).1 (zc_y2_1 h_a0).2 (by omega) (by omega) h_a2 fun g4x1 F11 u_g4x1 => ?_
        refine zc_rI F11 h_a0 fun v5x1 e_v5x1 r_v5x1 => ?_
        rw [u_g4x1 _ _ (by rw [h_a0])] at e_v5x1
        rw [u_g2x1 _ _ (by rw [h_a0])] at e_v5x1
        refine zc_wO F11 h_a0 (zc_frO h_a0 (zc_lt h_a0 (by decide)) (by decide) rfl (by decide)) (zc_mx r_v5x1 (zc_w _)) fun g6x1 F12 => ?_
        exact zm_iV F12
      · exact zm_iV F0
theorem zc_C2_own {d : Nat} {h : zv_H} {a0 : Nat} {a1 : Int} {a2 : Int} (hA : zc_A h) (h_a0 : zv_lay a0 = (1, 2)) (h_a1 : zv_rg a1) (h_a2 : zv_rg a2) : zm_R (C2_own (d + 2) a0 a1 a2 h) (fun q => zc_Q h q) := zm_cV (fun e => lC2_own (zc_ob hA h_a0) e) (zc_E2_own hA h_a0 h_a1 h_a2)
theorem zc_E5_bit {d : Nat} {h : zv_H} {a0 : Nat} (hA : zc_A h) (h_a0 : zv_lay a0 = (1, 5)) : zm_R (E5_bit (d + 0) a0 h) (zm_J fun _ h' => h' = h) := by
  have F0 := zc_Q_r hA
  rw [qE5_bit]
  refine zc_rT F0 h_a0 fun v1 e_v1 r_v1 => ?_
  exact zm_iJ rfl
theorem zc_C5_bit {d : Nat} {h : zv_H} {a0 : Nat} (hA : zc_A h) (h_a0 : zv_lay a0 = (1, 5)) : zm_R (C5_bit (d + 1) a0 h) (fun q => q.2 = h) := zm_cJ (fun e => lC5_bit (zc_ob hA h_a0) e) (zc_E5_bit hA h_a0)
theorem zc_E5_edits {d : Nat} {h : zv_H} {a0 : Nat} (hA : zc_A h) (h_a0 : zv_lay a0 = (1, 5)) : zm_R (E5_edits (d + 0) a0 h) (zm_I fun v h' => h' = h ∧ zv_rg v ∧ True) := by
  have F0 := zc_Q_r hA
  rw [qE5_edits]
  refine zc_rI F0 h_a0 fun v1 e_v1 r_v1 => ?_
  refine zm_if (fun c1 => ?_) (fun c1 => ?_)
  · exact zm_iI ⟨rfl, (by unfold zv_rg; omega), trivial⟩
  · refine zc_rI F0 h_a0 fun v2 e_v2 r_v2 => ?_
    refine zm_if (fun c2 => ?_) (fun c2 => ?_)
    · exact zm_iI ⟨rfl, (by unfold zv_rg; omega), trivial⟩
    · exact zm_iI ⟨rfl, (by unfold zv_rg; omega), trivial⟩
theorem zc_C5_edits {d : Nat} {h : zv_H} {a0 : Nat} (hA : zc_A h) (h_a0 : zv_lay a0 = (1, 5)) : zm_R (C5_edits (d + 1) a0 h) (fun q => q.2 = h ∧ zv_rg q.1 ∧ True) := zm_cI (fun e => lC5_edits (zc_ob hA h_a0) e) (zc_E5_edits hA h_a0)
theorem zc_E5_brings {d : Nat} {h : zv_H} {a0 : Nat} (hA : zc_A h) (h_a0 : zv_lay a0 = (1, 5)) : zm_R (E5_brings (d + 0) a0 h) (zm_I fun v h' => h' = h ∧ zv_rg v ∧ True) := by
  have F0 := zc_Q_r hA
  rw [qE5_brings]
  refine zc_rI F0 h_a0 fun v1 e_v1 r_v1 => ?_
  refine zm_if (fun c1 => ?_) (fun c1 => ?_)
  · exact zm_iI ⟨rfl, (by unfold zv_rg; omega), trivial⟩
  · refine zc_rI F0 h_a0 fun v2 e_v2 r_v2 => ?_
    refine zm_if (fun c2 => ?_) (fun c2 => ?_)
    · exact zm_iI ⟨rfl, (by unfold zv_rg; omega), trivial⟩
    · exact zm_iI ⟨rfl, (by unfold zv_rg; omega), trivial⟩
theorem zc_C5_brings {d : Nat} {h : zv_H} {a0 : Nat} (hA : zc_A h) (h_a0 : zv_lay a0 = (1, 5)) : zm_R (C5_brings (d + 1) a0 h) (fun q => q.2 = h ∧ zv_rg q.1 ∧ True) := zm_cI (fun e => lC5_brings (zc_ob hA h_a0) e) (zc_E5_brings hA h_a0)
theorem zc_E5_idAt {d : Nat} {h : zv_H} {a0 : Nat} {a1 : Int} (hA : zc_A h) (h_a0 : zv_lay a0 = (1, 5)) (h_a1 : zv_rg a1) : zm_R (E5_idAt (d + 0) a0 a1 h) (zm_I fun v h' => h' = h ∧ zv_rg v ∧ True) := by
  have F0 := zc_Q_r hA
  rw [qE5_idAt]
  refine zm_if (fun c1 => ?_) (fun c1 => ?_)
  · exact zm_iI ⟨rfl, (by unfold zv_rg; omega), trivial⟩
  · refine zc_rI F0 h_a0 fun v1 e_v1 r_v1 => ?_
    have b_v1 := zc_bdv (k := 12) (m := 120) F0 h_a0 rfl
    rw [← e_v1] at b_v1
    refine zm_if (fun c2 => ?_) (fun c2 => ?_)
    · refine zc_rF F0 2 h_a0 ?_
      refine zc_rAl F0 (zc_y5_2 h_a0).1 fun v3 e_v3 => ?_
      refine zm_if (fun c3 => ?_) (fun c3 => ?_)
      · refine zc_rF F0 2 h_a0 ?_
        refine zc_rA F0 (zc_y5_2 h_a0).1 (zc_y5_2 h_a0).2 (by omega) (by omega) fun v5 r_v5 => ?_
        exact zm_iI ⟨rfl, r_v5, trivial⟩
      · exact zm_iI ⟨rfl, (by unfold zv_rg; omega), trivial⟩
    · exact zm_iI ⟨rfl, (by unfold zv_rg; omega), trivial⟩
theorem zc_C5_idAt {d : Nat} {h : zv_H} {a0 : Nat} {a1 : Int} (hA : zc_A h) (h_a0 : zv_lay a0 = (1, 5)) (h_a1 : zv_rg a1) : zm_R (C5_idAt (d + 1) a0 a1 h) (fun q => q.2 = h ∧ zv_rg q.1 ∧ True) := zm_cI (fun e => lC5_idAt (zc_ob hA h_a0) e) (zc_E5_idAt hA h_a0 h_a1)
theorem zc_E5_addId {d : Nat} {h : zv_H} {a0 : Nat} {a1 : Int} (hA : zc_A h) (h_a0 : zv_lay a0 = (1, 5)) (h_a1 : zv_rg a1) : zm_R (E5_addId (d + 0) a0 a1 h) (zm_V fun h' => zc_Q h h') := by
  have F0 := zc_Q_r hA
  rw [qE5_addId]
  refine zc_rI F0 h_a0 fun v1 e_v1 r_v1 => ?_
  have b_v1 := zc_bdv (k := 12) (m := 120) F0 h_a0 rfl
  rw [← e_v1] at b_v1
  refine zm_if (fun c1 => ?_) (fun c1 => ?_)
  · exact zm_iV F0
  · refine zc_rI F0 h_a0 fun v2 e_v2 r_v2 => ?_
    have b_v2 := zc_bdv (k := 12) (m := 120) F0 h_a0 rfl
    rw [← e_v2] at b_v2
    refine zc_rF F0 2 h_a0 ?_
    refine zc_rAl F0 (zc_y5_2 h_a0).1 fun v4 e_v4 => ?_
    refine zm_if (fun c2 => ?_) (fun c2 => ?_)
    · refine zc_rF F0 2 h_a0 ?_
      refine zc_rI F0 h_a0 fun v6 e_v6 r_v6 => ?_
      have b_v6 := zc_bdv (k := 12) (m := 120) F0 h_a0 rfl
      rw [← e_v6] at b_v6
      refine zc_wA F0 (zc_y5_2 h_a0).1 (zc_y5_2 h_a0).2 (by omega) (by omega) h_a1 fun g7 F3 u_g7 => ?_
      refine zc_rI F3 h_a0 fun v8 e_v8 r_v8 => ?_
      rw [u_g7 _ _ (by rw [h_a0])] at e_v8
      have b_v8 := zc_bdv (k := 12) (m := 120) F3 h_a0 rfl
      rw [u_g7 _ _ (by rw [h_a0])] at b_v8
      rw [← e_v8] at b_v8
      refine zc_wL (m := 120) F3 h_a0 rfl (by rw [zm_w (by omega)]; omega) (by rw [zm_w (by omega)]; omega) ?_ (fun _ => by decide)
      intro g9 F4
      exact zm_iV F4
    · exact zm_iV F0
theorem zc_C5_addId {d : Nat} {h : zv_H} {a0 : Nat} {a1 : Int} (hA : zc_A h) (h_a0 : zv_lay a0 = (1, 5)) (h_a1 : zv_rg a1) : zm_R (C5_addId (d + 1) a0 a1 h) (fun q => zc_Q h q) := zm_cV (fun e => lC5_addId (zc_ob hA h_a0) e) (zc_E5_addId hA h_a0 h_a1)
theorem zc_E5_tookAt {d : Nat} {h : zv_H} {a0 : Nat} {a1 : Int} (hA : zc_A h) (h_a0 : zv_lay a0 = (1, 5)) (h_a1 : zv_rg a1) : zm_R (E5_tookAt (d + 0) a0 a1 h) (zm_I fun v h' => h' = h ∧ zv_rg v ∧ True) := by
  have F0 := zc_Q_r hA
  rw [qE5_tookAt]
  refine zc_rI F0 h_a0 fun v1 e_v1 r_v1 => ?_
  refine zm_if (fun c1 => ?_) (fun c1 => ?_)
  · refine zm_if (fun c2 => ?_) (fun c2 => ?_)
    · exact zm_iI ⟨rfl, (by unfold zv_rg; omega), trivial⟩
    · refine zc_rI F0 h_a0 fun v2 e_v2 r_v2 => ?_
      refine zm_if (fun c3 => ?_) (fun c3 => ?_)
      · refine zc_rF F0 1 h_a0 ?_
        refine zc_rAl F0 (zc_y5_1 h_a0).1 fun v4 e_v4 => ?_
        refine zm_if (fun c4 => ?_) (fun c4 => ?_)
        · refine zc_rF F0 1 h_a0 ?_
          refine zc_rA F0 (zc_y5_1 h_a0).1 (zc_y5_1 h_a0).2 (by omega) (by omega) fun v6 r_v6 => ?_
          exact zm_iI ⟨rfl, r_v6, trivial⟩
        · exact zm_iI ⟨rfl, (by unfold zv_rg; omega), trivial⟩
      · exact zm_iI ⟨rfl, (by unfold zv_rg; omega), trivial⟩
  · exact zm_iI ⟨rfl, (by unfold zv_rg; omega), trivial⟩
theorem zc_C5_tookAt {d : Nat} {h : zv_H} {a0 : Nat} {a1 : Int} (hA : zc_A h) (h_a0 : zv_lay a0 = (1, 5)) (h_a1 : zv_rg a1) : zm_R (C5_tookAt (d + 1) a0 a1 h) (fun q => q.2 = h ∧ zv_rg q.1 ∧ True) := zm_cI (fun e => lC5_tookAt (zc_ob hA h_a0) e) (zc_E5_tookAt hA h_a0 h_a1)
theorem zc_L5_tookIt_2 {d : Nat} {h0 : zv_H} (hA : zc_A h0) (N_L5_tookIt_2 : Nat) : ∀ {a0 : Nat} {a1 : Int} {a2 : Int}, (zv_lay a0 = (1, 5)) → (zv_rg a1) → (0 ≤ a2 ∧ zv_rg a2) → (2147483647 - a2).toNat = N_L5_tookIt_2 → zm_R (L5_tookIt_2 (d + 1) a0 a1 a2 h0) (zm_I fun v h' => h' = h0 ∧ zv_rg v ∧ True) := by
  induction N_L5_tookIt_2 using Nat.strongRecOn with
  | _ N_L5_tookIt_2 ih_L5_tookIt_2 =>
    intro a0 a1 a2 h_a0 h_a1 h_a2 eN
    rw [qL5_tookIt_2]
    have z_a2 := h_a2.1
    refine zc_rI (zc_Q_r hA) h_a0 fun v1 e_v1 r_v1 => ?_
    refine zm_if (fun c1 => ?_) (fun c1 => ?_)
    · refine zm_if (fun c2 => ?_) (fun c2 => ?_)
      · exact ih_L5_tookIt_2 _ (by rw [← eN]; exact zc_up h_a2.2 r_v1 c1) h_a0 h_a1 ⟨by rw [zc_up1 h_a2.2 r_v1 c1]; omega, zc_w _⟩  rfl
      · refine zc_pI (K := fun v => True) (zc_C5_tookAt (zc_Q_r hA).2 h_a0 h_a2.2) fun q2v r_q2 k_q2 => ?_
        dsimp only
        refine zm_if (fun c4 => ?_) (fun c4 => ?_)
        · exact zm_iI ⟨rfl, (by unfold zv_rg; omega), trivial⟩
        · exact ih_L5_tookIt_2 _ (by rw [← eN]; exact zc_up h_a2.2 r_v1 c1) h_a0 h_a1 ⟨by rw [zc_up1 h_a2.2 r_v1 c1]; omega, zc_w _⟩  rfl
    · exact zm_iI ⟨rfl, (by unfold zv_rg; omega), trivial⟩
theorem zc_E5_tookIt {d : Nat} {h : zv_H} {a0 : Nat} {a1 : Int} (hA : zc_A h) (h_a0 : zv_lay a0 = (1, 5)) (h_a1 : zv_rg a1) : zm_R (E5_tookIt (d + 1) a0 a1 h) (zm_I fun v h' => h' = h ∧ zv_rg v ∧ True) := by
  have F0 := zc_Q_r hA
  rw [qE5_tookIt]
  exact zc_L5_tookIt_2 hA  _ h_a0 h_a1 ⟨by omega, (by unfold zv_rg; omega)⟩  rfl
theorem zc_C5_tookIt {d : Nat} {h : zv_H} {a0 : Nat} {a1 : Int} (hA : zc_A h) (h_a0 : zv_lay a0 = (1, 5)) (h_a1 : zv_rg a1) : zm_R (C5_tookIt (d + 2) a0 a1 h) (fun q => q.2 = h ∧ zv_rg q.1 ∧ True) := zm_cI (fun e => lC5_tookIt (zc_ob hA h_a0) e) (zc_E5_tookIt hA h_a0 h_a1)
theorem zc_E7_clear {d : Nat} {h : zv_H} {a0 : Nat} (hA : zc_A h) (h_a0 : zv_lay a0 = (1, 7)) : zm_R (E7_clear (d + 0) a0 h) (zm_V fun h' => zc_Q h h') := by
  have F0 := zc_Q_r hA
  rw [qE7_clear]
  refine zc_wL (m := 40) F0 h_a0 rfl (by omega) (by omega) ?_ (fun _ => by decide)
  intro g1 F1
  exact zm_iV F1
theorem zc_C7_clear {d : Nat} {h : zv_H} {a0 : Nat} (hA : zc_A h) (h_a0 : zv_lay a0 = (1, 7)) : zm_R (C7_clear (d + 1) a0 h) (fun q => zc_Q h q) := zm_cV (fun e => lC7_clear (zc_ob hA h_a0) e) (zc_E7_clear hA h_a0)
theorem zc_E7_add {d : Nat} {h : zv_H} {a0 : Nat} {a1 : Int} (hA : zc_A h) (h_a0 : zv_lay a0 = (1, 7)) (h_a1 : zv_rg a1) : zm_R (E7_add (d + 0) a0 a1 h) (zm_V fun h' => zc_Q h h') := by
  have F0 := zc_Q_r hA
  rw [qE7_add]
  refine zc_rI F0 h_a0 fun v1 e_v1 r_v1 => ?_
  have b_v1 := zc_bdv (k := 1) (m := 40) F0 h_a0 rfl
  rw [← e_v1] at b_v1
  refine zm_if (fun c1 => ?_) (fun c1 => ?_)
  · exact zm_iV F0
  · refine zc_rI F0 h_a0 fun v2 e_v2 r_v2 => ?_
    have b_v2 := zc_bdv (k := 1) (m := 40) F0 h_a0 rfl
    rw [← e_v2] at b_v2
    refine zc_rF F0 1 h_a0 ?_
    refine zc_rAl F0 (zc_y7_0 h_a0).1 fun v4 e_v4 => ?_
    refine zm_if (fun c2 => ?_) (fun c2 => ?_)
    · refine zc_rF F0 1 h_a0 ?_
      refine zc_rI F0 h_a0 fun v6 e_v6 r_v6 => ?_
      have b_v6 := zc_bdv (k := 1) (m := 40) F0 h_a0 rfl
      rw [← e_v6] at b_v6
      refine zc_wA F0 (zc_y7_0 h_a0).1 (zc_y7_0 h_a0).2 (by omega) (by omega) h_a1 fun g7 F3 u_g7 => ?_
      refine zc_rI F3 h_a0 fun v8 e_v8 r_v8 => ?_
      rw [u_g7 _ _ (by rw [h_a0])] at e_v8
      have b_v8 := zc_bdv (k := 1) (m := 40) F3 h_a0 rfl
      rw [u_g7 _ _ (by rw [h_a0])] at b_v8
      rw [← e_v8] at b_v8
      refine zc_wL (m := 40) F3 h_a0 rfl (by rw [zm_w (by omega)]; omega) (by rw [zm_w (by omega)]; omega) ?_ (fun _ => by decide)
      intro g9 F4
      exact zm_iV F4
    · exact zm_iV F0
theorem zc_C7_add {d : Nat} {h : zv_H} {a0 : Nat} {a1 : Int} (hA : zc_A h) (h_a0 : zv_lay a0 = (1, 7)) (h_a1 : zv_rg a1) : zm_R (C7_add (d + 1) a0 a1 h) (fun q => zc_Q h q) := zm_cV (fun e => lC7_add (zc_ob hA h_a0) e) (zc_E7_add hA h_a0 h_a1)
theorem zc_E7_at {d : Nat} {h : zv_H} {a0 : Nat} {a1 : Int} (hA : zc_A h) (h_a0 : zv_lay a0 = (1, 7)) (h_a1 : zv_rg a1) : zm_R (E7_at (d + 0) a0 a1 h) (zm_I fun v h' => h' = h ∧ zv_rg v ∧ True) := by
  have F0 := zc_Q_r hA
  rw [qE7_at]
  refine zm_if (fun c1 => ?_) (fun c1 => ?_)
  · exact zm_iI ⟨rfl, (by unfold zv_rg; omega), trivial⟩
  · refine zc_rI F0 h_a0 fun v1 e_v1 r_v1 => ?_
    have b_v1 := zc_bdv (k := 1) (m := 40) F0 h_a0 rfl
    rw [← e_v1] at b_v1
    refine zm_if (fun c2 => ?_) (fun c2 => ?_)
    · refine zc_rF F0 1 h_a0 ?_
      refine zc_rAl F0 (zc_y7_0 h_a0).1 fun v3 e_v3 => ?_
      refine zm_if (fun c3 => ?_) (fun c3 => ?_)
      · refine zc_rF F0 1 h_a0 ?_
        refine zc_rA F0 (zc_y7_0 h_a0).1 (zc_y7_0 h_a0).2 (by omega) (by omega) fun v5 r_v5 => ?_
        exact zm_iI ⟨rfl, r_v5, trivial⟩
      · exact zm_iI ⟨rfl, (by unfold zv_rg; omega), trivial⟩
    · exact zm_iI ⟨rfl, (by unfold zv_rg; omega), trivial⟩
theorem zc_C7_at {d : Nat} {h : zv_H} {a0 : Nat} {a1 : Int} (hA : zc_A h) (h_a0 : zv_lay a0 = (1, 7)) (h_a1 : zv_rg a1) : zm_R (C7_at (d + 1) a0 a1 h) (fun q => q.2 = h ∧ zv_rg q.1 ∧ True) := zm_cI (fun e => lC7_at (zc_ob hA h_a0) e) (zc_E7_at hA h_a0 h_a1)
