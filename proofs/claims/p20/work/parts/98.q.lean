theorem zc_l8 {r : Nat} (h : zv_lay r = (1, 8)) : r = 1 := by
  have := zc_all (fun r => if zv_lay r = (1, 8) then Nat.beq r 1 else true) (by decide +kernel) (zc_ly h)
  rw [if_pos h] at this
  exact Nat.eq_of_beq_eq_true this
theorem zc_xH8 {h0 h : zv_H} (F : zc_Q h0 h) {r : Nat} (hr : zv_lay r = (1, 8)) : zv_lay (zv_R h0 r 3) = (1, 0) ∧ zv_lay (zv_R h0 r 4) = (1, 0) := by
  rw [zc_l8 hr]
  exact zc_xH F
theorem zc_C12_bitCount {d : Nat} {h : zv_H} {x : Int64} (hA : zc_A h) : zm_R (C12_bitCount (d + 1) x h) (fun q => q.2 = h ∧ zv_rg q.1 ∧ True) := by
  have _ := hA
  refine zm_cI (P := fun v h' => h' = h ∧ zv_rg v ∧ True) (fun e => lC12_bitCount e) ?_
  rw [qE12_bitCount]
  exact zm_iI ⟨rfl, zc_and _ _, trivial⟩
theorem zc_E8_typedLetter {d : Nat} {h : zv_H} {a0 : Int} {a1 : Int} {a2 : Int} (hA : zc_A h) (h_a0 : zv_rg a0) (h_a1 : zv_rg a1) (h_a2 : zv_rg a2) : zm_R (E8_typedLetter (d + 0) a0 a1 a2 h) (zm_I fun v h' => h' = h ∧ zv_rg v ∧ True) := by
  have F0 := zc_Q_r hA
  rw [qE8_typedLetter]
  refine zm_if (fun c1 => ?_) (fun c1 => ?_)
  · exact zm_iI ⟨rfl, (zc_and _ _), trivial⟩
  · exact zm_iI ⟨rfl, (zc_and _ _), trivial⟩
theorem zc_C8_typedLetter {d : Nat} {h : zv_H} {a0 : Int} {a1 : Int} {a2 : Int} (hA : zc_A h) (h_a0 : zv_rg a0) (h_a1 : zv_rg a1) (h_a2 : zv_rg a2) : zm_R (C8_typedLetter (d + 1) a0 a1 a2 h) (fun q => q.2 = h ∧ zv_rg q.1 ∧ True) := zm_cI (fun e => lC8_typedLetter e) (zc_E8_typedLetter hA h_a0 h_a1 h_a2)
theorem zc_E8_fault {d : Nat} {h : zv_H} {a0 : Nat} {a1 : Int} (hA : zc_A h) (h_a0 : zv_lay a0 = (1, 8)) (h_a1 : zv_rg a1) : zm_R (E8_fault (d + 1) a0 a1 h) (zm_I fun v h' => h' = h ∧ zv_rg v ∧ True) := by
  have F0 := zc_Q_r hA
  rw [qE8_fault]
  refine zc_rI F0 h_a0 fun v1 e_v1 r_v1 => ?_
  refine zm_if (fun c1 => ?_) (fun c1 => ?_)
  · exact zm_iI ⟨rfl, (by unfold zv_rg; omega), trivial⟩
  · refine zc_pI (K := fun v => (v = 0 ∨ v = 1)) (zc_C8_within F0.2 h_a1 (by unfold zv_rg; omega) (by unfold zv_rg; omega)) fun q2v r_q2 k_q2 => ?_
    dsimp only
    refine zm_if (fun c3 => ?_) (fun c3 => ?_)
    · exact zm_iI ⟨rfl, (by unfold zv_rg; omega), trivial⟩
    · refine zm_if (fun c4 => ?_) (fun c4 => ?_)
      · refine zc_rF F0 4 h_a0 ?_
        refine zc_rI F0 (zc_y8_2 h_a0).1 fun v4 e_v4 r_v4 => ?_
        exact zm_iI ⟨rfl, r_v4, trivial⟩
      · refine zc_rF F0 4 h_a0 ?_
        refine zc_rI F0 (zc_y8_2 h_a0).1 fun v6 e_v6 r_v6 => ?_
        exact zm_iI ⟨rfl, r_v6, trivial⟩
theorem zc_C8_fault {d : Nat} {h : zv_H} {a0 : Nat} {a1 : Int} (hA : zc_A h) (h_a0 : zv_lay a0 = (1, 8)) (h_a1 : zv_rg a1) : zm_R (C8_fault (d + 2) a0 a1 h) (fun q => q.2 = h ∧ zv_rg q.1 ∧ True) := zm_cI (fun e => lC8_fault (zc_ob hA h_a0) e) (zc_E8_fault hA h_a0 h_a1)
theorem zc_E8_many {d : Nat} {h : zv_H} {a0 : Nat} {a1 : Int} (hA : zc_A h) (h_a0 : zv_lay a0 = (1, 8)) (h_a1 : zv_rg a1) : zm_R (E8_many (d + 4) a0 a1 h) (zm_I fun v h' => zc_Q h h' ∧ zv_rg v ∧ True) := by
  have F0 := zc_Q_r hA
  rw [qE8_many]
  refine zm_if (fun c1 => ?_) (fun c1 => ?_)
  · refine zc_rRo F0 h_a0 ?_
    refine zc_rI F0 (zc_xH8 F0 h_a0).1 fun v2 e_v2 r_v2 => ?_
    refine zc_cI (K := fun v => True) F0 (zc_C8_given F0.2 h_a0 r_v2) fun q3v q3h F2 r_q3 k_q3 => ?_
    dsimp only
    exact zm_iI ⟨F2, r_q3, trivial⟩
  · refine zm_if (fun c3 => ?_) (fun c3 => ?_)
    · refine zc_rRo F0 h_a0 ?_
      refine zc_rRo F0 (zc_xH8 F0 h_a0).1 ?_
      refine zc_rT F0 (zc_hV F0 (zc_xH8 F0 h_a0).1).1.1 fun v6 e_v6 r_v6 => ?_
      refine zc_cI (K := fun v => True) F0 (zc_C8_given F0.2 h_a0 r_v6) fun q7v q7h F4 r_q7 k_q7 => ?_
      dsimp only
      exact zm_iI ⟨F4, r_q7, trivial⟩
    · refine zm_if (fun c5 => ?_) (fun c5 => ?_)
      · refine zc_rRo F0 h_a0 ?_
        refine zc_rI F0 (zc_xH8 F0 h_a0).1 fun v9 e_v9 r_v9 => ?_
        refine zc_cI (K := fun v => True) F0 (zc_C8_given F0.2 h_a0 r_v9) fun q10v q10h F6 r_q10 k_q10 => ?_
        dsimp only
        exact zm_iI ⟨F6, r_q10, trivial⟩
      · refine zm_if (fun c7 => ?_) (fun c7 => ?_)
        · refine zc_rRo F0 h_a0 ?_
          refine zc_rRo F0 (zc_xH8 F0 h_a0).1 ?_
          refine zc_rI F0 (zc_hV F0 (zc_xH8 F0 h_a0).1).1.1 fun v13 e_v13 r_v13 => ?_
          have b_v13 := zc_bdv (k := 12) (m := 120) F0 (zc_hV F0 (zc_xH8 F0 h_a0).1).1.1 rfl
          rw [← e_v13] at b_v13
          refine zc_cI (K := fun v => True) F0 (zc_C8_given F0.2 h_a0 r_v13) fun q14v q14h F8 r_q14 k_q14 => ?_
          dsimp only
          exact zm_iI ⟨F8, r_q14, trivial⟩
        · refine zm_if (fun c9 => ?_) (fun c9 => ?_)
          · refine zc_rRo F0 h_a0 ?_
            refine zc_cN (K := fun v => zv_lay v = (1, 4)) F0 (zc_C0_rowOfHere F0.2 (zc_xH8 F0 h_a0).1) fun q16v q16h F10 k_q16 => ?_
            dsimp only
            refine zc_rI F10 k_q16 fun v17 e_v17 r_v17 => ?_
            refine zc_cI (K := fun v => True) F10 (zc_C8_given F10.2 h_a0 r_v17) fun q18v q18h F11 r_q18 k_q18 => ?_
            dsimp only
            exact zm_iI ⟨F11, r_q18, trivial⟩
          · refine zm_if (fun c12 => ?_) (fun c12 => ?_)
            · refine zc_rRo F0 h_a0 ?_
              refine zc_rF F0 14 (zc_xH8 F0 h_a0).1 ?_
              refine zc_rI F0 (zc_y0_6 (zc_xH8 F0 h_a0).1).1 fun v21 e_v21 r_v21 => ?_
              refine zc_cI (K := fun v => True) F0 (zc_C8_given F0.2 h_a0 r_v21) fun q22v q22h F13 r_q22 k_q22 => ?_
              dsimp only
              exact zm_iI ⟨F13, r_q22, trivial⟩
            · refine zm_if (fun c14 => ?_) (fun c14 => ?_)
              · refine zc_rRo F0 h_a0 ?_
                refine zc_pI (K := fun v => True) (zc_C0_leaves F0.2 (zc_xH8 F0 h_a0).1) fun q24v r_q24 k_q24 => ?_
                dsimp only
                refine zc_cI (K := fun v => True) F0 (zc_C8_given F0.2 h_a0 r_q24) fun q25v q25h F16 r_q25 k_q25 => ?_
                dsimp only
                exact zm_iI ⟨F16, r_q25, trivial⟩
              · refine zm_if (fun c17 => ?_) (fun c17 => ?_)
                · refine zc_rRo F0 h_a0 ?_
                  refine zc_pI (K := fun v => True) (zc_C0_groups F0.2 (zc_xH8 F0 h_a0).1) fun q27v r_q27 k_q27 => ?_
                  dsimp only
                  refine zc_cI (K := fun v => True) F0 (zc_C8_given F0.2 h_a0 r_q27) fun q28v q28h F19 r_q28 k_q28 => ?_
                  dsimp only
                  exact zm_iI ⟨F19, r_q28, trivial⟩
                · refine zm_if (fun c20 => ?_) (fun c20 => ?_)
                  · refine zc_rRo F0 h_a0 ?_
                    refine zc_cN (K := fun v => zv_lay v = (1, 4)) F0 (zc_C0_rowOfHere F0.2 (zc_xH8 F0 h_a0).1) fun q30v q30h F21 k_q30 => ?_
                    dsimp only
                    refine zc_pJ (zc_C4_outOfForce F21.2 k_q30) fun q31v => ?_
                    dsimp only
                    refine zc_pI (K := fun v => True) (zc_C12_bitCount F21.2 ) fun q32v r_q32 k_q32 => ?_
                    dsimp only
                    refine zc_cI (K := fun v => True) F21 (zc_C8_given F21.2 h_a0 r_q32) fun q33v q33h F24 r_q33 k_q33 => ?_
                    dsimp only
                    exact zm_iI ⟨F24, r_q33, trivial⟩
                  · refine zm_if (fun c25 => ?_) (fun c25 => ?_)
                    · refine zc_rRo F0 h_a0 ?_
                      refine zc_rF F0 17 (zc_xH8 F0 h_a0).1 ?_
                      refine zc_rI F0 (zc_y0_7 (zc_xH8 F0 h_a0).1).1 fun v36 e_v36 r_v36 => ?_
                      refine zc_cI (K := fun v => True) F0 (zc_C8_given F0.2 h_a0 r_v36) fun q37v q37h F26 r_q37 k_q37 => ?_
                      dsimp only
                      exact zm_iI ⟨F26, r_q37, trivial⟩
                    · refine zc_cI (K := fun v => True) F0 (zc_C8_refused F0.2 h_a0 (by unfold zv_rg; omega)) fun q38v q38h F27 r_q38 k_q38 => ?_
                      dsimp only
                      exact zm_iI ⟨F27, r_q38, trivial⟩
theorem zc_C8_many {d : Nat} {h : zv_H} {a0 : Nat} {a1 : Int} (hA : zc_A h) (h_a0 : zv_lay a0 = (1, 8)) (h_a1 : zv_rg a1) : zm_R (C8_many (d + 5) a0 a1 h) (fun q => zc_Q h q.2 ∧ zv_rg q.1 ∧ True) := zm_cI (fun e => lC8_many (zc_ob hA h_a0) e) (zc_E8_many hA h_a0 h_a1)
theorem zc_E8_letter {d : Nat} {h : zv_H} {a0 : Nat} {a1 : Int} {a2 : Int} (hA : zc_A h) (h_a0 : zv_lay a0 = (1, 8)) (h_a1 : zv_rg a1) (h_a2 : zv_rg a2) : zm_R (E8_letter (d + 2) a0 a1 a2 h) (zm_I fun v h' => zc_Q h h' ∧ zv_rg v ∧ True) := by
  have F0 := zc_Q_r hA
  rw [qE8_letter]
  refine zm_if (fun c1 => ?_) (fun c1 => ?_)
  · refine zc_cI (K := fun v => True) F0 (zc_C8_refused F0.2 h_a0 (by unfold zv_rg; omega)) fun q1v q1h F2 r_q1 k_q1 => ?_
    dsimp only
    exact zm_iI ⟨F2, r_q1, trivial⟩
  · refine zc_rRo F0 h_a0 ?_
    refine zc_pN (K := fun v => (v = 0 ∨ zc_V h v)) (zc_C0_at F0.2 (zc_xH8 F0 h_a0).1 h_a1) fun q3v k_q3 => ?_
    dsimp only
    refine zm_if (fun c4 => ?_) (fun c4 => ?_)
    · refine zc_cI (K := fun v => True) F0 (zc_C8_refused F0.2 h_a0 (by unfold zv_rg; omega)) fun q4v q4h F5 r_q4 k_q4 => ?_
      dsimp only
      exact zm_iI ⟨F5, r_q4, trivial⟩
    · refine zc_rI F0 ((Or.imp id (zc_Vb F0.1) k_q3).resolve_left c4).1 fun v5 e_v5 r_v5 => ?_
      have b_v5 := zc_bdv (k := 12) (m := 120) F0 ((Or.imp id (zc_Vb F0.1) k_q3).resolve_left c4).1 rfl
      rw [← e_v5] at b_v5
      refine zm_if (fun c6 => ?_) (fun c6 => ?_)
      · refine zc_rRo F0 h_a0 ?_
        refine zc_pI (K := fun v => True) (zc_C0_letterAt F0.2 (zc_xH8 F0 h_a0).1 ((Or.imp id (zc_Vb F0.1) k_q3).resolve_left c4).1 h_a2) fun q7v r_q7 k_q7 => ?_
        dsimp only
        refine zc_cI (K := fun v => True) F0 (zc_C8_given F0.2 h_a0 r_q7) fun q8v q8h F8 r_q8 k_q8 => ?_
        dsimp only
        exact zm_iI ⟨F8, r_q8, trivial⟩
      · refine zc_cI (K := fun v => True) F0 (zc_C8_refused F0.2 h_a0 (by unfold zv_rg; omega)) fun q9v q9h F9 r_q9 k_q9 => ?_
        dsimp only
        exact zm_iI ⟨F9, r_q9, trivial⟩
theorem zc_C8_letter {d : Nat} {h : zv_H} {a0 : Nat} {a1 : Int} {a2 : Int} (hA : zc_A h) (h_a0 : zv_lay a0 = (1, 8)) (h_a1 : zv_rg a1) (h_a2 : zv_rg a2) : zm_R (C8_letter (d + 3) a0 a1 a2 h) (fun q => zc_Q h q.2 ∧ zv_rg q.1 ∧ True) := zm_cI (fun e => lC8_letter (zc_ob hA h_a0) e) (zc_E8_letter hA h_a0 h_a1 h_a2)
theorem zc_E8_state {d : Nat} {h : zv_H} {a0 : Nat} {a1 : Int} {a2 : Int} (hA : zc_A h) (h_a0 : zv_lay a0 = (1, 8)) (h_a1 : zv_rg a1) (h_a2 : zv_rg a2) : zm_R (E8_state (d + 1) a0 a1 a2 h) (zm_I fun v h' => zc_Q h h' ∧ zv_rg v ∧ True) := by
  have F0 := zc_Q_r hA
  rw [qE8_state]
  refine zc_pI (K := fun v => (v = 0 ∨ v = 1)) (zc_C8_within F0.2 h_a2 (by unfold zv_rg; omega) (by unfold zv_rg; omega)) fun q1v r_q1 k_q1 => ?_
  dsimp only
  refine zm_if (fun c2 => ?_) (fun c2 => ?_)
  · refine zc_cI (K := fun v => True) F0 (zc_C8_refused F0.2 h_a0 (by unfold zv_rg; omega)) fun q2v q2h F3 r_q2 k_q2 => ?_
    dsimp only
    exact zm_iI ⟨F3, r_q2, trivial⟩
  · refine zc_rRo F0 h_a0 ?_
    refine zc_pN (K := fun v => (v = 0 ∨ zc_V h v)) (zc_C0_at F0.2 (zc_xH8 F0 h_a0).1 h_a1) fun q4v k_q4 => ?_
    dsimp only
    refine zm_if (fun c5 => ?_) (fun c5 => ?_)
    · refine zc_cI (K := fun v => True) F0 (zc_C8_refused F0.2 h_a0 (by unfold zv_rg; omega)) fun q5v q5h F6 r_q5 k_q5 => ?_
      dsimp only
      exact zm_iI ⟨F6, r_q5, trivial⟩
    · refine zm_if (fun c7 => ?_) (fun c7 => ?_)
      · refine zc_rR5 F0 ((Or.imp id (zc_Vb F0.1) k_q4).resolve_left c5).1 ?_
        refine zm_if (fun c8 => ?_) (fun c8 => ?_)
        · rw [qL8_state_107]
          refine zc_cI (K := fun v => True) F0 (zc_C8_given F0.2 h_a0 (by unfold zv_rg; omega)) fun q1x1v q1x1h F9 r_q1x1 k_q1x1 => ?_
          dsimp only
          exact zm_iI ⟨F9, r_q1x1, trivial⟩
        · refine zc_rR5 F0 ((Or.imp id (zc_Vb F0.1) k_q4).resolve_left c5).1 ?_
          refine zc_rT F0 ((zc_pV F0 ((Or.imp id (zc_Vb F0.1) k_q4).resolve_left c5)).resolve_left c8).1 fun v8 e_v8 r_v8 => ?_
          rw [qL8_state_107]
          refine zc_cI (K := fun v => True) F0 (zc_C8_given F0.2 h_a0 r_v8) fun q1x2v q1x2h F10 r_q1x2 k_q1x2 => ?_
          dsimp only
          exact zm_iI ⟨F10, r_q1x2, trivial⟩
      · refine zm_if (fun c11 => ?_) (fun c11 => ?_)
        · refine zc_rI F0 ((Or.imp id (zc_Vb F0.1) k_q4).resolve_left c5).1 fun v9 e_v9 r_v9 => ?_
          refine zc_cI (K := fun v => True) F0 (zc_C8_given F0.2 h_a0 r_v9) fun q10v q10h F12 r_q10 k_q10 => ?_
          dsimp only
          exact zm_iI ⟨F12, r_q10, trivial⟩
        · refine zm_if (fun c13 => ?_) (fun c13 => ?_)
          · refine zc_rI F0 ((Or.imp id (zc_Vb F0.1) k_q4).resolve_left c5).1 fun v11 e_v11 r_v11 => ?_
            refine zc_cI (K := fun v => True) F0 (zc_C8_given F0.2 h_a0 r_v11) fun q12v q12h F14 r_q12 k_q12 => ?_
            dsimp only
            exact zm_iI ⟨F14, r_q12, trivial⟩
          · refine zm_if (fun c15 => ?_) (fun c15 => ?_)
            · refine zc_rI F0 ((Or.imp id (zc_Vb F0.1) k_q4).resolve_left c5).1 fun v13 e_v13 r_v13 => ?_
              refine zc_cI (K := fun v => True) F0 (zc_C8_given F0.2 h_a0 r_v13) fun q14v q14h F16 r_q14 k_q14 => ?_
              dsimp only
              exact zm_iI ⟨F16, r_q14, trivial⟩
            · refine zm_if (fun c17 => ?_) (fun c17 => ?_)
              · refine zc_rI F0 ((Or.imp id (zc_Vb F0.1) k_q4).resolve_left c5).1 fun v15 e_v15 r_v15 => ?_
                refine zc_cI (K := fun v => True) F0 (zc_C8_given F0.2 h_a0 r_v15) fun q16v q16h F18 r_q16 k_q16 => ?_
                dsimp only
                exact zm_iI ⟨F18, r_q16, trivial⟩
              · refine zm_if (fun c19 => ?_) (fun c19 => ?_)
                · refine zc_rR5 F0 ((Or.imp id (zc_Vb F0.1) k_q4).resolve_left c5).1 ?_
                  refine zm_if (fun c20 => ?_) (fun c20 => ?_)
                  · exact absurd c20 (zc_nz (zc_fV F0 ((Or.imp id (zc_Vb F0.1) k_q4).resolve_left c5)).1)
                  · refine zc_rR5 F0 ((Or.imp id (zc_Vb F0.1) k_q4).resolve_left c5).1 ?_
                    refine zc_rT F0 (zc_fV F0 ((Or.imp id (zc_Vb F0.1) k_q4).resolve_left c5)).1 fun v19 e_v19 r_v19 => ?_
                    rw [qL8_state_166]
                    refine zc_cI (K := fun v => True) F0 (zc_C8_given F0.2 h_a0 r_v19) fun q1x3v q1x3h F21 r_q1x3 k_q1x3 => ?_
                    dsimp only
                    exact zm_iI ⟨F21, r_q1x3, trivial⟩
                · refine zm_if (fun c22 => ?_) (fun c22 => ?_)
                  · refine zc_rT F0 ((Or.imp id (zc_Vb F0.1) k_q4).resolve_left c5).1 fun v20 e_v20 r_v20 => ?_
                    refine zc_cI (K := fun v => True) F0 (zc_C8_given F0.2 h_a0 r_v20) fun q21v q21h F23 r_q21 k_q21 => ?_
                    dsimp only
                    exact zm_iI ⟨F23, r_q21, trivial⟩
                  · refine zm_if (fun c24 => ?_) (fun c24 => ?_)
                    · refine zc_rT F0 ((Or.imp id (zc_Vb F0.1) k_q4).resolve_left c5).1 fun v22 e_v22 r_v22 => ?_
                      have d_v22 := (zc_dep F0 ((Or.imp id (zc_Vb F0.1) k_q4).resolve_left c5)).1
                      rw [← e_v22] at d_v22
                      refine zc_cI (K := fun v => True) F0 (zc_C8_given F0.2 h_a0 r_v22) fun q23v q23h F25 r_q23 k_q23 => ?_
                      dsimp only
                      exact zm_iI ⟨F25, r_q23, trivial⟩
                    · refine zm_if (fun c26 => ?_) (fun c26 => ?_)
                      · refine zc_rI F0 ((Or.imp id (zc_Vb F0.1) k_q4).resolve_left c5).1 fun v24 e_v24 r_v24 => ?_
                        have b_v24 := zc_bdv (k := 12) (m := 120) F0 ((Or.imp id (zc_Vb F0.1) k_q4).resolve_left c5).1 rfl
                        rw [← e_v24] at b_v24
                        refine zc_cI (K := fun v => True) F0 (zc_C8_given F0.2 h_a0 r_v24) fun q25v q25h F27 r_q25 k_q25 => ?_
                        dsimp only
                        exact zm_iI ⟨F27, r_q25, trivial⟩
                      · refine zc_rRo F0 h_a0 ?_
                        refine zc_rF F0 14 (zc_xH8 F0 h_a0).1 ?_
                        refine zc_rT F0 ((Or.imp id (zc_Vb F0.1) k_q4).resolve_left c5).1 fun v28 e_v28 r_v28 => ?_
                        refine zc_pI (K := fun v => True) (zc_C2_countOf F0.2 (zc_y0_6 (zc_xH8 F0 h_a0).1).1 r_v28) fun q29v r_q29 k_q29 => ?_
                        dsimp only
                        refine zc_cI (K := fun v => True) F0 (zc_C8_given F0.2 h_a0 r_q29) fun q30v q30h F29 r_q30 k_q30 => ?_
                        dsimp only
                        exact zm_iI ⟨F29, r_q30, trivial⟩
theorem zc_C8_state {d : Nat} {h : zv_H} {a0 : Nat} {a1 : Int} {a2 : Int} (hA : zc_A h) (h_a0 : zv_lay a0 = (1, 8)) (h_a1 : zv_rg a1) (h_a2 : zv_rg a2) : zm_R (C8_state (d + 2) a0 a1 a2 h) (fun q => zc_Q h q.2 ∧ zv_rg q.1 ∧ True) := zm_cI (fun e => lC8_state (zc_ob hA h_a0) e) (zc_E8_state hA h_a0 h_a1 h_a2)
theorem zc_E8_child {d : Nat} {h : zv_H} {a0 : Nat} {a1 : Int} {a2 : Int} (hA : zc_A h) (h_a0 : zv_lay a0 = (1, 8)) (h_a1 : zv_rg a1) (h_a2 : zv_rg a2) : zm_R (E8_child (d + 3) a0 a1 a2 h) (zm_I fun v h' => zc_Q h h' ∧ zv_rg v ∧ True) := by
  have F0 := zc_Q_r hA
  rw [qE8_child]
  refine zm_if (fun c1 => ?_) (fun c1 => ?_)
  · refine zc_cI (K := fun v => True) F0 (zc_C8_refused F0.2 h_a0 (by unfold zv_rg; omega)) fun q1v q1h F2 r_q1 k_q1 => ?_
    dsimp only
    exact zm_iI ⟨F2, r_q1, trivial⟩
  · refine zc_rRo F0 h_a0 ?_
    refine zc_pN (K := fun v => (v = 0 ∨ zc_V h v)) (zc_C0_at F0.2 (zc_xH8 F0 h_a0).1 h_a1) fun q3v k_q3 => ?_
    dsimp only
    refine zm_if (fun c4 => ?_) (fun c4 => ?_)
    · refine zc_cI (K := fun v => True) F0 (zc_C8_refused F0.2 h_a0 (by unfold zv_rg; omega)) fun q4v q4h F5 r_q4 k_q4 => ?_
      dsimp only
      exact zm_iI ⟨F5, r_q4, trivial⟩
    · refine zc_rRo F0 h_a0 ?_
      refine zc_cN (K := fun v => (v = 0 ∨ zc_V h v)) F0 (zc_C0_childOf F0.2 (zc_xH8 F0 h_a0).1 ((Or.imp id (zc_Vb F0.1) k_q3).resolve_left c4).1 h_a2) fun q6v q6h F6 k_q6 => ?_
      dsimp only
      refine zm_if (fun c7 => ?_) (fun c7 => ?_)
      · refine zc_cI (K := fun v => True) F6 (zc_C8_refused F6.2 h_a0 (by unfold zv_rg; omega)) fun q7v q7h F8 r_q7 k_q7 => ?_
        dsimp only
        exact zm_iI ⟨F8, r_q7, trivial⟩
      · refine zc_rT F6 ((Or.imp id (zc_Vb F0.1) k_q6).resolve_left c7).1 fun v8 e_v8 r_v8 => ?_
        refine zc_cI (K := fun v => True) F6 (zc_C8_given F6.2 h_a0 r_v8) fun q9v q9h F9 r_q9 k_q9 => ?_
        dsimp only
        exact zm_iI ⟨F9, r_q9, trivial⟩
theorem zc_C8_child {d : Nat} {h : zv_H} {a0 : Nat} {a1 : Int} {a2 : Int} (hA : zc_A h) (h_a0 : zv_lay a0 = (1, 8)) (h_a1 : zv_rg a1) (h_a2 : zv_rg a2) : zm_R (C8_child (d + 4) a0 a1 a2 h) (fun q => zc_Q h q.2 ∧ zv_rg q.1 ∧ True) := zm_cI (fun e => lC8_child (zc_ob hA h_a0) e) (zc_E8_child hA h_a0 h_a1 h_a2)
theorem zc_E8_force {d : Nat} {h : zv_H} {a0 : Nat} {a1 : Int} {a2 : Int} (hA : zc_A h) (h_a0 : zv_lay a0 = (1, 8)) (h_a1 : zv_rg a1) (h_a2 : zv_rg a2) : zm_R (E8_force (d + 2) a0 a1 a2 h) (zm_I fun v h' => zc_Q h h' ∧ zv_rg v ∧ True) := by
  have F0 := zc_Q_r hA
  rw [qE8_force]
  refine zc_rRo F0 h_a0 ?_
  refine zc_pN (K := fun v => (v = 0 ∨ zc_V h v)) (zc_C0_at F0.2 (zc_xH8 F0 h_a0).1 h_a1) fun q2v k_q2 => ?_
  dsimp only
  refine zc_rRo F0 h_a0 ?_
  refine zc_pN (K := fun v => (v = 0 ∨ zc_V h v)) (zc_C0_at F0.2 (zc_xH8 F0 h_a0).1 h_a2) fun q4v k_q4 => ?_
  dsimp only
  refine zm_if (fun c3 => ?_) (fun c3 => ?_)
  · rw [qL8_force_28]
    refine zc_cI (K := fun v => True) F0 (zc_C8_refused F0.2 h_a0 (by unfold zv_rg; omega)) fun q1v q1h F4 r_q1 k_q1 => ?_
    dsimp only
    exact zm_iI ⟨F4, r_q1, trivial⟩
  · refine zm_if (fun c5 => ?_) (fun c5 => ?_)
    · rw [qL8_force_28]
      refine zc_cI (K := fun v => True) F0 (zc_C8_refused F0.2 h_a0 (by unfold zv_rg; omega)) fun q1x1v q1x1h F6 r_q1x1 k_q1x1 => ?_
      dsimp only
      exact zm_iI ⟨F6, r_q1x1, trivial⟩
    · refine zc_rRo F0 h_a0 ?_
      refine zc_rF F0 8 (zc_xH8 F0 h_a0).1 ?_
      refine zc_cV F0 (zc_C4_walk F0.2 (zc_y0_5 (zc_xH8 F0 h_a0).1).1 (zc_Vq F0.1 ((Or.imp id (zc_Vb F0.1) k_q4).resolve_left c5))) fun g7 F7 => ?_
      refine zc_rJ F7 (zc_y0_5 (zc_xH8 F0 h_a0).1).1 fun v8 => ?_
      refine zc_pJ (zc_C5_bit F7.2 ((Or.imp id (zc_Vb F0.1) k_q2).resolve_left c3).1) fun q9v => ?_
      dsimp only
      refine zm_if (fun c9 => ?_) (fun c9 => ?_)
      · refine zc_cI (K := fun v => True) F7 (zc_C8_refused F7.2 h_a0 (by unfold zv_rg; omega)) fun q10v q10h F10 r_q10 k_q10 => ?_
        dsimp only
        exact zm_iI ⟨F10, r_q10, trivial⟩
      · refine zc_rJ F7 (zc_y0_5 (zc_xH8 F0 h_a0).1).1 fun v11 => ?_
        refine zc_pJ (zc_C5_bit F7.2 ((Or.imp id (zc_Vb F0.1) k_q2).resolve_left c3).1) fun q12v => ?_
        dsimp only
        refine zm_if (fun c12 => ?_) (fun c12 => ?_)
        · rw [qL8_force_92]
          refine zc_cI (K := fun v => True) F7 (zc_C8_given F7.2 h_a0 (by unfold zv_rg; omega)) fun q1x2v q1x2h F13 r_q1x2 k_q1x2 => ?_
          dsimp only
          exact zm_iI ⟨F13, r_q1x2, trivial⟩
        · rw [qL8_force_92]
          refine zc_cI (K := fun v => True) F7 (zc_C8_given F7.2 h_a0 (by unfold zv_rg; omega)) fun q1x3v q1x3h F14 r_q1x3 k_q1x3 => ?_
          dsimp only
          exact zm_iI ⟨F14, r_q1x3, trivial⟩
theorem zc_C8_force {d : Nat} {h : zv_H} {a0 : Nat} {a1 : Int} {a2 : Int} (hA : zc_A h) (h_a0 : zv_lay a0 = (1, 8)) (h_a1 : zv_rg a1) (h_a2 : zv_rg a2) : zm_R (C8_force (d + 3) a0 a1 a2 h) (fun q => zc_Q h q.2 ∧ zv_rg q.1 ∧ True) := zm_cI (fun e => lC8_force (zc_ob hA h_a0) e) (zc_E8_force hA h_a0 h_a1 h_a2)
theorem zc_E8_blame {d : Nat} {h : zv_H} {a0 : Nat} {a1 : Int} {a2 : Int} (hA : zc_A h) (h_a0 : zv_lay a0 = (1, 8)) (h_a1 : zv_rg a1) (h_a2 : zv_rg a2) : zm_R (E8_blame (d + 4) a0 a1 a2 h) (zm_I fun v h' => zc_Q h h' ∧ zv_rg v ∧ True) := by
  have F0 := zc_Q_r hA
  rw [qE8_blame]
  refine zm_if (fun c1 => ?_) (fun c1 => ?_)
  · rw [qL8_blame_13]
    refine zc_cI (K := fun v => True) F0 (zc_C8_refused F0.2 h_a0 (by unfold zv_rg; omega)) fun q1v q1h F2 r_q1 k_q1 => ?_
    dsimp only
    exact zm_iI ⟨F2, r_q1, trivial⟩
  · refine zc_pI (K := fun v => (v = 0 ∨ v = 1)) (zc_C8_within F0.2 h_a2 (by unfold zv_rg; omega) (by unfold zv_rg; omega)) fun q1x1v r_q1x1 k_q1x1 => ?_
    dsimp only
    refine zm_if (fun c4 => ?_) (fun c4 => ?_)
    · rw [qL8_blame_13]
      refine zc_cI (K := fun v => True) F0 (zc_C8_refused F0.2 h_a0 (by unfold zv_rg; omega)) fun q1x2v q1x2h F5 r_q1x2 k_q1x2 => ?_
      dsimp only
      exact zm_iI ⟨F5, r_q1x2, trivial⟩
    · refine zc_rRo F0 h_a0 ?_
      refine zc_rRo F0 (zc_xH8 F0 h_a0).1 ?_
      refine zc_pI (K := fun v => True) (zc_C5_idAt F0.2 (zc_hV F0 (zc_xH8 F0 h_a0).1).1.1 h_a1) fun q4v r_q4 k_q4 => ?_
      dsimp only
      refine zm_if (fun c7 => ?_) (fun c7 => ?_)
      · refine zc_cI (K := fun v => True) F0 (zc_C8_refused F0.2 h_a0 (by unfold zv_rg; omega)) fun q5v q5h F8 r_q5 k_q5 => ?_
        dsimp only
        exact zm_iI ⟨F8, r_q5, trivial⟩
      · refine zm_if (fun c9 => ?_) (fun c9 => ?_)
        · refine zc_pI (K := fun v => True) (zc_C4_putter F0.2 r_q4) fun q6v r_q6 k_q6 => ?_
          dsimp only
          refine zc_cI (K := fun v => True) F0 (zc_C8_given F0.2 h_a0 r_q6) fun q7v q7h F11 r_q7 k_q7 => ?_
          dsimp only
          exact zm_iI ⟨F11, r_q7, trivial⟩
        · refine zm_if (fun c12 => ?_) (fun c12 => ?_)
          · refine zc_pI (K := fun v => True) (zc_C4_order F0.2 r_q4) fun q8v r_q8 k_q8 => ?_
            dsimp only
            refine zc_cI (K := fun v => True) F0 (zc_C8_given F0.2 h_a0 r_q8) fun q9v q9h F14 r_q9 k_q9 => ?_
            dsimp only
            exact zm_iI ⟨F14, r_q9, trivial⟩
          · refine zc_rRo F0 h_a0 ?_
            refine zc_cN (K := fun v => zv_lay v = (1, 4)) F0 (zc_C0_rowOfHere F0.2 (zc_xH8 F0 h_a0).1) fun q11v q11h F15 k_q11 => ?_
            dsimp only
            refine zc_pI (K := fun v => v < 2147483647) (zc_C4_placeOf F15.2 k_q11 r_q4) fun q12v r_q12 k_q12 => ?_
            dsimp only
            refine zc_cI (K := fun v => True) F15 (zc_C8_given F15.2 h_a0 r_q12) fun q13v q13h F17 r_q13 k_q13 => ?_
            dsimp only
            exact zm_iI ⟨F17, r_q13, trivial⟩
theorem zc_C8_blame {d : Nat} {h : zv_H} {a0 : Nat} {a1 : Int} {a2 : Int} (hA : zc_A h) (h_a0 : zv_lay a0 = (1, 8)) (h_a1 : zv_rg a1) (h_a2 : zv_rg a2) : zm_R (C8_blame (d + 5) a0 a1 a2 h) (fun q => zc_Q h q.2 ∧ zv_rg q.1 ∧ True) := zm_cI (fun e => lC8_blame (zc_ob hA h_a0) e) (zc_E8_blame hA h_a0 h_a1 h_a2)
theorem zc_E8_row {d : Nat} {h : zv_H} {a0 : Nat} {a1 : Int} {a2 : Int} (hA : zc_A h) (h_a0 : zv_lay a0 = (1, 8)) (h_a1 : zv_rg a1) (h_a2 : zv_rg a2) : zm_R (E8_row (d + 4) a0 a1 a2 h) (zm_I fun v h' => zc_Q h h' ∧ zv_rg v ∧ True) := by
  have F0 := zc_Q_r hA
  rw [qE8_row]
  refine zm_if (fun c1 => ?_) (fun c1 => ?_)
  · rw [qL8_row_13]
    refine zc_cI (K := fun v => True) F0 (zc_C8_refused F0.2 h_a0 (by unfold zv_rg; omega)) fun q1v q1h F2 r_q1 k_q1 => ?_
    dsimp only
    exact zm_iI ⟨F2, r_q1, trivial⟩
  · refine zc_pI (K := fun v => (v = 0 ∨ v = 1)) (zc_C8_within F0.2 h_a2 (by unfold zv_rg; omega) (by unfold zv_rg; omega)) fun q1x1v r_q1x1 k_q1x1 => ?_
    dsimp only
    refine zm_if (fun c4 => ?_) (fun c4 => ?_)
    · rw [qL8_row_13]
      refine zc_cI (K := fun v => True) F0 (zc_C8_refused F0.2 h_a0 (by unfold zv_rg; omega)) fun q1x2v q1x2h F5 r_q1x2 k_q1x2 => ?_
      dsimp only
      exact zm_iI ⟨F5, r_q1x2, trivial⟩
    · refine zc_rRo F0 h_a0 ?_
      refine zc_cN (K := fun v => zv_lay v = (1, 4)) F0 (zc_C0_rowOfHere F0.2 (zc_xH8 F0 h_a0).1) fun q3v q3h F6 k_q3 => ?_
      dsimp only
      refine zc_pI (K := fun v => True) (zc_C4_idAt F6.2 k_q3 h_a1) fun q4v r_q4 k_q4 => ?_
      dsimp only
      refine zm_if (fun c8 => ?_) (fun c8 => ?_)
      · refine zc_cI (K := fun v => True) F6 (zc_C8_refused F6.2 h_a0 (by unfold zv_rg; omega)) fun q5v q5h F9 r_q5 k_q5 => ?_
        dsimp only
        exact zm_iI ⟨F9, r_q5, trivial⟩
      · refine zm_if (fun c10 => ?_) (fun c10 => ?_)
        · refine zc_rRo F6 h_a0 ?_
          refine zc_pI (K := fun v => True) (zc_C0_glyph F6.2 (zc_xH8 F6 h_a0).1 r_q4) fun q7v r_q7 k_q7 => ?_
          dsimp only
          refine zc_cI (K := fun v => True) F6 (zc_C8_given F6.2 h_a0 r_q7) fun q8v q8h F12 r_q8 k_q8 => ?_
          dsimp only
          exact zm_iI ⟨F12, r_q8, trivial⟩
        · refine zm_if (fun c13 => ?_) (fun c13 => ?_)
          · refine zc_pI (K := fun v => True) (zc_C4_putter F6.2 r_q4) fun q9v r_q9 k_q9 => ?_
            dsimp only
            refine zc_cI (K := fun v => True) F6 (zc_C8_given F6.2 h_a0 r_q9) fun q10v q10h F15 r_q10 k_q10 => ?_
            dsimp only
            exact zm_iI ⟨F15, r_q10, trivial⟩
          · refine zm_if (fun c16 => ?_) (fun c16 => ?_)
            · refine zc_pI (K := fun v => True) (zc_C4_seesAt F6.2 k_q3 h_a1) fun q11v r_q11 k_q11 => ?_
              dsimp only
              refine zm_if (fun c18 => ?_) (fun c18 => ?_)
              · rw [qL8_row_114]
                refine zc_cI (K := fun v => True) F6 (zc_C8_given F6.2 h_a0 (by unfold zv_rg; omega)) fun q1x3v q1x3h F19 r_q1x3 k_q1x3 => ?_
                dsimp only
                exact zm_iI ⟨F19, r_q1x3, trivial⟩
              · rw [qL8_row_114]
                refine zc_cI (K := fun v => True) F6 (zc_C8_given F6.2 h_a0 (by unfold zv_rg; omega)) fun q1x4v q1x4h F20 r_q1x4 k_q1x4 => ?_
                dsimp only
                exact zm_iI ⟨F20, r_q1x4, trivial⟩
            · refine zm_if (fun c21 => ?_) (fun c21 => ?_)
              · refine zc_pI (K := fun v => True) (zc_C4_cutsInForce F6.2 k_q3 r_q4) fun q12v r_q12 k_q12 => ?_
                dsimp only
                refine zc_cI (K := fun v => True) F6 (zc_C8_given F6.2 h_a0 r_q12) fun q13v q13h F23 r_q13 k_q13 => ?_
                dsimp only
                exact zm_iI ⟨F23, r_q13, trivial⟩
              · refine zc_pI (K := fun v => True) (zc_C4_lastCut F6.2 k_q3 r_q4) fun q14v r_q14 k_q14 => ?_
                dsimp only
                refine zc_cI (K := fun v => True) F6 (zc_C8_given F6.2 h_a0 r_q14) fun q15v q15h F25 r_q15 k_q15 => ?_
                dsimp only
                exact zm_iI ⟨F25, r_q15, trivial⟩
theorem zc_C8_row {d : Nat} {h : zv_H} {a0 : Nat} {a1 : Int} {a2 : Int} (hA : zc_A h) (h_a0 : zv_lay a0 = (1, 8)) (h_a1 : zv_rg a1) (h_a2 : zv_rg a2) : zm_R (C8_row (d + 5) a0 a1 a2 h) (fun q => zc_Q h q.2 ∧ zv_rg q.1 ∧ True) := zm_cI (fun e => lC8_row (zc_ob hA h_a0) e) (zc_E8_row hA h_a0 h_a1 h_a2)
theorem zc_E8_visit {d : Nat} {h : zv_H} {a0 : Nat} {a1 : Int} {a2 : Int} (hA : zc_A h) (h_a0 : zv_lay a0 = (1, 8)) (h_a1 : zv_rg a1) (h_a2 : zv_rg a2) : zm_R (E8_visit (d + 2) a0 a1 a2 h) (zm_I fun v h' => zc_Q h h' ∧ zv_rg v ∧ True) := by
  have F0 := zc_Q_r hA
  rw [qE8_visit]
  refine zc_pI (K := fun v => (v = 0 ∨ v = 1)) (zc_C8_within F0.2 h_a1 (by unfold zv_rg; omega) (by unfold zv_rg; omega)) fun q1v r_q1 k_q1 => ?_
  dsimp only
  refine zm_if (fun c2 => ?_) (fun c2 => ?_)
  · rw [qL8_visit_19]
    refine zc_cI (K := fun v => True) F0 (zc_C8_refused F0.2 h_a0 (by unfold zv_rg; omega)) fun q1x1v q1x1h F3 r_q1x1 k_q1x1 => ?_
    dsimp only
    exact zm_iI ⟨F3, r_q1x1, trivial⟩
  · refine zc_pI (K := fun v => (v = 0 ∨ v = 1)) (zc_C8_within F0.2 h_a2 (by unfold zv_rg; omega) (by unfold zv_rg; omega)) fun q2v r_q2 k_q2 => ?_
    dsimp only
    refine zm_if (fun c5 => ?_) (fun c5 => ?_)
    · rw [qL8_visit_19]
      refine zc_cI (K := fun v => True) F0 (zc_C8_refused F0.2 h_a0 (by unfold zv_rg; omega)) fun q1x2v q1x2h F6 r_q1x2 k_q1x2 => ?_
      dsimp only
      exact zm_iI ⟨F6, r_q1x2, trivial⟩
    · refine zc_rRo F0 h_a0 ?_
      refine zc_rF F0 17 (zc_xH8 F0 h_a0).1 ?_
      refine zc_rI F0 (zc_y0_7 (zc_xH8 F0 h_a0).1).1 fun v5 e_v5 r_v5 => ?_
      refine zm_if (fun c7 => ?_) (fun c7 => ?_)
      · refine zm_if (fun c8 => ?_) (fun c8 => ?_)
        · refine zc_rRo F0 h_a0 ?_
          refine zc_rF F0 17 (zc_xH8 F0 h_a0).1 ?_
          refine zc_pI (K := fun v => True) (zc_C6_stateAt F0.2 (zc_y0_7 (zc_xH8 F0 h_a0).1).1 h_a1) fun q8v r_q8 k_q8 => ?_
          dsimp only
          rw [qL8_visit_75]
          refine zc_cI (K := fun v => True) F0 (zc_C8_given F0.2 h_a0 r_q8) fun q1x3v q1x3h F10 r_q1x3 k_q1x3 => ?_
          dsimp only
          exact zm_iI ⟨F10, r_q1x3, trivial⟩
        · refine zc_rRo F0 h_a0 ?_
          refine zc_rF F0 17 (zc_xH8 F0 h_a0).1 ?_
          refine zc_pI (K := fun v => True) (zc_C6_timeAt F0.2 (zc_y0_7 (zc_xH8 F0 h_a0).1).1 h_a1) fun q11v r_q11 k_q11 => ?_
          dsimp only
          rw [qL8_visit_75]
          refine zc_cI (K := fun v => True) F0 (zc_C8_given F0.2 h_a0 r_q11) fun q1x4v q1x4h F12 r_q1x4 k_q1x4 => ?_
          dsimp only
          exact zm_iI ⟨F12, r_q1x4, trivial⟩
      · refine zc_cI (K := fun v => True) F0 (zc_C8_refused F0.2 h_a0 (by unfold zv_rg; omega)) fun q12v q12h F13 r_q12 k_q12 => ?_
        dsimp only
        exact zm_iI ⟨F13, r_q12, trivial⟩
theorem zc_C8_visit {d : Nat} {h : zv_H} {a0 : Nat} {a1 : Int} {a2 : Int} (hA : zc_A h) (h_a0 : zv_lay a0 = (1, 8)) (h_a1 : zv_rg a1) (h_a2 : zv_rg a2) : zm_R (C8_visit (d + 3) a0 a1 a2 h) (fun q => zc_Q h q.2 ∧ zv_rg q.1 ∧ True) := zm_cI (fun e => lC8_visit (zc_ob hA h_a0) e) (zc_E8_visit hA h_a0 h_a1 h_a2)
theorem zc_E8_named {d : Nat} {h : zv_H} {a0 : Nat} (hA : zc_A h) (h_a0 : zv_lay a0 = (1, 8)) : zm_R (E8_named (d + 2) a0 h) (zm_I fun v h' => zc_Q h h' ∧ zv_rg v ∧ True) := by
  have F0 := zc_Q_r hA
  rw [qE8_named]
  refine zc_rF F0 2 h_a0 ?_
  refine zc_pI (K := fun v => True) (zc_C7_key F0.2 (zc_y8_1 h_a0).1) fun q2v r_q2 k_q2 => ?_
  dsimp only
  refine zm_if (fun c2 => ?_) (fun c2 => ?_)
  · refine zc_cI (K := fun v => True) F0 (zc_C8_refused F0.2 h_a0 (by unfold zv_rg; omega)) fun q3v q3h F3 r_q3 k_q3 => ?_
    dsimp only
    exact zm_iI ⟨F3, r_q3, trivial⟩
  · refine zc_rRo F0 h_a0 ?_
    refine zc_rF F0 14 (zc_xH8 F0 h_a0).1 ?_
    refine zc_pI (K := fun v => (v = -1 ∨ (0 ≤ v ∧ v < 12))) (zc_C2_indexOf F0.2 (zc_y0_6 (zc_xH8 F0 h_a0).1).1 r_q2) fun q6v r_q6 k_q6 => ?_
    dsimp only
    refine zm_if (fun c5 => ?_) (fun c5 => ?_)
    · refine zc_cI (K := fun v => True) F0 (zc_C8_refused F0.2 h_a0 (by unfold zv_rg; omega)) fun q7v q7h F6 r_q7 k_q7 => ?_
      dsimp only
      exact zm_iI ⟨F6, r_q7, trivial⟩
    · refine zc_rRo F0 h_a0 ?_
      refine zc_rF F0 14 (zc_xH8 F0 h_a0).1 ?_
      refine zc_pI (K := fun v => True) (zc_C2_ownerAt F0.2 (zc_y0_6 (zc_xH8 F0 h_a0).1).1 r_q6) fun q10v r_q10 k_q10 => ?_
      dsimp only
      refine zc_cI (K := fun v => True) F0 (zc_C8_given F0.2 h_a0 r_q10) fun q11v q11h F8 r_q11 k_q11 => ?_
      dsimp only
      exact zm_iI ⟨F8, r_q11, trivial⟩
theorem zc_C8_named {d : Nat} {h : zv_H} {a0 : Nat} (hA : zc_A h) (h_a0 : zv_lay a0 = (1, 8)) : zm_R (C8_named (d + 3) a0 h) (fun q => zc_Q h q.2 ∧ zv_rg q.1 ∧ True) := zm_cI (fun e => lC8_named (zc_ob hA h_a0) e) (zc_E8_named hA h_a0)
theorem zc_E8_leans {d : Nat} {h : zv_H} {a0 : Nat} {a1 : Int} {a2 : Int} (hA : zc_A h) (h_a0 : zv_lay a0 = (1, 8)) (h_a1 : zv_rg a1) (h_a2 : zv_rg a2) : zm_R (E8_leans (d + 1) a0 a1 a2 h) (zm_I fun v h' => zc_Q h h' ∧ zv_rg v ∧ True) := by
  have F0 := zc_Q_r hA
  rw [qE8_leans]
  refine zc_rRo F0 h_a0 ?_
  refine zc_pN (K := fun v => (v = 0 ∨ zc_V h v)) (zc_C0_at F0.2 (zc_xH8 F0 h_a0).1 h_a1) fun q2v k_q2 => ?_
  dsimp only
  refine zc_rRo F0 h_a0 ?_
  refine zc_pN (K := fun v => (v = 0 ∨ zc_V h v)) (zc_C0_at F0.2 (zc_xH8 F0 h_a0).1 h_a2) fun q4v k_q4 => ?_
  dsimp only
  refine zm_if (fun c3 => ?_) (fun c3 => ?_)
  · rw [qL8_leans_28]
    refine zc_cI (K := fun v => True) F0 (zc_C8_refused F0.2 h_a0 (by unfold zv_rg; omega)) fun q1v q1h F4 r_q1 k_q1 => ?_
    dsimp only
    exact zm_iI ⟨F4, r_q1, trivial⟩
  · refine zm_if (fun c5 => ?_) (fun c5 => ?_)
    · rw [qL8_leans_28]
      refine zc_cI (K := fun v => True) F0 (zc_C8_refused F0.2 h_a0 (by unfold zv_rg; omega)) fun q1x1v q1x1h F6 r_q1x1 k_q1x1 => ?_
      dsimp only
      exact zm_iI ⟨F6, r_q1x1, trivial⟩
    · refine zc_rT F0 ((Or.imp id (zc_Vb F0.1) k_q2).resolve_left c3).1 fun v5 e_v5 r_v5 => ?_
      have d_v5 := (zc_dep F0 ((Or.imp id (zc_Vb F0.1) k_q2).resolve_left c3)).1
      rw [← e_v5] at d_v5
      refine zc_rT F0 ((Or.imp id (zc_Vb F0.1) k_q4).resolve_left c5).1 fun v6 e_v6 r_v6 => ?_
      have d_v6 := (zc_dep F0 ((Or.imp id (zc_Vb F0.1) k_q4).resolve_left c5)).1
      rw [← e_v6] at d_v6
      refine zm_if (fun c7 => ?_) (fun c7 => ?_)
      · rw [qL8_leans_52]
        refine zm_if (fun c8 => ?_) (fun c8 => ?_)
        · have w_e0 := zv_lay_lt (zc_ly ((Or.imp id (zc_Vb F0.1) k_q4).resolve_left c5).1)
          have w_a3 := zv_lay_lt (zc_ly ((Or.imp id (zc_Vb F0.1) k_q2).resolve_left c3).1)
          omega
        · refine zm_if (fun c9 => ?_) (fun c9 => ?_)
          · rw [qL8_leans_66]
            refine zc_pI (K := fun v => True) (zc_C5_edits F0.2 ((Or.imp id (zc_Vb F0.1) k_q4).resolve_left c5).1) fun q1x2v r_q1x2 k_q1x2 => ?_
            dsimp only
            refine zm_if (fun c11 => ?_) (fun c11 => ?_)
            · rw [qL8_leans_94]
              refine zc_cI (K := fun v => True) F0 (zc_C8_refused F0.2 h_a0 (by unfold zv_rg; omega)) fun q1x3v q1x3h F12 r_q1x3 k_q1x3 => ?_
              dsimp only
              exact zm_iI ⟨F12, r_q1x3, trivial⟩
            · refine zc_pI (K := fun v => True) (zc_C5_edits F0.2 ((Or.imp id (zc_Vb F0.1) k_q4).resolve_left c5).1) fun q2x1v r_q2x1 k_q2x1 => ?_
              dsimp only
              refine zm_if (fun c14 => ?_) (fun c14 => ?_)
              · rw [qL8_leans_94]
                refine zc_cI (K := fun v => True) F0 (zc_C8_refused F0.2 h_a0 (by unfold zv_rg; omega)) fun q1x4v q1x4h F15 r_q1x4 k_q1x4 => ?_
                dsimp only
                exact zm_iI ⟨F15, r_q1x4, trivial⟩
              · refine zc_pI (K := fun v => True) (zc_C0_onLine F0.2 (zc_Vq F0.1 ((Or.imp id (zc_Vb F0.1) k_q4).resolve_left c5)) (Or.inr (zc_Vq F0.1 ((Or.imp id (zc_Vb F0.1) k_q4).resolve_left c5)))) fun q3v r_q3 k_q3 => ?_
                dsimp only
                refine zm_if (fun c17 => ?_) (fun c17 => ?_)
                · rw [qL8_leans_94]
                  refine zc_cI (K := fun v => True) F0 (zc_C8_refused F0.2 h_a0 (by unfold zv_rg; omega)) fun q1x5v q1x5h F18 r_q1x5 k_q1x5 => ?_
                  dsimp only
                  exact zm_iI ⟨F18, r_q1x5, trivial⟩
                · refine zc_rJ F0 ((Or.imp id (zc_Vb F0.1) k_q4).resolve_left c5).1 fun v4 => ?_
                  refine zc_pJ (zc_C5_bit F0.2 ((Or.imp id (zc_Vb F0.1) k_q4).resolve_left c5).1) fun q5v => ?_
                  dsimp only
                  refine zm_if (fun c20 => ?_) (fun c20 => ?_)
                  · rw [qL8_leans_122]
                    refine zc_cI (K := fun v => True) F0 (zc_C8_given F0.2 h_a0 (by unfold zv_rg; omega)) fun q1x6v q1x6h F21 r_q1x6 k_q1x6 => ?_
                    dsimp only
                    exact zm_iI ⟨F21, r_q1x6, trivial⟩
                  · rw [qL8_leans_122]
                    refine zc_cI (K := fun v => True) F0 (zc_C8_given F0.2 h_a0 (by unfold zv_rg; omega)) fun q1x7v q1x7h F22 r_q1x7 k_q1x7 => ?_
                    dsimp only
                    exact zm_iI ⟨F22, r_q1x7, trivial⟩
          · rw [qL8_leans_66]
            refine zc_pI (K := fun v => True) (zc_C5_edits F0.2 ((Or.imp id (zc_Vb F0.1) k_q4).resolve_left c5).1) fun q1x8v r_q1x8 k_q1x8 => ?_
            dsimp only
            refine zm_if (fun c24 => ?_) (fun c24 => ?_)
            · rw [qL8_leans_94]
              refine zc_cI (K := fun v => True) F0 (zc_C8_refused F0.2 h_a0 (by unfold zv_rg; omega)) fun q1x9v q1x9h F25 r_q1x9 k_q1x9 => ?_
              dsimp only
              exact zm_iI ⟨F25, r_q1x9, trivial⟩
            · refine zc_pI (K := fun v => True) (zc_C5_edits F0.2 ((Or.imp id (zc_Vb F0.1) k_q2).resolve_left c3).1) fun q2x2v r_q2x2 k_q2x2 => ?_
              dsimp only
              refine zm_if (fun c27 => ?_) (fun c27 => ?_)
              · rw [qL8_leans_94]
                refine zc_cI (K := fun v => True) F0 (zc_C8_refused F0.2 h_a0 (by unfold zv_rg; omega)) fun q1x10v q1x10h F28 r_q1x10 k_q1x10 => ?_
                dsimp only
                exact zm_iI ⟨F28, r_q1x10, trivial⟩
              · refine zc_pI (K := fun v => True) (zc_C0_onLine F0.2 (zc_Vq F0.1 ((Or.imp id (zc_Vb F0.1) k_q2).resolve_left c3)) (Or.inr (zc_Vq F0.1 ((Or.imp id (zc_Vb F0.1) k_q4).resolve_left c5)))) fun q3x1v r_q3x1 k_q3x1 => ?_
                dsimp only
                refine zm_if (fun c30 => ?_) (fun c30 => ?_)
                · rw [qL8_leans_94]
                  refine zc_cI (K := fun v => True) F0 (zc_C8_refused F0.2 h_a0 (by unfold zv_rg; omega)) fun q1x11v q1x11h F31 r_q1x11 k_q1x11 => ?_
                  dsimp only
                  exact zm_iI ⟨F31, r_q1x11, trivial⟩
                · refine zc_rJ F0 ((Or.imp id (zc_Vb F0.1) k_q4).resolve_left c5).1 fun v4x1 => ?_
                  refine zc_pJ (zc_C5_bit F0.2 ((Or.imp id (zc_Vb F0.1) k_q2).resolve_left c3).1) fun q5x1v => ?_
                  dsimp only
                  refine zm_if (fun c33 => ?_) (fun c33 => ?_)
                  · rw [qL8_leans_122]
                    refine zc_cI (K := fun v => True) F0 (zc_C8_given F0.2 h_a0 (by unfold zv_rg; omega)) fun q1x12v q1x12h F34 r_q1x12 k_q1x12 => ?_
                    dsimp only
                    exact zm_iI ⟨F34, r_q1x12, trivial⟩
                  · rw [qL8_leans_122]
                    refine zc_cI (K := fun v => True) F0 (zc_C8_given F0.2 h_a0 (by unfold zv_rg; omega)) fun q1x13v q1x13h F35 r_q1x13 k_q1x13 => ?_
                    dsimp only
                    exact zm_iI ⟨F35, r_q1x13, trivial⟩
      · rw [qL8_leans_52]
        refine zm_if (fun c36 => ?_) (fun c36 => ?_)
        · have w_e0 := zv_lay_lt (zc_ly ((Or.imp id (zc_Vb F0.1) k_q2).resolve_left c3).1)
          have w_a3 := zv_lay_lt (zc_ly ((Or.imp id (zc_Vb F0.1) k_q2).resolve_left c3).1)
          omega
        · refine zm_if (fun c37 => ?_) (fun c37 => ?_)
          · rw [qL8_leans_66]
            refine zc_pI (K := fun v => True) (zc_C5_edits F0.2 ((Or.imp id (zc_Vb F0.1) k_q2).resolve_left c3).1) fun q1x14v r_q1x14 k_q1x14 => ?_
            dsimp only
            refine zm_if (fun c39 => ?_) (fun c39 => ?_)
            · rw [qL8_leans_94]
              refine zc_cI (K := fun v => True) F0 (zc_C8_refused F0.2 h_a0 (by unfold zv_rg; omega)) fun q1x15v q1x15h F40 r_q1x15 k_q1x15 => ?_
              dsimp only
              exact zm_iI ⟨F40, r_q1x15, trivial⟩
            · refine zc_pI (K := fun v => True) (zc_C5_edits F0.2 ((Or.imp id (zc_Vb F0.1) k_q4).resolve_left c5).1) fun q2x3v r_q2x3 k_q2x3 => ?_
              dsimp only
              refine zm_if (fun c42 => ?_) (fun c42 => ?_)
              · rw [qL8_leans_94]
                refine zc_cI (K := fun v => True) F0 (zc_C8_refused F0.2 h_a0 (by unfold zv_rg; omega)) fun q1x16v q1x16h F43 r_q1x16 k_q1x16 => ?_
                dsimp only
                exact zm_iI ⟨F43, r_q1x16, trivial⟩
              · refine zc_pI (K := fun v => True) (zc_C0_onLine F0.2 (zc_Vq F0.1 ((Or.imp id (zc_Vb F0.1) k_q4).resolve_left c5)) (Or.inr (zc_Vq F0.1 ((Or.imp id (zc_Vb F0.1) k_q2).resolve_left c3)))) fun q3x2v r_q3x2 k_q3x2 => ?_
                dsimp only
                refine zm_if (fun c45 => ?_) (fun c45 => ?_)
                · rw [qL8_leans_94]
                  refine zc_cI (K := fun v => True) F0 (zc_C8_refused F0.2 h_a0 (by unfold zv_rg; omega)) fun q1x17v q1x17h F46 r_q1x17 k_q1x17 => ?_
                  dsimp only
                  exact zm_iI ⟨F46, r_q1x17, trivial⟩
                · refine zc_rJ F0 ((Or.imp id (zc_Vb F0.1) k_q2).resolve_left c3).1 fun v4x2 => ?_
                  refine zc_pJ (zc_C5_bit F0.2 ((Or.imp id (zc_Vb F0.1) k_q4).resolve_left c5).1) fun q5x2v => ?_
                  dsimp only
                  refine zm_if (fun c48 => ?_) (fun c48 => ?_)
                  · rw [qL8_leans_122]
                    refine zc_cI (K := fun v => True) F0 (zc_C8_given F0.2 h_a0 (by unfold zv_rg; omega)) fun q1x18v q1x18h F49 r_q1x18 k_q1x18 => ?_
                    dsimp only
                    exact zm_iI ⟨F49, r_q1x18, trivial⟩
                  · rw [qL8_leans_122]
                    refine zc_cI (K := fun v => True) F0 (zc_C8_given F0.2 h_a0 (by unfold zv_rg; omega)) fun q1x19v q1x19h F50 r_q1x19 k_q1x19 => ?_
                    dsimp only
                    exact zm_iI ⟨F50, r_q1x19, trivial⟩
          · rw [qL8_leans_66]
            refine zc_pI (K := fun v => True) (zc_C5_edits F0.2 ((Or.imp id (zc_Vb F0.1) k_q2).resolve_left c3).1) fun q1x20v r_q1x20 k_q1x20 => ?_
            dsimp only
            refine zm_if (fun c52 => ?_) (fun c52 => ?_)
            · rw [qL8_leans_94]
              refine zc_cI (K := fun v => True) F0 (zc_C8_refused F0.2 h_a0 (by unfold zv_rg; omega)) fun q1x21v q1x21h F53 r_q1x21 k_q1x21 => ?_
              dsimp only
              exact zm_iI ⟨F53, r_q1x21, trivial⟩
            · refine zc_pI (K := fun v => True) (zc_C5_edits F0.2 ((Or.imp id (zc_Vb F0.1) k_q2).resolve_left c3).1) fun q2x4v r_q2x4 k_q2x4 => ?_
              dsimp only
              refine zm_if (fun c55 => ?_) (fun c55 => ?_)
              · rw [qL8_leans_94]
                refine zc_cI (K := fun v => True) F0 (zc_C8_refused F0.2 h_a0 (by unfold zv_rg; omega)) fun q1x22v q1x22h F56 r_q1x22 k_q1x22 => ?_
                dsimp only
                exact zm_iI ⟨F56, r_q1x22, trivial⟩
              · refine zc_pI (K := fun v => True) (zc_C0_onLine F0.2 (zc_Vq F0.1 ((Or.imp id (zc_Vb F0.1) k_q2).resolve_left c3)) (Or.inr (zc_Vq F0.1 ((Or.imp id (zc_Vb F0.1) k_q2).resolve_left c3)))) fun q3x3v r_q3x3 k_q3x3 => ?_
                dsimp only
                refine zm_if (fun c58 => ?_) (fun c58 => ?_)
                · rw [qL8_leans_94]
                  refine zc_cI (K := fun v => True) F0 (zc_C8_refused F0.2 h_a0 (by unfold zv_rg; omega)) fun q1x23v q1x23h F59 r_q1x23 k_q1x23 => ?_
                  dsimp only
                  exact zm_iI ⟨F59, r_q1x23, trivial⟩
                · refine zc_rJ F0 ((Or.imp id (zc_Vb F0.1) k_q2).resolve_left c3).1 fun v4x3 => ?_
                  refine zc_pJ (zc_C5_bit F0.2 ((Or.imp id (zc_Vb F0.1) k_q2).resolve_left c3).1) fun q5x3v => ?_
                  dsimp only
                  refine zm_if (fun c61 => ?_) (fun c61 => ?_)
                  · rw [qL8_leans_122]
                    refine zc_cI (K := fun v => True) F0 (zc_C8_given F0.2 h_a0 (by unfold zv_rg; omega)) fun q1x24v q1x24h F62 r_q1x24 k_q1x24 => ?_
                    dsimp only
                    exact zm_iI ⟨F62, r_q1x24, trivial⟩
                  · rw [qL8_leans_122]
                    refine zc_cI (K := fun v => True) F0 (zc_C8_given F0.2 h_a0 (by unfold zv_rg; omega)) fun q1x25v q1x25h F63 r_q1x25 k_q1x25 => ?_
                    dsimp only
                    exact zm_iI ⟨F63, r_q1x25, trivial⟩
theorem zc_C8_leans {d : Nat} {h : zv_H} {a0 : Nat} {a1 : Int} {a2 : Int} (hA : zc_A h) (h_a0 : zv_lay a0 = (1, 8)) (h_a1 : zv_rg a1) (h_a2 : zv_rg a2) : zm_R (C8_leans (d + 2) a0 a1 a2 h) (fun q => zc_Q h q.2 ∧ zv_rg q.1 ∧ True) := zm_cI (fun e => lC8_leans (zc_ob hA h_a0) e) (zc_E8_leans hA h_a0 h_a1 h_a2)
theorem zc_E8_wait {d : Nat} {h : zv_H} {a0 : Nat} {a1 : Int} (hA : zc_A h) (h_a0 : zv_lay a0 = (1, 8)) (h_a1 : zv_rg a1) : zm_R (E8_wait (d + 2) a0 a1 h) (zm_I fun v h' => zc_Q h h' ∧ zv_rg v ∧ True) := by
  have F0 := zc_Q_r hA
  rw [qE8_wait]
  refine zc_rRo F0 h_a0 ?_
  refine zc_cI (K := fun v => True) F0 (zc_C0_passTime F0.2 (zc_xH8 F0 h_a0).1 h_a1) fun q2v q2h F1 r_q2 k_q2 => ?_
  dsimp only
  refine zc_cI (K := fun v => True) F1 (zc_C8_answered F1.2 h_a0 r_q2) fun q3v q3h F2 r_q3 k_q3 => ?_
  dsimp only
  exact zm_iI ⟨F2, r_q3, trivial⟩
theorem zc_C8_wait {d : Nat} {h : zv_H} {a0 : Nat} {a1 : Int} (hA : zc_A h) (h_a0 : zv_lay a0 = (1, 8)) (h_a1 : zv_rg a1) : zm_R (C8_wait (d + 3) a0 a1 h) (fun q => zc_Q h q.2 ∧ zv_rg q.1 ∧ True) := zm_cI (fun e => lC8_wait (zc_ob hA h_a0) e) (zc_E8_wait hA h_a0 h_a1)
theorem zc_E8_name {d : Nat} {h : zv_H} {a0 : Nat} (hA : zc_A h) (h_a0 : zv_lay a0 = (1, 8)) : zm_R (E8_name (d + 3) a0 h) (zm_I fun v h' => zc_Q h h' ∧ zv_rg v ∧ True) := by
  have F0 := zc_Q_r hA
  rw [qE8_name]
  refine zc_rRo F0 h_a0 ?_
  refine zc_rF F0 2 h_a0 ?_
  refine zc_pI (K := fun v => True) (zc_C7_key F0.2 (zc_y8_1 h_a0).1) fun q3v r_q3 k_q3 => ?_
  dsimp only
  refine zc_cI (K := fun v => True) F0 (zc_C0_nameHere F0.2 (zc_xH8 F0 h_a0).1 r_q3) fun q4v q4h F2 r_q4 k_q4 => ?_
  dsimp only
  refine zc_cI (K := fun v => True) F2 (zc_C8_answered F2.2 h_a0 r_q4) fun q5v q5h F3 r_q5 k_q5 => ?_
  dsimp only
  exact zm_iI ⟨F3, r_q5, trivial⟩
theorem zc_C8_name {d : Nat} {h : zv_H} {a0 : Nat} (hA : zc_A h) (h_a0 : zv_lay a0 = (1, 8)) : zm_R (C8_name (d + 4) a0 h) (fun q => zc_Q h q.2 ∧ zv_rg q.1 ∧ True) := zm_cI (fun e => lC8_name (zc_ob hA h_a0) e) (zc_E8_name hA h_a0)
theorem zc_E8_unname {d : Nat} {h : zv_H} {a0 : Nat} (hA : zc_A h) (h_a0 : zv_lay a0 = (1, 8)) : zm_R (E8_unname (d + 2) a0 h) (zm_I fun v h' => zc_Q h h' ∧ zv_rg v ∧ True) := by
  have F0 := zc_Q_r hA
  rw [qE8_unname]
  refine zc_rRo F0 h_a0 ?_
  refine zc_rF F0 2 h_a0 ?_
  refine zc_pI (K := fun v => True) (zc_C7_key F0.2 (zc_y8_1 h_a0).1) fun q3v r_q3 k_q3 => ?_
  dsimp only
  refine zc_cI (K := fun v => True) F0 (zc_C0_dropName F0.2 (zc_xH8 F0 h_a0).1 r_q3) fun q4v q4h F2 r_q4 k_q4 => ?_
  dsimp only
  refine zc_cI (K := fun v => True) F2 (zc_C8_answered F2.2 h_a0 r_q4) fun q5v q5h F3 r_q5 k_q5 => ?_
  dsimp only
  exact zm_iI ⟨F3, r_q5, trivial⟩
theorem zc_C8_unname {d : Nat} {h : zv_H} {a0 : Nat} (hA : zc_A h) (h_a0 : zv_lay a0 = (1, 8)) : zm_R (C8_unname (d + 3) a0 h) (fun q => zc_Q h q.2 ∧ zv_rg q.1 ∧ True) := zm_cI (fun e => lC8_unname (zc_ob hA h_a0) e) (zc_E8_unname hA h_a0)
theorem zc_E8_common {d : Nat} {h : zv_H} {a0 : Nat} {a1 : Int} {a2 : Int} (hA : zc_A h) (h_a0 : zv_lay a0 = (1, 8)) (h_a1 : zv_rg a1) (h_a2 : zv_rg a2) : zm_R (E8_common (d + 2) a0 a1 a2 h) (zm_I fun v h' => zc_Q h h' ∧ zv_rg v ∧ True) := by
  have F0 := zc_Q_r hA
  rw [qE8_common]
  refine zc_rRo F0 h_a0 ?_
  refine zc_pN (K := fun v => (v = 0 ∨ zc_V h v)) (zc_C0_at F0.2 (zc_xH8 F0 h_a0).1 h_a1) fun q2v k_q2 => ?_
  dsimp only
  refine zc_rRo F0 h_a0 ?_
  refine zc_pN (K := fun v => (v = 0 ∨ zc_V h v)) (zc_C0_at F0.2 (zc_xH8 F0 h_a0).1 h_a2) fun q4v k_q4 => ?_
  dsimp only
  refine zm_if (fun c3 => ?_) (fun c3 => ?_)
  · rw [qL8_common_28]
    refine zc_cI (K := fun v => True) F0 (zc_C8_refused F0.2 h_a0 (by unfold zv_rg; omega)) fun q1v q1h F4 r_q1 k_q1 => ?_
    dsimp only
    exact zm_iI ⟨F4, r_q1, trivial⟩
  · refine zm_if (fun c5 => ?_) (fun c5 => ?_)
    · rw [qL8_common_28]
      refine zc_cI (K := fun v => True) F0 (zc_C8_refused F0.2 h_a0 (by unfold zv_rg; omega)) fun q1x1v q1x1h F6 r_q1x1 k_q1x1 => ?_
      dsimp only
      exact zm_iI ⟨F6, r_q1x1, trivial⟩
    · refine zc_pN (K := fun v => zc_V h v) (zc_C0_nearest F0.2 (zc_Vq F0.1 ((Or.imp id (zc_Vb F0.1) k_q2).resolve_left c3)) (zc_Vq F0.1 ((Or.imp id (zc_Vb F0.1) k_q4).resolve_left c5))) fun q5v k_q5 => ?_
      dsimp only
      refine zc_rT F0 (zc_Vb F0.1 k_q5).1 fun v6 e_v6 r_v6 => ?_
      refine zc_cI (K := fun v => True) F0 (zc_C8_given F0.2 h_a0 r_v6) fun q7v q7h F8 r_q7 k_q7 => ?_
      dsimp only
      exact zm_iI ⟨F8, r_q7, trivial⟩
theorem zc_C8_common {d : Nat} {h : zv_H} {a0 : Nat} {a1 : Int} {a2 : Int} (hA : zc_A h) (h_a0 : zv_lay a0 = (1, 8)) (h_a1 : zv_rg a1) (h_a2 : zv_rg a2) : zm_R (C8_common (d + 3) a0 a1 a2 h) (fun q => zc_Q h q.2 ∧ zv_rg q.1 ∧ True) := zm_cI (fun e => lC8_common (zc_ob hA h_a0) e) (zc_E8_common hA h_a0 h_a1 h_a2)
theorem zc_E8_way {d : Nat} {h : zv_H} {a0 : Nat} {a1 : Int} {a2 : Int} {a3 : Int} (hA : zc_A h) (h_a0 : zv_lay a0 = (1, 8)) (h_a1 : zv_rg a1) (h_a2 : zv_rg a2) (h_a3 : zv_rg a3) : zm_R (E8_way (d + 4) a0 a1 a2 a3 h) (zm_I fun v h' => zc_Q h h' ∧ zv_rg v ∧ True) := by
  have F0 := zc_Q_r hA
  rw [qE8_way]
  refine zm_if (fun c1 => ?_) (fun c1 => ?_)
  · refine zc_cI (K := fun v => True) F0 (zc_C8_refused F0.2 h_a0 (by unfold zv_rg; omega)) fun q1v q1h F2 r_q1 k_q1 => ?_
    dsimp only
    exact zm_iI ⟨F2, r_q1, trivial⟩
  · refine zc_rRo F0 h_a0 ?_
    refine zc_pN (K := fun v => (v = 0 ∨ zc_V h v)) (zc_C0_at F0.2 (zc_xH8 F0 h_a0).1 h_a1) fun q3v k_q3 => ?_
    dsimp only
    refine zc_rRo F0 h_a0 ?_
    refine zc_pN (K := fun v => (v = 0 ∨ zc_V h v)) (zc_C0_at F0.2 (zc_xH8 F0 h_a0).1 h_a2) fun q5v k_q5 => ?_
    dsimp only
    refine zm_if (fun c5 => ?_) (fun c5 => ?_)
    · rw [qL8_way_40]
      refine zc_cI (K := fun v => True) F0 (zc_C8_refused F0.2 h_a0 (by unfold zv_rg; omega)) fun q1x1v q1x1h F6 r_q1x1 k_q1x1 => ?_
      dsimp only
      exact zm_iI ⟨F6, r_q1x1, trivial⟩
    · refine zm_if (fun c7 => ?_) (fun c7 => ?_)
      · rw [qL8_way_40]
        refine zc_cI (K := fun v => True) F0 (zc_C8_refused F0.2 h_a0 (by unfold zv_rg; omega)) fun q1x2v q1x2h F8 r_q1x2 k_q1x2 => ?_
        dsimp only
        exact zm_iI ⟨F8, r_q1x2, trivial⟩
      · refine zc_pN (K := fun v => (v = 0 ∨ zc_V h v)) (zc_C0_onWay F0.2 (zc_Vq F0.1 ((Or.imp id (zc_Vb F0.1) k_q3).resolve_left c5)) (zc_Vq F0.1 ((Or.imp id (zc_Vb F0.1) k_q5).resolve_left c7)) h_a3) fun q6v k_q6 => ?_
        dsimp only
        refine zm_if (fun c10 => ?_) (fun c10 => ?_)
        · refine zc_cI (K := fun v => True) F0 (zc_C8_refused F0.2 h_a0 (by unfold zv_rg; omega)) fun q7v q7h F11 r_q7 k_q7 => ?_
          dsimp only
          exact zm_iI ⟨F11, r_q7, trivial⟩
        · refine zc_rT F0 ((Or.imp id (zc_Vb F0.1) k_q6).resolve_left c10).1 fun v8 e_v8 r_v8 => ?_
          refine zc_cI (K := fun v => True) F0 (zc_C8_given F0.2 h_a0 r_v8) fun q9v q9h F12 r_q9 k_q9 => ?_
          dsimp only
          exact zm_iI ⟨F12, r_q9, trivial⟩
theorem zc_C8_way {d : Nat} {h : zv_H} {a0 : Nat} {a1 : Int} {a2 : Int} {a3 : Int} (hA : zc_A h) (h_a0 : zv_lay a0 = (1, 8)) (h_a1 : zv_rg a1) (h_a2 : zv_rg a2) (h_a3 : zv_rg a3) : zm_R (C8_way (d + 5) a0 a1 a2 a3 h) (fun q => zc_Q h q.2 ∧ zv_rg q.1 ∧ True) := zm_cI (fun e => lC8_way (zc_ob hA h_a0) e) (zc_E8_way hA h_a0 h_a1 h_a2 h_a3)
theorem zc_E8_between {d : Nat} {h : zv_H} {a0 : Nat} {a1 : Int} {a2 : Int} {a3 : Int} (hA : zc_A h) (h_a0 : zv_lay a0 = (1, 8)) (h_a1 : zv_rg a1) (h_a2 : zv_rg a2) (h_a3 : zv_rg a3) : zm_R (E8_between (d + 3) a0 a1 a2 a3 h) (zm_I fun v h' => zc_Q h h' ∧ zv_rg v ∧ True) := by
  have F0 := zc_Q_r hA
  rw [qE8_between]
  refine zc_pI (K := fun v => (v = 0 ∨ v = 1)) (zc_C8_within F0.2 h_a3 (by unfold zv_rg; omega) (by unfold zv_rg; omega)) fun q1v r_q1 k_q1 => ?_
  dsimp only
  refine zm_if (fun c2 => ?_) (fun c2 => ?_)
  · refine zc_cI (K := fun v => True) F0 (zc_C8_refused F0.2 h_a0 (by unfold zv_rg; omega)) fun q2v q2h F3 r_q2 k_q2 => ?_
    dsimp only
    exact zm_iI ⟨F3, r_q2, trivial⟩
  · refine zc_rRo F0 h_a0 ?_
    refine zc_pN (K := fun v => (v = 0 ∨ zc_V h v)) (zc_C0_at F0.2 (zc_xH8 F0 h_a0).1 h_a1) fun q4v k_q4 => ?_
    dsimp only
    refine zc_rRo F0 h_a0 ?_
    refine zc_pN (K := fun v => (v = 0 ∨ zc_V h v)) (zc_C0_at F0.2 (zc_xH8 F0 h_a0).1 h_a2) fun q6v k_q6 => ?_
    dsimp only
    refine zm_if (fun c6 => ?_) (fun c6 => ?_)
    · rw [qL8_between_45]
      refine zc_cI (K := fun v => True) F0 (zc_C8_refused F0.2 h_a0 (by unfold zv_rg; omega)) fun q1x1v q1x1h F7 r_q1x1 k_q1x1 => ?_
      dsimp only
      exact zm_iI ⟨F7, r_q1x1, trivial⟩
    · refine zm_if (fun c8 => ?_) (fun c8 => ?_)
      · rw [qL8_between_45]
        refine zc_cI (K := fun v => True) F0 (zc_C8_refused F0.2 h_a0 (by unfold zv_rg; omega)) fun q1x2v q1x2h F9 r_q1x2 k_q1x2 => ?_
        dsimp only
        exact zm_iI ⟨F9, r_q1x2, trivial⟩
      · refine zm_if (fun c10 => ?_) (fun c10 => ?_)
        · refine zc_rRo F0 h_a0 ?_
          refine zc_pI (K := fun v => True) (zc_C0_keptOf F0.2 (zc_xH8 F0 h_a0).1 ((Or.imp id (zc_Vb F0.1) k_q4).resolve_left c6).1 ((Or.imp id (zc_Vb F0.1) k_q6).resolve_left c8).1) fun q8v r_q8 k_q8 => ?_
          dsimp only
          refine zc_cI (K := fun v => True) F0 (zc_C8_given F0.2 h_a0 r_q8) fun q9v q9h F12 r_q9 k_q9 => ?_
          dsimp only
          exact zm_iI ⟨F12, r_q9, trivial⟩
        · refine zm_if (fun c13 => ?_) (fun c13 => ?_)
          · refine zc_rI F0 ((Or.imp id (zc_Vb F0.1) k_q4).resolve_left c6).1 fun v10 e_v10 r_v10 => ?_
            have b_v10 := zc_bdv (k := 12) (m := 120) F0 ((Or.imp id (zc_Vb F0.1) k_q4).resolve_left c6).1 rfl
            rw [← e_v10] at b_v10
            refine zc_rRo F0 h_a0 ?_
            refine zc_pI (K := fun v => True) (zc_C0_keptOf F0.2 (zc_xH8 F0 h_a0).1 ((Or.imp id (zc_Vb F0.1) k_q4).resolve_left c6).1 ((Or.imp id (zc_Vb F0.1) k_q6).resolve_left c8).1) fun q12v r_q12 k_q12 => ?_
            dsimp only
            refine zc_cI (K := fun v => True) F0 (zc_C8_given F0.2 h_a0 (zc_w _)) fun q13v q13h F15 r_q13 k_q13 => ?_
            dsimp only
            exact zm_iI ⟨F15, r_q13, trivial⟩
          · refine zm_if (fun c16 => ?_) (fun c16 => ?_)
            · refine zc_rI F0 ((Or.imp id (zc_Vb F0.1) k_q6).resolve_left c8).1 fun v14 e_v14 r_v14 => ?_
              have b_v14 := zc_bdv (k := 12) (m := 120) F0 ((Or.imp id (zc_Vb F0.1) k_q6).resolve_left c8).1 rfl
              rw [← e_v14] at b_v14
              refine zc_rRo F0 h_a0 ?_
              refine zc_pI (K := fun v => True) (zc_C0_keptOf F0.2 (zc_xH8 F0 h_a0).1 ((Or.imp id (zc_Vb F0.1) k_q4).resolve_left c6).1 ((Or.imp id (zc_Vb F0.1) k_q6).resolve_left c8).1) fun q16v r_q16 k_q16 => ?_
              dsimp only
              refine zc_cI (K := fun v => True) F0 (zc_C8_given F0.2 h_a0 (zc_w _)) fun q17v q17h F18 r_q17 k_q17 => ?_
              dsimp only
              exact zm_iI ⟨F18, r_q17, trivial⟩
            · refine zc_rRo F0 h_a0 ?_
              refine zc_pI (K := fun v => True) (zc_C0_firstDifference F0.2 (zc_xH8 F0 h_a0).1 ((Or.imp id (zc_Vb F0.1) k_q4).resolve_left c6).1 ((Or.imp id (zc_Vb F0.1) k_q6).resolve_left c8).1) fun q19v r_q19 k_q19 => ?_
              dsimp only
              refine zc_cI (K := fun v => True) F0 (zc_C8_given F0.2 h_a0 r_q19) fun q20v q20h F20 r_q20 k_q20 => ?_
              dsimp only
              exact zm_iI ⟨F20, r_q20, trivial⟩
theorem zc_C8_between {d : Nat} {h : zv_H} {a0 : Nat} {a1 : Int} {a2 : Int} {a3 : Int} (hA : zc_A h) (h_a0 : zv_lay a0 = (1, 8)) (h_a1 : zv_rg a1) (h_a2 : zv_rg a2) (h_a3 : zv_rg a3) : zm_R (C8_between (d + 4) a0 a1 a2 a3 h) (fun q => zc_Q h q.2 ∧ zv_rg q.1 ∧ True) := zm_cI (fun e => lC8_between (zc_ob hA h_a0) e) (zc_E8_between hA h_a0 h_a1 h_a2 h_a3)
theorem zc_E8_least {d : Nat} {h : zv_H} {a0 : Nat} {a1 : Int} {a2 : Int} (hA : zc_A h) (h_a0 : zv_lay a0 = (1, 8)) (h_a1 : zv_rg a1) (h_a2 : zv_rg a2) : zm_R (E8_least (d + 3) a0 a1 a2 h) (zm_I fun v h' => zc_Q h h' ∧ zv_rg v ∧ True) := by
  have F0 := zc_Q_r hA
  rw [qE8_least]
  refine zc_rRo F0 h_a0 ?_
  refine zc_pN (K := fun v => (v = 0 ∨ zc_V h v)) (zc_C0_at F0.2 (zc_xH8 F0 h_a0).1 h_a1) fun q2v k_q2 => ?_
  dsimp only
  refine zc_rRo F0 h_a0 ?_
  refine zc_pN (K := fun v => (v = 0 ∨ zc_V h v)) (zc_C0_at F0.2 (zc_xH8 F0 h_a0).1 h_a2) fun q4v k_q4 => ?_
  dsimp only
  refine zm_if (fun c3 => ?_) (fun c3 => ?_)
  · rw [qL8_least_28]
    refine zc_cI (K := fun v => True) F0 (zc_C8_refused F0.2 h_a0 (by unfold zv_rg; omega)) fun q1v q1h F4 r_q1 k_q1 => ?_
    dsimp only
    exact zm_iI ⟨F4, r_q1, trivial⟩
  · refine zm_if (fun c5 => ?_) (fun c5 => ?_)
    · rw [qL8_least_28]
      refine zc_cI (K := fun v => True) F0 (zc_C8_refused F0.2 h_a0 (by unfold zv_rg; omega)) fun q1x1v q1x1h F6 r_q1x1 k_q1x1 => ?_
      dsimp only
      exact zm_iI ⟨F6, r_q1x1, trivial⟩
    · refine zc_rI F0 ((Or.imp id (zc_Vb F0.1) k_q2).resolve_left c3).1 fun v5 e_v5 r_v5 => ?_
      have b_v5 := zc_bdv (k := 12) (m := 120) F0 ((Or.imp id (zc_Vb F0.1) k_q2).resolve_left c3).1 rfl
      rw [← e_v5] at b_v5
      refine zc_rI F0 ((Or.imp id (zc_Vb F0.1) k_q4).resolve_left c5).1 fun v6 e_v6 r_v6 => ?_
      have b_v6 := zc_bdv (k := 12) (m := 120) F0 ((Or.imp id (zc_Vb F0.1) k_q4).resolve_left c5).1 rfl
      rw [← e_v6] at b_v6
      refine zc_rRo F0 h_a0 ?_
      refine zc_cI (K := fun v => True) F0 (zc_C0_longestCommon F0.2 (zc_xH8 F0 h_a0).1 ((Or.imp id (zc_Vb F0.1) k_q2).resolve_left c3).1 ((Or.imp id (zc_Vb F0.1) k_q4).resolve_left c5).1) fun q8v q8h F7 r_q8 k_q8 => ?_
      dsimp only
      refine zc_cI (K := fun v => True) F7 (zc_C8_given F7.2 h_a0 (zc_w _)) fun q9v q9h F8 r_q9 k_q9 => ?_
      dsimp only
      exact zm_iI ⟨F8, r_q9, trivial⟩
theorem zc_C8_least {d : Nat} {h : zv_H} {a0 : Nat} {a1 : Int} {a2 : Int} (hA : zc_A h) (h_a0 : zv_lay a0 = (1, 8)) (h_a1 : zv_rg a1) (h_a2 : zv_rg a2) : zm_R (C8_least (d + 4) a0 a1 a2 h) (fun q => zc_Q h q.2 ∧ zv_rg q.1 ∧ True) := zm_cI (fun e => lC8_least (zc_ob hA h_a0) e) (zc_E8_least hA h_a0 h_a1 h_a2)
theorem zc_E8_tellByte {d : Nat} {h : zv_H} {a0 : Nat} {a1 : Int} (hA : zc_A h) (h_a0 : zv_lay a0 = (1, 8)) (h_a1 : zv_rg a1) : zm_R (E8_tellByte (d + 0) a0 a1 h) (zm_V fun h' => zc_Q h h') := by
  have F0 := zc_Q_r hA
  rw [qE8_tellByte]
  refine zc_rI F0 h_a0 fun v1 e_v1 r_v1 => ?_
  refine zm_if (fun c1 => ?_) (fun c1 => ?_)
  · exact zm_iV F0
  · refine zc_rI F0 h_a0 fun v2 e_v2 r_v2 => ?_
    refine zc_rF F0 1 h_a0 ?_
    refine zc_rAl F0 (zc_y8_0 h_a0).1 fun v4 e_v4 => ?_
    refine zm_if (fun c2 => ?_) (fun c2 => ?_)
    · refine zc_rF F0 1 h_a0 ?_
      refine zc_rI F0 h_a0 fun v6 e_v6 r_v6 => ?_
      refine zc_wA F0 (zc_y8_0 h_a0).1 (zc_y8_0 h_a0).2 (by omega) (by omega) h_a1 fun g7 F3 u_g7 => ?_
      refine zc_rI F3 h_a0 fun v8 e_v8 r_v8 => ?_
      rw [u_g7 _ _ (by rw [h_a0])] at e_v8
      refine zc_wO F3 h_a0 (zc_frO h_a0 (zc_lt h_a0 (by decide)) (by decide) rfl (by decide)) (zc_w _) fun g9 F4 => ?_
      exact zm_iV F4
    · exact zm_iV F0
theorem zc_C8_tellByte {d : Nat} {h : zv_H} {a0 : Nat} {a1 : Int} (hA : zc_A h) (h_a0 : zv_lay a0 = (1, 8)) (h_a1 : zv_rg a1) : zm_R (C8_tellByte (d + 1) a0 a1 h) (fun q => zc_Q h q) := zm_cV (fun e => lC8_tellByte (zc_ob hA h_a0) e) (zc_E8_tellByte hA h_a0 h_a1)
theorem zc_E8_tellNumber {d : Nat} {h : zv_H} {a0 : Nat} {a1 : Int} (hA : zc_A h) (h_a0 : zv_lay a0 = (1, 8)) (h_a1 : zv_rg a1) : zm_R (E8_tellNumber (d + 1) a0 a1 h) (zm_V fun h' => zc_Q h h') := by
  have F0 := zc_Q_r hA
  rw [qE8_tellNumber]
  refine zm_if (fun c1 => ?_) (fun c1 => ?_)
  · rw [qL8_tellNumber_17]
    refine zc_cV F0 (zc_C8_tellByte F0.2 h_a0 (zc_w _)) fun g1 F2 => ?_
    exact zm_iV F2
  · refine zc_cV F0 (zc_C8_tellByte F0.2 h_a0 (zc_w _)) fun g1x1 F3 => ?_
    rw [qL8_tellNumber_17]
    refine zc_cV F3 (zc_C8_tellByte F3.2 h_a0 (zc_w _)) fun g1x2 F4 => ?_
    exact zm_iV F4
theorem zc_C8_tellNumber {d : Nat} {h : zv_H} {a0 : Nat} {a1 : Int} (hA : zc_A h) (h_a0 : zv_lay a0 = (1, 8)) (h_a1 : zv_rg a1) : zm_R (C8_tellNumber (d + 2) a0 a1 h) (fun q => zc_Q h q) := zm_cV (fun e => lC8_tellNumber (zc_ob hA h_a0) e) (zc_E8_tellNumber hA h_a0 h_a1)
theorem zc_L8_tellDocument_10 {d : Nat} {h0 : zv_H} (N_L8_tellDocument_10 : Nat) : ∀ {h : zv_H} {a0 : Nat} {a1 : Nat} {a2 : Int}, zc_Q h0 h → (zv_lay a0 = (1, 8)) → (zc_V h0 a1) → (0 ≤ a2 ∧ zv_rg a2) → (2147483647 - a2).toNat = N_L8_tellDocument_10 → zm_R (L8_tellDocument_10 (d + 2) a0 a1 a2 h) (zm_V fun h' => zc_Q h0 h') := by
  induction N_L8_tellDocument_10 using Nat.strongRecOn with
  | _ N_L8_tellDocument_10 ih_L8_tellDocument_10 =>
    intro h a0 a1 a2 F0 h_a0 h_a1 h_a2 eN
    rw [qL8_tellDocument_10]
    have z_a2 := h_a2.1
    refine zc_rI F0 h_a1.1 fun v1 e_v1 r_v1 => ?_
    have b_v1 := zc_bdv (k := 12) (m := 120) F0 h_a1.1 rfl
    rw [← e_v1] at b_v1
    refine zm_if (fun c1 => ?_) (fun c1 => ?_)
    · refine zc_rRo F0 h_a0 ?_
      refine zc_pI (K := fun v => True) (zc_C0_letterAt F0.2 (zc_xH8 F0 h_a0).1 h_a1.1 h_a2.2) fun q3v r_q3 k_q3 => ?_
      dsimp only
      refine zc_cV F0 (zc_C8_tellByte F0.2 h_a0 (zc_w _)) fun g4 F3 => ?_
      exact ih_L8_tellDocument_10 _ (by rw [← eN]; exact zc_up h_a2.2 r_v1 c1) F3 h_a0 h_a1 ⟨by rw [zc_up1 h_a2.2 r_v1 c1]; omega, zc_w _⟩  rfl
    · exact zm_iV F0
theorem zc_E8_tellDocument {d : Nat} {h : zv_H} {a0 : Nat} (hA : zc_A h) (h_a0 : zv_lay a0 = (1, 8)) : zm_R (E8_tellDocument (d + 2) a0 h) (zm_V fun h' => zc_Q h h') := by
  have F0 := zc_Q_r hA
  rw [qE8_tellDocument]
  refine zc_rRo F0 h_a0 ?_
  refine zc_rRo F0 (zc_xH8 F0 h_a0).1 ?_
  exact zc_L8_tellDocument_10  _ F0 h_a0 (zc_hV F0 (zc_xH8 F0 h_a0).1).1 ⟨by omega, (by unfold zv_rg; omega)⟩  rfl
theorem zc_C8_tellDocument {d : Nat} {h : zv_H} {a0 : Nat} (hA : zc_A h) (h_a0 : zv_lay a0 = (1, 8)) : zm_R (C8_tellDocument (d + 3) a0 h) (fun q => zc_Q h q) := zm_cV (fun e => lC8_tellDocument (zc_ob hA h_a0) e) (zc_E8_tellDocument hA h_a0)
theorem zc_L8_tellLine_10 {d : Nat} {h0 : zv_H} (N_L8_tellLine_10 : Nat) : ∀ {h : zv_H} {a0 : Nat} {a1 : Nat} {a2 : Int}, zc_Q h0 h → (zv_lay a0 = (1, 8)) → (zv_lay a1 = (1, 4)) → (0 ≤ a2 ∧ zv_rg a2) → (2147483647 - a2).toNat = N_L8_tellLine_10 → zm_R (L8_tellLine_10 (d + 4) a0 a1 a2 h) (zm_V fun h' => zc_Q h0 h') := by
  induction N_L8_tellLine_10 using Nat.strongRecOn with
  | _ N_L8_tellLine_10 ih_L8_tellLine_10 =>
    intro h a0 a1 a2 F0 h_a0 h_a1 h_a2 eN
    rw [qL8_tellLine_10]
    have z_a2 := h_a2.1
    refine zc_rI F0 h_a1 fun v1 e_v1 r_v1 => ?_
    have b_v1 := zc_bdv (k := 5) (m := 48) F0 h_a1 rfl
    rw [← e_v1] at b_v1
    refine zm_if (fun c1 => ?_) (fun c1 => ?_)
    · refine zm_if (fun c2 => ?_) (fun c2 => ?_)
      · rw [qL8_tellLine_28]
        refine zc_pI (K := fun v => True) (zc_C4_numberAt F0.2 h_a1 h_a2.2) fun q1v r_q1 k_q1 => ?_
        dsimp only
        refine zc_cV F0 (zc_C8_tellNumber F0.2 h_a0 r_q1) fun g2 F4 => ?_
        exact ih_L8_tellLine_10 _ (by rw [← eN]; exact zc_up h_a2.2 (show zv_rg (0 + 1) from (by unfold zv_rg at *; omega)) (by omega)) F4 h_a0 h_a1 ⟨by rw [zc_up1 h_a2.2 (show zv_rg (0 + 1) from (by unfold zv_rg at *; omega)) (by omega)]; omega, zc_w _⟩  rfl
      · refine zc_cV F0 (zc_C8_tellByte F0.2 h_a0 (by unfold zv_rg; omega)) fun g2x1 F5 => ?_
        rw [qL8_tellLine_28]
        refine zc_pI (K := fun v => True) (zc_C4_numberAt F5.2 h_a1 h_a2.2) fun q1x1v r_q1x1 k_q1x1 => ?_
        dsimp only
        refine zc_cV F5 (zc_C8_tellNumber F5.2 h_a0 r_q1x1) fun g2x2 F7 => ?_
        exact ih_L8_tellLine_10 _ (by rw [← eN]; exact zc_up h_a2.2 r_v1 c1) F7 h_a0 h_a1 ⟨by rw [zc_up1 h_a2.2 r_v1 c1]; omega, zc_w _⟩  rfl
    · exact zm_iV F0
theorem zc_E8_tellLine {d : Nat} {h : zv_H} {a0 : Nat} (hA : zc_A h) (h_a0 : zv_lay a0 = (1, 8)) : zm_R (E8_tellLine (d + 4) a0 h) (zm_V fun h' => zc_Q h h') := by
  have F0 := zc_Q_r hA
  rw [qE8_tellLine]
  refine zc_rRo F0 h_a0 ?_
  refine zc_cN (K := fun v => zv_lay v = (1, 4)) F0 (zc_C0_rowOfHere F0.2 (zc_xH8 F0 h_a0).1) fun q2v q2h F1 k_q2 => ?_
  dsimp only
  exact zc_L8_tellLine_10  _ F1 h_a0 k_q2 ⟨by omega, (by unfold zv_rg; omega)⟩  rfl
theorem zc_C8_tellLine {d : Nat} {h : zv_H} {a0 : Nat} (hA : zc_A h) (h_a0 : zv_lay a0 = (1, 8)) : zm_R (C8_tellLine (d + 5) a0 h) (fun q => zc_Q h q) := zm_cV (fun e => lC8_tellLine (zc_ob hA h_a0) e) (zc_E8_tellLine hA h_a0)
theorem zc_E8_out {d : Nat} {h : zv_H} {a0 : Nat} {a1 : Int} (hA : zc_A h) (h_a0 : zv_lay a0 = (1, 8)) (h_a1 : zv_rg a1) : zm_R (E8_out (d + 1) a0 a1 h) (zm_I fun v h' => zc_Q h h' ∧ zv_rg v ∧ True) := by
  have F0 := zc_Q_r hA
  rw [qE8_out]
  refine zm_if (fun c1 => ?_) (fun c1 => ?_)
  · refine zc_cI (K := fun v => True) F0 (zc_C8_refused F0.2 h_a0 (by unfold zv_rg; omega)) fun q1v q1h F2 r_q1 k_q1 => ?_
    dsimp only
    exact zm_iI ⟨F2, r_q1, trivial⟩
  · refine zc_rI F0 h_a0 fun v2 e_v2 r_v2 => ?_
    refine zm_if (fun c3 => ?_) (fun c3 => ?_)
    · refine zc_rF F0 1 h_a0 ?_
      refine zc_rAl F0 (zc_y8_0 h_a0).1 fun v4 e_v4 => ?_
      refine zm_if (fun c4 => ?_) (fun c4 => ?_)
      · refine zc_rF F0 1 h_a0 ?_
        refine zc_rA F0 (zc_y8_0 h_a0).1 (zc_y8_0 h_a0).2 (by omega) (by omega) fun v6 r_v6 => ?_
        refine zc_cI (K := fun v => True) F0 (zc_C8_given F0.2 h_a0 r_v6) fun q7v q7h F5 r_q7 k_q7 => ?_
        dsimp only
        exact zm_iI ⟨F5, r_q7, trivial⟩
      · rw [qL8_out_27]
        refine zc_cI (K := fun v => True) F0 (zc_C8_refused F0.2 h_a0 (by unfold zv_rg; omega)) fun q1x1v q1x1h F6 r_q1x1 k_q1x1 => ?_
        dsimp only
        exact zm_iI ⟨F6, r_q1x1, trivial⟩
    · rw [qL8_out_27]
      refine zc_cI (K := fun v => True) F0 (zc_C8_refused F0.2 h_a0 (by unfold zv_rg; omega)) fun q1x2v q1x2h F7 r_q1x2 k_q1x2 => ?_
      dsimp only
      exact zm_iI ⟨F7, r_q1x2, trivial⟩
theorem zc_C8_out {d : Nat} {h : zv_H} {a0 : Nat} {a1 : Int} (hA : zc_A h) (h_a0 : zv_lay a0 = (1, 8)) (h_a1 : zv_rg a1) : zm_R (C8_out (d + 2) a0 a1 h) (fun q => zc_Q h q.2 ∧ zv_rg q.1 ∧ True) := zm_cI (fun e => lC8_out (zc_ob hA h_a0) e) (zc_E8_out hA h_a0 h_a1)
theorem zc_E8_leaning {d : Nat} {h : zv_H} {a0 : Nat} {a1 : Int} {a2 : Int} (hA : zc_A h) (h_a0 : zv_lay a0 = (1, 8)) (h_a1 : zv_rg a1) (h_a2 : zv_rg a2) : zm_R (E8_leaning (d + 4) a0 a1 a2 h) (zm_I fun v h' => zc_Q h h' ∧ zv_rg v ∧ True) := by
  have F0 := zc_Q_r hA
  rw [qE8_leaning]
  refine zc_pI (K := fun v => (v = 0 ∨ v = 1)) (zc_C8_within F0.2 h_a2 (by unfold zv_rg; omega) (by unfold zv_rg; omega)) fun q1v r_q1 k_q1 => ?_
  dsimp only
  refine zm_if (fun c2 => ?_) (fun c2 => ?_)
  · refine zc_cI (K := fun v => True) F0 (zc_C8_refused F0.2 h_a0 (by unfold zv_rg; omega)) fun q2v q2h F3 r_q2 k_q2 => ?_
    dsimp only
    exact zm_iI ⟨F3, r_q2, trivial⟩
  · refine zc_rRo F0 h_a0 ?_
    refine zc_pN (K := fun v => (v = 0 ∨ zc_V h v)) (zc_C0_at F0.2 (zc_xH8 F0 h_a0).1 h_a1) fun q4v k_q4 => ?_
    dsimp only
    refine zm_if (fun c5 => ?_) (fun c5 => ?_)
    · refine zc_cI (K := fun v => True) F0 (zc_C8_refused F0.2 h_a0 (by unfold zv_rg; omega)) fun q5v q5h F6 r_q5 k_q5 => ?_
      dsimp only
      exact zm_iI ⟨F6, r_q5, trivial⟩
    · refine zc_rRo F0 h_a0 ?_
      refine zc_cN (K := fun v => zv_lay v = (1, 4)) F0 (zc_C0_rowOfHere F0.2 (zc_xH8 F0 h_a0).1) fun q7v q7h F7 k_q7 => ?_
      dsimp only
      refine zc_rJ F7 k_q7 fun v8 => ?_
      refine zc_pJ (zc_C5_bit F7.2 ((Or.imp id (zc_Vb F0.1) k_q4).resolve_left c5).1) fun q9v => ?_
      dsimp only
      refine zm_if (fun c9 => ?_) (fun c9 => ?_)
      · refine zc_cI (K := fun v => True) F7 (zc_C8_refused F7.2 h_a0 (by unfold zv_rg; omega)) fun q10v q10h F10 r_q10 k_q10 => ?_
        dsimp only
        exact zm_iI ⟨F10, r_q10, trivial⟩
      · refine zc_pJ (zc_C4_leaningOn F7.2 k_q7 ((Or.imp id (zc_Vb F0.1) k_q4).resolve_left c5).1) fun q11v => ?_
        dsimp only
        refine zm_if (fun c12 => ?_) (fun c12 => ?_)
        · refine zc_pI (K := fun v => True) (zc_C12_bitCount F7.2 ) fun q12v r_q12 k_q12 => ?_
          dsimp only
          refine zc_cI (K := fun v => True) F7 (zc_C8_given F7.2 h_a0 r_q12) fun q13v q13h F14 r_q13 k_q13 => ?_
          dsimp only
          exact zm_iI ⟨F14, r_q13, trivial⟩
        · refine zm_if (fun c15 => ?_) (fun c15 => ?_)
          · refine zc_rJ F7 k_q7 fun v14 => ?_
            refine zc_pI (K := fun v => True) (zc_C12_bitCount F7.2 ) fun q15v r_q15 k_q15 => ?_
            dsimp only
            refine zc_cI (K := fun v => True) F7 (zc_C8_given F7.2 h_a0 r_q15) fun q16v q16h F17 r_q16 k_q16 => ?_
            dsimp only
            exact zm_iI ⟨F17, r_q16, trivial⟩
          · refine zm_if (fun c18 => ?_) (fun c18 => ?_)
            · refine zc_rRo F7 h_a0 ?_
              refine zc_pI (K := fun v => True) (zc_C0_lettersOfHereBy F7.2 (zc_xH8 F7 h_a0).1) fun q18v r_q18 k_q18 => ?_
              dsimp only
              refine zc_cI (K := fun v => True) F7 (zc_C8_given F7.2 h_a0 r_q18) fun q19v q19h F20 r_q19 k_q19 => ?_
              dsimp only
              exact zm_iI ⟨F20, r_q19, trivial⟩
            · refine zc_rJ F7 k_q7 fun v20 => ?_
              refine zc_cV F7 (zc_C4_look F7.2 k_q7) fun g21 F21 => ?_
              refine zc_rI F21 k_q7 fun v22 e_v22 r_v22 => ?_
              refine zc_cI (K := fun v => True) F21 (zc_C8_given F21.2 h_a0 r_v22) fun q23v q23h F22 r_q23 k_q23 => ?_
              dsimp only
              exact zm_iI ⟨F22, r_q23, trivial⟩
theorem zc_C8_leaning {d : Nat} {h : zv_H} {a0 : Nat} {a1 : Int} {a2 : Int} (hA : zc_A h) (h_a0 : zv_lay a0 = (1, 8)) (h_a1 : zv_rg a1) (h_a2 : zv_rg a2) : zm_R (C8_leaning (d + 5) a0 a1 a2 h) (fun q => zc_Q h q.2 ∧ zv_rg q.1 ∧ True) := zm_cI (fun e => lC8_leaning (zc_ob hA h_a0) e) (zc_E8_leaning hA h_a0 h_a1 h_a2)
theorem zc_E8_find {d : Nat} {h : zv_H} {a0 : Nat} {a1 : Int} (hA : zc_A h) (h_a0 : zv_lay a0 = (1, 8)) (h_a1 : zv_rg a1) : zm_R (E8_find (d + 5) a0 a1 h) (zm_I fun v h' => zc_Q h h' ∧ zv_rg v ∧ True) := by
  have F0 := zc_Q_r hA
  rw [qE8_find]
  refine zc_pI (K := fun v => (v = 0 ∨ v = 1)) (zc_C8_within F0.2 h_a1 (by unfold zv_rg; omega) (by unfold zv_rg; omega)) fun q1v r_q1 k_q1 => ?_
  dsimp only
  refine zm_if (fun c2 => ?_) (fun c2 => ?_)
  · rw [qL8_find_19]
    refine zc_cI (K := fun v => True) F0 (zc_C8_refused F0.2 h_a0 (by unfold zv_rg; omega)) fun q1x1v q1x1h F3 r_q1x1 k_q1x1 => ?_
    dsimp only
    exact zm_iI ⟨F3, r_q1x1, trivial⟩
  · refine zc_rF F0 2 h_a0 ?_
    refine zc_rI F0 (zc_y8_1 h_a0).1 fun v3 e_v3 r_v3 => ?_
    have b_v3 := zc_bdv (k := 1) (m := 40) F0 (zc_y8_1 h_a0).1 rfl
    rw [← e_v3] at b_v3
    refine zm_if (fun c4 => ?_) (fun c4 => ?_)
    · rw [qL8_find_19]
      refine zc_cI (K := fun v => True) F0 (zc_C8_refused F0.2 h_a0 (by unfold zv_rg; omega)) fun q1x2v q1x2h F5 r_q1x2 k_q1x2 => ?_
      dsimp only
      exact zm_iI ⟨F5, r_q1x2, trivial⟩
    · refine zm_if (fun c6 => ?_) (fun c6 => ?_)
      · refine zc_rRo F0 h_a0 ?_
        refine zc_rF F0 2 h_a0 ?_
        refine zc_pI (K := fun v => True) (zc_C0_statesWith F0.2 (zc_xH8 F0 h_a0).1 (zc_y8_1 h_a0).1) fun q6v r_q6 k_q6 => ?_
        dsimp only
        refine zc_cI (K := fun v => True) F0 (zc_C8_given F0.2 h_a0 r_q6) fun q7v q7h F8 r_q7 k_q7 => ?_
        dsimp only
        exact zm_iI ⟨F8, r_q7, trivial⟩
      · refine zm_if (fun c9 => ?_) (fun c9 => ?_)
        · refine zc_rRo F0 h_a0 ?_
          refine zc_rF F0 2 h_a0 ?_
          refine zc_pI (K := fun v => True) (zc_C0_leastWith F0.2 (zc_xH8 F0 h_a0).1 (zc_y8_1 h_a0).1) fun q10v r_q10 k_q10 => ?_
          dsimp only
          rw [qL8_find_82]
          refine zm_if (fun c11 => ?_) (fun c11 => ?_)
          · refine zc_cI (K := fun v => True) F0 (zc_C8_refused F0.2 h_a0 (by unfold zv_rg; omega)) fun q1x3v q1x3h F12 r_q1x3 k_q1x3 => ?_
            dsimp only
            exact zm_iI ⟨F12, r_q1x3, trivial⟩
          · refine zc_cI (K := fun v => True) F0 (zc_C8_given F0.2 h_a0 r_q10) fun q2v q2h F13 r_q2 k_q2 => ?_
            dsimp only
            exact zm_iI ⟨F13, r_q2, trivial⟩
        · refine zc_rRo F0 h_a0 ?_
          refine zc_rRo F0 h_a0 ?_
          refine zc_rRo F0 (zc_xH8 F0 h_a0).1 ?_
          refine zc_rF F0 2 h_a0 ?_
          refine zc_pI (K := fun v => True) (zc_C0_placeIn F0.2 (zc_xH8 F0 h_a0).1 (zc_hV F0 (zc_xH8 F0 h_a0).1).1.1 (zc_y8_1 h_a0).1) fun q15v r_q15 k_q15 => ?_
          dsimp only
          rw [qL8_find_82]
          refine zm_if (fun c15 => ?_) (fun c15 => ?_)
          · refine zc_cI (K := fun v => True) F0 (zc_C8_refused F0.2 h_a0 (by unfold zv_rg; omega)) fun q1x4v q1x4h F16 r_q1x4 k_q1x4 => ?_
            dsimp only
            exact zm_iI ⟨F16, r_q1x4, trivial⟩
          · refine zc_cI (K := fun v => True) F0 (zc_C8_given F0.2 h_a0 r_q15) fun q2x1v q2x1h F17 r_q2x1 k_q2x1 => ?_
            dsimp only
            exact zm_iI ⟨F17, r_q2x1, trivial⟩
theorem zc_C8_find {d : Nat} {h : zv_H} {a0 : Nat} {a1 : Int} (hA : zc_A h) (h_a0 : zv_lay a0 = (1, 8)) (h_a1 : zv_rg a1) : zm_R (C8_find (d + 6) a0 a1 h) (fun q => zc_Q h q.2 ∧ zv_rg q.1 ∧ True) := zm_cI (fun e => lC8_find (zc_ob hA h_a0) e) (zc_E8_find hA h_a0 h_a1)
theorem zc_E8_first {d : Nat} {h : zv_H} {a0 : Nat} (hA : zc_A h) (h_a0 : zv_lay a0 = (1, 8)) : zm_R (E8_first (d + 2) a0 h) (zm_I fun v h' => zc_Q h h' ∧ zv_rg v ∧ True) := by
  have F0 := zc_Q_r hA
  rw [qE8_first]
  refine zc_rRo F0 h_a0 ?_
  refine zc_pN (K := fun v => (v = 0 ∨ zc_V h v)) (zc_C0_nextToGo F0.2 (zc_xH8 F0 h_a0).1) fun q2v k_q2 => ?_
  dsimp only
  refine zm_if (fun c2 => ?_) (fun c2 => ?_)
  · refine zc_cI (K := fun v => True) F0 (zc_C8_refused F0.2 h_a0 (by unfold zv_rg; omega)) fun q3v q3h F3 r_q3 k_q3 => ?_
    dsimp only
    exact zm_iI ⟨F3, r_q3, trivial⟩
  · refine zc_rT F0 ((Or.imp id (zc_Vb F0.1) k_q2).resolve_left c2).1 fun v4 e_v4 r_v4 => ?_
    refine zc_cI (K := fun v => True) F0 (zc_C8_given F0.2 h_a0 r_v4) fun q5v q5h F4 r_q5 k_q5 => ?_
    dsimp only
    exact zm_iI ⟨F4, r_q5, trivial⟩
theorem zc_C8_first {d : Nat} {h : zv_H} {a0 : Nat} (hA : zc_A h) (h_a0 : zv_lay a0 = (1, 8)) : zm_R (C8_first (d + 3) a0 h) (fun q => zc_Q h q.2 ∧ zv_rg q.1 ∧ True) := zm_cI (fun e => lC8_first (zc_ob hA h_a0) e) (zc_E8_first hA h_a0)
theorem zc_E8_twin {d : Nat} {h : zv_H} {a0 : Nat} {a1 : Int} (hA : zc_A h) (h_a0 : zv_lay a0 = (1, 8)) (h_a1 : zv_rg a1) : zm_R (E8_twin (d + 4) a0 a1 h) (zm_I fun v h' => zc_Q h h' ∧ zv_rg v ∧ True) := by
  have F0 := zc_Q_r hA
  rw [qE8_twin]
  refine zc_rRo F0 h_a0 ?_
  refine zc_pN (K := fun v => (v = 0 ∨ zc_V h v)) (zc_C0_at F0.2 (zc_xH8 F0 h_a0).1 h_a1) fun q2v k_q2 => ?_
  dsimp only
  refine zm_if (fun c2 => ?_) (fun c2 => ?_)
  · refine zc_cI (K := fun v => True) F0 (zc_C8_refused F0.2 h_a0 (by unfold zv_rg; omega)) fun q3v q3h F3 r_q3 k_q3 => ?_
    dsimp only
    exact zm_iI ⟨F3, r_q3, trivial⟩
  · refine zc_rRo F0 h_a0 ?_
    refine zc_pI (K := fun v => True) (zc_C0_twinOf F0.2 (zc_xH8 F0 h_a0).1 ((Or.imp id (zc_Vb F0.1) k_q2).resolve_left c2).1) fun q5v r_q5 k_q5 => ?_
    dsimp only
    refine zm_if (fun c5 => ?_) (fun c5 => ?_)
    · refine zc_cI (K := fun v => True) F0 (zc_C8_refused F0.2 h_a0 (by unfold zv_rg; omega)) fun q6v q6h F6 r_q6 k_q6 => ?_
      dsimp only
      exact zm_iI ⟨F6, r_q6, trivial⟩
    · refine zc_cI (K := fun v => True) F0 (zc_C8_given F0.2 h_a0 r_q5) fun q7v q7h F7 r_q7 k_q7 => ?_
      dsimp only
      exact zm_iI ⟨F7, r_q7, trivial⟩
theorem zc_C8_twin {d : Nat} {h : zv_H} {a0 : Nat} {a1 : Int} (hA : zc_A h) (h_a0 : zv_lay a0 = (1, 8)) (h_a1 : zv_rg a1) : zm_R (C8_twin (d + 5) a0 a1 h) (fun q => zc_Q h q.2 ∧ zv_rg q.1 ∧ True) := zm_cI (fun e => lC8_twin (zc_ob hA h_a0) e) (zc_E8_twin hA h_a0 h_a1)
theorem zc_E8_back {d : Nat} {h : zv_H} {a0 : Nat} {a1 : Int} (hA : zc_A h) (h_a0 : zv_lay a0 = (1, 8)) (h_a1 : zv_rg a1) : zm_R (E8_back (d + 1) a0 a1 h) (zm_I fun v h' => zc_Q h h' ∧ zv_rg v ∧ True) := by
  have F0 := zc_Q_r hA
  rw [qE8_back]
  refine zc_pI (K := fun v => (v = 0 ∨ v = 1)) (zc_C8_within F0.2 h_a1 (by unfold zv_rg; omega) (by unfold zv_rg; omega)) fun q1v r_q1 k_q1 => ?_
  dsimp only
  refine zm_if (fun c2 => ?_) (fun c2 => ?_)
  · refine zc_cI (K := fun v => True) F0 (zc_C8_refused F0.2 h_a0 (by unfold zv_rg; omega)) fun q2v q2h F3 r_q2 k_q2 => ?_
    dsimp only
    exact zm_iI ⟨F3, r_q2, trivial⟩
  · refine zc_rRo F0 h_a0 ?_
    refine zc_pN (K := fun v => (v = 0 ∨ zc_V h v)) (zc_C0_behind F0.2 (zc_xH8 F0 h_a0).1 h_a1) fun q4v k_q4 => ?_
    dsimp only
    refine zm_if (fun c5 => ?_) (fun c5 => ?_)
    · refine zc_cI (K := fun v => True) F0 (zc_C8_refused F0.2 h_a0 (by unfold zv_rg; omega)) fun q5v q5h F6 r_q5 k_q5 => ?_
      dsimp only
      exact zm_iI ⟨F6, r_q5, trivial⟩
    · refine zc_rT F0 ((Or.imp id (zc_Vb F0.1) k_q4).resolve_left c5).1 fun v6 e_v6 r_v6 => ?_
      refine zc_cI (K := fun v => True) F0 (zc_C8_given F0.2 h_a0 r_v6) fun q7v q7h F7 r_q7 k_q7 => ?_
      dsimp only
      exact zm_iI ⟨F7, r_q7, trivial⟩
theorem zc_C8_back {d : Nat} {h : zv_H} {a0 : Nat} {a1 : Int} (hA : zc_A h) (h_a0 : zv_lay a0 = (1, 8)) (h_a1 : zv_rg a1) : zm_R (C8_back (d + 2) a0 a1 h) (fun q => zc_Q h q.2 ∧ zv_rg q.1 ∧ True) := zm_cI (fun e => lC8_back (zc_ob hA h_a0) e) (zc_E8_back hA h_a0 h_a1)
