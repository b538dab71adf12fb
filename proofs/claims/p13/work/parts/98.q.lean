/-! 98.q -/
section
theorem zc_l8 {r : Nat} (h : zv_lay r = (1, 8)) : r = 1 := by
  have := zc_all (fun r a => if a = (1, 8) then Nat.beq r 1 else true) (by decide +kernel) (zc_ly h)
  rw [if_pos h] at this
  exact Nat.eq_of_beq_eq_true this
theorem zc_xH8 {h0 h : zv_H} (F : zc_Q h0 h) {r : Nat} (hr : zv_lay r = (1, 8)) : zv_lay (zv_R h0 r 3) = (1, 0) ∧ zv_lay (zv_R h0 r 4) = (1, 0) := by
  rw [zc_l8 hr]
  exact zc_xH F
theorem zc_C12_bitCount {d : Nat} {h : zv_H} {x : Int64} (hA : zc_A h) : zm_R (C12_bitCount (d + 1) x h) (fun q => q.2 = h ∧ zv_rg q.1 ∧ True) := by
  have _ := hA
  refine zm_cI (P := fun v h' => h' = h ∧ zv_rg v ∧ True) (fun e => lC12_bitCount e) ?_
  rw [qE12_bitCount]
  exact zm_iI ⟨rfl, zc_and _ _, trivial⟩
theorem zc_E8_typedLetter {d : Nat} {h : zv_H} {a0 : Int} {a1 : Int} {a2 : Int} (hA : zc_A h) (h_a0 : zv_rg a0) (h_a1 : zv_rg a1) (h_a2 : zv_rg a2) : zm_R (E8_typedLetter (d + 0) a0 a1 a2 h) (zm_I fun v h' => h' = h ∧ zv_rg v ∧ True) := by
  have F0 := zc_Q_r hA
  rw [qE8_typedLetter]
  refine zm_if (fun c1 => ?_) (fun c1 => ?_)
  · exact zm_iI ⟨rfl, (zc_and _ _), trivial⟩
  · exact zm_iI ⟨rfl, (zc_and _ _), trivial⟩
theorem zc_C8_typedLetter {d : Nat} {h : zv_H} {a0 : Int} {a1 : Int} {a2 : Int} (hA : zc_A h) (h_a0 : zv_rg a0) (h_a1 : zv_rg a1) (h_a2 : zv_rg a2) : zm_R (C8_typedLetter (d + 1) a0 a1 a2 h) (fun q => q.2 = h ∧ zv_rg q.1 ∧ True) := zm_cI (fun e => lC8_typedLetter e) (zc_E8_typedLetter hA h_a0 h_a1 h_a2)
theorem zc_E8_fault {d : Nat} {h : zv_H} {a0 : Nat} {a1 : Int} (hA : zc_A h) (h_a0 : zv_lay a0 = (1, 8)) (h_a1 : zv_rg a1) : zm_R (E8_fault (d + 1) a0 a1 h) (zm_I fun v h' => h' = h ∧ zv_rg v ∧ True) := by
  have F0 := zc_Q_r hA
  rw [qE8_fault]
  refine zc_rI F0 h_a0 fun v1 e_v1 r_v1 => ?_
  refine zm_if (fun c1 => ?_) (fun c1 => ?_)
  · exact zm_iI ⟨rfl, (by unfold zv_rg; omega), trivial⟩
  · refine zc_pI (K := fun v => (v = 0 ∨ v = 1)) (zc_C8_within F0.2 h_a1 (by unfold zv_rg; omega) (by unfold zv_rg; omega)) fun q2v r_q2 k_q2 => ?_
    dsimp only
    refine zm_if (fun c3 => ?_) (fun c3 => ?_)
    · exact zm_iI ⟨rfl, (by unfold zv_rg; omega), trivial⟩
    · refine zm_if (fun c4 => ?_) (fun c4 => ?_)
      · refine zc_rF F0 4 h_a0 ?_
        refine zc_rI F0 (zc_y8_2 h_a0).1 fun v4 e_v4 r_v4 => ?_
        exact zm_iI ⟨rfl, r_v4, trivial⟩
      · refine zc_rF F0 4 h_a0 ?_
        refine zc_rI F0 (zc_y8_2 h_a0).1 fun v6 e_v6 r_v6 => ?_
        exact zm_iI ⟨rfl, r_v6, trivial⟩
theorem zc_C8_fault {d : Nat} {h : zv_H} {a0 : Nat} {a1 : Int} (hA : zc_A h) (h_a0 : zv_lay a0 = (1, 8)) (h_a1 : zv_rg a1) : zm_R (C8_fault (d + 2) a0 a1 h) (fun q => q.2 = h ∧ zv_rg q.1 ∧ True) := zm_cI (fun e => lC8_fault (zc_ob hA h_a0) e) (zc_E8_fault hA h_a0 h_a1)
theorem zc_E8_many {d : Nat} {h : zv_H} {a0 : Nat} {a1 : Int} (hA : zc_A h) (h_a0 : zv_lay a0 = (1, 8)) (h_a1 : zv_rg a1) : zm_R (E8_many (d + 4) a0 a1 h) (zm_I fun v h' => zc_Q h h' ∧ zv_rg v ∧ True) := by
  have F0 := zc_Q_r hA
  rw [qE8_many]
  refine zm_if (fun c1 => ?_) (fun c1 => ?_)
  · refine zc_rRo F0 h_a0 ?_
    refine zc_rI F0 (zc_xH8 F0 h_a0).1 fun v2 e_v2 r_v2 => ?_
    refine zc_cI (K := fun v => True) F0 (zc_C8_given F0.2 h_a0 r_v2) fun q3v q3h F2 r_q3 k_q3 => ?_
    dsimp only
    exact zm_iI ⟨F2, r_q3, trivial⟩
  · refine zm_if (fun c3 => ?_) (fun c3 => ?_)
    · refine zc_rRo F0 h_a0 ?_
      refine zc_rRo F0 (zc_xH8 F0 h_a0).1 ?_
      refine zc_rT F0 (zc_hV F0 (zc_xH8 F0 h_a0).1).1.1 fun v6 e_v6 r_v6 => ?_
      refine zc_cI (K := fun v => True) F0 (zc_C8_given F0.2 h_a0 r_v6) fun q7v q7h F4 r_q7 k_q7 => ?_
      dsimp only
      exact zm_iI ⟨F4, r_q7, trivial⟩
    · refine zm_if (fun c5 => ?_) (fun c5 => ?_)
      · refine zc_rRo F0 h_a0 ?_
        refine zc_rI F0 (zc_xH8 F0 h_a0).1 fun v9 e_v9 r_v9 => ?_
        refine zc_cI (K := fun v => True) F0 (zc_C8_given F0.2 h_a0 r_v9) fun q10v q10h F6 r_q10 k_q10 => ?_
        dsimp only
        exact zm_iI ⟨F6, r_q10, trivial⟩
      · refine zm_if (fun c7 => ?_) (fun c7 => ?_)
        · refine zc_rRo F0 h_a0 ?_
          refine zc_rRo F0 (zc_xH8 F0 h_a0).1 ?_
          refine zc_rI F0 (zc_hV F0 (zc_xH8 F0 h_a0).1).1.1 fun v13 e_v13 r_v13 => ?_
          have b_v13 := zc_bdv (k := 12) (m := 120) F0 (zc_hV F0 (zc_xH8 F0 h_a0).1).1.1 rfl
          rw [← e_v13] at b_v13
          refine zc_cI (K := fun v => True) F0 (zc_C8_given F0.2 h_a0 r_v13) fun q14v q14h F8 r_q14 k_q14 => ?_
          dsimp only
          exact zm_iI ⟨F8, r_q14, trivial⟩
        · refine zm_if (fun c9 => ?_) (fun c9 => ?_)
          · refine zc_rRo F0 h_a0 ?_
            refine zc_cN (K := fun v => zv_lay v = (1, 4)) F0 (zc_C0_rowOfHere F0.2 (zc_xH8 F0 h_a0).1) fun q16v q16h F10 k_q16 => ?_
            dsimp only
            refine zc_rI F10 k_q16 fun v17 e_v17 r_v17 => ?_
            refine zc_cI (K := fun v => True) F10 (zc_C8_given F10.2 h_a0 r_v17) fun q18v q18h F11 r_q18 k_q18 => ?_
            dsimp only
            exact zm_iI ⟨F11, r_q18, trivial⟩
          · refine zm_if (fun c12 => ?_) (fun c12 => ?_)
            · refine zc_rRo F0 h_a0 ?_
              refine zc_rF F0 14 (zc_xH8 F0 h_a0).1 ?_
              refine zc_rI F0 (zc_y0_6 (zc_xH8 F0 h_a0).1).1 fun v21 e_v21 r_v21 => ?_
              refine zc_cI (K := fun v => True) F0 (zc_C8_given F0.2 h_a0 r_v21) fun q22v q22h F13 r_q22 k_q22 => ?_
              dsimp only
              exact zm_iI ⟨F13, r_q22, trivial⟩
            · refine zm_if (fun c14 => ?_) (fun c14 => ?_)
              · refine zc_rRo F0 h_a0 ?_
                refine zc_pI (K := fun v => True) (zc_C0_leaves F0.2 (zc_xH8 F0 h_a0).1) fun q24v r_q24 k_q24 => ?_
                dsimp only
                refine zc_cI (K := fun v => True) F0 (zc_C8_given F0.2 h_a0 r_q24) fun q25v q25h F16 r_q25 k_q25 => ?_
                dsimp only
                exact zm_iI ⟨F16, r_q25, trivial⟩
              · refine zm_if (fun c17 => ?_) (fun c17 => ?_)
                · refine zc_rRo F0 h_a0 ?_
                  refine zc_pI (K := fun v => True) (zc_C0_groups F0.2 (zc_xH8 F0 h_a0).1) fun q27v r_q27 k_q27 => ?_
                  dsimp only
                  refine zc_cI (K := fun v => True) F0 (zc_C8_given F0.2 h_a0 r_q27) fun q28v q28h F19 r_q28 k_q28 => ?_
                  dsimp only
                  exact zm_iI ⟨F19, r_q28, trivial⟩
                · refine zm_if (fun c20 => ?_) (fun c20 => ?_)
                  · refine zc_rRo F0 h_a0 ?_
                    refine zc_cN (K := fun v => zv_lay v = (1, 4)) F0 (zc_C0_rowOfHere F0.2 (zc_xH8 F0 h_a0).1) fun q30v q30h F21 k_q30 => ?_
                    dsimp only
                    refine zc_pJ (zc_C4_outOfForce F21.2 k_q30) fun q31v => ?_
                    dsimp only
                    refine zc_pI (K := fun v => True) (zc_C12_bitCount F21.2 ) fun q32v r_q32 k_q32 => ?_
                    dsimp only
                    refine zc_cI (K := fun v => True) F21 (zc_C8_given F21.2 h_a0 r_q32) fun q33v q33h F24 r_q33 k_q33 => ?_
                    dsimp only
                    exact zm_iI ⟨F24, r_q33, trivial⟩
                  · refine zm_if (fun c25 => ?_) (fun c25 => ?_)
                    · refine zc_rRo F0 h_a0 ?_
                      refine zc_rF F0 17 (zc_xH8 F0 h_a0).1 ?_
                      refine zc_rI F0 (zc_y0_7 (zc_xH8 F0 h_a0).1).1 fun v36 e_v36 r_v36 => ?_
                      refine zc_cI (K := fun v => True) F0 (zc_C8_given F0.2 h_a0 r_v36) fun q37v q37h F26 r_q37 k_q37 => ?_
                      dsimp only
                      exact zm_iI ⟨F26, r_q37, trivial⟩
                    · refine zc_cI (K := fun v => True) F0 (zc_C8_refused F0.2 h_a0 (by unfold zv_rg; omega)) fun q38v q38h F27 r_q38 k_q38 => ?_
                      dsimp only
                      exact zm_iI ⟨F27, r_q38, trivial⟩
theorem zc_C8_many {d : Nat} {h : zv_H} {a0 : Nat} {a1 : Int} (hA : zc_A h) (h_a0 : zv_lay a0 = (1, 8)) (h_a1 : zv_rg a1) : zm_R (C8_many (d + 5) a0 a1 h) (fun q => zc_Q h q.2 ∧ zv_rg q.1 ∧ True) := zm_cI (fun e => lC8_many (zc_ob hA h_a0) e) (zc_E8_many hA h_a0 h_a1)
theorem zc_E8_letter {d : Nat} {h : zv_H} {a0 : Nat} {a1 : Int} {a2 : Int} (hA : zc_A h) (h_a0 : zv_lay a0 = (1, 8)) (h_a1 : zv_rg a1) (h_a2 : zv_rg a2) : zm_R (E8_letter (d + 2) a0 a1 a2 h) (zm_I fun v h' => zc_Q h h' ∧ zv_rg v ∧ True) := by
  have F0 := zc_Q_r hA
  rw [qE8_letter]
  refine zm_if (fun c1 => ?_) (fun c1 => ?_)
  · refine zc_cI (K := fun v => True) F0 (zc_C8_refused F0.2 h_a0 (by unfold zv_rg; omega)) fun q1v q1h F2 r_q1 k_q1 => ?_
    dsimp only
    exact zm_iI ⟨F2, r_q1, trivial⟩
  · refine zc_rRo F0 h_a0 ?_
    refine zc_pN (K := fun v => (v = 0 ∨ zc_V h v)) (zc_C0_at F0.2 (zc_xH8 F0 h_a0).1 h_a1) fun q3v k_q3 => ?_
    dsimp only
    refine zm_if (fun c4 => ?_) (fun c4 => ?_)
    · refine zc_cI (K := fun v => True) F0 (zc_C8_refused F0.2 h_a0 (by unfold zv_rg; omega)) fun q4v q4h F5 r_q4 k_q4 => ?_
      dsimp only
      exact zm_iI ⟨F5, r_q4, trivial⟩
    · refine zc_rI F0 ((Or.imp id (zc_Vb F0.1) k_q3).resolve_left c4).1 fun v5 e_v5 r_v5 => ?_
      have b_v5 := zc_bdv (k := 12) (m := 120) F0 ((Or.imp id (zc_Vb F0.1) k_q3).resolve_left c4).1 rfl
      rw [← e_v5] at b_v5
      refine zm_if (fun c6 => ?_) (fun c6 => ?_)
      · refine zc_rRo F0 h_a0 ?_
        refine zc_pI (K := fun v => True) (zc_C0_letterAt F0.2 (zc_xH8 F0 h_a0).1 ((Or.imp id (zc_Vb F0.1) k_q3).resolve_left c4).1 h_a2) fun q7v r_q7 k_q7 => ?_
        dsimp only
        refine zc_cI (K := fun v => True) F0 (zc_C8_given F0.2 h_a0 r_q7) fun q8v q8h F8 r_q8 k_q8 => ?_
        dsimp only
        exact zm_iI ⟨F8, r_q8, trivial⟩
      · refine zc_cI (K := fun v => True) F0 (zc_C8_refused F0.2 h_a0 (by unfold zv_rg; omega)) fun q9v q9h F9 r_q9 k_q9 => ?_
        dsimp only
        exact zm_iI ⟨F9, r_q9, trivial⟩
theorem zc_C8_letter {d : Nat} {h : zv_H} {a0 : Nat} {a1 : Int} {a2 : Int} (hA : zc_A h) (h_a0 : zv_lay a0 = (1, 8)) (h_a1 : zv_rg a1) (h_a2 : zv_rg a2) : zm_R (C8_letter (d + 3) a0 a1 a2 h) (fun q => zc_Q h q.2 ∧ zv_rg q.1 ∧ True) := zm_cI (fun e => lC8_letter (zc_ob hA h_a0) e) (zc_E8_letter hA h_a0 h_a1 h_a2)
theorem zc_E8_state {d : Nat} {h : zv_H} {a0 : Nat} {a1 : Int} {a2 : Int} (hA : zc_A h) (h_a0 : zv_lay a0 = (1, 8)) (h_a1 : zv_rg a1) (h_a2 : zv_rg a2) : zm_R (E8_state (d + 1) a0 a1 a2 h) (zm_I fun v h' => zc_Q h h' ∧ zv_rg v ∧ True) := by
  have F0 := zc_Q_r hA
  rw [qE8_state]
  refine zc_pI (K := fun v => (v = 0 ∨ v = 1)) (zc_C8_within F0.2 h_a2 (by unfold zv_rg; omega) (by unfold zv_rg; omega)) fun q1v r_q1 k_q1 => ?_
  dsimp only
  refine zm_if (fun c2 => ?_) (fun c2 => ?_)
  · refine zc_cI (K := fun v => True) F0 (zc_C8_refused F0.2 h_a0 (by unfold zv_rg; omega)) fun q2v q2h F3 r_q2 k_q2 => ?_
    dsimp only
    exact zm_iI ⟨F3, r_q2, trivial⟩
  · refine zc_rRo F0 h_a0 ?_
    refine zc_pN (K := fun v => (v = 0 ∨ zc_V h v)) (zc_C0_at F0.2 (zc_xH8 F0 h_a0).1 h_a1) fun q4v k_q4 => ?_
    dsimp only
    refine zm_if (fun c5 => ?_) (fun c5 => ?_)
    · refine zc_cI (K := fun v => True) F0 (zc_C8_refused F0.2 h_a0 (by unfold zv_rg; omega)) fun q5v q5h F6 r_q5 k_q5 => ?_
      dsimp only
      exact zm_iI ⟨F6, r_q5, trivial⟩
    · refine zm_if (fun c7 => ?_) (fun c7 => ?_)
      · refine zc_rR5 F0 ((Or.imp id (zc_Vb F0.1) k_q4).resolve_left c5).1 ?_
        refine zm_if (fun c8 => ?_) (fun c8 => ?_)
        · rw [qL8_state_107]
          refine zc_cI (K := fun v => True) F0 (zc_C8_given F0.2 h_a0 (by unfold zv_rg; omega)) fun q1x1v q1x1h F9 r_q1x1 k_q1x1 => ?_
          dsimp only
          exact zm_iI ⟨F9, r_q1x1, trivial⟩
        · refine zc_rR5 F0 ((Or.imp id (zc_Vb F0.1) k_q4).resolve_left c5).1 ?_
          refine zc_rT F0 ((zc_pV F0 ((Or.imp id (zc_Vb F0.1) k_q4).resolve_left c5)).resolve_left c8).1 fun v8 e_v8 r_v8 => ?_
          rw [qL8_state_107]
          refine zc_cI (K := fun v => True) F0 (zc_C8_given F0.2 h_a0 r_v8) fun q1x2v q1x2h F10 r_q1x2 k_q1x2 => ?_
          dsimp only
          exact zm_iI ⟨F10, r_q1x2, trivial⟩
      · refine zm_if (fun c11 => ?_) (fun c11 => ?_)
        · refine zc_rI F0 ((Or.imp id (zc_Vb F0.1) k_q4).resolve_left c5).1 fun v9 e_v9 r_v9 => ?_
          refine zc_cI (K := fun v => True) F0 (zc_C8_given F0.2 h_a0 r_v9) fun q10v q10h F12 r_q10 k_q10 => ?_
          dsimp only
          exact zm_iI ⟨F12, r_q10, trivial⟩
        · refine zm_if (fun c13 => ?_) (fun c13 => ?_)
          · refine zc_rI F0 ((Or.imp id (zc_Vb F0.1) k_q4).resolve_left c5).1 fun v11 e_v11 r_v11 => ?_
            refine zc_cI (K := fun v => True) F0 (zc_C8_given F0.2 h_a0 r_v11) fun q12v q12h F14 r_q12 k_q12 => ?_
            dsimp only
            exact zm_iI ⟨F14, r_q12, trivial⟩
          · refine zm_if (fun c15 => ?_) (fun c15 => ?_)
            · refine zc_rI F0 ((Or.imp id (zc_Vb F0.1) k_q4).resolve_left c5).1 fun v13 e_v13 r_v13 => ?_
              refine zc_cI (K := fun v => True) F0 (zc_C8_given F0.2 h_a0 r_v13) fun q14v q14h F16 r_q14 k_q14 => ?_
              dsimp only
              exact zm_iI ⟨F16, r_q14, trivial⟩
            · refine zm_if (fun c17 => ?_) (fun c17 => ?_)
              · refine zc_rI F0 ((Or.imp id (zc_Vb F0.1) k_q4).resolve_left c5).1 fun v15 e_v15 r_v15 => ?_
                refine zc_cI (K := fun v => True) F0 (zc_C8_given F0.2 h_a0 r_v15) fun q16v q16h F18 r_q16 k_q16 => ?_
                dsimp only
                exact zm_iI ⟨F18, r_q16, trivial⟩
              · refine zm_if (fun c19 => ?_) (fun c19 => ?_)
                · refine zc_rR5 F0 ((Or.imp id (zc_Vb F0.1) k_q4).resolve_left c5).1 ?_
                  refine zm_if (fun c20 => ?_) (fun c20 => ?_)
                  · exact absurd c20 (zc_nz (zc_fV F0 ((Or.imp id (zc_Vb F0.1) k_q4).resolve_left c5)).1)
                  · refine zc_rR5 F0 ((Or.imp id (zc_Vb F0.1) k_q4).resolve_left c5).1 ?_
                    refine zc_rT F0 (zc_fV F0 ((Or.imp id (zc_Vb F0.1) k_q4).resolve_left c5)).1 fun v19 e_v19 r_v19 => ?_
                    rw [qL8_state_166]
                    refine zc_cI (K := fun v => True) F0 (zc_C8_given F0.2 h_a0 r_v19) fun q1x3v q1x3h F21 r_q1x3 k_q1x3 => ?_
                    dsimp only
                    exact zm_iI ⟨F21, r_q1x3, trivial⟩
                · refine zm_if (fun c22 => ?_) (fun c22 => ?_)
                  · refine zc_rT F0 ((Or.imp id (zc_Vb F0.1) k_q4).resolve_left c5).1 fun v20 e_v20 r_v20 => ?_
                    refine zc_cI (K := fun v => True) F0 (zc_C8_given F0.2 h_a0 r_v20) fun q21v q21h F23 r_q21 k_q21 => ?_
                    dsimp only
                    exact zm_iI ⟨F23, r_q21, trivial⟩
                  · refine zm_if (fun c24 => ?_) (fun c24 => ?_)
                    · refine zc_rT F0 ((Or.imp id (zc_Vb F0.1) k_q4).resolve_left c5).1 fun v22 e_v22 r_v22 => ?_
                      have d_v22 := (zc_dep F0 ((Or.imp id (zc_Vb F0.1) k_q4).resolve_left c5)).1
                      rw [← e_v22] at d_v22
                      refine zc_cI (K := fun v => True) F0 (zc_C8_given F0.2 h_a0 r_v22) fun q23v q23h F25 r_q23 k_q23 => ?_
                      dsimp only
                      exact zm_iI ⟨F25, r_q23, trivial⟩
                    · refine zm_if (fun c26 => ?_) (fun c26 => ?_)
                      · refine zc_rI F0 ((Or.imp id (zc_Vb F0.1) k_q4).resolve_left c5).1 fun v24 e_v24 r_v24 => ?_
                        have b_v24 := zc_bdv (k := 12) (m := 120) F0 ((Or.imp id (zc_Vb F0.1) k_q4).resolve_left c5).1 rfl
                        rw [← e_v24] at b_v24
                        refine zc_cI (K := fun v => True) F0 (zc_C8_given F0.2 h_a0 r_v24) fun q25v q25h F27 r_q25 k_q25 => ?_
                        dsimp only
                        exact zm_iI ⟨F27, r_q25, trivial⟩
                      · refine zc_rRo F0 h_a0 ?_
                        refine zc_rF F0 14 (zc_xH8 F0 h_a0).1 ?_
                        refine zc_rT F0 ((Or.imp id (zc_Vb F0.1) k_q4).resolve_left c5).1 fun v28 e_v28 r_v28 => ?_
                        refine zc_pI (K := fun v => True) (zc_C2_countOf F0.2 (zc_y0_6 (zc_xH8 F0 h_a0).1).1 r_v28) fun q29v r_q29 k_q29 => ?_
                        dsimp only
                        refine zc_cI (K := fun v => True) F0 (zc_C8_given F0.2 h_a0 r_q29) fun q30v q30h F29 r_q30 k_q30 => ?_
                        dsimp only
                        exact zm_iI ⟨F29, r_q30, trivial⟩
theorem zc_C8_state {d : Nat} {h : zv_H} {a0 : Nat} {a1 : Int} {a2 : Int} (hA : zc_A h) (h_a0 : zv_lay a0 = (1, 8)) (h_a1 : zv_rg a1) (h_a2 : zv_rg a2) : zm_R (C8_state (d + 2) a0 a1 a2 h) (fun q => zc_Q h q.2 ∧ zv_rg q.1 ∧ True) := zm_cI (fun e => lC8_state (zc_ob hA h_a0) e) (zc_E8_state hA h_a0 h_a1 h_a2)
theorem zc_E8_child {d : Nat} {h : zv_H} {a0 : Nat} {a1 : Int} {a2 : Int} (hA : zc_A h) (h_a0 : zv_lay a0 = (1, 8)) (h_a1 : zv_rg a1) (h_a2 : zv_rg a2) : zm_R (E8_child (d + 3) a0 a1 a2 h) (zm_I fun v h' => zc_Q h h' ∧ zv_rg v ∧ True) := by
  have F0 := zc_Q_r hA
  rw [qE8_child]
  refine zm_if (fun c1 => ?_) (fun c1 => ?_)
  · refine zc_cI (K := fun v => True) F0 (zc_C8_refused F0.2 h_a0 (by unfold zv_rg; omega)) fun q1v q1h F2 r_q1 k_q1 => ?_
    dsimp only
    exact zm_iI ⟨F2, r_q1, trivial⟩
  · refine zc_rRo F0 h_a0 ?_
    refine zc_pN (K := fun v => (v = 0 ∨ zc_V h v)) (zc_C0_at F0.2 (zc_xH8 F0 h_a0).1 h_a1) fun q3v k_q3 => ?_
    dsimp only
    refine zm_if (fun c4 => ?_) (fun c4 => ?_)
    · refine zc_cI (K := fun v => True) F0 (zc_C8_refused F0.2 h_a0 (by unfold zv_rg; omega)) fun q4v q4h F5 r_q4 k_q4 => ?_
      dsimp only
      exact zm_iI ⟨F5, r_q4, trivial⟩
    · refine zc_rRo F0 h_a0 ?_
      refine zc_cN (K := fun v => (v = 0 ∨ zc_V h v)) F0 (zc_C0_childOf F0.2 (zc_xH8 F0 h_a0).1 ((Or.imp id (zc_Vb F0.1) k_q3).resolve_left c4).1 h_a2) fun q6v q6h F6 k_q6 => ?_
      dsimp only
      refine zm_if (fun c7 => ?_) (fun c7 => ?_)
      · refine zc_cI (K := fun v => True) F6 (zc_C8_refused F6.2 h_a0 (by unfold zv_rg; omega)) fun q7v q7h F8 r_q7 k_q7 => ?_
        dsimp only
        exact zm_iI ⟨F8, r_q7, trivial⟩
      · refine zc_rT F6 ((Or.imp id (zc_Vb F0.1) k_q6).resolve_left c7).1 fun v8 e_v8 r_v8 => ?_
        refine zc_cI (K := fun v => True) F6 (zc_C8_given F6.2 h_a0 r_v8) fun q9v q9h F9 r_q9 k_q9 => ?_
        dsimp only
        exact zm_iI ⟨F9, r_q9, trivial⟩
theorem zc_C8_child {d : Nat} {h : zv_H} {a0 : Nat} {a1 : Int} {a2 : Int} (hA : zc_A h) (h_a0 : zv_lay a0 = (1, 8)) (h_a1 : zv_rg a1) (h_a2 : zv_rg a2) : zm_R (C8_child (d + 4) a0 a1 a2 h) (fun q => zc_Q h q.2 ∧ zv_rg q.1 ∧ True) := zm_cI (fun e => lC8_child (zc_ob hA h_a0) e) (zc_E8_child hA h_a0 h_a1 h_a2)
theorem zc_E8_force {d : Nat} {h : zv_H} {a0 : Nat} {a1 : Int} {a2 : Int} (hA : zc_A h) (h_a0 : zv_lay a0 = (1, 8)) (h_a1 : zv_rg a1) (h_a2 : zv_rg a2) : zm_R (E8_force (d + 2) a0 a1 a2 h) (zm_I fun v h' => zc_Q h h' ∧ zv_rg v ∧ True) := by
  have F0 := zc_Q_r hA
  rw [qE8_force]
  refine zc_rRo F0 h_a0 ?_
  refine zc_pN (K := fun v => (v = 0 ∨ zc_V h v)) (zc_C0_at F0.2 (zc_xH8 F0 h_a0).1 h_a1) fun q2v k_q2 => ?_
  dsimp only
  refine zc_rRo F0 h_a0 ?_
  refine zc_pN (K := fun v => (v = 0 ∨ zc_V h v)) (zc_C0_at F0.2 (zc_xH8 F0 h_a0).1 h_a2) fun q4v k_q4 => ?_
  dsimp only
  refine zm_if (fun c3 => ?_) (fun c3 => ?_)
  · rw [qL8_force_28]
    refine zc_cI (K := fun v => True) F0 (zc_C8_refused F0.2 h_a0 (by unfold zv_rg; omega)) fun q1v q1h F4 r_q1 k_q1 => ?_
    dsimp only
    exact zm_iI ⟨F4, r_q1, trivial⟩
  · refine zm_if (fun c5 => ?_) (fun c5 => ?_)
    · rw [qL8_force_28]
      refine zc_cI (K := fun v => True) F0 (zc_C8_refused F0.2 h_a0 (by unfold zv_rg; omega)) fun q1x1v q1x1h F6 r_q1x1 k_q1x1 => ?_
      dsimp only
      exact zm_iI ⟨F6, r_q1x1, trivial⟩
    · refine zc_rRo F0 h_a0 ?_
      refine zc_rF F0 8 (zc_xH8 F0 h_a0).1 ?_
      refine zc_cV F0 (zc_C4_walk F0.2 (zc_y0_5 (zc_xH8 F0 h_a0).1).1 (zc_Vq F0.1 ((Or.imp id (zc_Vb F0.1) k_q4).resolve_left c5))) fun g7 F7 => ?_
      refine zc_rJ F7 (zc_y0_5 (zc_xH8 F0 h_a0).1).1 fun v8 => ?_
      refine zc_pJ (zc_C5_bit F7.2 ((Or.imp id (zc_Vb F0.1) k_q2).resolve_left c3).1) fun q9v => ?_
      dsimp only
      refine zm_if (fun c9 => ?_) (fun c9 => ?_)
      · refine zc_cI (K := fun v => True) F7 (zc_C8_refused F7.2 h_a0 (by unfold zv_rg; omega)) fun q10v q10h F10 r_q10 k_q10 => ?_
        dsimp only
        exact zm_iI ⟨F10, r_q10, trivial⟩
      · refine zc_rJ F7 (zc_y0_5 (zc_xH8 F0 h_a0).1).1 fun v11 => ?_
        refine zc_pJ (zc_C5_bit F7.2 ((Or.imp id (zc_Vb F0.1) k_q2).resolve_left c3).1) fun q12v => ?_
        dsimp only
        refine zm_if (fun c12 => ?_) (fun c12 => ?_)
        · rw [qL8_force_92]
          refine zc_cI (K := fun v => True) F7 (zc_C8_given F7.2 h_a0 (by unfold zv_rg; omega)) fun q1x2v q1x2h F13 r_q1x2 k_q1x2 => ?_
          dsimp only
          exact zm_iI ⟨F13, r_q1x2, trivial⟩
        · rw [qL8_force_92]
          refine zc_cI (K := fun v => True) F7 (zc_C8_given F7.2 h_a0 (by unfold zv_rg; omega)) fun q1x3v q1x3h F14 r_q1x3 k_q1x3 => ?_
          dsimp only
          exact zm_iI ⟨F14, r_q1x3, trivial⟩
theorem zc_C8_force {d : Nat} {h : zv_H} {a0 : Nat} {a1 : Int} {a2 : Int} (hA : zc_A h) (h_a0 : zv_lay a0 = (1, 8)) (h_a1 : zv_rg a1) (h_a2 : zv_rg a2) : zm_R (C8_force (d + 3) a0 a1 a2 h) (fun q => zc_Q h q.2 ∧ zv_rg q.1 ∧ True) := zm_cI (fun e => lC8_force (zc_ob hA h_a0) e) (zc_E8_force hA h_a0 h_a1 h_a2)
theorem zc_E8_blame {d : Nat} {h : zv_H} {a0 : Nat} {a1 : Int} {a2 : Int} (hA : zc_A h) (h_a0 : zv_lay a0 = (1, 8)) (h_a1 : zv_rg a1) (h_a2 : zv_rg a2) : zm_R (E8_blame (d + 4) a0 a1 a2 h) (zm_I fun v h' => zc_Q h h' ∧ zv_rg v ∧ True) := by
  have F0 := zc_Q_r hA
  rw [qE8_blame]
  refine zm_if (fun c1 => ?_) (fun c1 => ?_)
  · rw [qL8_blame_13]
    refine zc_cI (K := fun v => True) F0 (zc_C8_refused F0.2 h_a0 (by unfold zv_rg; omega)) fun q1v q1h F2 r_q1 k_q1 => ?_
    dsimp only
    exact zm_iI ⟨F2, r_q1, trivial⟩
  · refine zc_pI (K := fun v => (v = 0 ∨ v = 1)) (zc_C8_within F0.2 h_a2 (by unfold zv_rg; omega) (by unfold zv_rg; omega)) fun q1x1v r_q1x1 k_q1x1 => ?_
    dsimp only
    refine zm_if (fun c4 => ?_) (fun c4 => ?_)
    · rw [qL8_blame_13]
      refine zc_cI (K := fun v => True) F0 (zc_C8_refused F0.2 h_a0 (by unfold zv_rg; omega)) fun q1x2v q1x2h F5 r_q1x2 k_q1x2 => ?_
      dsimp only
      exact zm_iI ⟨F5, r_q1x2, trivial⟩
    · refine zc_rRo F0 h_a0 ?_
      refine zc_rRo F0 (zc_xH8 F0 h_a0).1 ?_
      refine zc_pI (K := fun v => True) (zc_C5_idAt F0.2 (zc_hV F0 (zc_xH8 F0 h_a0).1).1.1 h_a1) fun q4v r_q4 k_q4 => ?_
      dsimp only
      refine zm_if (fun c7 => ?_) (fun c7 => ?_)
      · refine zc_cI (K := fun v => True) F0 (zc_C8_refused F0.2 h_a0 (by unfold zv_rg; omega)) fun q5v q5h F8 r_q5 k_q5 => ?_
        dsimp only
        exact zm_iI ⟨F8, r_q5, trivial⟩
      · refine zm_if (fun c9 => ?_) (fun c9 => ?_)
        · refine zc_pI (K := fun v => True) (zc_C4_putter F0.2 r_q4) fun q6v r_q6 k_q6 => ?_
          dsimp only
          refine zc_cI (K := fun v => True) F0 (zc_C8_given F0.2 h_a0 r_q6) fun q7v q7h F11 r_q7 k_q7 => ?_
          dsimp only
          exact zm_iI ⟨F11, r_q7, trivial⟩
        · refine zm_if (fun c12 => ?_) (fun c12 => ?_)
          · refine zc_pI (K := fun v => True) (zc_C4_order F0.2 r_q4) fun q8v r_q8 k_q8 => ?_
            dsimp only
            refine zc_cI (K := fun v => True) F0 (zc_C8_given F0.2 h_a0 r_q8) fun q9v q9h F14 r_q9 k_q9 => ?_
            dsimp only
            exact zm_iI ⟨F14, r_q9, trivial⟩
          · refine zc_rRo F0 h_a0 ?_
            refine zc_cN (K := fun v => zv_lay v = (1, 4)) F0 (zc_C0_rowOfHere F0.2 (zc_xH8 F0 h_a0).1) fun q11v q11h F15 k_q11 => ?_
            dsimp only
            refine zc_pI (K := fun v => v < 2147483647) (zc_C4_placeOf F15.2 k_q11 r_q4) fun q12v r_q12 k_q12 => ?_
            dsimp only
            refine zc_cI (K := fun v => True) F15 (zc_C8_given F15.2 h_a0 r_q12) fun q13v q13h F17 r_q13 k_q13 => ?_
            dsimp only
            exact zm_iI ⟨F17, r_q13, trivial⟩
theorem zc_C8_blame {d : Nat} {h : zv_H} {a0 : Nat} {a1 : Int} {a2 : Int} (hA : zc_A h) (h_a0 : zv_lay a0 = (1, 8)) (h_a1 : zv_rg a1) (h_a2 : zv_rg a2) : zm_R (C8_blame (d + 5) a0 a1 a2 h) (fun q => zc_Q h q.2 ∧ zv_rg q.1 ∧ True) := zm_cI (fun e => lC8_blame (zc_ob hA h_a0) e) (zc_E8_blame hA h_a0 h_a1 h_a2)
theorem zc_E8_row {d : Nat} {h : zv_H} {a0 : Nat} {a1 : Int} {a2 : Int} (hA : zc_A h) (h_a0 : zv_lay a0 = (1, 8)) (h_a1 : zv_rg a1) (h_a2 : zv_rg a2) : zm_R (E8_row (d + 4) a0 a1 a2 h) (zm_I fun v h' => zc_Q h h' ∧ zv_rg v ∧ True) := by
  have F0 := zc_Q_r hA
  rw [qE8_row]
  refine zm_if (fun c1 => ?_) (fun c1 => ?_)
  · rw [qL8_row_13]
    refine zc_cI (K := fun v => True) F0 (zc_C8_refused F0.2 h_a0 (by unfold zv_rg; omega)) fun q1v q1h F2 r_q1 k_q1 => ?_
    dsimp only
    exact zm_iI ⟨F2, r_q1, trivial⟩
  · refine zc_pI (K := fun v => (v = 0 ∨ v = 1)) (zc_C8_within F0.2 h_a2 (by unfold zv_rg; omega) (by unfold zv_rg; omega)) fun q1x1v r_q1x1 k_q1x1 => ?_
    dsimp only
    refine zm_if (fun c4 => ?_) (fun c4 => ?_)
    · rw [qL8_row_13]
      refine zc_cI (K := fun v => True) F0 (zc_C8_refused F0.2 h_a0 (by unfold zv_rg; omega)) fun q1x2v q1x2h F5 r_q1x2 k_q1x2 => ?_
      dsimp only
      exact zm_iI ⟨F5, r_q1x2, trivial⟩
    · refine zc_rRo F0 h_a0 ?_
      refine zc_cN (K := fun v => zv_lay v = (1, 4)) F0 (zc_C0_rowOfHere F0.2 (zc_xH8 F0 h_a0).1) fun q3v q3h F6 k_q3 => ?_
      dsimp only
      refine zc_pI (K := fun v => True) (zc_C4_idAt F6.2 k_q3 h_a1) fun q4v r_q4 k_q4 => ?_
      dsimp only
      refine zm_if (fun c8 => ?_) (fun c8 => ?_)
      · refine zc_cI (K := fun v => True) F6 (zc_C8_refused F6.2 h_a0 (by unfold zv_rg; omega)) fun q5v q5h F9 r_q5 k_q5 => ?_
        dsimp only
        exact zm_iI ⟨F9, r_q5, trivial⟩
      · refine zm_if (fun c10 => ?_) (fun c10 => ?_)
        · refine zc_rRo F6 h_a0 ?_
          refine zc_pI (K := fun v => True) (zc_C0_glyph F6.2 (zc_xH8 F6 h_a0).1 r_q4) fun q7v r_q7 k_q7 => ?_
          dsimp only
          refine zc_cI (K := fun v => True) F6 (zc_C8_given F6.2 h_a0 r_q7) fun q8v q8h F12 r_q8 k_q8 => ?_
          dsimp only
          exact zm_iI ⟨F12, r_q8, trivial⟩
        · refine zm_if (fun c13 => ?_) (fun c13 => ?_)
          · refine zc_pI (K := fun v => True) (zc_C4_putter F6.2 r_q4) fun q9v r_q9 k_q9 => ?_
            dsimp only
            refine zc_cI (K := fun v => True) F6 (zc_C8_given F6.2 h_a0 r_q9) fun q10v q10h F15 r_q10 k_q10 => ?_
            dsimp only
            exact zm_iI ⟨F15, r_q10, trivial⟩
          · refine zm_if (fun c16 => ?_) (fun c16 => ?_)
            · refine zc_pI (K := fun v => True) (zc_C4_seesAt F6.2 k_q3 h_a1) fun q11v r_q11 k_q11 => ?_
              dsimp only
              refine zm_if (fun c18 => ?_) (fun c18 => ?_)
              · rw [qL8_row_114]
                refine zc_cI (K := fun v => True) F6 (zc_C8_given F6.2 h_a0 (by unfold zv_rg; omega)) fun q1x3v q1x3h F19 r_q1x3 k_q1x3 => ?_
                dsimp only
                exact zm_iI ⟨F19, r_q1x3, trivial⟩
              · rw [qL8_row_114]
                refine zc_cI (K := fun v => True) F6 (zc_C8_given F6.2 h_a0 (by unfold zv_rg; omega)) fun q1x4v q1x4h F20 r_q1x4 k_q1x4 => ?_
                dsimp only
                exact zm_iI ⟨F20, r_q1x4, trivial⟩
            · refine zm_if (fun c21 => ?_) (fun c21 => ?_)
              · refine zc_pI (K := fun v => True) (zc_C4_cutsInForce F6.2 k_q3 r_q4) fun q12v r_q12 k_q12 => ?_
                dsimp only
                refine zc_cI (K := fun v => True) F6 (zc_C8_given F6.2 h_a0 r_q12) fun q13v q13h F23 r_q13 k_q13 => ?_
                dsimp only
                exact zm_iI ⟨F23, r_q13, trivial⟩
              · refine zc_pI (K := fun v => True) (zc_C4_lastCut F6.2 k_q3 r_q4) fun q14v r_q14 k_q14 => ?_
                dsimp only
                refine zc_cI (K := fun v => True) F6 (zc_C8_given F6.2 h_a0 r_q14) fun q15v q15h F25 r_q15 k_q15 => ?_
                dsimp only
                exact zm_iI ⟨F25, r_q15, trivial⟩
theorem zc_C8_row {d : Nat} {h : zv_H} {a0 : Nat} {a1 : Int} {a2 : Int} (hA : zc_A h) (h_a0 : zv_lay a0 = (1, 8)) (h_a1 : zv_rg a1) (h_a2 : zv_rg a2) : zm_R (C8_row (d + 5) a0 a1 a2 h) (fun q => zc_Q h q.2 ∧ zv_rg q.1 ∧ True) := zm_cI (fun e => lC8_row (zc_ob hA h_a0) e) (zc_E8_row hA h_a0 h_a1 h_a2)
theorem zc_E8_visit {d : Nat} {h : zv_H} {a0 : Nat} {a1 : Int} {a2 : Int} (hA : zc_A h) (h_a0 : zv_lay a0 = (1, 8)) (h_a1 : zv_rg a1) (h_a2 : zv_rg a2) : zm_R (E8_visit (d + 2) a0 a1 a2 h) (zm_I fun v h' => zc_Q h h' ∧ zv_rg v ∧ True) := by
  have F0 := zc_Q_r hA
  rw [qE8_visit]
  refine zc_pI (K := fun v => (v = 0 ∨ v = 1)) (zc_C8_within F0.2 h_a1 (by unfold zv_rg; omega) (by unfold zv_rg; omega)) fun q1v r_q1 k_q1 => ?_
  dsimp only
  refine zm_if (fun c2 => ?_) (fun c2 => ?_)
  · rw [qL8_visit_19]
    refine zc_cI (K := fun v => True) F0 (zc_C8_refused F0.2 h_a0 (by unfold zv_rg; omega)) fun q1x1v q1x1h F3 r_q1x1 k_q1x1 => ?_
    dsimp only
    exact zm_iI ⟨F3, r_q1x1, trivial⟩
  · refine zc_pI (K := fun v => (v = 0 ∨ v = 1)) (zc_C8_within F0.2 h_a2 (by unfold zv_rg; omega) (by unfold zv_rg; omega)) fun q2v r_q2 k_q2 => ?_
    dsimp only
    refine zm_if (fun c5 => ?_) (fun c5 => ?_)
    · rw [qL8_visit_19]
      refine zc_cI (K := fun v => True) F0 (zc_C8_refused F0.2 h_a0 (by unfold zv_rg; omega)) fun q1x2v q1x2h F6 r_q1x2 k_q1x2 => ?_
      dsimp only
      exact zm_iI ⟨F6, r_q1x2, trivial⟩
    · refine zc_rRo F0 h_a0 ?_
      refine zc_rF F0 17 (zc_xH8 F0 h_a0).1 ?_
      refine zc_rI F0 (zc_y0_7 (zc_xH8 F0 h_a0).1).1 fun v5 e_v5 r_v5 => ?_
      refine zm_if (fun c7 => ?_) (fun c7 => ?_)
      · refine zm_if (fun c8 => ?_) (fun c8 => ?_)
        · refine zc_rRo F0 h_a0 ?_
          refine zc_rF F0 17 (zc_xH8 F0 h_a0).1 ?_
          refine zc_pI (K := fun v => True) (zc_C6_stateAt F0.2 (zc_y0_7 (zc_xH8 F0 h_a0).1).1 h_a1) fun q8v r_q8 k_q8 => ?_
          dsimp only
          rw [qL8_visit_75]
          refine zc_cI (K := fun v => True) F0 (zc_C8_given F0.2 h_a0 r_q8) fun q1x3v q1x3h F10 r_q1x3 k_q1x3 => ?_
          dsimp only
          exact zm_iI ⟨F10, r_q1x3, trivial⟩
        · refine zc_rRo F0 h_a0 ?_
          refine zc_rF F0 17 (zc_xH8 F0 h_a0).1 ?_
          refine zc_pI (K := fun v => True) (zc_C6_timeAt F0.2 (zc_y0_7 (zc_xH8 F0 h_a0).1).1 h_a1) fun q11v r_q11 k_q11 => ?_
          dsimp only
          rw [qL8_visit_75]
          refine zc_cI (K := fun v => True) F0 (zc_C8_given F0.2 h_a0 r_q11) fun q1x4v q1x4h F12 r_q1x4 k_q1x4 => ?_
          dsimp only
          exact zm_iI ⟨F12, r_q1x4, trivial⟩
      · refine zc_cI (K := fun v => True) F0 (zc_C8_refused F0.2 h_a0 (by unfold zv_rg; omega)) fun q12v q12h F13 r_q12 k_q12 => ?_
        dsimp only
        exact zm_iI ⟨F13, r_q12, trivial⟩
theorem zc_C8_visit {d : Nat} {h : zv_H} {a0 : Nat} {a1 : Int} {a2 : Int} (hA : zc_A h) (h_a0 : zv_lay a0 = (1, 8)) (h_a1 : zv_rg a1) (h_a2 : zv_rg a2) : zm_R (C8_visit (d + 3) a0 a1 a2 h) (fun q => zc_Q h q.2 ∧ zv_rg q.1 ∧ True) := zm_cI (fun e => lC8_visit (zc_ob hA h_a0) e) (zc_E8_visit hA h_a0 h_a1 h_a2)
theorem zc_E8_named {d : Nat} {h : zv_H} {a0 : Nat} (hA : zc_A h) (h_a0 : zv_lay a0 = (1, 8)) : zm_R (E8_named (d + 2) a0 h) (zm_I fun v h' => zc_Q h h' ∧ zv_rg v ∧ True) := by
  have F0 := zc_Q_r hA
  rw [qE8_named]
  refine zc_rF F0 2 h_a0 ?_
  refine zc_pI (K := fun v => True) (zc_C7_key F0.2 (zc_y8_1 h_a0).1) fun q2v r_q2 k_q2 => ?_
  dsimp only
  refine zm_if (fun c2 => ?_) (fun c2 => ?_)
  · refine zc_cI (K := fun v => True) F0 (zc_C8_refused F0.2 h_a0 (by unfold zv_rg; omega)) fun q3v q3h F3 r_q3 k_q3 => ?_
    dsimp only
    exact zm_iI ⟨F3, r_q3, trivial⟩
  · refine zc_rRo F0 h_a0 ?_
    refine zc_rF F0 14 (zc_xH8 F0 h_a0).1 ?_
    refine zc_pI (K := fun v => (v = -1 ∨ (0 ≤ v ∧ v < 12))) (zc_C2_indexOf F0.2 (zc_y0_6 (zc_xH8 F0 h_a0).1).1 r_q2) fun q6v r_q6 k_q6 => ?_
    dsimp only
    refine zm_if (fun c5 => ?_) (fun c5 => ?_)
    · refine zc_cI (K := fun v => True) F0 (zc_C8_refused F0.2 h_a0 (by unfold zv_rg; omega)) fun q7v q7h F6 r_q7 k_q7 => ?_
      dsimp only
      exact zm_iI ⟨F6, r_q7, trivial⟩
    · refine zc_rRo F0 h_a0 ?_
      refine zc_rF F0 14 (zc_xH8 F0 h_a0).1 ?_
      refine zc_pI (K := fun v => True) (zc_C2_ownerAt F0.2 (zc_y0_6 (zc_xH8 F0 h_a0).1).1 r_q6) fun q10v r_q10 k_q10 => ?_
      dsimp only
      refine zc_cI (K := fun v => True) F0 (zc_C8_given F0.2 h_a0 r_q10) fun q11v q11h F8 r_q11 k_q11 => ?_
      dsimp only
      exact zm_iI ⟨F8, r_q11, trivial⟩
theorem zc_C8_named {d : Nat} {h : zv_H} {a0 : Nat} (hA : zc_A h) (h_a0 : zv_lay a0 = (1, 8)) : zm_R (C8_named (d + 3) a0 h) (fun q => zc_Q h q.2 ∧ zv_rg q.1 ∧ True) := zm_cI (fun e => lC8_named (zc_ob hA h_a0) e) (zc_E8_named hA h_a0)
theorem zc_E8_leans {d : Nat} {h : zv_H} {a0 : Nat} {a1 : Int} {a2 : Int} (hA : zc_A h) (h_a0 : zv_lay a0 = (1, 8)) (h_a1 : zv_rg a1) (h_a2 : zv_rg a2) : zm_R (E8_leans (d + 1) a0 a1 a2 h) (zm_I fun v h' => zc_Q h h' ∧ zv_rg v ∧ True) := by
  have F0 := zc_Q_r hA
  rw [qE8_leans]
  refine zc_rRo F0 h_a0 ?_
  refine zc_pN (K := fun v => (v = 0 ∨ zc_V h v)) (zc_C0_at F0.2 (zc_xH8 F0 h_a0).1 h_a1) fun q2v k_q2 => ?_
  dsimp only
  refine zc_rRo F0 h_a0 ?_
  refine zc_pN (K := fun v => (v = 0 ∨ zc_V h v)) (zc_C0_at F0.2 (zc_xH8 F0 h_a0).1 h_a2) fun q4v k_q4 => ?_
  dsimp only
  refine zm_if (fun c3 => ?_) (fun c3 => ?_)
  · rw [qL8_leans_28]
    refine zc_cI (K := fun v => True) F0 (zc_C8_refused F0.2 h_a0 (by unfold zv_rg; omega)) fun q1v q1h F4 r_q1 k_q1 => ?_
    dsimp only
    exact zm_iI ⟨F4, r_q1, trivial⟩
  · refine zm_if (fun c5 => ?_) (fun c5 => ?_)
    · rw [qL8_leans_28]
      refine zc_cI (K := fun v => True) F0 (zc_C8_refused F0.2 h_a0 (by unfold zv_rg; omega)) fun q1x1v q1x1h F6 r_q1x1 k_q1x1 => ?_
      dsimp only
      exact zm_iI ⟨F6, r_q1x1, trivial⟩
    · refine zc_rT F0 ((Or.imp id (zc_Vb F0.1) k_q2).resolve_left c3).1 fun v5 e_v5 r_v5 => ?_
      have d_v5 := (zc_dep F0 ((Or.imp id (zc_Vb F0.1) k_q2).resolve_left c3)).1
      rw [← e_v5] at d_v5
      refine zc_rT F0 ((Or.imp id (zc_Vb F0.1) k_q4).resolve_left c5).1 fun v6 e_v6 r_v6 => ?_
      have d_v6 := (zc_dep F0 ((Or.imp id (zc_Vb F0.1) k_q4).resolve_left c5)).1
      rw [← e_v6] at d_v6
      refine zm_if (fun c7 => ?_) (fun c7 => ?_)
      · rw [qL8_leans_52]
        refine zm_if (fun c8 => ?_) (fun c8 => ?_)
        · have w_e0 := zv_lay_lt (zc_ly ((Or.imp id (zc_Vb F0.1) k_q4).resolve_left c5).1)
          have w_a3 := zv_lay_lt (zc_ly ((Or.imp id (zc_Vb F0.1) k_q2).resolve_left c3).1)
          omega
        · refine zm_if (fun c9 => ?_) (fun c9 => ?_)
          · rw [qL8_leans_66]
            refine zc_pI (K := fun v => True) (zc_C5_edits F0.2 ((Or.imp id (zc_Vb F0.1) k_q4).resolve_left c5).1) fun q1x2v r_q1x2 k_q1x2 => ?_
            dsimp only
            refine zm_if (fun c11 => ?_) (fun c11 => ?_)
            · rw [qL8_leans_94]
              refine zc_cI (K := fun v => True) F0 (zc_C8_refused F0.2 h_a0 (by unfold zv_rg; omega)) fun q1x3v q1x3h F12 r_q1x3 k_q1x3 => ?_
              dsimp only
              exact zm_iI ⟨F12, r_q1x3, trivial⟩
            · refine zc_pI (K := fun v => True) (zc_C5_edits F0.2 ((Or.imp id (zc_Vb F0.1) k_q4).resolve_left c5).1) fun q2x1v r_q2x1 k_q2x1 => ?_
              dsimp only
              refine zm_if (fun c14 => ?_) (fun c14 => ?_)
              · rw [qL8_leans_94]
                refine zc_cI (K := fun v => True) F0 (zc_C8_refused F0.2 h_a0 (by unfold zv_rg; omega)) fun q1x4v q1x4h F15 r_q1x4 k_q1x4 => ?_
                dsimp only
                exact zm_iI ⟨F15, r_q1x4, trivial⟩
              · refine zc_pI (K := fun v => True) (zc_C0_onLine F0.2 (zc_Vq F0.1 ((Or.imp id (zc_Vb F0.1) k_q4).resolve_left c5)) (Or.inr (zc_Vq F0.1 ((Or.imp id (zc_Vb F0.1) k_q4).resolve_left c5)))) fun q3v r_q3 k_q3 => ?_
                dsimp only
                refine zm_if (fun c17 => ?_) (fun c17 => ?_)
                · rw [qL8_leans_94]
                  refine zc_cI (K := fun v => True) F0 (zc_C8_refused F0.2 h_a0 (by unfold zv_rg; omega)) fun q1x5v q1x5h F18 r_q1x5 k_q1x5 => ?_
                  dsimp only
                  exact zm_iI ⟨F18, r_q1x5, trivial⟩
                · refine zc_rJ F0 ((Or.imp id (zc_Vb F0.1) k_q4).resolve_left c5).1 fun v4 => ?_
                  refine zc_pJ (zc_C5_bit F0.2 ((Or.imp id (zc_Vb F0.1) k_q4).resolve_left c5).1) fun q5v => ?_
                  dsimp only
                  refine zm_if (fun c20 => ?_) (fun c20 => ?_)
                  · rw [qL8_leans_122]
                    refine zc_cI (K := fun v => True) F0 (zc_C8_given F0.2 h_a0 (by unfold zv_rg; omega)) fun q1x6v q1x6h F21 r_q1x6 k_q1x6 => ?_
                    dsimp only
                    exact zm_iI ⟨F21, r_q1x6, trivial⟩
                  · rw [qL8_leans_122]
                    refine zc_cI (K := fun v => True) F0 (zc_C8_given F0.2 h_a0 (by unfold zv_rg; omega)) fun q1x7v q1x7h F22 r_q1x7 k_q1x7 => ?_
                    dsimp only
                    exact zm_iI ⟨F22, r_q1x7, trivial⟩
          · rw [qL8_leans_66]
            refine zc_pI (K := fun v => True) (zc_C5_edits F0.2 ((Or.imp id (zc_Vb F0.1) k_q4).resolve_left c5).1) fun q1x8v r_q1x8 k_q1x8 => ?_
            dsimp only
            refine zm_if (fun c24 => ?_) (fun c24 => ?_)
            · rw [qL8_leans_94]
              refine zc_cI (K := fun v => True) F0 (zc_C8_refused F0.2 h_a0 (by unfold zv_rg; omega)) fun q1x9v q1x9h F25 r_q1x9 k_q1x9 => ?_
              dsimp only
              exact zm_iI ⟨F25, r_q1x9, trivial⟩
            · refine zc_pI (K := fun v => True) (zc_C5_edits F0.2 ((Or.imp id (zc_Vb F0.1) k_q2).resolve_left c3).1) fun q2x2v r_q2x2 k_q2x2 => ?_
              dsimp only
              refine zm_if (fun c27 => ?_) (fun c27 => ?_)
              · rw [qL8_leans_94]
                refine zc_cI (K := fun v => True) F0 (zc_C8_refused F0.2 h_a0 (by unfold zv_rg; omega)) fun q1x10v q1x10h F28 r_q1x10 k_q1x10 => ?_
                dsimp only
                exact zm_iI ⟨F28, r_q1x10, trivial⟩
              · refine zc_pI (K := fun v => True) (zc_C0_onLine F0.2 (zc_Vq F0.1 ((Or.imp id (zc_Vb F0.1) k_q2).resolve_left c3)) (Or.inr (zc_Vq F0.1 ((Or.imp id (zc_Vb F0.1) k_q4).resolve_left c5)))) fun q3x1v r_q3x1 k_q3x1 => ?_
                dsimp only
                refine zm_if (fun c30 => ?_) (fun c30 => ?_)
                · rw [qL8_leans_94]
                  refine zc_cI (K := fun v => True) F0 (zc_C8_refused F0.2 h_a0 (by unfold zv_rg; omega)) fun q1x11v q1x11h F31 r_q1x11 k_q1x11 => ?_
                  dsimp only
                  exact zm_iI ⟨F31, r_q1x11, trivial⟩
                · refine zc_rJ F0 ((Or.imp id (zc_Vb F0.1) k_q4).resolve_left c5).1 fun v4x1 => ?_
                  refine zc_pJ (zc_C5_bit F0.2 ((Or.imp id (zc_Vb F0.1) k_q2).resolve_left c3).1) fun q5x1v => ?_
                  dsimp only
                  refine zm_if (fun c33 => ?_) (fun c33 => ?_)
                  · rw [qL8_leans_122]
                    refine zc_cI (K := fun v => True) F0 (zc_C8_given F0.2 h_a0 (by unfold zv_rg; omega)) fun q1x12v q1x12h F34 r_q1x12 k_q1x12 => ?_
                    dsimp only
                    exact zm_iI ⟨F34, r_q1x12, trivial⟩
                  · rw [qL8_leans_122]
                    refine zc_cI (K := fun v => True) F0 (zc_C8_given F0.2 h_a0 (by unfold zv_rg; omega)) fun q1x13v q1x13h F35 r_q1x13 k_q1x13 => ?_
                    dsimp only
                    exact zm_iI ⟨F35, r_q1x13, trivial⟩
      · rw [qL8_leans_52]
        refine zm_if (fun c36 => ?_) (fun c36 => ?_)
        · have w_e0 := zv_lay_lt (zc_ly ((Or.imp id (zc_Vb F0.1) k_q2).resolve_left c3).1)
          have w_a3 := zv_lay_lt (zc_ly ((Or.imp id (zc_Vb F0.1) k_q2).resolve_left c3).1)
          omega
        · refine zm_if (fun c37 => ?_) (fun c37 => ?_)
          · rw [qL8_leans_66]
            refine zc_pI (K := fun v => True) (zc_C5_edits F0.2 ((Or.imp id (zc_Vb F0.1) k_q2).resolve_left c3).1) fun q1x14v r_q1x14 k_q1x14 => ?_
            dsimp only
            refine zm_if (fun c39 => ?_) (fun c39 => ?_)
            · rw [qL8_leans_94]
              refine zc_cI (K := fun v => True) F0 (zc_C8_refused F0.2 h_a0 (by unfold zv_rg; omega)) fun q1x15v q1x15h F40 r_q1x15 k_q1x15 => ?_
              dsimp only
              exact zm_iI ⟨F40, r_q1x15, trivial⟩
            · refine zc_pI (K := fun v => True) (zc_C5_edits F0.2 ((Or.imp id (zc_Vb F0.1) k_q4).resolve_left c5).1) fun q2x3v r_q2x3 k_q2x3 => ?_
              dsimp only
              refine zm_if (fun c42 => ?_) (fun c42 => ?_)
              · rw [qL8_leans_94]
                refine zc_cI (K := fun v => True) F0 (zc_C8_refused F0.2 h_a0 (by unfold zv_rg; omega)) fun q1x16v q1x16h F43 r_q1x16 k_q1x16 => ?_
                dsimp only
                exact zm_iI ⟨F43, r_q1x16, trivial⟩
              · refine zc_pI (K := fun v => True) (zc_C0_onLine F0.2 (zc_Vq F0.1 ((Or.imp id (zc_Vb F0.1) k_q4).resolve_left c5)) (Or.inr (zc_Vq F0.1 ((Or.imp id (zc_Vb F0.1) k_q2).resolve_left c3)))) fun q3x2v r_q3x2 k_q3x2 => ?_
                dsimp only
                refine zm_if (fun c45 => ?_) (fun c45 => ?_)
                · rw [qL8_leans_94]
                  refine zc_cI (K := fun v => True) F0 (zc_C8_refused F0.2 h_a0 (by unfold zv_rg; omega)) fun q1x17v q1x17h F46 r_q1x17 k_q1x17 => ?_
                  dsimp only
                  exact zm_iI ⟨F46, r_q1x17, trivial⟩
                · refine zc_rJ F0 ((Or.imp id (zc_Vb F0.1) k_q2).resolve_left c3).1 fun v4x2 => ?_
                  refine zc_pJ (zc_C5_bit F0.2 ((Or.imp id (zc_Vb F0.1) k_q4).resolve_left c5).1) fun q5x2v => ?_
                  dsimp only
                  refine zm_if (fun c48 => ?_) (fun c48 => ?_)
                  · rw [qL8_leans_122]
                    refine zc_cI (K := fun v => True) F0 (zc_C8_given F0.2 h_a0 (by unfold zv_rg; omega)) fun q1x18v q1x18h F49 r_q1x18 k_q1x18 => ?_
                    dsimp only
                    exact zm_iI ⟨F49, r_q1x18, trivial⟩
                  · rw [qL8_leans_122]
                    refine zc_cI (K := fun v => True) F0 (zc_C8_given F0.2 h_a0 (by unfold zv_rg; omega)) fun q1x19v q1x19h F50 r_q1x19 k_q1x19 => ?_
                    dsimp only
                    exact zm_iI ⟨F50, r_q1x19, trivial⟩
          · rw [qL8_leans_66]
            refine zc_pI (K := fun v => True) (zc_C5_edits F0.2 ((Or.imp id (zc_Vb F0.1) k_q2).resolve_left c3).1) fun q1x20v r_q1x20 k_q1x20 => ?_
            dsimp only
            refine zm_if (fun c52 => ?_) (fun c52 => ?_)
            · rw [qL8_leans_94]
              refine zc_cI (K := fun v => True) F0 (zc_C8_refused F0.2 h_a0 (by unfold zv_rg; omega)) fun q1x21v q1x21h F53 r_q1x21 k_q1x21 => ?_
              dsimp only
              exact zm_iI ⟨F53, r_q1x21, trivial⟩
            · refine zc_pI (K := fun v => True) (zc_C5_edits F0.2 ((Or.imp id (zc_Vb F0.1) k_q2).resolve_left c3).1) fun q2x4v r_q2x4 k_q2x4 => ?_
              dsimp only
              refine zm_if (fun c55 => ?_) (fun c55 => ?_)
              · rw [qL8_leans_94]
                refine zc_cI (K := fun v => True) F0 (zc_C8_refused F0.2 h_a0 (by unfold zv_rg; omega)) fun q1x22v q1x22h F56 r_q1x22 k_q1x22 => ?_
                dsimp only
                exact zm_iI ⟨F56, r_q1x22, trivial⟩
              · refine zc_pI (K := fun v => True) (zc_C0_onLine F0.2 (zc_Vq F0.1 ((Or.imp id (zc_Vb F0.1) k_q2).resolve_left c3)) (Or.inr (zc_Vq F0.1 ((Or.imp id (zc_Vb F0.1) k_q2).resolve_left c3)))) fun q3x3v r_q3x3 k_q3x3 => ?_
                dsimp only
                refine zm_if (fun c58 => ?_) (fun c58 => ?_)
                · rw [qL8_leans_94]
                  refine zc_cI (K := fun v => True) F0 (zc_C8_refused F0.2 h_a0 (by unfold zv_rg; omega)) fun q1x23v q1x23h F59 r_q1x23 k_q1x23 => ?_
                  dsimp only
                  exact zm_iI ⟨F59, r_q1x23, trivial⟩
                · refine zc_rJ F0 ((Or.imp id (zc_Vb F0.1) k_q2).resolve_left c3).1 fun v4x3 => ?_
                  refine zc_pJ (zc_C5_bit F0.2 ((Or.imp id (zc_Vb F0.1) k_q2).resolve_left c3).1) fun q5x3v => ?_
                  dsimp only
                  refine zm_if (fun c61 => ?_) (fun c61 => ?_)
                  · rw [qL8_leans_122]
                    refine zc_cI (K := fun v => True) F0 (zc_C8_given F0.2 h_a0 (by unfold zv_rg; omega)) fun q1x24v q1x24h F62 r_q1x24 k_q1x24 => ?_
                    dsimp only
                    exact zm_iI ⟨F62, r_q1x24, trivial⟩
                  · rw [qL8_leans_122]
                    refine zc_cI (K := fun v => True) F0 (zc_C8_given F0.2 h_a0 (by unfold zv_rg; omega)) fun q1x25v q1x25h F63 r_q1x25 k_q1x25 => ?_
                    dsimp only
                    exact zm_iI ⟨F63, r_q1x25, trivial⟩
theorem zc_C8_leans {d : Nat} {h : zv_H} {a0 : Nat} {a1 : Int} {a2 : Int} (hA : zc_A h) (h_a0 : zv_lay a0 = (1, 8)) (h_a1 : zv_rg a1) (h_a2 : zv_rg a2) : zm_R (C8_leans (d + 2) a0 a1 a2 h) (fun q => zc_Q h q.2 ∧ zv_rg q.1 ∧ True) := zm_cI (fun e => lC8_leans (zc_ob hA h_a0) e) (zc_E8_leans hA h_a0 h_a1 h_a2)
theorem zc_E8_wait {d : Nat} {h : zv_H} {a0 : Nat} {a1 : Int} (hA : zc_A h) (h_a0 : zv_lay a0 = (1, 8)) (h_a1 : zv_rg a1) : zm_R (E8_wait (d + 2) a0 a1 h) (zm_I fun v h' => zc_Q h h' ∧ zv_rg v ∧ True) := by
  have F0 := zc_Q_r hA
  rw [qE8_wait]
  refine zc_rRo F0 h_a0 ?_
  refine zc_cI (K := fun v => True) F0 (zc_C0_passTime F0.2 (zc_xH8 F0 h_a0).1 h_a1) fun q2v q2h F1 r_q2 k_q2 => ?_
  dsimp only
  refine zc_cI (K := fun v => True) F1 (zc_C8_answered F1.2 h_a0 r_q2) fun q3v q3h F2 r_q3 k_q3 => ?_
  dsimp only
  exact zm_iI ⟨F2, r_q3, trivial⟩
theorem zc_C8_wait {d : Nat} {h : zv_H} {a0 : Nat} {a1 : Int} (hA : zc_A h) (h_a0 : zv_lay a0 = (1, 8)) (h_a1 : zv_rg a1) : zm_R (C8_wait (d + 3) a0 a1 h) (fun q => zc_Q h q.2 ∧ zv_rg q.1 ∧ True) := zm_cI (fun e => lC8_wait (zc_ob hA h_a0) e) (zc_E8_wait hA h_a0 h_a1)
theorem zc_E8_name {d : Nat} {h : zv_H} {a0 : Nat} (hA : zc_A h) (h_a0 : zv_lay a0 = (1, 8)) : zm_R (E8_name (d + 3) a0 h) (zm_I fun v h' => zc_Q h h' ∧ zv_rg v ∧ True) := by
  have F0 := zc_Q_r hA
  rw [qE8_name]
  refine zc_rRo F0 h_a0 ?_
  refine zc_rF F0 2 h_a0 ?_
  refine zc_pI (K := fun v => True) (zc_C7_key F0.2 (zc_y8_1 h_a0).1) fun q3v r_q3 k_q3 => ?_
  dsimp only
  refine zc_cI (K := fun v => True) F0 (zc_C0_nameHere F0.2 (zc_xH8 F0 h_a0).1 r_q3) fun q4v q4h F2 r_q4 k_q4 => ?_
  dsimp only
  refine zc_cI (K := fun v => True) F2 (zc_C8_answered F2.2 h_a0 r_q4) fun q5v q5h F3 r_q5 k_q5 => ?_
  dsimp only
  exact zm_iI ⟨F3, r_q5, trivial⟩
theorem zc_C8_name {d : Nat} {h : zv_H} {a0 : Nat} (hA : zc_A h) (h_a0 : zv_lay a0 = (1, 8)) : zm_R (C8_name (d + 4) a0 h) (fun q => zc_Q h q.2 ∧ zv_rg q.1 ∧ True) := zm_cI (fun e => lC8_name (zc_ob hA h_a0) e) (zc_E8_name hA h_a0)
theorem zc_E8_unname {d : Nat} {h : zv_H} {a0 : Nat} (hA : zc_A h) (h_a0 : zv_lay a0 = (1, 8)) : zm_R (E8_unname (d + 2) a0 h) (zm_I fun v h' => zc_Q h h' ∧ zv_rg v ∧ True) := by
  have F0 := zc_Q_r hA
  rw [qE8_unname]
  refine zc_rRo F0 h_a0 ?_
  refine zc_rF F0 2 h_a0 ?_
  refine zc_pI (K := fun v => True) (zc_C7_key F0.2 (zc_y8_1 h_a0).1) fun q3v r_q3 k_q3 => ?_
  dsimp only
  refine zc_cI (K := fun v => True) F0 (zc_C0_dropName F0.2 (zc_xH8 F0 h_a0).1 r_q3) fun q4v q4h F2 r_q4 k_q4 => ?_
  dsimp only
  refine zc_cI (K := fun v => True) F2 (zc_C8_answered F2.2 h_a0 r_q4) fun q5v q5h F3 r_q5 k_q5 => ?_
  dsimp only
  exact zm_iI ⟨F3, r_q5, trivial⟩
theorem zc_C8_unname {d : Nat} {h : zv_H} {a0 : Nat} (hA : zc_A h) (h_a0 : zv_lay a0 = (1, 8)) : zm_R (C8_unname (d + 3) a0 h) (fun q => zc_Q h q.2 ∧ zv_rg q.1 ∧ True) := zm_cI (fun e => lC8_unname (zc_ob hA h_a0) e) (zc_E8_unname hA h_a0)
theorem zc_E8_common {d : Nat} {h : zv_H} {a0 : Nat} {a1 : Int} {a2 : Int} (hA : zc_A h) (h_a0 : zv_lay a0 = (1, 8)) (h_a1 : zv_rg a1) (h_a2 : zv_rg a2) : zm_R (E8_common (d + 2) a0 a1 a2 h) (zm_I fun v h' => zc_Q h h' ∧ zv_rg v ∧ True) := by
  have F0 := zc_Q_r hA
  rw [qE8_common]
  refine zc_rRo F0 h_a0 ?_
  refine zc_pN (K := fun v => (v = 0 ∨ zc_V h v)) (zc_C0_at F0.2 (zc_xH8 F0 h_a0).1 h_a1) fun q2v k_q2 => ?_
  dsimp only
  refine zc_rRo F0 h_a0 ?_
  refine zc_pN (K := fun v => (v = 0 ∨ zc_V h v)) (zc_C0_at F0.2 (zc_xH8 F0 h_a0).1 h_a2) fun q4v k_q4 => ?_
  dsimp only
  refine zm_if (fun c3 => ?_) (fun c3 => ?_)
  · rw [qL8_common_28]
    refine zc_cI (K := fun v => True) F0 (zc_C8_refused F0.2 h_a0 (by unfold zv_rg; omega)) fun q1v q1h F4 r_q1 k_q1 => ?_
    dsimp only
    exact zm_iI ⟨F4, r_q1, trivial⟩
  · refine zm_if (fun c5 => ?_) (fun c5 => ?_)
    · rw [qL8_common_28]
      refine zc_cI (K := fun v => True) F0 (zc_C8_refused F0.2 h_a0 (by unfold zv_rg; omega)) fun q1x1v q1x1h F6 r_q1x1 k_q1x1 => ?_
      dsimp only
      exact zm_iI ⟨F6, r_q1x1, trivial⟩
    · refine zc_pN (K := fun v => zc_V h v) (zc_C0_nearest F0.2 (zc_Vq F0.1 ((Or.imp id (zc_Vb F0.1) k_q2).resolve_left c3)) (zc_Vq F0.1 ((Or.imp id (zc_Vb F0.1) k_q4).resolve_left c5))) fun q5v k_q5 => ?_
      dsimp only
      refine zc_rT F0 (zc_Vb F0.1 k_q5).1 fun v6 e_v6 r_v6 => ?_
      refine zc_cI (K := fun v => True) F0 (zc_C8_given F0.2 h_a0 r_v6) fun q7v q7h F8 r_q7 k_q7 => ?_
      dsimp only
      exact zm_iI ⟨F8, r_q7, trivial⟩
theorem zc_C8_common {d : Nat} {h : zv_H} {a0 : Nat} {a1 : Int} {a2 : Int} (hA : zc_A h) (h_a0 : zv_lay a0 = (1, 8)) (h_a1 : zv_rg a1) (h_a2 : zv_rg a2) : zm_R (C8_common (d + 3) a0 a1 a2 h) (fun q => zc_Q h q.2 ∧ zv_rg q.1 ∧ True) := zm_cI (fun e => lC8_common (zc_ob hA h_a0) e) (zc_E8_common hA h_a0 h_a1 h_a2)
theorem zc_E8_way {d : Nat} {h : zv_H} {a0 : Nat} {a1 : Int} {a2 : Int} {a3 : Int} (hA : zc_A h) (h_a0 : zv_lay a0 = (1, 8)) (h_a1 : zv_rg a1) (h_a2 : zv_rg a2) (h_a3 : zv_rg a3) : zm_R (E8_way (d + 4) a0 a1 a2 a3 h) (zm_I fun v h' => zc_Q h h' ∧ zv_rg v ∧ True) := by
  have F0 := zc_Q_r hA
  rw [qE8_way]
  refine zm_if (fun c1 => ?_) (fun c1 => ?_)
  · refine zc_cI (K := fun v => True) F0 (zc_C8_refused F0.2 h_a0 (by unfold zv_rg; omega)) fun q1v q1h F2 r_q1 k_q1 => ?_
    dsimp only
    exact zm_iI ⟨F2, r_q1, trivial⟩
  · refine zc_rRo F0 h_a0 ?_
    refine zc_pN (K := fun v => (v = 0 ∨ zc_V h v)) (zc_C0_at F0.2 (zc_xH8 F0 h_a0).1 h_a1) fun q3v k_q3 => ?_
    dsimp only
    refine zc_rRo F0 h_a0 ?_
    refine zc_pN (K := fun v => (v = 0 ∨ zc_V h v)) (zc_C0_at F0.2 (zc_xH8 F0 h_a0).1 h_a2) fun q5v k_q5 => ?_
    dsimp only
    refine zm_if (fun c5 => ?_) (fun c5 => ?_)
    · rw [qL8_way_40]
      refine zc_cI (K := fun v => True) F0 (zc_C8_refused F0.2 h_a0 (by unfold zv_rg; omega)) fun q1x1v q1x1h F6 r_q1x1 k_q1x1 => ?_
      dsimp only
      exact zm_iI ⟨F6, r_q1x1, trivial⟩
    · refine zm_if (fun c7 => ?_) (fun c7 => ?_)
      · rw [qL8_way_40]
        refine zc_cI (K := fun v => True) F0 (zc_C8_refused F0.2 h_a0 (by unfold zv_rg; omega)) fun q1x2v q1x2h F8 r_q1x2 k_q1x2 => ?_
        dsimp only
        exact zm_iI ⟨F8, r_q1x2, trivial⟩
      · refine zc_pN (K := fun v => (v = 0 ∨ zc_V h v)) (zc_C0_onWay F0.2 (zc_Vq F0.1 ((Or.imp id (zc_Vb F0.1) k_q3).resolve_left c5)) (zc_Vq F0.1 ((Or.imp id (zc_Vb F0.1) k_q5).resolve_left c7)) h_a3) fun q6v k_q6 => ?_
        dsimp only
        refine zm_if (fun c10 => ?_) (fun c10 => ?_)
        · refine zc_cI (K := fun v => True) F0 (zc_C8_refused F0.2 h_a0 (by unfold zv_rg; omega)) fun q7v q7h F11 r_q7 k_q7 => ?_
          dsimp only
          exact zm_iI ⟨F11, r_q7, trivial⟩
        · refine zc_rT F0 ((Or.imp id (zc_Vb F0.1) k_q6).resolve_left c10).1 fun v8 e_v8 r_v8 => ?_
          refine zc_cI (K := fun v => True) F0 (zc_C8_given F0.2 h_a0 r_v8) fun q9v q9h F12 r_q9 k_q9 => ?_
          dsimp only
          exact zm_iI ⟨F12, r_q9, trivial⟩
theorem zc_C8_way {d : Nat} {h : zv_H} {a0 : Nat} {a1 : Int} {a2 : Int} {a3 : Int} (hA : zc_A h) (h_a0 : zv_lay a0 = (1, 8)) (h_a1 : zv_rg a1) (h_a2 : zv_rg a2) (h_a3 : zv_rg a3) : zm_R (C8_way (d + 5) a0 a1 a2 a3 h) (fun q => zc_Q h q.2 ∧ zv_rg q.1 ∧ True) := zm_cI (fun e => lC8_way (zc_ob hA h_a0) e) (zc_E8_way hA h_a0 h_a1 h_a2 h_a3)
theorem zc_E8_between {d : Nat} {h : zv_H} {a0 : Nat} {a1 : Int} {a2 : Int} {a3 : Int} (hA : zc_A h) (h_a0 : zv_lay a0 = (1, 8)) (h_a1 : zv_rg a1) (h_a2 : zv_rg a2) (h_a3 : zv_rg a3) : zm_R (E8_between (d + 3) a0 a1 a2 a3 h) (zm_I fun v h' => zc_Q h h' ∧ zv_rg v ∧ True) := by
  have F0 := zc_Q_r hA
  rw [qE8_between]
  refine zc_pI (K := fun v => (v = 0 ∨ v = 1)) (zc_C8_within F0.2 h_a3 (by unfold zv_rg; omega) (by unfold zv_rg; omega)) fun q1v r_q1 k_q1 => ?_
  dsimp only
  refine zm_if (fun c2 => ?_) (fun c2 => ?_)
  · refine zc_cI (K := fun v => True) F0 (zc_C8_refused F0.2 h_a0 (by unfold zv_rg; omega)) fun q2v q2h F3 r_q2 k_q2 => ?_
    dsimp only
    exact zm_iI ⟨F3, r_q2, trivial⟩
  · refine zc_rRo F0 h_a0 ?_
    refine zc_pN (K := fun v => (v = 0 ∨ zc_V h v)) (zc_C0_at F0.2 (zc_xH8 F0 h_a0).1 h_a1) fun q4v k_q4 => ?_
    dsimp only
    refine zc_rRo F0 h_a0 ?_
    refine zc_pN (K := fun v => (v = 0 ∨ zc_V h v)) (zc_C0_at F0.2 (zc_xH8 F0 h_a0).1 h_a2) fun q6v k_q6 => ?_
    dsimp only
    refine zm_if (fun c6 => ?_) (fun c6 => ?_)
    · rw [qL8_between_45]
      refine zc_cI (K := fun v => True) F0 (zc_C8_refused F0.2 h_a0 (by unfold zv_rg; omega)) fun q1x1v q1x1h F7 r_q1x1 k_q1x1 => ?_
      dsimp only
      exact zm_iI ⟨F7, r_q1x1, trivial⟩
    · refine zm_if (fun c8 => ?_) (fun c8 => ?_)
      · rw [qL8_between_45]
        refine zc_cI (K := fun v => True) F0 (zc_C8_refused F0.2 h_a0 (by unfold zv_rg; omega)) fun q1x2v q1x2h F9 r_q1x2 k_q1x2 => ?_
        dsimp only
        exact zm_iI ⟨F9, r_q1x2, trivial⟩
      · refine zm_if (fun c10 => ?_) (fun c10 => ?_)
        · refine zc_rRo F0 h_a0 ?_
          refine zc_pI (K := fun v => True) (zc_C0_keptOf F0.2 (zc_xH8 F0 h_a0).1 ((Or.imp id (zc_Vb F0.1) k_q4).resolve_left c6).1 ((Or.imp id (zc_Vb F0.1) k_q6).resolve_left c8).1) fun q8v r_q8 k_q8 => ?_
          dsimp only
          refine zc_cI (K := fun v => True) F0 (zc_C8_given F0.2 h_a0 r_q8) fun q9v q9h F12 r_q9 k_q9 => ?_
          dsimp only
          exact zm_iI ⟨F12, r_q9, trivial⟩
        · refine zm_if (fun c13 => ?_) (fun c13 => ?_)
          · refine zc_rI F0 ((Or.imp id (zc_Vb F0.1) k_q4).resolve_left c6).1 fun v10 e_v10 r_v10 => ?_
            have b_v10 := zc_bdv (k := 12) (m := 120) F0 ((Or.imp id (zc_Vb F0.1) k_q4).resolve_left c6).1 rfl
            rw [← e_v10] at b_v10
            refine zc_rRo F0 h_a0 ?_
            refine zc_pI (K := fun v => True) (zc_C0_keptOf F0.2 (zc_xH8 F0 h_a0).1 ((Or.imp id (zc_Vb F0.1) k_q4).resolve_left c6).1 ((Or.imp id (zc_Vb F0.1) k_q6).resolve_left c8).1) fun q12v r_q12 k_q12 => ?_
            dsimp only
            refine zc_cI (K := fun v => True) F0 (zc_C8_given F0.2 h_a0 (zc_w _)) fun q13v q13h F15 r_q13 k_q13 => ?_
            dsimp only
            exact zm_iI ⟨F15, r_q13, trivial⟩
          · refine zm_if (fun c16 => ?_) (fun c16 => ?_)
            · refine zc_rI F0 ((Or.imp id (zc_Vb F0.1) k_q6).resolve_left c8).1 fun v14 e_v14 r_v14 => ?_
              have b_v14 := zc_bdv (k := 12) (m := 120) F0 ((Or.imp id (zc_Vb F0.1) k_q6).resolve_left c8).1 rfl
              rw [← e_v14] at b_v14
              refine zc_rRo F0 h_a0 ?_
              refine zc_pI (K := fun v => True) (zc_C0_keptOf F0.2 (zc_xH8 F0 h_a0).1 ((Or.imp id (zc_Vb F0.1) k_q4).resolve_left c6).1 ((Or.imp id (zc_Vb F0.1) k_q6).resolve_left c8).1) fun q16v r_q16 k_q16 => ?_
              dsimp only
              refine zc_cI (K := fun v => True) F0 (zc_C8_given F0.2 h_a0 (zc_w _)) fun q17v q17h F18 r_q17 k_q17 => ?_
              dsimp only
              exact zm_iI ⟨F18, r_q17, trivial⟩
            · refine zc_rRo F0 h_a0 ?_
              refine zc_pI (K := fun v => True) (zc_C0_firstDifference F0.2 (zc_xH8 F0 h_a0).1 ((Or.imp id (zc_Vb F0.1) k_q4).resolve_left c6).1 ((Or.imp id (zc_Vb F0.1) k_q6).resolve_left c8).1) fun q19v r_q19 k_q19 => ?_
              dsimp only
              refine zc_cI (K := fun v => True) F0 (zc_C8_given F0.2 h_a0 r_q19) fun q20v q20h F20 r_q20 k_q20 => ?_
              dsimp only
              exact zm_iI ⟨F20, r_q20, trivial⟩
theorem zc_C8_between {d : Nat} {h : zv_H} {a0 : Nat} {a1 : Int} {a2 : Int} {a3 : Int} (hA : zc_A h) (h_a0 : zv_lay a0 = (1, 8)) (h_a1 : zv_rg a1) (h_a2 : zv_rg a2) (h_a3 : zv_rg a3) : zm_R (C8_between (d + 4) a0 a1 a2 a3 h) (fun q => zc_Q h q.2 ∧ zv_rg q.1 ∧ True) := zm_cI (fun e => lC8_between (zc_ob hA h_a0) e) (zc_E8_between hA h_a0 h_a1 h_a2 h_a3)
theorem zc_E8_least {d : Nat} {h : zv_H} {a0 : Nat} {a1 : Int} {a2 : Int} (hA : zc_A h) (h_a0 : zv_lay a0 = (1, 8)) (h_a1 : zv_rg a1) (h_a2 : zv_rg a2) : zm_R (E8_least (d + 3) a0 a1 a2 h) (zm_I fun v h' => zc_Q h h' ∧ zv_rg v ∧ True) := by
  have F0 := zc_Q_r hA
  rw [qE8_least]
  refine zc_rRo F0 h_a0 ?_
  refine zc_pN (K := fun v => (v = 0 ∨ zc_V h v)) (zc_C0_at F0.2 (zc_xH8 F0 h_a0).1 h_a1) fun q2v k_q2 => ?_
  dsimp only
  refine zc_rRo F0 h_a0 ?_
  refine zc_pN (K := fun v => (v = 0 ∨ zc_V h v)) (zc_C0_at F0.2 (zc_xH8 F0 h_a0).1 h_a2) fun q4v k_q4 => ?_
  dsimp only
  refine zm_if (fun c3 => ?_) (fun c3 => ?_)
  · rw [qL8_least_28]
    refine zc_cI (K := fun v => True) F0 (zc_C8_refused F0.2 h_a0 (by unfold zv_rg; omega)) fun q1v q1h F4 r_q1 k_q1 => ?_
    dsimp only
    exact zm_iI ⟨F4, r_q1, trivial⟩
  · refine zm_if (fun c5 => ?_) (fun c5 => ?_)
    · rw [qL8_least_28]
      refine zc_cI (K := fun v => True) F0 (zc_C8_refused F0.2 h_a0 (by unfold zv_rg; omega)) fun q1x1v q1x1h F6 r_q1x1 k_q1x1 => ?_
      dsimp only
      exact zm_iI ⟨F6, r_q1x1, trivial⟩
    · refine zc_rI F0 ((Or.imp id (zc_Vb F0.1) k_q2).resolve_left c3).1 fun v5 e_v5 r_v5 => ?_
      have b_v5 := zc_bdv (k := 12) (m := 120) F0 ((Or.imp id (zc_Vb F0.1) k_q2).resolve_left c3).1 rfl
      rw [← e_v5] at b_v5
      refine zc_rI F0 ((Or.imp id (zc_Vb F0.1) k_q4).resolve_left c5).1 fun v6 e_v6 r_v6 => ?_
      have b_v6 := zc_bdv (k := 12) (m := 120) F0 ((Or.imp id (zc_Vb F0.1) k_q4).resolve_left c5).1 rfl
      rw [← e_v6] at b_v6
      refine zc_rRo F0 h_a0 ?_
      refine zc_cI (K := fun v => True) F0 (zc_C0_longestCommon F0.2 (zc_xH8 F0 h_a0).1 ((Or.imp id (zc_Vb F0.1) k_q2).resolve_left c3).1 ((Or.imp id (zc_Vb F0.1) k_q4).resolve_left c5).1) fun q8v q8h F7 r_q8 k_q8 => ?_
      dsimp only
      refine zc_cI (K := fun v => True) F7 (zc_C8_given F7.2 h_a0 (zc_w _)) fun q9v q9h F8 r_q9 k_q9 => ?_
      dsimp only
      exact zm_iI ⟨F8, r_q9, trivial⟩
theorem zc_C8_least {d : Nat} {h : zv_H} {a0 : Nat} {a1 : Int} {a2 : Int} (hA : zc_A h) (h_a0 : zv_lay a0 = (1, 8)) (h_a1 : zv_rg a1) (h_a2 : zv_rg a2) : zm_R (C8_least (d + 4) a0 a1 a2 h) (fun q => zc_Q h q.2 ∧ zv_rg q.1 ∧ True) := zm_cI (fun e => lC8_least (zc_ob hA h_a0) e) (zc_E8_least hA h_a0 h_a1 h_a2)
theorem zc_E8_tellByte {d : Nat} {h : zv_H} {a0 : Nat} {a1 : Int} (hA : zc_A h) (h_a0 : zv_lay a0 = (1, 8)) (h_a1 : zv_rg a1) : zm_R (E8_tellByte (d + 0) a0 a1 h) (zm_V fun h' => zc_Q h h') := by
  have F0 := zc_Q_r hA
  rw [qE8_tellByte]
  refine zc_rI F0 h_a0 fun v1 e_v1 r_v1 => ?_
  refine zm_if (fun c1 => ?_) (fun c1 => ?_)
  · exact zm_iV F0
  · refine zc_rI F0 h_a0 fun v2 e_v2 r_v2 => ?_
    refine zc_rF F0 1 h_a0 ?_
    refine zc_rAl F0 (zc_y8_0 h_a0).1 fun v4 e_v4 => ?_
    refine zm_if (fun c2 => ?_) (fun c2 => ?_)
    · refine zc_rF F0 1 h_a0 ?_
      refine zc_rI F0 h_a0 fun v6 e_v6 r_v6 => ?_
      refine zc_wA F0 (zc_y8_0 h_a0).1 (zc_y8_0 h_a0).2 (by omega) (by omega) h_a1 fun g7 F3 u_g7 => ?_
      refine zc_rI F3 h_a0 fun v8 e_v8 r_v8 => ?_
      rw [u_g7 _ _ (by rw [h_a0])] at e_v8
      refine zc_wO F3 h_a0 (zc_frO h_a0 (zc_lt h_a0 (by decide)) (by decide) rfl (by decide)) (zc_w _) fun g9 F4 => ?_
      exact zm_iV F4
    · exact zm_iV F0
theorem zc_C8_tellByte {d : Nat} {h : zv_H} {a0 : Nat} {a1 : Int} (hA : zc_A h) (h_a0 : zv_lay a0 = (1, 8)) (h_a1 : zv_rg a1) : zm_R (C8_tellByte (d + 1) a0 a1 h) (fun q => zc_Q h q) := zm_cV (fun e => lC8_tellByte (zc_ob hA h_a0) e) (zc_E8_tellByte hA h_a0 h_a1)
theorem zc_E8_tellNumber {d : Nat} {h : zv_H} {a0 : Nat} {a1 : Int} (hA : zc_A h) (h_a0 : zv_lay a0 = (1, 8)) (h_a1 : zv_rg a1) : zm_R (E8_tellNumber (d + 1) a0 a1 h) (zm_V fun h' => zc_Q h h') := by
  have F0 := zc_Q_r hA
  rw [qE8_tellNumber]
  refine zm_if (fun c1 => ?_) (fun c1 => ?_)
  · rw [qL8_tellNumber_17]
    refine zc_cV F0 (zc_C8_tellByte F0.2 h_a0 (zc_w _)) fun g1 F2 => ?_
    exact zm_iV F2
  · refine zc_cV F0 (zc_C8_tellByte F0.2 h_a0 (zc_w _)) fun g1x1 F3 => ?_
    rw [qL8_tellNumber_17]
    refine zc_cV F3 (zc_C8_tellByte F3.2 h_a0 (zc_w _)) fun g1x2 F4 => ?_
    exact zm_iV F4
theorem zc_C8_tellNumber {d : Nat} {h : zv_H} {a0 : Nat} {a1 : Int} (hA : zc_A h) (h_a0 : zv_lay a0 = (1, 8)) (h_a1 : zv_rg a1) : zm_R (C8_tellNumber (d + 2) a0 a1 h) (fun q => zc_Q h q) := zm_cV (fun e => lC8_tellNumber (zc_ob hA h_a0) e) (zc_E8_tellNumber hA h_a0 h_a1)
theorem zc_L8_tellDocument_10 {d : Nat} {h0 : zv_H} (N_L8_tellDocument_10 : Nat) : ∀ {h : zv_H} {a0 : Nat} {a1 : Nat} {a2 : Int}, zc_Q h0 h → (zv_lay a0 = (1, 8)) → (zc_V h0 a1) → (0 ≤ a2 ∧ zv_rg a2) → (2147483647 - a2).toNat = N_L8_tellDocument_10 → zm_R (L8_tellDocument_10 (d + 2) a0 a1 a2 h) (zm_V fun h' => zc_Q h0 h') := by
  induction N_L8_tellDocument_10 using Nat.strongRecOn with
  | _ N_L8_tellDocument_10 ih_L8_tellDocument_10 =>
    intro h a0 a1 a2 F0 h_a0 h_a1 h_a2 eN
    rw [qL8_tellDocument_10]
    have z_a2 := h_a2.1
    refine zc_rI F0 h_a1.1 fun v1 e_v1 r_v1 => ?_
    have b_v1 := zc_bdv (k := 12) (m := 120) F0 h_a1.1 rfl
    rw [← e_v1] at b_v1
    refine zm_if (fun c1 => ?_) (fun c1 => ?_)
    · refine zc_rRo F0 h_a0 ?_
      refine zc_pI (K := fun v => True) (zc_C0_letterAt F0.2 (zc_xH8 F0 h_a0).1 h_a1.1 h_a2.2) fun q3v r_q3 k_q3 => ?_
      dsimp only
      refine zc_cV F0 (zc_C8_tellByte F0.2 h_a0 (zc_w _)) fun g4 F3 => ?_
      exact ih_L8_tellDocument_10 _ (by rw [← eN]; exact zc_up h_a2.2 r_v1 c1) F3 h_a0 h_a1 ⟨by rw [zc_up1 h_a2.2 r_v1 c1]; omega, zc_w _⟩  rfl
    · exact zm_iV F0
theorem zc_E8_tellDocument {d : Nat} {h : zv_H} {a0 : Nat} (hA : zc_A h) (h_a0 : zv_lay a0 = (1, 8)) : zm_R (E8_tellDocument (d + 2) a0 h) (zm_V fun h' => zc_Q h h') := by
  have F0 := zc_Q_r hA
  rw [qE8_tellDocument]
  refine zc_rRo F0 h_a0 ?_
  refine zc_rRo F0 (zc_xH8 F0 h_a0).1 ?_
  exact zc_L8_tellDocument_10  _ F0 h_a0 (zc_hV F0 (zc_xH8 F0 h_a0).1).1 ⟨by omega, (by unfold zv_rg; omega)⟩  rfl
theorem zc_C8_tellDocument {d : Nat} {h : zv_H} {a0 : Nat} (hA : zc_A h) (h_a0 : zv_lay a0 = (1, 8)) : zm_R (C8_tellDocument (d + 3) a0 h) (fun q => zc_Q h q) := zm_cV (fun e => lC8_tellDocument (zc_ob hA h_a0) e) (zc_E8_tellDocument hA h_a0)
theorem zc_L8_tellLine_10 {d : Nat} {h0 : zv_H} (N_L8_tellLine_10 : Nat) : ∀ {h : zv_H} {a0 : Nat} {a1 : Nat} {a2 : Int}, zc_Q h0 h → (zv_lay a0 = (1, 8)) → (zv_lay a1 = (1, 4)) → (0 ≤ a2 ∧ zv_rg a2) → (2147483647 - a2).toNat = N_L8_tellLine_10 → zm_R (L8_tellLine_10 (d + 4) a0 a1 a2 h) (zm_V fun h' => zc_Q h0 h') := by
  induction N_L8_tellLine_10 using Nat.strongRecOn with
  | _ N_L8_tellLine_10 ih_L8_tellLine_10 =>
    intro h a0 a1 a2 F0 h_a0 h_a1 h_a2 eN
    rw [qL8_tellLine_10]
    have z_a2 := h_a2.1
    refine zc_rI F0 h_a1 fun v1 e_v1 r_v1 => ?_
    have b_v1 := zc_bdv (k := 5) (m := 48) F0 h_a1 rfl
    rw [← e_v1] at b_v1
    refine zm_if (fun c1 => ?_) (fun c1 => ?_)
    · refine zm_if (fun c2 => ?_) (fun c2 => ?_)
      · rw [qL8_tellLine_28]
        refine zc_pI (K := fun v => True) (zc_C4_numberAt F0.2 h_a1 h_a2.2) fun q1v r_q1 k_q1 => ?_
        dsimp only
        refine zc_cV F0 (zc_C8_tellNumber F0.2 h_a0 r_q1) fun g2 F4 => ?_
        exact ih_L8_tellLine_10 _ (by rw [← eN]; exact zc_up h_a2.2 (show zv_rg (0 + 1) from (by unfold zv_rg at *; omega)) (by omega)) F4 h_a0 h_a1 ⟨by rw [zc_up1 h_a2.2 (show zv_rg (0 + 1) from (by unfold zv_rg at *; omega)) (by omega)]; omega, zc_w _⟩  rfl
      · refine zc_cV F0 (zc_C8_tellByte F0.2 h_a0 (by unfold zv_rg; omega)) fun g2x1 F5 => ?_
        rw [qL8_tellLine_28]
        refine zc_pI (K := fun v => True) (zc_C4_numberAt F5.2 h_a1 h_a2.2) fun q1x1v r_q1x1 k_q1x1 => ?_
        dsimp only
        refine zc_cV F5 (zc_C8_tellNumber F5.2 h_a0 r_q1x1) fun g2x2 F7 => ?_
        exact ih_L8_tellLine_10 _ (by rw [← eN]; exact zc_up h_a2.2 r_v1 c1) F7 h_a0 h_a1 ⟨by rw [zc_up1 h_a2.2 r_v1 c1]; omega, zc_w _⟩  rfl
    · exact zm_iV F0
theorem zc_E8_tellLine {d : Nat} {h : zv_H} {a0 : Nat} (hA : zc_A h) (h_a0 : zv_lay a0 = (1, 8)) : zm_R (E8_tellLine (d + 4) a0 h) (zm_V fun h' => zc_Q h h') := by
  have F0 := zc_Q_r hA
  rw [qE8_tellLine]
  refine zc_rRo F0 h_a0 ?_
  refine zc_cN (K := fun v => zv_lay v = (1, 4)) F0 (zc_C0_rowOfHere F0.2 (zc_xH8 F0 h_a0).1) fun q2v q2h F1 k_q2 => ?_
  dsimp only
  exact zc_L8_tellLine_10  _ F1 h_a0 k_q2 ⟨by omega, (by unfold zv_rg; omega)⟩  rfl
theorem zc_C8_tellLine {d : Nat} {h : zv_H} {a0 : Nat} (hA : zc_A h) (h_a0 : zv_lay a0 = (1, 8)) : zm_R (C8_tellLine (d + 5) a0 h) (fun q => zc_Q h q) := zm_cV (fun e => lC8_tellLine (zc_ob hA h_a0) e) (zc_E8_tellLine hA h_a0)
theorem zc_E8_out {d : Nat} {h : zv_H} {a0 : Nat} {a1 : Int} (hA : zc_A h) (h_a0 : zv_lay a0 = (1, 8)) (h_a1 : zv_rg a1) : zm_R (E8_out (d + 1) a0 a1 h) (zm_I fun v h' => zc_Q h h' ∧ zv_rg v ∧ True) := by
  have F0 := zc_Q_r hA
  rw [qE8_out]
  refine zm_if (fun c1 => ?_) (fun c1 => ?_)
  · refine zc_cI (K := fun v => True) F0 (zc_C8_refused F0.2 h_a0 (by unfold zv_rg; omega)) fun q1v q1h F2 r_q1 k_q1 => ?_
    dsimp only
    exact zm_iI ⟨F2, r_q1, trivial⟩
  · refine zc_rI F0 h_a0 fun v2 e_v2 r_v2 => ?_
    refine zm_if (fun c3 => ?_) (fun c3 => ?_)
    · refine zc_rF F0 1 h_a0 ?_
      refine zc_rAl F0 (zc_y8_0 h_a0).1 fun v4 e_v4 => ?_
      refine zm_if (fun c4 => ?_) (fun c4 => ?_)
      · refine zc_rF F0 1 h_a0 ?_
        refine zc_rA F0 (zc_y8_0 h_a0).1 (zc_y8_0 h_a0).2 (by omega) (by omega) fun v6 r_v6 => ?_
        refine zc_cI (K := fun v => True) F0 (zc_C8_given F0.2 h_a0 r_v6) fun q7v q7h F5 r_q7 k_q7 => ?_
        dsimp only
        exact zm_iI ⟨F5, r_q7, trivial⟩
      · rw [qL8_out_27]
        refine zc_cI (K := fun v => True) F0 (zc_C8_refused F0.2 h_a0 (by unfold zv_rg; omega)) fun q1x1v q1x1h F6 r_q1x1 k_q1x1 => ?_
        dsimp only
        exact zm_iI ⟨F6, r_q1x1, trivial⟩
    · rw [qL8_out_27]
      refine zc_cI (K := fun v => True) F0 (zc_C8_refused F0.2 h_a0 (by unfold zv_rg; omega)) fun q1x2v q1x2h F7 r_q1x2 k_q1x2 => ?_
      dsimp only
      exact zm_iI ⟨F7, r_q1x2, trivial⟩
theorem zc_C8_out {d : Nat} {h : zv_H} {a0 : Nat} {a1 : Int} (hA : zc_A h) (h_a0 : zv_lay a0 = (1, 8)) (h_a1 : zv_rg a1) : zm_R (C8_out (d + 2) a0 a1 h) (fun q => zc_Q h q.2 ∧ zv_rg q.1 ∧ True) := zm_cI (fun e => lC8_out (zc_ob hA h_a0) e) (zc_E8_out hA h_a0 h_a1)
theorem zc_E8_leaning {d : Nat} {h : zv_H} {a0 : Nat} {a1 : Int} {a2 : Int} (hA : zc_A h) (h_a0 : zv_lay a0 = (1, 8)) (h_a1 : zv_rg a1) (h_a2 : zv_rg a2) : zm_R (E8_leaning (d + 4) a0 a1 a2 h) (zm_I fun v h' => zc_Q h h' ∧ zv_rg v ∧ True) := by
  have F0 := zc_Q_r hA
  rw [qE8_leaning]
  refine zc_pI (K := fun v => (v = 0 ∨ v = 1)) (zc_C8_within F0.2 h_a2 (by unfold zv_rg; omega) (by unfold zv_rg; omega)) fun q1v r_q1 k_q1 => ?_
  dsimp only
  refine zm_if (fun c2 => ?_) (fun c2 => ?_)
  · refine zc_cI (K := fun v => True) F0 (zc_C8_refused F0.2 h_a0 (by unfold zv_rg; omega)) fun q2v q2h F3 r_q2 k_q2 => ?_
    dsimp only
    exact zm_iI ⟨F3, r_q2, trivial⟩
  · refine zc_rRo F0 h_a0 ?_
    refine zc_pN (K := fun v => (v = 0 ∨ zc_V h v)) (zc_C0_at F0.2 (zc_xH8 F0 h_a0).1 h_a1) fun q4v k_q4 => ?_
    dsimp only
    refine zm_if (fun c5 => ?_) (fun c5 => ?_)
    · refine zc_cI (K := fun v => True) F0 (zc_C8_refused F0.2 h_a0 (by unfold zv_rg; omega)) fun q5v q5h F6 r_q5 k_q5 => ?_
      dsimp only
      exact zm_iI ⟨F6, r_q5, trivial⟩
    · refine zc_rRo F0 h_a0 ?_
      refine zc_cN (K := fun v => zv_lay v = (1, 4)) F0 (zc_C0_rowOfHere F0.2 (zc_xH8 F0 h_a0).1) fun q7v q7h F7 k_q7 => ?_
      dsimp only
      refine zc_rJ F7 k_q7 fun v8 => ?_
      refine zc_pJ (zc_C5_bit F7.2 ((Or.imp id (zc_Vb F0.1) k_q4).resolve_left c5).1) fun q9v => ?_
      dsimp only
      refine zm_if (fun c9 => ?_) (fun c9 => ?_)
      · refine zc_cI (K := fun v => True) F7 (zc_C8_refused F7.2 h_a0 (by unfold zv_rg; omega)) fun q10v q10h F10 r_q10 k_q10 => ?_
        dsimp only
        exact zm_iI ⟨F10, r_q10, trivial⟩
      · refine zc_pJ (zc_C4_leaningOn F7.2 k_q7 ((Or.imp id (zc_Vb F0.1) k_q4).resolve_left c5).1) fun q11v => ?_
        dsimp only
        refine zm_if (fun c12 => ?_) (fun c12 => ?_)
        · refine zc_pI (K := fun v => True) (zc_C12_bitCount F7.2 ) fun q12v r_q12 k_q12 => ?_
          dsimp only
          refine zc_cI (K := fun v => True) F7 (zc_C8_given F7.2 h_a0 r_q12) fun q13v q13h F14 r_q13 k_q13 => ?_
          dsimp only
          exact zm_iI ⟨F14, r_q13, trivial⟩
        · refine zm_if (fun c15 => ?_) (fun c15 => ?_)
          · refine zc_rJ F7 k_q7 fun v14 => ?_
            refine zc_pI (K := fun v => True) (zc_C12_bitCount F7.2 ) fun q15v r_q15 k_q15 => ?_
            dsimp only
            refine zc_cI (K := fun v => True) F7 (zc_C8_given F7.2 h_a0 r_q15) fun q16v q16h F17 r_q16 k_q16 => ?_
            dsimp only
            exact zm_iI ⟨F17, r_q16, trivial⟩
          · refine zm_if (fun c18 => ?_) (fun c18 => ?_)
            · refine zc_rRo F7 h_a0 ?_
              refine zc_pI (K := fun v => True) (zc_C0_lettersOfHereBy F7.2 (zc_xH8 F7 h_a0).1) fun q18v r_q18 k_q18 => ?_
              dsimp only
              refine zc_cI (K := fun v => True) F7 (zc_C8_given F7.2 h_a0 r_q18) fun q19v q19h F20 r_q19 k_q19 => ?_
              dsimp only
              exact zm_iI ⟨F20, r_q19, trivial⟩
            · refine zc_rJ F7 k_q7 fun v20 => ?_
              refine zc_cV F7 (zc_C4_look F7.2 k_q7) fun g21 F21 => ?_
              refine zc_rI F21 k_q7 fun v22 e_v22 r_v22 => ?_
              refine zc_cI (K := fun v => True) F21 (zc_C8_given F21.2 h_a0 r_v22) fun q23v q23h F22 r_q23 k_q23 => ?_
              dsimp only
              exact zm_iI ⟨F22, r_q23, trivial⟩
theorem zc_C8_leaning {d : Nat} {h : zv_H} {a0 : Nat} {a1 : Int} {a2 : Int} (hA : zc_A h) (h_a0 : zv_lay a0 = (1, 8)) (h_a1 : zv_rg a1) (h_a2 : zv_rg a2) : zm_R (C8_leaning (d + 5) a0 a1 a2 h) (fun q => zc_Q h q.2 ∧ zv_rg q.1 ∧ True) := zm_cI (fun e => lC8_leaning (zc_ob hA h_a0) e) (zc_E8_leaning hA h_a0 h_a1 h_a2)
theorem zc_E8_find {d : Nat} {h : zv_H} {a0 : Nat} {a1 : Int} (hA : zc_A h) (h_a0 : zv_lay a0 = (1, 8)) (h_a1 : zv_rg a1) : zm_R (E8_find (d + 5) a0 a1 h) (zm_I fun v h' => zc_Q h h' ∧ zv_rg v ∧ True) := by
  have F0 := zc_Q_r hA
  rw [qE8_find]
  refine zc_pI (K := fun v => (v = 0 ∨ v = 1)) (zc_C8_within F0.2 h_a1 (by unfold zv_rg; omega) (by unfold zv_rg; omega)) fun q1v r_q1 k_q1 => ?_
  dsimp only
  refine zm_if (fun c2 => ?_) (fun c2 => ?_)
  · rw [qL8_find_19]
    refine zc_cI (K := fun v => True) F0 (zc_C8_refused F0.2 h_a0 (by unfold zv_rg; omega)) fun q1x1v q1x1h F3 r_q1x1 k_q1x1 => ?_
    dsimp only
    exact zm_iI ⟨F3, r_q1x1, trivial⟩
  · refine zc_rF F0 2 h_a0 ?_
    refine zc_rI F0 (zc_y8_1 h_a0).1 fun v3 e_v3 r_v3 => ?_
    have b_v3 := zc_bdv (k := 1) (m := 40) F0 (zc_y8_1 h_a0).1 rfl
    rw [← e_v3] at b_v3
    refine zm_if (fun c4 => ?_) (fun c4 => ?_)
    · rw [qL8_find_19]
      refine zc_cI (K := fun v => True) F0 (zc_C8_refused F0.2 h_a0 (by unfold zv_rg; omega)) fun q1x2v q1x2h F5 r_q1x2 k_q1x2 => ?_
      dsimp only
      exact zm_iI ⟨F5, r_q1x2, trivial⟩
    · refine zm_if (fun c6 => ?_) (fun c6 => ?_)
      · refine zc_rRo F0 h_a0 ?_
        refine zc_rF F0 2 h_a0 ?_
        refine zc_pI (K := fun v => True) (zc_C0_statesWith F0.2 (zc_xH8 F0 h_a0).1 (zc_y8_1 h_a0).1) fun q6v r_q6 k_q6 => ?_
        dsimp only
        refine zc_cI (K := fun v => True) F0 (zc_C8_given F0.2 h_a0 r_q6) fun q7v q7h F8 r_q7 k_q7 => ?_
        dsimp only
        exact zm_iI ⟨F8, r_q7, trivial⟩
      · refine zm_if (fun c9 => ?_) (fun c9 => ?_)
        · refine zc_rRo F0 h_a0 ?_
          refine zc_rF F0 2 h_a0 ?_
          refine zc_pI (K := fun v => True) (zc_C0_leastWith F0.2 (zc_xH8 F0 h_a0).1 (zc_y8_1 h_a0).1) fun q10v r_q10 k_q10 => ?_
          dsimp only
          rw [qL8_find_82]
          refine zm_if (fun c11 => ?_) (fun c11 => ?_)
          · refine zc_cI (K := fun v => True) F0 (zc_C8_refused F0.2 h_a0 (by unfold zv_rg; omega)) fun q1x3v q1x3h F12 r_q1x3 k_q1x3 => ?_
            dsimp only
            exact zm_iI ⟨F12, r_q1x3, trivial⟩
          · refine zc_cI (K := fun v => True) F0 (zc_C8_given F0.2 h_a0 r_q10) fun q2v q2h F13 r_q2 k_q2 => ?_
            dsimp only
            exact zm_iI ⟨F13, r_q2, trivial⟩
        · refine zc_rRo F0 h_a0 ?_
          refine zc_rRo F0 h_a0 ?_
          refine zc_rRo F0 (zc_xH8 F0 h_a0).1 ?_
          refine zc_rF F0 2 h_a0 ?_
          refine zc_pI (K := fun v => True) (zc_C0_placeIn F0.2 (zc_xH8 F0 h_a0).1 (zc_hV F0 (zc_xH8 F0 h_a0).1).1.1 (zc_y8_1 h_a0).1) fun q15v r_q15 k_q15 => ?_
          dsimp only
          rw [qL8_find_82]
          refine zm_if (fun c15 => ?_) (fun c15 => ?_)
          · refine zc_cI (K := fun v => True) F0 (zc_C8_refused F0.2 h_a0 (by unfold zv_rg; omega)) fun q1x4v q1x4h F16 r_q1x4 k_q1x4 => ?_
            dsimp only
            exact zm_iI ⟨F16, r_q1x4, trivial⟩
          · refine zc_cI (K := fun v => True) F0 (zc_C8_given F0.2 h_a0 r_q15) fun q2x1v q2x1h F17 r_q2x1 k_q2x1 => ?_
            dsimp only
            exact zm_iI ⟨F17, r_q2x1, trivial⟩
theorem zc_C8_find {d : Nat} {h : zv_H} {a0 : Nat} {a1 : Int} (hA : zc_A h) (h_a0 : zv_lay a0 = (1, 8)) (h_a1 : zv_rg a1) : zm_R (C8_find (d + 6) a0 a1 h) (fun q => zc_Q h q.2 ∧ zv_rg q.1 ∧ True) := zm_cI (fun e => lC8_find (zc_ob hA h_a0) e) (zc_E8_find hA h_a0 h_a1)
theorem zc_E8_first {d : Nat} {h : zv_H} {a0 : Nat} (hA : zc_A h) (h_a0 : zv_lay a0 = (1, 8)) : zm_R (E8_first (d + 2) a0 h) (zm_I fun v h' => zc_Q h h' ∧ zv_rg v ∧ True) := by
  have F0 := zc_Q_r hA
  rw [qE8_first]
  refine zc_rRo F0 h_a0 ?_
  refine zc_pN (K := fun v => (v = 0 ∨ zc_V h v)) (zc_C0_nextToGo F0.2 (zc_xH8 F0 h_a0).1) fun q2v k_q2 => ?_
  dsimp only
  refine zm_if (fun c2 => ?_) (fun c2 => ?_)
  · refine zc_cI (K := fun v => True) F0 (zc_C8_refused F0.2 h_a0 (by unfold zv_rg; omega)) fun q3v q3h F3 r_q3 k_q3 => ?_
    dsimp only
    exact zm_iI ⟨F3, r_q3, trivial⟩
  · refine zc_rT F0 ((Or.imp id (zc_Vb F0.1) k_q2).resolve_left c2).1 fun v4 e_v4 r_v4 => ?_
    refine zc_cI (K := fun v => True) F0 (zc_C8_given F0.2 h_a0 r_v4) fun q5v q5h F4 r_q5 k_q5 => ?_
    dsimp only
    exact zm_iI ⟨F4, r_q5, trivial⟩
theorem zc_C8_first {d : Nat} {h : zv_H} {a0 : Nat} (hA : zc_A h) (h_a0 : zv_lay a0 = (1, 8)) : zm_R (C8_first (d + 3) a0 h) (fun q => zc_Q h q.2 ∧ zv_rg q.1 ∧ True) := zm_cI (fun e => lC8_first (zc_ob hA h_a0) e) (zc_E8_first hA h_a0)
theorem zc_E8_twin {d : Nat} {h : zv_H} {a0 : Nat} {a1 : Int} (hA : zc_A h) (h_a0 : zv_lay a0 = (1, 8)) (h_a1 : zv_rg a1) : zm_R (E8_twin (d + 4) a0 a1 h) (zm_I fun v h' => zc_Q h h' ∧ zv_rg v ∧ True) := by
  have F0 := zc_Q_r hA
  rw [qE8_twin]
  refine zc_rRo F0 h_a0 ?_
  refine zc_pN (K := fun v => (v = 0 ∨ zc_V h v)) (zc_C0_at F0.2 (zc_xH8 F0 h_a0).1 h_a1) fun q2v k_q2 => ?_
  dsimp only
  refine zm_if (fun c2 => ?_) (fun c2 => ?_)
  · refine zc_cI (K := fun v => True) F0 (zc_C8_refused F0.2 h_a0 (by unfold zv_rg; omega)) fun q3v q3h F3 r_q3 k_q3 => ?_
    dsimp only
    exact zm_iI ⟨F3, r_q3, trivial⟩
  · refine zc_rRo F0 h_a0 ?_
    refine zc_pI (K := fun v => True) (zc_C0_twinOf F0.2 (zc_xH8 F0 h_a0).1 ((Or.imp id (zc_Vb F0.1) k_q2).resolve_left c2).1) fun q5v r_q5 k_q5 => ?_
    dsimp only
    refine zm_if (fun c5 => ?_) (fun c5 => ?_)
    · refine zc_cI (K := fun v => True) F0 (zc_C8_refused F0.2 h_a0 (by unfold zv_rg; omega)) fun q6v q6h F6 r_q6 k_q6 => ?_
      dsimp only
      exact zm_iI ⟨F6, r_q6, trivial⟩
    · refine zc_cI (K := fun v => True) F0 (zc_C8_given F0.2 h_a0 r_q5) fun q7v q7h F7 r_q7 k_q7 => ?_
      dsimp only
      exact zm_iI ⟨F7, r_q7, trivial⟩
theorem zc_C8_twin {d : Nat} {h : zv_H} {a0 : Nat} {a1 : Int} (hA : zc_A h) (h_a0 : zv_lay a0 = (1, 8)) (h_a1 : zv_rg a1) : zm_R (C8_twin (d + 5) a0 a1 h) (fun q => zc_Q h q.2 ∧ zv_rg q.1 ∧ True) := zm_cI (fun e => lC8_twin (zc_ob hA h_a0) e) (zc_E8_twin hA h_a0 h_a1)
theorem zc_E8_back {d : Nat} {h : zv_H} {a0 : Nat} {a1 : Int} (hA : zc_A h) (h_a0 : zv_lay a0 = (1, 8)) (h_a1 : zv_rg a1) : zm_R (E8_back (d + 1) a0 a1 h) (zm_I fun v h' => zc_Q h h' ∧ zv_rg v ∧ True) := by
  have F0 := zc_Q_r hA
  rw [qE8_back]
  refine zc_pI (K := fun v => (v = 0 ∨ v = 1)) (zc_C8_within F0.2 h_a1 (by unfold zv_rg; omega) (by unfold zv_rg; omega)) fun q1v r_q1 k_q1 => ?_
  dsimp only
  refine zm_if (fun c2 => ?_) (fun c2 => ?_)
  · refine zc_cI (K := fun v => True) F0 (zc_C8_refused F0.2 h_a0 (by unfold zv_rg; omega)) fun q2v q2h F3 r_q2 k_q2 => ?_
    dsimp only
    exact zm_iI ⟨F3, r_q2, trivial⟩
  · refine zc_rRo F0 h_a0 ?_
    refine zc_pN (K := fun v => (v = 0 ∨ zc_V h v)) (zc_C0_behind F0.2 (zc_xH8 F0 h_a0).1 h_a1) fun q4v k_q4 => ?_
    dsimp only
    refine zm_if (fun c5 => ?_) (fun c5 => ?_)
    · refine zc_cI (K := fun v => True) F0 (zc_C8_refused F0.2 h_a0 (by unfold zv_rg; omega)) fun q5v q5h F6 r_q5 k_q5 => ?_
      dsimp only
      exact zm_iI ⟨F6, r_q5, trivial⟩
    · refine zc_rT F0 ((Or.imp id (zc_Vb F0.1) k_q4).resolve_left c5).1 fun v6 e_v6 r_v6 => ?_
      refine zc_cI (K := fun v => True) F0 (zc_C8_given F0.2 h_a0 r_v6) fun q7v q7h F7 r_q7 k_q7 => ?_
      dsimp only
      exact zm_iI ⟨F7, r_q7, trivial⟩
theorem zc_C8_back {d : Nat} {h : zv_H} {a0 : Nat} {a1 : Int} (hA : zc_A h) (h_a0 : zv_lay a0 = (1, 8)) (h_a1 : zv_rg a1) : zm_R (C8_back (d + 2) a0 a1 h) (fun q => zc_Q h q.2 ∧ zv_rg q.1 ∧ True) := zm_cI (fun e => lC8_back (zc_ob hA h_a0) e) (zc_E8_back hA h_a0 h_a1)
end
/-! 99.tree -/
section
/-! ===== the class: what changes the tree ===== -/
/-- the frame: nothing of the reference, nor the tape's size -/
def zc_P (h h' : zv_H) : Prop := h'.1 = h.1 ∧ h'.2.2.2.2 = h.2.2.2.2 ∧ (∀ r, 347 ≤ r → h'.2.1 r = h.2.1 r ∧ h'.2.2.1 r = h.2.2.1 r ∧ h'.2.2.2.1 r = h.2.2.2.1 r) ∧ zv_I h' 5 2 = zv_I h 5 2
theorem zc_P_r (h : zv_H) : zc_P h h := ⟨rfl, rfl, fun _ _ => ⟨rfl, rfl, rfl⟩, rfl⟩
theorem zc_P_t {h h1 h2 : zv_H} (f : zc_P h h1) (g : zc_P h1 h2) : zc_P h h2 := ⟨g.1.trans f.1, g.2.1.trans f.2.1, fun r x => ⟨(g.2.2.1 r x).1.trans (f.2.2.1 r x).1, (g.2.2.1 r x).2.1.trans (f.2.2.1 r x).2.1, (g.2.2.1 r x).2.2.trans (f.2.2.1 r x).2.2⟩, g.2.2.2.trans f.2.2.2⟩
theorem zc_qP {h h' : zv_H} (f : zc_q h h') : zc_P h h' := ⟨f.1, f.2.1, fun r x => ⟨(f.2.2.1 r x).1, (f.2.2.1 r x).2, f.2.2.2.1 r (by omega) (by omega)⟩, f.2.2.2.2.2⟩
def zc_X (h h' : zv_H) : Prop := zc_P h h' ∧ zc_A h'
theorem zc_X_r {h : zv_H} (hA : zc_A h) : zc_X h h := ⟨zc_P_r h, hA⟩
theorem zc_X_t {h h1 h2 : zv_H} (f : zc_X h h1) (g : zc_X h1 h2) : zc_X h h2 := ⟨zc_P_t f.1 g.1, g.2⟩
theorem zc_QX {h h' : zv_H} (f : zc_Q h h') : zc_X h h' := ⟨zc_qP f.1, f.2⟩
/-! counting children -/
theorem zc_ch_b (h : zv_H) (r n : Nat) : 0 ≤ zc_ch h r n ∧ zc_ch h r n ≤ n := by
  induction n with
  | zero => exact ⟨Int.le_refl _, Int.le_refl _⟩
  | succ n ih =>
    have e : zc_ch h r (n + 1) = zc_ch h r n + (if zv_R h (zc_stt (zc_hf r) n) 4 = r then 1 else 0) := rfl
    rw [e]
    by_cases c : zv_R h (zc_stt (zc_hf r) n) 4 = r
    · rw [if_pos c]; omega
    · rw [if_neg c]; omega
theorem zc_chb {h : zv_H} (hA : zc_A h) {s : Nat} (hV : zc_V h s) : 0 ≤ zv_I h s 11 ∧ zv_I h s 11 ≤ 48 := by
  have t := hA.2.1 s hV.1
  cases t with
  | inl t => exact absurd t.1 (by rw [hV.2]; decide)
  | inr t =>
    rw [t.2.2.2.2]
    exact zc_ch_b h s 48
/-- none has it as parent, where it has no children -/
theorem zc_ch0 {h : zv_H} {r : Nat} : ∀ n, zc_ch h r n = 0 → ∀ i, i < n → zv_R h (zc_stt (zc_hf r) i) 4 ≠ r := by
  intro n
  induction n with
  | zero => intro _ i hi; exact absurd hi (Nat.not_lt_zero i)
  | succ n ih =>
    intro hn i hi e
    have ec : zc_ch h r (n + 1) = zc_ch h r n + (if zv_R h (zc_stt (zc_hf r) n) 4 = r then 1 else 0) := rfl
    rw [ec] at hn
    have b := zc_ch_b h r n
    by_cases c : zv_R h (zc_stt (zc_hf r) n) 4 = r
    · rw [if_pos c] at hn; omega
    · rw [if_neg c] at hn
      by_cases q : i = n
      · rw [q] at e; exact c e
      · exact ih (by omega) i (by omega) e
/-- no child, no parent of it -/
theorem zc_leaf {h : zv_H} (hA : zc_A h) {s : Nat} (hV : zc_V h s) (h0 : zv_I h s 11 = 0) {t : Nat} (ht : zv_lay t = (1, 5)) : zv_R h t 4 ≠ s := by
  intro e
  have tt := hA.2.1 t ht
  have ts := hA.2.1 s hV.1
  cases ts with
  | inl ts => exact absurd ts.1 (by rw [hV.2]; decide)
  | inr ts =>
    have c0 : zc_ch h s 48 = 0 := ts.2.2.2.2.symm.trans h0
    obtain ⟨i, hi, et⟩ := zc_l5i ht
    cases tt with
    | inl u => exact zc_nz hV.1 (e.symm.trans u.2)
    | inr u =>
      cases u.2.2.1 with
      | inl w => exact zc_nz hV.1 (e.symm.trans w.1)
      | inr w =>
        have hh : zc_hf s = zc_hf t := by rw [← w.2.2.1, e]
        refine zc_ch0 48 c0 i hi ?_
        rw [hh, ← et]
        exact e
/-! how deep it goes: as many States as depths -/
def zc_k (h : zv_H) (a : Nat) (D : Int) : Nat → Nat
  | 0 => 0
  | n + 1 => zc_k h a D n + if zv_I h (zc_stt a n) 3 = 1 ∧ zv_I h (zc_stt a n) 10 ≤ D then 1 else 0
theorem zc_k_le (h : zv_H) (a : Nat) (D : Int) (n : Nat) : zc_k h a D n ≤ n := by
  induction n with
  | zero => exact Nat.le_refl _
  | succ n ih =>
    show zc_k h a D n + _ ≤ _
    by_cases c : zv_I h (zc_stt a n) 3 = 1 ∧ zv_I h (zc_stt a n) 10 ≤ D
    · rw [if_pos c]; omega
    · rw [if_neg c]; omega
theorem zc_k_lt {h : zv_H} {a : Nat} {D : Int} {j : Nat} (hj : zv_I h (zc_stt a j) 3 ≠ 1) : ∀ n, j < n → zc_k h a D n + 1 ≤ n := by
  intro n
  induction n with
  | zero => intro q; exact absurd q (Nat.not_lt_zero j)
  | succ n ih =>
    intro q
    show zc_k h a D n + _ + 1 ≤ _
    by_cases e : j = n
    · subst e
      rw [if_neg (fun c => hj c.1)]
      have := zc_k_le h a D j
      omega
    · have := ih (by omega)
      by_cases c : zv_I h (zc_stt a n) 3 = 1 ∧ zv_I h (zc_stt a n) 10 ≤ D
      · rw [if_pos c]; omega
      · rw [if_neg c]; omega
theorem zc_k_mono (h : zv_H) (a : Nat) (D : Int) : ∀ n, zc_k h a D n ≤ zc_k h a (D + 1) n := by
  intro n
  induction n with
  | zero => exact Nat.le_refl _
  | succ n ih =>
    show zc_k h a D n + _ ≤ zc_k h a (D + 1) n + _
    by_cases c : zv_I h (zc_stt a n) 3 = 1 ∧ zv_I h (zc_stt a n) 10 ≤ D
    · rw [if_pos c, if_pos ⟨c.1, by omega⟩]; omega
    · rw [if_neg c]; omega
theorem zc_k_one {h : zv_H} {a : Nat} {D : Int} {j : Nat} (h3 : zv_I h (zc_stt a j) 3 = 1) (hd : zv_I h (zc_stt a j) 10 = D + 1) : ∀ n, j < n → zc_k h a D n + 1 ≤ zc_k h a (D + 1) n := by
  intro n
  induction n with
  | zero => intro q; exact absurd q (Nat.not_lt_zero j)
  | succ n ih =>
    intro q
    show zc_k h a D n + _ + 1 ≤ zc_k h a (D + 1) n + _
    by_cases e : j = n
    · subst e
      rw [if_neg (fun c => by omega), if_pos ⟨h3, by omega⟩]
      have := zc_k_mono h a D j
      omega
    · have := ih (by omega)
      by_cases c : zv_I h (zc_stt a n) 3 = 1 ∧ zv_I h (zc_stt a n) 10 ≤ D
      · rw [if_pos c, if_pos ⟨c.1, by omega⟩]; omega
      · rw [if_neg c]; omega
theorem zc_deep {h : zv_H} (hA : zc_A h) : ∀ (D : Nat) (s : Nat), zc_V h s → zv_I h s 10 = (D : Int) → D + 1 ≤ zc_k h (zc_hf s) (D : Int) 48 := by
  intro D
  induction D with
  | zero =>
    intro s hV hd
    obtain ⟨i, hi, e⟩ := zc_l5i hV.1
    have h3 := hV.2
    rw [e] at hd h3
    have := zc_k_one (h := h) (a := zc_hf s) (D := -1) h3 (by rw [hd]; rfl) 48 hi
    have e0 : ((-1 : Int) + 1) = ((0 : Nat) : Int) := rfl
    rw [e0] at this
    omega
  | succ D ih =>
    intro s hV hd
    have d := zc_dep (zc_Q_r hA) hV
    have t := hA.2.1 s hV.1
    cases d.2 with
    | inl u =>
      cases t with
      | inl t => exact absurd t.1 (by rw [hV.2]; decide)
      | inr t =>
        cases t.2.2.1 with
        | inl w => have := w.2; omega
        | inr w => rw [u] at w; have := w.1; rw [zv_lay0] at this; cases this
    | inr u =>
      have i1 := ih _ u.1 (by have := u.2.2; omega)
      rw [u.2.1] at i1
      obtain ⟨i, hi, e⟩ := zc_l5i hV.1
      have h3 := hV.2
      rw [e] at hd h3
      have := zc_k_one (h := h) (a := zc_hf s) (D := (D : Int)) h3 (by rw [hd]; omega) 48 hi
      rw [show ((D + 1 : Nat) : Int) = (D : Int) + 1 by omega]
      omega
/-- where one State is free, one can go deeper -/
theorem zc_room {h : zv_H} (hA : zc_A h) {p : Nat} (hV : zc_V h p) {j : Nat} (hj : j < 48) (h3 : zv_I h (zc_stt (zc_hf p) j) 3 ≠ 1) : zv_I h p 10 ≤ 46 := by
  have d := (zc_dep (zc_Q_r hA) hV).1
  have := zc_deep hA (zv_I h p 10).toNat p hV (by omega)
  have := zc_k_lt (D := ((zv_I h p 10).toNat : Int)) h3 48 hj
  omega
end
/-! 99b.grow -/
section
/-! ===== the class: a new State ===== -/
theorem zc_sIr {h : zv_H} {s j : Nat} {v : Int} (a : ∀ k, zv_rg (zv_I h s k)) (hv : zv_rg v) : ∀ k, zv_rg (zv_I (zv_sI h s j v) s k) := fun k => by
  by_cases e : k = j
  · rw [e, zc_sI2]; exact hv
  · rw [zc_sI1 _ _ _ _ (fun q => e q.2)]; exact a k
section
variable {α : Type} {h : zv_H} {r c k : Nat} {P : α → Prop}
theorem zc_dI {v : Int} {g : zv_H → Option α} (ob : zv_ob h r c) (n : zm_R (g (zv_sI h r k v)) P) : zm_R ((zv_pI h r c k v).bind g) P := by
  rw [zm_e (show zv_pI h r c k v = some _ from if_pos ob)]
  exact n
theorem zc_dZ {v : Int} {g : zv_H → Option α} (ob : zv_ob h r c) (hv : v = 0 ∨ v = 1) (n : zm_R (g (zv_sI h r k v)) P) : zm_R ((zv_pZ h r c k v).bind g) P := by
  rw [zm_e (show zv_pZ h r c k v = some _ from if_pos ⟨ob, hv⟩)]
  exact n
theorem zc_dJ {v : Int64} {g : zv_H → Option α} (ob : zv_ob h r c) (n : zm_R (g (zv_sJ h r k v)) P) : zm_R ((zv_pJ h r c k v).bind g) P := by
  rw [zm_e (show zv_pJ h r c k v = some _ from if_pos ob)]
  exact n
theorem zc_dR {v : Nat} {g : zv_H → Option α} (ob : zv_ob h r c) (n : zm_R (g (zv_sR h r k v)) P) : zm_R ((zv_pR h r c k v).bind g) P := by
  rw [zm_e (show zv_pR h r c k v = some _ from if_pos ob)]
  exact n
theorem zc_eI {v : Int} {g : Int → Option α} (ob : zv_ob h r c) (e : zv_I h r k = v) (n : zm_R (g v) P) : zm_R ((zv_gI h r c k).bind g) P := by
  rw [zm_e (show zv_gI h r c k = some _ from if_pos ob), e]
  exact n
theorem zc_eR {v : Nat} {g : Nat → Option α} (ob : zv_ob h r c) (e : zv_R h r k = v) (n : zm_R (g v) P) : zm_R ((zv_gR h r c k).bind g) P := by
  rw [zm_e (show zv_gR h r c k = some _ from if_pos ob), e]
  exact n
end
/-- what State.open leaves -/
def zc_N (h h' : zv_H) (s p : Nat) : Prop := h'.1 = h.1 ∧ h'.2.2.2.2 = h.2.2.2.2 ∧ (∀ r, r ≠ s → h'.2.1 r = h.2.1 r ∧ h'.2.2.1 r = h.2.2.1 r ∧ h'.2.2.2.1 r = h.2.2.2.1 r) ∧ (∀ k, zv_rg (zv_I h' s k)) ∧ zv_I h' s 0 = zv_I h s 0 ∧ zv_I h' s 3 = 1 ∧ zv_R h' s 4 = p ∧ zv_R h' s 5 = s ∧ zv_I h' s 10 = (if p = 0 then 0 else zv_w (zv_I h p 10 + 1)) ∧ zv_I h' s 11 = 0 ∧ zv_I h' s 12 = 0 ∧ (∀ k, k ≠ 4 → k ≠ 5 → zv_R h' s k = zv_R h s k)
theorem zc_E5_open {d : Nat} {h : zv_H} {s p : Nat} {x y z : Int} (ob : zv_ob h s 5) (op : p = 0 ∨ (zv_ob h p 5 ∧ p ≠ s)) (rx : zv_rg x) (ry : zv_rg y) (rz : zv_rg z) (rr : ∀ k, zv_rg (zv_I h s k)) : zm_R (E5_open d s p x y z h) (zm_V fun h' => zc_N h h' s p) := by
  have r0 : zv_rg 0 := by unfold zv_rg; omega
  have r1 : zv_rg 1 := by unfold zv_rg; omega
  have rm : zv_rg (-1) := by unfold zv_rg; omega
  have tail : ∀ (g : zv_H) (w : Int), zv_rg w → g.1 = h.1 → g.2.2.2.2 = h.2.2.2.2 → (∀ r, r ≠ s → g.2.1 r = h.2.1 r ∧ g.2.2.1 r = h.2.2.1 r ∧ g.2.2.2.1 r = h.2.2.2.1 r) → (∀ k, zv_rg (zv_I g s k)) → zv_I g s 0 = zv_I h s 0 → zv_I g s 3 = 1 → zv_R g s 4 = p → zv_R g s 5 = s → (∀ k, k ≠ 4 → k ≠ 5 → zv_R g s k = zv_R h s k) → w = (if p = 0 then 0 else zv_w (zv_I h p 10 + 1)) → zm_R (L5_open_51 d s s w g) (zm_V fun h' => zc_N h h' s p) := by
    intro g w rw' g1 g2 g3 g4 g5 g6 g7 g8 g10 g9
    have ob' : zv_ob g s 5 := ⟨by have := ob.1; unfold zv_n at *; rw [g1]; exact this, ob.2⟩
    rw [qL5_open_51]
    refine zc_dI ob' ?_
    refine zc_dI ob' ?_
    refine zc_dI ob' ?_
    refine zc_dI ob' ?_
    refine zc_dI ob' ?_
    refine zc_dI ob' ?_
    refine zc_dJ ob' ?_
    refine zc_dJ ob' ?_
    refine zm_iV ⟨g1, g2, fun r hr => ⟨?_, ?_, (g3 r hr).2.2⟩, ?_, ?_, ?_, g7, g8, ?_, ?_, ?_, g10⟩
    · rw [← (g3 r hr).1]
      funext b
      simp [zv_sI, zv_sJ, zv_up, hr]
    · rw [← (g3 r hr).2.1]
      funext b
      simp [zv_sI, zv_sJ, zv_up, hr]
    · exact zc_sIr (zc_sIr (zc_sIr (zc_sIr (zc_sIr (zc_sIr g4 rw') r0) r0) r0) r0) rm
    · rw [← g5]
      simp [zv_I, zv_sI, zv_sJ, zv_up]
    · rw [← g6]
      simp [zv_I, zv_sI, zv_sJ, zv_up]
    · rw [← g9]
      simp [zv_I, zv_sI, zv_sJ, zv_up]
    · simp [zv_I, zv_sI, zv_sJ, zv_up]
    · simp [zv_I, zv_sI, zv_sJ, zv_up]
  have A : ∀ w : Int, zv_rg w → w = (if p = 0 then 0 else zv_w (zv_I h p 10 + 1)) → zm_R (L5_open_51 d s s w (zv_sI (zv_sI (zv_sI (zv_sI (zv_sR (zv_sR (zv_sI h s 3 1) s 4 p) s 5 s) s 6 x) s 7 0) s 8 y) s 9 z)) (zm_V fun h' => zc_N h h' s p) := by
    intro w rw' ew
    refine tail _ w rw' rfl rfl (fun r hr => ⟨?_, ?_, ?_⟩) (zc_sIr (zc_sIr (zc_sIr (zc_sIr (zc_sIr rr r1) rx) r0) ry) rz) ?_ ?_ ?_ ?_ (fun k k4 k5 => ?_) ew
    · funext b
      simp [zv_sI, zv_sR, zv_up, hr]
    · funext b
      simp [zv_sI, zv_sR]
    · funext b
      simp [zv_sI, zv_sR, zv_up, hr]
    · simp [zv_I, zv_sI, zv_sR, zv_up]
    · simp [zv_I, zv_sI, zv_sR, zv_up]
    · simp [zv_R, zv_sI, zv_sR, zv_up]
    · simp [zv_R, zv_sI, zv_sR, zv_up]
    · simp [zv_R, zv_sI, zv_sR, zv_up, k4, k5]
  rw [qE5_open]
  refine zc_dZ ob (Or.inr rfl) ?_
  refine zc_dR ob ?_
  refine zc_dR ob ?_
  refine zc_dI ob ?_
  refine zc_dI ob ?_
  refine zc_dI ob ?_
  refine zc_dI ob ?_
  refine zm_if (fun c => A 0 r0 (by rw [if_pos c])) (fun c => ?_)
  have op' := op.resolve_left c
  refine zc_eI op'.1 rfl ?_
  refine A _ (zc_w _) ?_
  rw [if_neg c]
  simp [zv_I, zv_sI, zv_sR, zv_up, op'.2]
theorem zc_C5_open {d : Nat} {h : zv_H} {s p : Nat} {x y z : Int} (ob : zv_ob h s 5) (op : p = 0 ∨ (zv_ob h p 5 ∧ p ≠ s)) (rx : zv_rg x) (ry : zv_rg y) (rz : zv_rg z) (rr : ∀ k, zv_rg (zv_I h s k)) : zm_R (C5_open (d + 1) s p x y z h) (fun h' => zc_N h h' s p) := zm_cV (fun e => lC5_open ob e) (zc_E5_open ob op rx ry rz rr)
/-- at, exactly -/
theorem zc_at {d : Nat} {h : zv_H} (hA : zc_A h) {a : Nat} (ha : zv_lay a = (1, 0)) {i : Int} (h0 : 0 ≤ i) (h1 : i < 48) : C0_at (d + 1) a i h = some ((if zv_I h (zc_stt a i.toNat) 3 = 0 then 0 else zc_stt a i.toNat), h) := by
  refine lC0_at (zc_ob hA ha) ?_
  have s := zc_stl ha (show i.toNat < 48 by omega)
  have F := zc_Q_r hA
  have hl : zv_lay (a + 4) = (6, 48) := by cases zc_lh ha with
    | inl e => rw [e]; rfl
    | inr e => rw [e]; rfl
  have e1 : zv_aR h (a + 4) i = some (zc_stt a i.toNat) := by
    unfold zv_aR
    rw [if_pos ⟨zc_n hA.1 (zc_ly hl), by rw [hl], h0, by rw [hl]; exact h1⟩, hA.1.2.2.1 a i.toNat ha (by omega)]
  rw [qE0_at, if_neg (by omega), if_pos h1, zm_e (zc_gF hA ha 1 4 rfl (by decide)), zm_e e1, if_neg (zc_nz s.1), zm_e (zc_gI hA s.1 3)]
  by_cases c : zv_I h (zc_stt a i.toNat) 3 = 0
  · rw [if_pos c, if_pos c]
  · rw [if_neg c, if_neg c]
/-- one new State s below here -/
def zc_G (a : Nat) (h h' : zv_H) (s : Nat) : Prop := zv_lay s = (1, 5) ∧ zc_hf s = a ∧ zv_I h s 3 = 0 ∧ zv_R h s 4 = 0 ∧ zv_I h' s 3 = 1 ∧ zv_I h' s 11 = 0 ∧ zv_R h' s 4 = zv_R h a 10 ∧ zv_R h' a 10 = s ∧ (∀ t, zv_lay t = (1, 5) → t ≠ s → zv_I h' t 3 = zv_I h t 3 ∧ zv_R h' t 4 = zv_R h t 4 ∧ (zv_I h t 3 = 1 → zv_I h' t 11 = (if t = zv_R h a 10 then zv_I h t 11 + 1 else zv_I h t 11))) ∧ ∀ b, zv_lay b = (1, 0) → b ≠ a → zv_R h' b 10 = zv_R h b 10
theorem zc_qR {h h' : zv_H} (f : zc_q h h') {r c : Nat} (hr : zv_lay r = (1, c)) (k : Nat) : zv_R h' r k = zv_R h r k := congrFun (f.2.2.2.1 r (fun e => by rw [e] at hr; cases hr) (fun e => by rw [e] at hr; cases hr)) k
theorem zc_G_q {a : Nat} {h h1 h2 : zv_H} {s : Nat} (ha : zv_lay a = (1, 0)) (g : zc_G a h h1 s) (f : zc_q h1 h2) : zc_G a h h2 s := by
  obtain ⟨g1, g2, g3, g4, g5, g6, g7, g8, g9, g10⟩ := g
  have i := f.2.2.2.2.1
  exact ⟨g1, g2, g3, g4, (i s g1).2.1.trans g5, (i s g1).2.2.2.trans g6, (zc_qR f g1 4).trans g7, (zc_qR f ha 10).trans g8, fun t ht hs => ⟨(i t ht).2.1.trans (g9 t ht hs).1, (zc_qR f ht 4).trans (g9 t ht hs).2.1, fun q => (i t ht).2.2.2.trans ((g9 t ht hs).2.2 q)⟩, fun b hb hn => (zc_qR f hb 10).trans (g10 b hb hn)⟩
theorem zc_q_G {a : Nat} {h h1 h2 : zv_H} {s : Nat} (ha : zv_lay a = (1, 0)) (f : zc_q h h1) (g : zc_G a h1 h2 s) : zc_G a h h2 s := by
  obtain ⟨g1, g2, g3, g4, g5, g6, g7, g8, g9, g10⟩ := g
  have i := f.2.2.2.2.1
  refine ⟨g1, g2, (i s g1).2.1.symm.trans g3, (zc_qR f g1 4).symm.trans g4, g5, g6, g7.trans (zc_qR f ha 10), g8, fun t ht hs => ⟨(g9 t ht hs).1.trans (i t ht).2.1, (g9 t ht hs).2.1.trans (zc_qR f ht 4), fun q => ?_⟩, fun b hb hn => (g10 b hb hn).trans (zc_qR f hb 10)⟩
  have := (g9 t ht hs).2.2 ((i t ht).2.1.trans q)
  rw [zc_qR f ha 10, (i t ht).2.2.2] at this
  exact this
theorem zc_G_V {a : Nat} {h h' : zv_H} {s : Nat} (g : zc_G a h h' s) {t : Nat} (hV : zc_V h t) : zc_V h' t ∧ t ≠ s := by
  have ne : t ≠ s := fun e => by
    have := hV.2
    rw [e, g.2.2.1] at this
    cases this
  exact ⟨⟨hV.1, ((g.2.2.2.2.2.2.2.2.1 t hV.1 ne).1).trans hV.2⟩, ne⟩
/-- counting children, one more -/
theorem zc_ch_add {h h' : zv_H} {s p a i0 : Nat} (ha : zv_lay a = (1, 0)) (hi : i0 < 48) (es : s = zc_stt a i0) (hs : zv_R h s 4 = 0) (hs' : zv_R h' s 4 = p) (o : ∀ t, zv_lay t = (1, 5) → t ≠ s → zv_R h' t 4 = zv_R h t 4) {r : Nat} (hr : r ≠ 0) (hp : r = p → zc_hf r = a) : ∀ n, n ≤ 48 → zc_ch h' r n = zc_ch h r n + (if r = p ∧ i0 < n then 1 else 0) := by
  intro n
  induction n with
  | zero => intro _; rw [if_neg (fun q => Nat.not_lt_zero _ q.2)]; rfl
  | succ n ih =>
    intro hn
    have l := zc_stl (zc_hl r) (show n < 48 by omega)
    have e1 : ∀ g : zv_H, zc_ch g r (n + 1) = zc_ch g r n + (if zv_R g (zc_stt (zc_hf r) n) 4 = r then 1 else 0) := fun _ => rfl
    rw [e1, e1, ih (by omega)]
    by_cases q : zc_stt (zc_hf r) n = s
    · have q1 : zc_hf r = a := by
        have := l.2.1
        rw [q, es, (zc_stl ha hi).2.1] at this
        exact this.symm
      have q2 : n = i0 := by
        rw [q1, es] at q
        exact zc_stinj ha q
      subst q2
      rw [q, hs, hs', if_neg (show ¬ (r = p ∧ n < n) by omega), if_neg (show ¬ 0 = r by omega)]
      by_cases w : r = p
      · rw [if_pos w.symm, if_pos ⟨w, Nat.lt_succ_self n⟩]
      · rw [if_neg (fun e => w e.symm), if_neg (fun e => w e.1)]
    · rw [o _ l.1 q]
      have ne : r = p → n ≠ i0 := fun w e => q (by rw [hp w, e]; exact es.symm)
      by_cases w : r = p ∧ i0 < n
      · rw [if_pos w, if_pos (show r = p ∧ i0 < n + 1 from ⟨w.1, by omega⟩)]; omega
      · rw [if_neg w, if_neg (show ¬ (r = p ∧ i0 < n + 1) from fun e => w ⟨e.1, by have := ne e.1; omega⟩)]; omega
end
/-! 99c.grow -/
section
/-! ===== the class: a new State keeps what holds ===== -/
theorem zc_growA {h g : zv_H} {a s p i0 : Nat} (hA : zc_A h) (ha : zv_lay a = (1, 0)) (hp : p = zv_R h a 10) (hi : i0 < 48) (es : s = zc_stt a i0) (h3 : zv_I h s 3 ≠ 1) (g1 : g.1 = h.1)
  (iO : ∀ r k, r ≠ s → ¬ (r = p ∧ k = 11) → ¬ (r = a ∧ k = 12) → zv_I g r k = zv_I h r k)
  (rO : ∀ r k, ¬ (r = s ∧ (k = 4 ∨ k = 5)) → ¬ (r = a ∧ k = 10) → zv_R g r k = zv_R h r k)
  (rg : ∀ r k, r < 347 → zv_rg (zv_I g r k)) (is0 : zv_I g s 0 = zv_I h s 0) (is3 : zv_I g s 3 = 1) (rs4 : zv_R g s 4 = p) (rs5 : zv_R g s 5 = s) (is10 : zv_I g s 10 = zv_I h p 10 + 1) (is11 : zv_I g s 11 = 0) (is12 : zv_I g s 12 = 0) (ip : zv_I g p 11 = zv_I h p 11 + 1) (ra : zv_R g a 10 = s) : zc_A g ∧ zc_G a h g s := by
  have sl := zc_stl ha hi
  rw [← es] at sl
  have F := zc_Q_r hA
  have hV := zc_hV F ha
  rw [← hp] at hV
  have nep : p ≠ s := fun e => h3 (by rw [← e]; exact hV.1.2)
  have h30 : zv_I h s 3 = 0 ∧ zv_R h s 4 = 0 := by
    cases hA.2.1 s sl.1 with
    | inl t => exact t
    | inr t => exact absurd t.1 h3
  have ls : ∀ r x, zv_lay r = x → x ≠ (1, 5) → r ≠ s := fun r x e n q => n (by rw [← e, q, sl.1])
  have lp : ∀ r x, zv_lay r = x → x ≠ (1, 5) → r ≠ p := fun r x e n q => n (by rw [← e, q, hV.1.1])
  have la : ∀ r x, zv_lay r = x → x ≠ (1, 0) → r ≠ a := fun r x e n q => n (by rw [← e, q, ha])
  have hB := hA.1
  have l4 : ∀ a', zv_lay a' = (1, 0) → zv_lay (a' + 4) = (6, 48) := fun a' h' => by cases zc_lh h' with
    | inl e => rw [e]; rfl
    | inr e => rw [e]; rfl
  have l17 : ∀ r, zv_lay r = (1, 4) → zv_lay (r + 1) = (6, 48) := fun a' h' => by cases zc_l4 h' with
    | inl e => rw [e]; rfl
    | inr e => rw [e]; rfl
  have B : zc_B g := by
    refine ⟨?_, fun r k hr hk => ?_, fun a' i h' hi' => ?_, ?_, rg, fun r c k m hr hm => ?_, fun r k hr => ?_, fun a' i h' hi' => ?_⟩
    · unfold zv_n
      rw [g1]
      exact hB.1
    · rw [rO r k (fun q => ?_) (fun q => ?_)]
      · exact hB.2.1 r k hr hk
      · rw [q.1, sl.1] at hk
        cases q.2 with
        | inl e => rw [e] at hk; exact hk rfl
        | inr e => rw [e] at hk; exact hk rfl
      · rw [q.1, ha, q.2] at hk
        exact hk rfl
    · rw [rO _ _ (fun q => ls _ _ (l4 a' h') (by decide) q.1) (fun q => la _ _ (l4 a' h') (by decide) q.1)]
      exact hB.2.2.1 a' i h' hi'
    · have n1 : ∀ k, zv_R g 1 k = zv_R h 1 k := fun k => rO _ _ (fun q => ls 1 (1, 8) rfl (by decide) q.1) (fun q => la 1 (1, 8) rfl (by decide) q.1)
      rw [n1, n1]
      exact hB.2.2.2.1
    · by_cases e : r = s
      · rw [e, sl.1] at hr
        cases hr
        have k12 : k = 12 ∧ m = 120 := by
          unfold zc_bd at hm
          rw [if_neg (fun q => absurd q.1 (by decide))] at hm
          by_cases q : (5 = 5 ∧ k = 12)
          · rw [if_pos q] at hm
            cases hm
            exact ⟨q.2, rfl⟩
          · rw [if_neg q, if_neg (fun q => absurd q.1 (by decide))] at hm
            cases hm
        rw [e, k12.1, is12, k12.2]
        decide
      · rw [iO r k e (fun q => ?_) (fun q => ?_)]
        · exact hB.2.2.2.2.2.1 r c k m hr hm
        · rw [q.1, hV.1.1] at hr
          cases hr
          rw [q.2] at hm
          cases hm
        · rw [q.1, ha] at hr
          cases hr
          rw [q.2] at hm
          cases hm
    · rw [rO _ _ (fun q => ls _ _ (l17 r hr) (by decide) q.1) (fun q => la _ _ (l17 r hr) (by decide) q.1)]
      exact hB.2.2.2.2.2.2.1 r k hr
    · have sl' := zc_stl h' hi'
      by_cases e : zc_stt a' i = s
      · have := hB.2.2.2.2.2.2.2 a' i h' hi'
        rw [e] at this ⊢
        exact is0.trans this
      · rw [iO _ _ e (fun q => by cases q.2) (fun q => by cases q.2)]
        exact hB.2.2.2.2.2.2.2 a' i h' hi'
  have i3 : ∀ t, t ≠ s → zv_I g t 3 = zv_I h t 3 := fun t e => iO _ _ e (fun q => by cases q.2) (fun q => by cases q.2)
  have i10 : ∀ t, t ≠ s → zv_I g t 10 = zv_I h t 10 := fun t e => iO _ _ e (fun q => by cases q.2) (fun q => by cases q.2)
  have r4 : ∀ t, zv_lay t = (1, 5) → t ≠ s → zv_R g t 4 = zv_R h t 4 := fun t ht e => rO _ _ (fun q => e q.1) (fun q => la t _ ht (by decide) q.1)
  have r5 : ∀ t, zv_lay t = (1, 5) → t ≠ s → zv_R g t 5 = zv_R h t 5 := fun t ht e => rO _ _ (fun q => e q.1) (fun q => la t _ ht (by decide) q.1)
  have cnt : ∀ r, r ≠ 0 → (r = p → zc_hf r = a) → zc_ch g r 48 = zc_ch h r 48 + (if r = p then 1 else 0) := fun r hr hrp => by
    rw [zc_ch_add ha hi es h30.2 rs4 r4 hr hrp 48 (Nat.le_refl _)]
    by_cases c : r = p
    · rw [if_pos ⟨c, hi⟩, if_pos c]
    · rw [if_neg (fun q => c q.1), if_neg c]
  have dp := (zc_dep F hV.1).1
  have room := zc_room hA hV.1 (j := i0) hi (by rw [hV.2, ← es]; exact h3)
  have T : zc_T g := by
    refine ⟨fun t ht => ?_, fun b hb => ?_⟩
    · by_cases e : t = s
      · subst e
        refine Or.inr ⟨is3, by rw [is10]; omega, Or.inr ?_, Or.inl rs5, ?_⟩
        · rw [rs4]
          refine ⟨hV.1.1, (i3 p nep).trans hV.1.2, hV.2.trans sl.2.1.symm, ?_⟩
          rw [i10 p nep, is10]
        · rw [is11, cnt t (zc_nz sl.1) (fun q => absurd q.symm nep), if_neg (fun q => nep q.symm)]
          have c0 : ∀ n, n ≤ 48 → zc_ch h t n = 0 := by
            intro n
            induction n with
            | zero => intro _; rfl
            | succ n ih =>
              intro hn
              have l := zc_stl (zc_hl t) (show n < 48 by omega)
              show zc_ch h t n + (if zv_R h (zc_stt (zc_hf t) n) 4 = t then 1 else 0) = 0
              rw [ih (by omega), if_neg ?_]
              · rfl
              · intro q
                cases hA.2.1 _ l.1 with
                | inl u => exact zc_nz sl.1 (q.symm.trans u.2)
                | inr u =>
                  cases u.2.2.1 with
                  | inl w => exact zc_nz sl.1 (q.symm.trans w.1)
                  | inr w => have := w.2.1; rw [q] at this; exact h3 this
          rw [c0 48 (Nat.le_refl _)]
          rfl
      · cases hA.2.1 t ht with
        | inl u => exact Or.inl ⟨(i3 t e).trans u.1, (r4 t ht e).trans u.2⟩
        | inr u =>
          have nq : zv_R h t 4 ≠ 0 → zv_lay (zv_R h t 4) = (1, 5) ∧ zv_R h t 4 ≠ s := fun q => by
            cases u.2.2.1 with
            | inl w => exact absurd w.1 q
            | inr w => exact ⟨w.1, fun q1 => by have := w.2.1; rw [q1] at this; exact h3 this⟩
          refine Or.inr ⟨(i3 t e).trans u.1, by rw [i10 t e]; exact u.2.1, ?_, ?_, ?_⟩
          · rw [r4 t ht e, i10 t e]
            cases u.2.2.1 with
            | inl w => exact Or.inl w
            | inr w =>
              have n1 := (nq (zc_nz w.1)).2
              refine Or.inr ⟨w.1, (i3 _ n1).trans w.2.1, w.2.2.1, ?_⟩
              rw [i10 _ n1]
              exact w.2.2.2
          · rw [r4 t ht e, r5 t ht e]
            cases u.2.2.2.1 with
            | inl w => exact Or.inl w
            | inr w =>
              have n1 := nq w.1
              refine Or.inr ⟨w.1, ?_⟩
              rw [r5 _ n1.1 n1.2]
              exact w.2
          · rw [cnt t (zc_nz ht) (fun q => by rw [q]; exact hV.2), ← u.2.2.2.2]
            by_cases c : t = p
            · rw [c, if_pos rfl, ip]
            · rw [if_neg c, iO t 11 e (fun q => c q.1) (fun q => by cases q.2)]
              omega
    · by_cases e : b = a
      · rw [e, ra]
        exact ⟨sl.1, is3, sl.2.1⟩
      · have u := hA.2.2 b hb
        rw [rO b 10 (fun q => ls b _ hb (by decide) q.1) (fun q => e q.1)]
        refine ⟨u.1, ?_, u.2.2⟩
        rw [i3 _ (fun q => ?_)]
        · exact u.2.1
        · have := u.2.1
          rw [q] at this
          exact h3 this
  refine ⟨⟨B, T⟩, sl.1, sl.2.1, h30.1, h30.2, is3, is11, rs4.trans hp, ra, fun t ht e => ⟨i3 t e, r4 t ht e, fun q => ?_⟩, fun b hb e => rO b 10 (fun q => ls b _ hb (by decide) q.1) (fun q => e q.1)⟩
  rw [← hp]
  by_cases c : t = p
  · rw [if_pos c, c, ip]
  · rw [if_neg c, iO t 11 e (fun q => c q.1) (fun q => by cases q.2)]
theorem zc_PB {h h' : zv_H} (f1 : h'.1 = h.1) (f2 : h'.2.2.2.2 = h.2.2.2.2) (f3 : ∀ r, 347 ≤ r → h'.2.1 r = h.2.1 r ∧ h'.2.2.1 r = h.2.2.1 r ∧ h'.2.2.2.1 r = h.2.2.2.1 r) (f4 : zv_I h' 5 2 = zv_I h 5 2) : zc_P h h' := ⟨f1, f2, f3, f4⟩
/-- grow: refused, or one new State -/
def zc_gr (a : Nat) (h : zv_H) (q : Nat × zv_H) : Prop := (q.1 = 0 ∧ q.2 = h) ∨ (zc_X h q.2 ∧ zc_G a h q.2 q.1)
theorem zc_sIo (h : zv_H) (r k : Nat) (v : Int) {b : Nat} (hb : b ≠ r) : (zv_sI h r k v).2.1 b = h.2.1 b := by
  funext c
  exact if_neg (fun q => hb q.1)
theorem zc_sRo (h : zv_H) (r k : Nat) (v : Nat) {b : Nat} (hb : b ≠ r) : (zv_sR h r k v).2.2.2.1 b = h.2.2.2.1 b := by
  funext c
  exact if_neg (fun q => hb q.1)
theorem zc_L0_grow_25 {d : Nat} {h : zv_H} {a : Nat} {x y z i : Int} (hA : zc_A h) (ha : zv_lay a = (1, 0)) (rx : zv_rg x) (ry : zv_rg y) (rz : zv_rg z) (h0 : 0 ≤ i) (h1 : i < 48 → zv_I h (zc_stt a i.toNat) 3 ≠ 1) : zm_R (L0_grow_25 (d + 1) a x y z i h) (fun o => ∃ q, o = (some (zv_r q.1), q.2) ∧ zc_gr a h q) := by
  have F := zc_Q_r hA
  rw [qL0_grow_25]
  by_cases c : i < 48
  · have s1 := zc_stl ha (show i.toNat < 48 by omega)
    have h3 := h1 c
    have hV := zc_hV F ha
    have hl : zv_lay (a + 4) = (6, 48) := by cases zc_lh ha with
      | inl e => rw [e]; rfl
      | inr e => rw [e]; rfl
    have e1 : zv_aR h (a + 4) i = some (zc_stt a i.toNat) := by
      unfold zv_aR
      rw [if_pos ⟨zc_n hA.1 (zc_ly hl), by rw [hl], h0, by rw [hl]; exact c⟩, hA.1.2.2.1 a i.toNat ha (by omega)]
    rw [if_pos c, zm_e (zc_gF hA ha 1 4 rfl (by decide)), zm_e e1, if_neg (zc_nz s1.1), zm_e (zc_gF hA ha 1 4 rfl (by decide)), zm_e e1, zm_e (zc_gR hA ha 10)]
    have es : zc_stt a i.toNat = zc_stt a i.toNat := rfl
    generalize hs : zc_stt a i.toNat = s at *
    generalize hp : zv_R h a 10 = p at *
    have nep : p ≠ s := fun e => h3 (by rw [← e]; exact hV.1.2)
    have nas : a ≠ s := fun e => by rw [e, s1.1] at ha; cases ha
    have nap : a ≠ p := fun e => by rw [e, hV.1.1] at ha; cases ha
    have room := zc_room hA hV.1 (j := i.toNat) (by omega) (by rw [hV.2, hs]; exact h3)
    have dp := (zc_dep F hV.1).1
    have cb := zc_chb hA hV.1
    obtain ⟨g6, e6, N⟩ := zc_C5_open (d := d) (x := x) (y := y) (z := z) (zc_ob hA s1.1) (Or.inr ⟨zc_ob hA hV.1.1, nep⟩) rx ry rz (fun k => zc_rg hA (zc_lt s1.1 (by decide)) k)
    obtain ⟨n1, n2, n3, n4, n5, n6, n7, n8, n9, n10, n11, n12⟩ := N
    rw [zm_e e6]
    have nn : zv_n g6 = zv_n h := by unfold zv_n; rw [n1]
    have oa : zv_ob g6 a 0 := ⟨by rw [nn]; exact (zc_ob hA ha).1, ha⟩
    have os : zv_ob g6 s 5 := ⟨by rw [nn]; exact (zc_ob hA s1.1).1, s1.1⟩
    have op : zv_ob g6 p 5 := ⟨by rw [nn]; exact (zc_ob hA hV.1.1).1, hV.1.1⟩
    have ra : zv_R g6 a = zv_R h a := (n3 a nas).2.2
    have ia : zv_I g6 a = zv_I h a := (n3 a nas).1
    have ipp : zv_I g6 p = zv_I h p := (n3 p nep).1
    refine zc_eI oa rfl ?_
    refine zc_dI os ?_
    refine zc_eR oa (by rw [show zv_R (zv_sI g6 s 7 (zv_I g6 a 11)) a 10 = zv_R g6 a 10 from rfl, ra, hp]) ?_
    refine zc_eI op (v := zv_I h p 11) (by rw [zc_sI1 _ _ _ _ (fun q => nep q.1), ipp]) ?_
    refine zc_dI op ?_
    refine zc_eI oa (v := zv_I h a 12) (by rw [zc_sI1 _ _ _ _ (fun q => nap q.1), zc_sI1 _ _ _ _ (fun q => nas q.1), ia]) ?_
    refine zc_dI oa ?_
    refine zc_dR oa ?_
    rw [zm_w (show -2147483648 ≤ zv_I h p 11 + 1 ∧ zv_I h p 11 + 1 < 2147483648 by omega)]
    have r11 : zv_rg (zv_I g6 a 11) := by rw [ia]; exact zc_rg hA (zc_lt ha (by decide)) 11
    have K : zc_A (zv_sR (zv_sI (zv_sI (zv_sI g6 s 7 (zv_I g6 a 11)) p 11 (zv_I h p 11 + 1)) a 12 (zv_w (zv_I h a 12 + 1))) a 10 s) ∧ zc_G a h (zv_sR (zv_sI (zv_sI (zv_sI g6 s 7 (zv_I g6 a 11)) p 11 (zv_I h p 11 + 1)) a 12 (zv_w (zv_I h a 12 + 1))) a 10 s) s := by
      refine zc_growA (p := p) (i0 := i.toNat) hA ha hp.symm (by omega) hs.symm h3 n1 (fun r k c1 c2 c3 => ?_) (fun r k c1 c2 => ?_) (fun r k hr => ?_) ?_ ?_ ?_ ?_ ?_ ?_ ?_ ?_ ?_
      · rw [show ∀ g, zv_I (zv_sR g a 10 s) r k = zv_I g r k from fun _ => rfl, zc_sI1 _ _ _ _ c3, zc_sI1 _ _ _ _ c2, zc_sI1 _ _ _ _ (fun q => c1 q.1)]
        exact congrFun (n3 r c1).1 k
      · rw [show ∀ g, zv_R (zv_sR g a 10 s) r k = zv_R g r k from fun _ => if_neg c2]
        rw [show ∀ g r' k' v, zv_R (zv_sI g r' k' v) r k = zv_R g r k from fun _ _ _ _ => rfl, show ∀ g r' k' v, zv_R (zv_sI g r' k' v) r k = zv_R g r k from fun _ _ _ _ => rfl, show ∀ g r' k' v, zv_R (zv_sI g r' k' v) r k = zv_R g r k from fun _ _ _ _ => rfl]
        by_cases q : r = s
        · rw [q]
          exact n12 k (fun e => c1 ⟨q, Or.inl e⟩) (fun e => c1 ⟨q, Or.inr e⟩)
        · exact congrFun (n3 r q).2.2 k
      · rw [show ∀ g, zv_I (zv_sR g a 10 s) r k = zv_I g r k from fun _ => rfl]
        have b6 : ∀ r k, r < 347 → zv_rg (zv_I g6 r k) := fun r k hr => by
          by_cases q : r = s
          · rw [q]; exact n4 k
          · rw [show zv_I g6 r = zv_I h r from (n3 r q).1]; exact zc_rg hA hr k
        have st : ∀ (g : zv_H) (r' k' : Nat) (v : Int), (∀ r k, r < 347 → zv_rg (zv_I g r k)) → zv_rg v → ∀ r k, r < 347 → zv_rg (zv_I (zv_sI g r' k' v) r k) := fun g r' k' v hg hv r k hr => by
          by_cases q : r = r' ∧ k = k'
          · rw [q.1, q.2, zc_sI2]; exact hv
          · rw [zc_sI1 _ _ _ _ q]; exact hg r k hr
        exact st _ _ _ _ (st _ _ _ _ (st _ _ _ _ b6 r11) (by unfold zv_rg; omega)) (zc_w _) r k hr
      · rw [show ∀ g, zv_I (zv_sR g a 10 s) s 0 = zv_I g s 0 from fun _ => rfl, zc_sI1 _ _ _ _ (fun q => nas q.1.symm), zc_sI1 _ _ _ _ (fun q => nep q.1.symm), zc_sI1 _ _ _ _ (fun q => absurd q.2 (by decide))]
        exact n5
      · rw [show ∀ g, zv_I (zv_sR g a 10 s) s 3 = zv_I g s 3 from fun _ => rfl, zc_sI1 _ _ _ _ (fun q => nas q.1.symm), zc_sI1 _ _ _ _ (fun q => nep q.1.symm), zc_sI1 _ _ _ _ (fun q => absurd q.2 (by decide))]
        exact n6
      · exact (show zv_R (zv_sR _ a 10 s) s 4 = zv_R g6 s 4 from if_neg (fun q => absurd q.2 (by decide))).trans n7
      · exact (show zv_R (zv_sR _ a 10 s) s 5 = zv_R g6 s 5 from if_neg (fun q => absurd q.2 (by decide))).trans n8
      · rw [show ∀ g, zv_I (zv_sR g a 10 s) s 10 = zv_I g s 10 from fun _ => rfl, zc_sI1 _ _ _ _ (fun q => nas q.1.symm), zc_sI1 _ _ _ _ (fun q => nep q.1.symm), zc_sI1 _ _ _ _ (fun q => absurd q.2 (by decide)), n9, if_neg (zc_nz hV.1.1), zm_w (by omega)]
      · rw [show ∀ g, zv_I (zv_sR g a 10 s) s 11 = zv_I g s 11 from fun _ => rfl, zc_sI1 _ _ _ _ (fun q => nas q.1.symm), zc_sI1 _ _ _ _ (fun q => nep q.1.symm), zc_sI1 _ _ _ _ (fun q => absurd q.2 (by decide))]
        exact n10
      · rw [show ∀ g, zv_I (zv_sR g a 10 s) s 12 = zv_I g s 12 from fun _ => rfl, zc_sI1 _ _ _ _ (fun q => nas q.1.symm), zc_sI1 _ _ _ _ (fun q => nep q.1.symm), zc_sI1 _ _ _ _ (fun q => absurd q.2 (by decide))]
        exact n11
      · rw [show ∀ g, zv_I (zv_sR g a 10 s) p 11 = zv_I g p 11 from fun _ => rfl, zc_sI1 _ _ _ _ (fun q => nap q.1.symm), zc_sI2]
      · exact if_pos ⟨rfl, rfl⟩
    have PP : zc_P h (zv_sR (zv_sI (zv_sI (zv_sI g6 s 7 (zv_I g6 a 11)) p 11 (zv_I h p 11 + 1)) a 12 (zv_w (zv_I h a 12 + 1))) a 10 s) := by
      have lts := zc_lt s1.1 (by decide)
      have ltp := zc_lt hV.1.1 (by decide)
      have lta := zc_lt ha (by decide)
      have s5 : 5 ≠ s := fun e => by rw [← e] at s1; exact absurd s1.1 (by decide)
      have p5 : 5 ≠ p := fun e => by rw [← e] at hV; exact absurd hV.1.1 (by decide)
      have a5 : 5 ≠ a := fun e => by rw [← e] at ha; exact absurd ha (by decide)
      refine ⟨n1, n2, fun r hr => ⟨?_, (n3 r (by omega)).2.1, ?_⟩, ?_⟩
      · rw [show ∀ g : zv_H, (zv_sR g a 10 s).2.1 = g.2.1 from fun _ => rfl, zc_sIo _ _ _ _ (by omega), zc_sIo _ _ _ _ (by omega), zc_sIo _ _ _ _ (by omega)]
        exact (n3 r (by omega)).1
      · rw [zc_sRo _ _ _ _ (by omega)]
        exact (n3 r (by omega)).2.2
      · rw [show ∀ g, zv_I (zv_sR g a 10 s) 5 2 = zv_I g 5 2 from fun _ => rfl, zc_sI1 _ _ _ _ (fun q => a5 q.1), zc_sI1 _ _ _ _ (fun q => p5 q.1), zc_sI1 _ _ _ _ (fun q => s5 q.1)]
        exact congrFun (n3 5 s5).1 2
    generalize zv_sR (zv_sI (zv_sI (zv_sI g6 s 7 (zv_I g6 a 11)) p 11 (zv_I h p 11 + 1)) a 12 (zv_w (zv_I h a 12 + 1))) a 10 s = gg at K PP
    refine zc_rF (zc_Q_r K.1) 17 ha ?_
    refine zc_rI (zc_Q_r K.1) ha fun v16 e16 r16 => ?_
    refine zc_cV (zc_Q_r K.1) (zc_C6_add K.1 (zc_y0_7 ha).1 s1.1 r16) fun g17 F17 => ?_
    exact ⟨_, rfl, (s, g17), rfl, Or.inr ⟨⟨zc_P_t PP (zc_qP F17.1), F17.2⟩, zc_G_q ha K.2 F17.1⟩⟩
  · rw [if_neg c]
    exact ⟨_, rfl, (0, h), rfl, Or.inl ⟨rfl, rfl⟩⟩
theorem zc_E0_grow {d : Nat} {h : zv_H} {a : Nat} {x y z : Int} (hA : zc_A h) (ha : zv_lay a = (1, 0)) (rx : zv_rg x) (ry : zv_rg y) (rz : zv_rg z) : zm_R (E0_grow (d + 1) a x y z h) (fun o => ∃ q, o = (some (zv_r q.1), q.2) ∧ zc_gr a h q) := by
  have loop : ∀ (n : Nat) (i : Int), 0 ≤ i → (48 - i).toNat = n → zm_R (L0_grow_3 (d + 1) a x y z i h) (fun o => ∃ q, o = (some (zv_r q.1), q.2) ∧ zc_gr a h q) := by
    intro n
    induction n with
    | zero =>
      intro i h0 hn
      rw [qL0_grow_3, if_neg (by omega)]
      exact zc_L0_grow_25 hA ha rx ry rz h0 (fun q => absurd q (by omega))
    | succ n ih =>
      intro i h0 hn
      rw [qL0_grow_3, if_pos (by omega), zm_e (zc_at hA ha h0 (by omega))]
      dsimp only
      by_cases c : zv_I h (zc_stt a i.toNat) 3 = 0
      · rw [if_pos c, if_pos rfl]
        exact zc_L0_grow_25 hA ha rx ry rz h0 (fun _ => by rw [c]; decide)
      · rw [if_neg c, if_neg (zc_nz (zc_stl ha (show i.toNat < 48 by omega)).1), zm_w (by omega)]
        exact ih _ (by omega) (by omega)
  rw [qE0_grow]
  exact loop _ 0 (by omega) rfl
theorem zc_C0_grow {d : Nat} {h : zv_H} {a : Nat} {x y z : Int} (hA : zc_A h) (ha : zv_lay a = (1, 0)) (rx : zv_rg x) (ry : zv_rg y) (rz : zv_rg z) : zm_R (C0_grow (d + 2) a x y z h) (zc_gr a h) := by
  obtain ⟨o, e, q, rfl, hq⟩ := zc_E0_grow (d := d) hA ha rx ry rz
  exact ⟨q, lC0_grow (zc_ob hA ha) e, hq⟩
end
/-! 99d.move -/
section
/-! ===== the class: going about ===== -/
def zc_Y (h h' : zv_H) : Prop := zc_X h h' ∧ ∀ t, zc_V h t → zc_V h' t
theorem zc_Y_t {h h1 h2 : zv_H} (f : zc_Y h h1) (g : zc_Y h1 h2) : zc_Y h h2 := ⟨zc_X_t f.1 g.1, fun t q => g.2 t (f.2 t q)⟩
theorem zc_QY {h h' : zv_H} (f : zc_Q h h') : zc_Y h h' := ⟨zc_QX f, fun _ q => zc_Vq f.1 q⟩
/-- a State of this History, or none -/
def zc_U (h : zv_H) (a s : Nat) : Prop := s = 0 ∨ (zc_V h s ∧ zc_hf s = a)
theorem zc_Uq {h h' : zv_H} (f : zc_q h h') {a s : Nat} (u : zc_U h a s) : zc_U h' a s := u.imp id (fun q => ⟨zc_Vq f q.1, q.2⟩)
theorem zc_Ub {h h' : zv_H} (f : zc_q h h') {a s : Nat} (u : zc_U h' a s) : zc_U h a s := u.imp id (fun q => ⟨zc_Vb f q.1, q.2⟩)
theorem zc_at2 {d : Nat} {h : zv_H} (hA : zc_A h) {a : Nat} (ha : zv_lay a = (1, 0)) {i : Int} (hi : zv_rg i) : zm_R (C0_at (d + 1) a i h) (fun q => q.2 = h ∧ zc_U h a q.1) := by
  have F := zc_Q_r hA
  refine zm_cN (P := fun v h' => h' = h ∧ zc_U h a v) (fun e => lC0_at (zc_ob hA ha) e) ?_
  rw [qE0_at]
  refine zm_if (fun c => zm_iN ⟨rfl, Or.inl rfl⟩) (fun c => ?_)
  refine zm_if (fun c1 => ?_) (fun c1 => zm_iN ⟨rfl, Or.inl rfl⟩)
  refine zc_rF F 4 ha ?_
  refine zc_rS F ha (by omega) c1 fun v l f e n => ?_
  rw [if_neg (zc_nz l)]
  refine zc_rI F l fun v3 e3 r3 => ?_
  refine zm_if (fun c2 => zm_iN ⟨rfl, Or.inl rfl⟩) (fun c2 => ?_)
  refine zm_iN ⟨rfl, Or.inr ⟨⟨l, ?_⟩, f⟩⟩
  cases hA.2.1 v l with
  | inl t => exact absurd (e3.trans t.1) c2
  | inr t => exact t.1
theorem zc_behind1 {d : Nat} {h : zv_H} (hA : zc_A h) {a : Nat} (ha : zv_lay a = (1, 0)) : zm_R (C0_behind (d + 1) a 1 h) (fun q => q.2 = h ∧ zc_U h a q.1) := by
  have F := zc_Q_r hA
  have hV := zc_hV F ha
  have hf := zc_fV1 hA _ _ hV.1 rfl
  have dp := (zc_dep F hf.1).2
  refine zm_cN (P := fun v h' => h' = h ∧ zc_U h a v) (fun e => lC0_behind (zc_ob hA ha) e) ?_
  rw [qE0_behind, zm_e (zc_gR hA ha 10), qL0_behind_7, if_pos (by decide), if_neg (zc_nz hV.1.1), zm_e (zc_gR hA hV.1.1 5), if_neg (zc_nz hf.1.1), zm_e (zc_gR hA hV.1.1 5), zm_e (zc_gR hA hf.1.1 4), qL0_behind_7, if_neg (by rw [zm_w (by omega)]; omega)]
  refine zm_iN ⟨rfl, ?_⟩
  cases dp with
  | inl q => exact Or.inl q
  | inr q => exact Or.inr ⟨q.1, q.2.1.trans (hf.2.trans hV.2)⟩
theorem zc_newest {d : Nat} {h : zv_H} (hA : zc_A h) {a : Nat} (ha : zv_lay a = (1, 0)) {s : Nat} {b : Int} (hs : zv_lay s = (1, 5)) : zm_R (C0_newestChild (d + 2) a s b h) (fun q => q.2 = h ∧ zc_U h a q.1) := by
  have F := zc_Q_r hA
  refine zm_cN (P := fun v h' => h' = h ∧ zc_U h a v) (fun e => lC0_newestChild (zc_ob hA ha) e) ?_
  have loop : ∀ (n : Nat) (i : Int) (f : Nat), 0 ≤ i → zc_U h a f → (48 - i).toNat = n → zm_R (L0_newestChild_5 (d + 1) a s b f i h) (zm_N fun v h' => h' = h ∧ zc_U h a v) := by
    intro n
    induction n with
    | zero =>
      intro i f h0 hu hn
      rw [qL0_newestChild_5, if_neg (by omega)]
      exact zm_iN ⟨rfl, hu⟩
    | succ n ih =>
      intro i f h0 hu hn
      rw [qL0_newestChild_5, if_pos (by omega)]
      refine zc_pN (K := fun v => zc_U h a v) (zc_at2 hA ha (by unfold zv_rg; omega)) fun v u => ?_
      dsimp only
      rw [zm_w (show -2147483648 ≤ i + 1 ∧ i + 1 < 2147483648 by omega)]
      have nx : ∀ f, zc_U h a f → zm_R (L0_newestChild_5 (d + 1) a s b f (i + 1) h) (zm_N fun v h' => h' = h ∧ zc_U h a v) := fun f hf => ih _ f (by omega) hf (by omega)
      refine zm_if (fun c => nx f hu) (fun c => ?_)
      have u1 := u.resolve_left c
      have w1 := zv_lay_lt (zc_ly u1.1.1)
      have w2 := zv_lay_lt (zc_ly hs)
      refine zc_rR F u1.1.1 fun v2 e2 => ?_
      have w3 : v2 < 373 := by
        rw [e2]
        cases (zc_dep F u1.1).2 with
        | inl q => omega
        | inr q => exact zv_lay_lt (zc_ly q.1.1)
      rw [if_neg (by omega)]
      refine zm_if (fun c => ?_) (fun c => nx f hu)
      refine zc_rI F u1.1.1 fun v3 e3 r3 => ?_
      refine zm_if (fun c => ?_) (fun c => nx f hu)
      refine zm_if (fun c => nx v u) (fun c => ?_)
      refine zc_rI F u1.1.1 fun v4 e4 r4 => ?_
      refine zc_rI F (hu.resolve_left c).1.1 fun v5 e5 r5 => ?_
      exact zm_if (fun c => nx f hu) (fun c => nx v u)
  rw [qE0_newestChild]
  exact loop _ 0 0 (by omega) (Or.inl rfl) rfl
theorem zc_childOf {d : Nat} {h : zv_H} (hA : zc_A h) {a : Nat} (ha : zv_lay a = (1, 0)) {s : Nat} {i : Int} (hs : zv_lay s = (1, 5)) (hi : zv_rg i) : zm_R (C0_childOf (d + 3) a s i h) (fun q => zc_Q h q.2 ∧ zc_U h a q.1) := by
  have F := zc_Q_r hA
  refine zm_cN (P := fun v h' => zc_Q h h' ∧ zc_U h a v) (fun e => lC0_childOf (zc_ob hA ha) e) ?_
  have loop : ∀ (n : Nat) (k b : Int) (f : Nat) (h1 : zv_H), zc_Q h h1 → 0 ≤ k → zc_U h a f → (i + 1 - k).toNat = n → i < 2147483647 → zm_R (L0_childOf_34 (d + 2) a s i f b k h1) (zm_N fun v h' => zc_Q h h' ∧ zc_U h a v) := by
    intro n
    induction n with
    | zero =>
      intro k b f h1 F1 h0 hu hn hi2
      rw [qL0_childOf_34, if_neg (by omega)]
      exact zm_iN ⟨F1, hu⟩
    | succ n ih =>
      intro k b f h1 F1 h0 hu hn hi2
      rw [qL0_childOf_34, if_pos (by omega)]
      refine zc_pN (K := fun v => zc_U h1 a v) (zc_newest F1.2 ha hs) fun v u => ?_
      dsimp only
      have u' := zc_Ub F1.1 u
      refine zm_if (fun c => zm_iN ⟨F1, Or.inl rfl⟩) (fun c => ?_)
      refine zc_rI F1 (u'.resolve_left c).1.1 fun v2 e2 r2 => ?_
      rw [zm_w (by omega)]
      exact ih _ _ _ h1 F1 (by omega) u' (by omega) hi2
  rw [qE0_childOf]
  refine zm_if (fun c => zm_iN ⟨F, Or.inl rfl⟩) (fun c => ?_)
  refine zc_rI F hs fun v1 e1 r1 => ?_
  refine zm_if (fun c1 => ?_) (fun c1 => zm_iN ⟨F, Or.inl rfl⟩)
  refine zc_cV F (zc_C0_findNewest hA ha) fun g2 F2 => ?_
  refine zc_rF F2 17 ha ?_
  refine zc_rI F2 (zc_y0_7 ha).1 fun v4 e4 r4 => ?_
  exact loop _ 0 _ 0 g2 F2 (by omega) (Or.inl rfl) rfl (by unfold zv_rg at r1; omega)
theorem zc_hereA {h : zv_H} (hA : zc_A h) {a s : Nat} (ha : zv_lay a = (1, 0)) (hV : zc_V h s) (hf : zc_hf s = a) : zc_A (zv_sR h a 10 s) := by
  obtain ⟨b1, b2, b3, b4, b5, b6, b7, b8⟩ := hA.1
  have o : ∀ r k, ¬ (r = a ∧ k = 10) → zv_R (zv_sR h a 10 s) r k = zv_R h r k := fun r k c => if_neg c
  have n1 : ∀ r x, zv_lay r = x → x ≠ (1, 0) → r ≠ a := fun r x e n q => n (by rw [← e, q, ha])
  have o5 : ∀ t, zv_lay t = (1, 5) → ∀ k, zv_R (zv_sR h a 10 s) t k = zv_R h t k := fun t ht k => o t k (fun q => n1 t _ ht (by decide) q.1)
  have hl : ∀ a', zv_lay a' = (1, 0) → zv_lay (a' + 4) = (6, 48) := fun a' h' => by cases zc_lh h' with
    | inl e => rw [e]; rfl
    | inr e => rw [e]; rfl
  have l17 : ∀ r, zv_lay r = (1, 4) → zv_lay (r + 1) = (6, 48) := fun a' h' => by cases zc_l4 h' with
    | inl e => rw [e]; rfl
    | inr e => rw [e]; rfl
  refine ⟨⟨b1, fun r k hr hk => ?_, fun a' i h' hi => ?_, ?_, b5, b6, fun r k hr => ?_, b8⟩, fun t ht => ?_, fun b hb => ?_⟩
  · rw [o r k (fun q => ?_)]
    · exact b2 r k hr hk
    · rw [q.1, ha, q.2] at hk
      exact hk rfl
  · rw [o _ _ (fun q => n1 _ _ (hl a' h') (by decide) q.1)]
    exact b3 a' i h' hi
  · rw [o 1 3 (fun q => n1 1 (1, 8) rfl (by decide) q.1), o 1 4 (fun q => n1 1 (1, 8) rfl (by decide) q.1)]
    exact b4
  · rw [o _ _ (fun q => n1 _ _ (l17 r hr) (by decide) q.1)]
    exact b7 r k hr
  · have tt := hA.2.1 t ht
    have ec : zc_ch (zv_sR h a 10 s) t 48 = zc_ch h t 48 := by
      have : ∀ n, n ≤ 48 → zc_ch (zv_sR h a 10 s) t n = zc_ch h t n := by
        intro n
        induction n with
        | zero => intro _; rfl
        | succ n ih =>
          intro hn
          have l := (zc_stl (zc_hl t) (show n < 48 by omega)).1
          show zc_ch (zv_sR h a 10 s) t n + (if zv_R (zv_sR h a 10 s) (zc_stt (zc_hf t) n) 4 = t then 1 else 0) = zc_ch h t n + (if zv_R h (zc_stt (zc_hf t) n) 4 = t then 1 else 0)
          rw [ih (by omega), o5 _ l]
      exact this 48 (Nat.le_refl _)
    unfold zc_t
    rw [ec, o5 t ht, o5 t ht]
    cases tt with
    | inl u => exact Or.inl u
    | inr u =>
      refine Or.inr ⟨u.1, u.2.1, u.2.2.1, ?_, u.2.2.2.2⟩
      cases u.2.2.2.1 with
      | inl w => exact Or.inl w
      | inr w =>
        refine Or.inr ⟨w.1, ?_⟩
        cases u.2.2.1 with
        | inl y => exact absurd y.1 w.1
        | inr y => rw [o5 _ y.1]; exact w.2
  · by_cases e : b = a
    · have : zv_R (zv_sR h a 10 s) b 10 = s := if_pos ⟨e, rfl⟩
      rw [this, e]
      exact ⟨hV.1, hV.2, hf⟩
    · rw [o b 10 (fun q => e q.1)]
      exact hA.2.2 b hb
theorem zc_hereP {h : zv_H} {a s : Nat} (ha : zv_lay a = (1, 0)) : zc_P h (zv_sR h a 10 s) := by
  have := zc_lt ha (by decide)
  refine ⟨rfl, rfl, fun r hr => ⟨rfl, rfl, ?_⟩, rfl⟩
  exact zc_sRo _ _ _ _ (by omega)
theorem zc_C0_moveTo {d : Nat} {h : zv_H} (hA : zc_A h) {a s : Nat} (ha : zv_lay a = (1, 0)) (hV : zc_V h s) (hf : zc_hf s = a) : zm_R (C0_moveTo (d + 2) a s h) (fun q => zc_Y h q) := by
  refine zm_cV (fun e => lC0_moveTo (zc_ob hA ha) e) ?_
  rw [qE0_moveTo, zm_e (show zv_pR h a 0 10 s = some _ from if_pos (zc_ob hA ha))]
  have A1 := zc_hereA hA ha hV hf
  have P1 := zc_hereP (h := h) (s := s) ha
  have V1 : ∀ t, zc_V h t → zc_V (zv_sR h a 10 s) t := fun t q => q
  generalize zv_sR h a 10 s = g at A1 P1 V1
  have F := zc_Q_r A1
  refine zc_rF F 17 ha ?_
  refine zc_rI F ha fun v3 e3 r3 => ?_
  refine zc_cV F (zc_C6_add A1 (zc_y0_7 ha).1 hV.1 r3) fun g4 F4 => ?_
  exact zm_iV ⟨⟨zc_P_t P1 (zc_qP F4.1), F4.2⟩, fun t q => zc_Vq F4.1 (V1 t q)⟩
/-- an int is answered, and what holds holds -/
def zc_yI (h : zv_H) (q : Int × zv_H) : Prop := zc_Y h q.2 ∧ zv_rg q.1
theorem zc_cY {α : Type} {h : zv_H} {P : α → Prop} {o : Option zv_H} (e : zm_R o (fun q => zc_Y h q)) {g : zv_H → Option α} (n : ∀ h', zc_Y h h' → zm_R (g h') P) : zm_R (o.bind g) P := by
  obtain ⟨h', rfl, a⟩ := e
  exact n h' a
theorem zc_C0_stepBack {d : Nat} {h : zv_H} (hA : zc_A h) {a : Nat} (ha : zv_lay a = (1, 0)) : zm_R (C0_stepBack (d + 3) a h) (zc_yI h) := by
  refine zm_cI (P := fun v h' => zc_Y h h' ∧ zv_rg v) (fun e => lC0_stepBack (zc_ob hA ha) e) ?_
  rw [qE0_stepBack]
  refine zc_pN (K := fun v => zc_U h a v) (zc_behind1 hA ha) fun v u => ?_
  dsimp only
  refine zm_if (fun c => zm_iI ⟨zc_QY (zc_Q_r hA), by unfold zv_rg; omega⟩) (fun c => ?_)
  have u1 := u.resolve_left c
  refine zc_cY (zc_C0_moveTo hA ha u1.1 u1.2) fun g2 Y2 => ?_
  refine zc_rI (zc_Q_r Y2.1.2) u1.1.1 fun v3 e3 r3 => ?_
  exact zm_iI ⟨Y2, r3⟩
theorem zc_C0_goTo {d : Nat} {h : zv_H} (hA : zc_A h) {a : Nat} (ha : zv_lay a = (1, 0)) {i : Int} (hi : zv_rg i) : zm_R (C0_goTo (d + 4) a i h) (zc_yI h) := by
  have F := zc_Q_r hA
  have hV := zc_hV F ha
  refine zm_cI (P := fun v h' => zc_Y h h' ∧ zv_rg v) (fun e => lC0_goTo (zc_ob hA ha) e) ?_
  rw [qE0_goTo]
  refine zc_pN (K := fun v => zc_U h a v) (zc_at2 hA ha hi) fun v u => ?_
  dsimp only
  refine zm_if (fun c => zm_iI ⟨zc_QY F, by unfold zv_rg; omega⟩) (fun c => ?_)
  have u1 := u.resolve_left c
  refine zc_rRo F ha ?_
  have w1 := zv_lay_lt (zc_ly u1.1.1)
  have w2 := zv_lay_lt (zc_ly hV.1.1)
  rw [if_neg (by omega)]
  refine zm_if (fun c => zm_iI ⟨zc_QY F, by unfold zv_rg; omega⟩) (fun c => ?_)
  refine zc_rRo F ha ?_
  refine zc_pI (K := fun _ => True) (zc_C0_wayLength hA hV.1 u1.1) fun v4 r4 _ => ?_
  dsimp only
  refine zc_cY (zc_C0_moveTo hA ha u1.1 u1.2) fun g2 Y2 => ?_
  exact zm_iI ⟨Y2, r4⟩
theorem zc_C0_stepOn {d : Nat} {h : zv_H} (hA : zc_A h) {a : Nat} (ha : zv_lay a = (1, 0)) : zm_R (C0_stepOn (d + 4) a h) (zc_yI h) := by
  have F := zc_Q_r hA
  have hV := zc_hV F ha
  refine zm_cI (P := fun v h' => zc_Y h h' ∧ zv_rg v) (fun e => lC0_stepOn (zc_ob hA ha) e) ?_
  have fin : ∀ (h1 : zv_H) (s : Nat), zc_Q h h1 → zc_V h s → zc_hf s = a → zm_R (L0_stepOn_62 (d + 3) a s h1) (zm_I fun v h' => zc_Y h h' ∧ zv_rg v) := fun h1 s F1 v1 f1 => by
    rw [qL0_stepOn_62]
    refine zc_cY (zc_C0_moveTo F1.2 ha (zc_Vq F1.1 v1) f1) fun g2 Y2 => ?_
    refine zc_rI (zc_Q_r Y2.1.2) v1.1 fun v3 e3 r3 => ?_
    exact zm_iI ⟨zc_Y_t (zc_QY F1) Y2, r3⟩
  have loop : ∀ (n : Nat) (i : Int) (s b : Nat) (h1 : zv_H), zc_Q h h1 → 0 ≤ i → zc_V h s → zc_hf s = a → zc_U h a b → (48 - i).toNat = n → zm_R (L0_stepOn_26 (d + 3) a s b i h1) (zm_I fun v h' => zc_Y h h' ∧ zv_rg v) := by
    intro n
    induction n with
    | zero =>
      intro i s b h1 F1 h0 v1 f1 u hn
      rw [qL0_stepOn_26, if_neg (by omega)]
      exact fin h1 s F1 v1 f1
    | succ n ih =>
      intro i s b h1 F1 h0 v1 f1 u hn
      rw [qL0_stepOn_26, if_pos (by omega)]
      refine zm_if (fun c => fin h1 s F1 v1 f1) (fun c => ?_)
      have u1 := u.resolve_left c
      refine zc_rR5 F1 u1.1.1 ?_
      refine zc_rR5 F1 v1.1 ?_
      have w1 := zv_lay_lt (zc_ly (zc_fV F1 u1.1).1)
      have w2 := zv_lay_lt (zc_ly (zc_fV F1 v1).1)
      rw [if_neg (by omega)]
      refine zm_if (fun c => ?_) (fun c => fin h1 s F1 v1 f1)
      refine zc_cN (K := fun v => zc_U h1 a v) F1 (zc_childOf F1.2 ha u1.1.1 (by unfold zv_rg; omega)) fun v h' F2 u2 => ?_
      dsimp only
      rw [zm_w (by omega)]
      exact ih _ b v h' F2 (by omega) u1.1 u1.2 (zc_Ub F1.1 u2) (by omega)
  rw [qE0_stepOn]
  refine zc_rRo F ha ?_
  refine zc_cN (K := fun v => zc_U h a v) F (zc_childOf hA ha hV.1.1 (by unfold zv_rg; omega)) fun v h1 F1 u => ?_
  dsimp only
  refine zm_if (fun c => zm_iI ⟨zc_QY F1, by unfold zv_rg; omega⟩) (fun c => ?_)
  have u1 := u.resolve_left c
  refine zc_cN (K := fun v => zc_U h1 a v) F1 (zc_childOf F1.2 ha u1.1.1 (by unfold zv_rg; omega)) fun v2 h2 F2 u2 => ?_
  dsimp only
  exact loop _ 0 v v2 h2 F2 (by omega) u1.1 u1.2 (zc_Ub F1.1 u2) rfl
end
