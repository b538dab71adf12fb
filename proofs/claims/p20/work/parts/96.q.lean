theorem zc_L3_spelled_45 {d : Nat} {h0 : zv_H} (N_L3_spelled_45 : Nat) : ∀ {h : zv_H} {a0 : Nat} {a2 : Int}, zc_Q h0 h → (zv_lay a0 = (1, 3)) → (zv_rg a2) → (2147483647 - a2).toNat = N_L3_spelled_45 → zm_R (L3_spelled_45 (d + 2) a0 a2 h) (zm_I fun v h' => zc_Q h0 h' ∧ zv_rg v ∧ ((v = 0 ∨ v = 1))) := by
  induction N_L3_spelled_45 using Nat.strongRecOn with
  | _ N_L3_spelled_45 ih_L3_spelled_45 =>
    intro h a0 a2 F0 h_a0 h_a2 eN
    rw [qL3_spelled_45]
    refine zc_rI F0 h_a0 fun v1 e_v1 r_v1 => ?_
    refine zm_if (fun c1 => ?_) (fun c1 => ?_)
    · refine zc_rF F0 2 h_a0 ?_
      refine zc_pI (K := fun v => True) (zc_C3_byteAt F0.2 h_a0 h_a2) fun q3v r_q3 k_q3 => ?_
      dsimp only
      refine zc_cV F0 (zc_C7_add F0.2 (zc_y3_1 h_a0).1 (zc_w _)) fun g4 F3 => ?_
      exact ih_L3_spelled_45 _ (by rw [← eN]; exact zc_up h_a2 r_v1 c1) F3 h_a0 (zc_w _)  rfl
    · refine zc_cI (K := fun v => (v = 0 ∨ v = 1)) F0 (zc_C3_next F0.2 h_a0) fun q5v q5h F4 r_q5 k_q5 => ?_
      dsimp only
      refine zm_if (fun c5 => ?_) (fun c5 => ?_)
      · exact zm_iI ⟨F4, r_q5, by omega⟩
      · omega
theorem zc_E3_spelled {d : Nat} {h : zv_H} {a0 : Nat} {a1 : Int} (hA : zc_A h) (h_a0 : zv_lay a0 = (1, 3)) (h_a1 : zv_rg a1) : zm_R (E3_spelled (d + 2) a0 a1 h) (zm_I fun v h' => zc_Q h h' ∧ zv_rg v ∧ ((v = 0 ∨ v = 1))) := by
  have F0 := zc_Q_r hA
  rw [qE3_spelled]
  refine zc_rI F0 h_a0 fun v1 e_v1 r_v1 => ?_
  refine zm_if (fun c1 => ?_) (fun c1 => ?_)
  · refine zc_rI F0 h_a0 fun v2 e_v2 r_v2 => ?_
    refine zc_rI F0 h_a0 fun v3 e_v3 r_v3 => ?_
    refine zm_if (fun c2 => ?_) (fun c2 => ?_)
    · refine zc_rF F0 2 h_a0 ?_
      refine zc_cV F0 (zc_C7_clear F0.2 (zc_y3_1 h_a0).1) fun g5 F3 => ?_
      refine zc_rI F3 h_a0 fun v6 e_v6 r_v6 => ?_
      exact zc_L3_spelled_45  _ F3 h_a0 r_v6  rfl
    · refine zc_cI (K := fun v => (v = 0)) F0 (zc_C3_fail F0.2 h_a0 (by unfold zv_rg; omega)) fun q7v q7h F4 r_q7 k_q7 => ?_
      dsimp only
      refine zm_if (fun c5 => ?_) (fun c5 => ?_)
      · exact zm_iI ⟨F4, r_q7, by omega⟩
      · omega
  · refine zc_cI (K := fun v => (v = 0)) F0 (zc_C3_fail F0.2 h_a0 (by unfold zv_rg; omega)) fun q8v q8h F6 r_q8 k_q8 => ?_
    dsimp only
    refine zm_if (fun c7 => ?_) (fun c7 => ?_)
    · exact zm_iI ⟨F6, r_q8, by omega⟩
    · omega
theorem zc_C3_spelled {d : Nat} {h : zv_H} {a0 : Nat} {a1 : Int} (hA : zc_A h) (h_a0 : zv_lay a0 = (1, 3)) (h_a1 : zv_rg a1) : zm_R (C3_spelled (d + 3) a0 a1 h) (fun q => zc_Q h q.2 ∧ zv_rg q.1 ∧ ((q.1 = 0 ∨ q.1 = 1))) := zm_cI (fun e => lC3_spelled (zc_ob hA h_a0) e) (zc_E3_spelled hA h_a0 h_a1)
theorem zc_E3_asked {d : Nat} {h : zv_H} {a0 : Nat} (hA : zc_A h) (h_a0 : zv_lay a0 = (1, 3)) : zm_R (E3_asked (d + 4) a0 h) (zm_I fun v h' => h' = h ∧ zv_rg v ∧ True) := by
  have F0 := zc_Q_r hA
  rw [qE3_asked]
  refine zc_pI (K := fun v => (v = 0 ∨ v = 1)) (zc_C3_is F0.2 h_a0 (by decide)) fun q1v r_q1 k_q1 => ?_
  dsimp only
  refine zm_if (fun c2 => ?_) (fun c2 => ?_)
  · refine zc_pI (K := fun v => (v = 0 ∨ v = 1)) (zc_C3_is F0.2 h_a0 (by decide)) fun q2v r_q2 k_q2 => ?_
    dsimp only
    refine zm_if (fun c4 => ?_) (fun c4 => ?_)
    · refine zc_pI (K := fun v => (v = 0 ∨ v = 1)) (zc_C3_is F0.2 h_a0 (by decide)) fun q3v r_q3 k_q3 => ?_
      dsimp only
      refine zm_if (fun c6 => ?_) (fun c6 => ?_)
      · refine zc_pI (K := fun v => (v = 0 ∨ v = 1)) (zc_C3_is F0.2 h_a0 (by decide)) fun q4v r_q4 k_q4 => ?_
        dsimp only
        refine zm_if (fun c8 => ?_) (fun c8 => ?_)
        · refine zc_pI (K := fun v => (v = 0 ∨ v = 1)) (zc_C3_is F0.2 h_a0 (by decide)) fun q5v r_q5 k_q5 => ?_
          dsimp only
          refine zm_if (fun c10 => ?_) (fun c10 => ?_)
          · refine zc_pI (K := fun v => (v = 0 ∨ v = 1)) (zc_C3_is F0.2 h_a0 (by decide)) fun q6v r_q6 k_q6 => ?_
            dsimp only
            refine zm_if (fun c12 => ?_) (fun c12 => ?_)
            · exact zm_iI ⟨rfl, (by unfold zv_rg; omega), trivial⟩
            · exact zm_iI ⟨rfl, (by unfold zv_rg; omega), trivial⟩
          · exact zm_iI ⟨rfl, (by unfold zv_rg; omega), trivial⟩
        · exact zm_iI ⟨rfl, (by unfold zv_rg; omega), trivial⟩
      · exact zm_iI ⟨rfl, (by unfold zv_rg; omega), trivial⟩
    · exact zm_iI ⟨rfl, (by unfold zv_rg; omega), trivial⟩
  · exact zm_iI ⟨rfl, (by unfold zv_rg; omega), trivial⟩
theorem zc_C3_asked {d : Nat} {h : zv_H} {a0 : Nat} (hA : zc_A h) (h_a0 : zv_lay a0 = (1, 3)) : zm_R (C3_asked (d + 5) a0 h) (fun q => q.2 = h ∧ zv_rg q.1 ∧ True) := zm_cI (fun e => lC3_asked (zc_ob hA h_a0) e) (zc_E3_asked hA h_a0)
theorem zc_E3_verbHere {d : Nat} {h : zv_H} {a0 : Nat} (hA : zc_A h) (h_a0 : zv_lay a0 = (1, 3)) : zm_R (E3_verbHere (d + 4) a0 h) (zm_I fun v h' => h' = h ∧ zv_rg v ∧ True) := by
  have F0 := zc_Q_r hA
  rw [qE3_verbHere]
  refine zc_pI (K := fun v => (v = 0 ∨ v = 1)) (zc_C3_is F0.2 h_a0 (by decide)) fun q1v r_q1 k_q1 => ?_
  dsimp only
  refine zm_if (fun c2 => ?_) (fun c2 => ?_)
  · refine zc_pI (K := fun v => (v = 0 ∨ v = 1)) (zc_C3_is F0.2 h_a0 (by decide)) fun q2v r_q2 k_q2 => ?_
    dsimp only
    refine zm_if (fun c4 => ?_) (fun c4 => ?_)
    · refine zc_pI (K := fun v => (v = 0 ∨ v = 1)) (zc_C3_is F0.2 h_a0 (by decide)) fun q3v r_q3 k_q3 => ?_
      dsimp only
      refine zm_if (fun c6 => ?_) (fun c6 => ?_)
      · refine zc_pI (K := fun v => (v = 0 ∨ v = 1)) (zc_C3_is F0.2 h_a0 (by decide)) fun q4v r_q4 k_q4 => ?_
        dsimp only
        refine zm_if (fun c8 => ?_) (fun c8 => ?_)
        · refine zc_pI (K := fun v => (v = 0 ∨ v = 1)) (zc_C3_is F0.2 h_a0 (by decide)) fun q5v r_q5 k_q5 => ?_
          dsimp only
          refine zm_if (fun c10 => ?_) (fun c10 => ?_)
          · refine zc_pI (K := fun v => (v = 0 ∨ v = 1)) (zc_C3_is F0.2 h_a0 (by decide)) fun q6v r_q6 k_q6 => ?_
            dsimp only
            refine zm_if (fun c12 => ?_) (fun c12 => ?_)
            · refine zc_pI (K := fun v => (v = 0 ∨ v = 1)) (zc_C3_is F0.2 h_a0 (by decide)) fun q7v r_q7 k_q7 => ?_
              dsimp only
              refine zm_if (fun c14 => ?_) (fun c14 => ?_)
              · refine zc_pI (K := fun v => (v = 0 ∨ v = 1)) (zc_C3_is F0.2 h_a0 (by decide)) fun q8v r_q8 k_q8 => ?_
                dsimp only
                refine zm_if (fun c16 => ?_) (fun c16 => ?_)
                · refine zc_pI (K := fun v => (v = 0 ∨ v = 1)) (zc_C3_is F0.2 h_a0 (by decide)) fun q9v r_q9 k_q9 => ?_
                  dsimp only
                  refine zm_if (fun c18 => ?_) (fun c18 => ?_)
                  · refine zc_pI (K := fun v => (v = 0 ∨ v = 1)) (zc_C3_is F0.2 h_a0 (by decide)) fun q10v r_q10 k_q10 => ?_
                    dsimp only
                    refine zm_if (fun c20 => ?_) (fun c20 => ?_)
                    · refine zc_pI (K := fun v => (v = 0 ∨ v = 1)) (zc_C3_is F0.2 h_a0 (by decide)) fun q11v r_q11 k_q11 => ?_
                      dsimp only
                      refine zm_if (fun c22 => ?_) (fun c22 => ?_)
                      · refine zc_pI (K := fun v => (v = 0 ∨ v = 1)) (zc_C3_is F0.2 h_a0 (by decide)) fun q12v r_q12 k_q12 => ?_
                        dsimp only
                        refine zm_if (fun c24 => ?_) (fun c24 => ?_)
                        · exact zm_iI ⟨rfl, (by unfold zv_rg; omega), trivial⟩
                        · exact zm_iI ⟨rfl, (by unfold zv_rg; omega), trivial⟩
                      · exact zm_iI ⟨rfl, (by unfold zv_rg; omega), trivial⟩
                    · exact zm_iI ⟨rfl, (by unfold zv_rg; omega), trivial⟩
                  · exact zm_iI ⟨rfl, (by unfold zv_rg; omega), trivial⟩
                · exact zm_iI ⟨rfl, (by unfold zv_rg; omega), trivial⟩
              · exact zm_iI ⟨rfl, (by unfold zv_rg; omega), trivial⟩
            · exact zm_iI ⟨rfl, (by unfold zv_rg; omega), trivial⟩
          · exact zm_iI ⟨rfl, (by unfold zv_rg; omega), trivial⟩
        · exact zm_iI ⟨rfl, (by unfold zv_rg; omega), trivial⟩
      · exact zm_iI ⟨rfl, (by unfold zv_rg; omega), trivial⟩
    · exact zm_iI ⟨rfl, (by unfold zv_rg; omega), trivial⟩
  · exact zm_iI ⟨rfl, (by unfold zv_rg; omega), trivial⟩
theorem zc_C3_verbHere {d : Nat} {h : zv_H} {a0 : Nat} (hA : zc_A h) (h_a0 : zv_lay a0 = (1, 3)) : zm_R (C3_verbHere (d + 5) a0 h) (fun q => q.2 = h ∧ zv_rg q.1 ∧ True) := zm_cI (fun e => lC3_verbHere (zc_ob hA h_a0) e) (zc_E3_verbHere hA h_a0)
theorem zc_E3_comparison {d : Nat} {h : zv_H} {a0 : Nat} {a1 : Nat} {a2 : Int} (hA : zc_A h) (h_a0 : zv_lay a0 = (1, 3)) (h_a1 : zv_lay a1 = (1, 1)) (h_a2 : zv_rg a2) : zm_R (E3_comparison (d + 2) a0 a1 a2 h) (zm_I fun v h' => zc_Q h h' ∧ zv_rg v ∧ ((v = 0 ∨ v = 1))) := by
  have F0 := zc_Q_r hA
  rw [qE3_comparison]
  refine zm_if (fun c1 => ?_) (fun c1 => ?_)
  · refine zc_cI (K := fun v => (v = 0)) F0 (zc_C3_fail F0.2 h_a0 (by unfold zv_rg; omega)) fun q1v q1h F2 r_q1 k_q1 => ?_
    dsimp only
    refine zm_if (fun c3 => ?_) (fun c3 => ?_)
    · exact zm_iI ⟨F2, r_q1, by omega⟩
    · omega
  · refine zc_cI (K := fun v => (v = 0 ∨ v = 1)) F0 (zc_C3_next F0.2 h_a0) fun q2v q2h F4 r_q2 k_q2 => ?_
    dsimp only
    refine zm_if (fun c5 => ?_) (fun c5 => ?_)
    · exact zm_iI ⟨F4, (by unfold zv_rg; omega), by omega⟩
    · refine zc_rI F4 h_a0 fun v3 e_v3 r_v3 => ?_
      refine zm_if (fun c6 => ?_) (fun c6 => ?_)
      · refine zc_rI F4 h_a0 fun v4 e_v4 r_v4 => ?_
        refine zm_if (fun c7 => ?_) (fun c7 => ?_)
        · rw [qL3_comparison_46]
          refine zc_cI (K := fun v => (v = 0)) F4 (zc_C3_fail F4.2 h_a0 (by unfold zv_rg; omega)) fun q1x1v q1x1h F8 r_q1x1 k_q1x1 => ?_
          dsimp only
          refine zm_if (fun c9 => ?_) (fun c9 => ?_)
          · exact zm_iI ⟨F8, r_q1x1, by omega⟩
          · omega
        · refine zc_rI F4 h_a0 fun v5 e_v5 r_v5 => ?_
          refine zm_if (fun c10 => ?_) (fun c10 => ?_)
          · refine zc_rI F4 h_a0 fun v6 e_v6 r_v6 => ?_
            refine zc_cI (K := fun v => (v = 0 ∨ v = 1)) F4 (zc_C3_next F4.2 h_a0) fun q7v q7h F11 r_q7 k_q7 => ?_
            dsimp only
            refine zm_if (fun c12 => ?_) (fun c12 => ?_)
            · exact zm_iI ⟨F11, (by unfold zv_rg; omega), by omega⟩
            · refine zc_rI F11 h_a0 fun v8 e_v8 r_v8 => ?_
              refine zm_if (fun c13 => ?_) (fun c13 => ?_)
              · refine zc_rI F11 h_a0 fun v9 e_v9 r_v9 => ?_
                refine zc_cV F11 (zc_C1_compare F11.2 h_a1 h_a2 (zc_w _) r_v9) fun g10 F14 => ?_
                refine zc_cI (K := fun v => (v = 0 ∨ v = 1)) F14 (zc_C3_next F14.2 h_a0) fun q11v q11h F15 r_q11 k_q11 => ?_
                dsimp only
                refine zm_if (fun c16 => ?_) (fun c16 => ?_)
                · exact zm_iI ⟨F15, r_q11, by omega⟩
                · omega
              · refine zc_cI (K := fun v => (v = 0)) F11 (zc_C3_fail F11.2 h_a0 (by unfold zv_rg; omega)) fun q12v q12h F17 r_q12 k_q12 => ?_
                dsimp only
                refine zm_if (fun c18 => ?_) (fun c18 => ?_)
                · exact zm_iI ⟨F17, r_q12, by omega⟩
                · omega
          · rw [qL3_comparison_46]
            refine zc_cI (K := fun v => (v = 0)) F4 (zc_C3_fail F4.2 h_a0 (by unfold zv_rg; omega)) fun q1x2v q1x2h F19 r_q1x2 k_q1x2 => ?_
            dsimp only
            refine zm_if (fun c20 => ?_) (fun c20 => ?_)
            · exact zm_iI ⟨F19, r_q1x2, by omega⟩
            · omega
      · rw [qL3_comparison_46]
        refine zc_cI (K := fun v => (v = 0)) F4 (zc_C3_fail F4.2 h_a0 (by unfold zv_rg; omega)) fun q1x3v q1x3h F21 r_q1x3 k_q1x3 => ?_
        dsimp only
        refine zm_if (fun c22 => ?_) (fun c22 => ?_)
        · exact zm_iI ⟨F21, r_q1x3, by omega⟩
        · omega
theorem zc_C3_comparison {d : Nat} {h : zv_H} {a0 : Nat} {a1 : Nat} {a2 : Int} (hA : zc_A h) (h_a0 : zv_lay a0 = (1, 3)) (h_a1 : zv_lay a1 = (1, 1)) (h_a2 : zv_rg a2) : zm_R (C3_comparison (d + 3) a0 a1 a2 h) (fun q => zc_Q h q.2 ∧ zv_rg q.1 ∧ ((q.1 = 0 ∨ q.1 = 1))) := zm_cI (fun e => lC3_comparison (zc_ob hA h_a0) e) (zc_E3_comparison hA h_a0 h_a1 h_a2)
theorem zc_L3_line_164 {d : Nat} {h0 : zv_H} (N_L3_line_164 : Nat) : ∀ {h : zv_H} {a0 : Nat} {a1 : Int}, zc_Q h0 h → (zv_lay a0 = (1, 3)) → (zv_rg a1) → (2147483647 - a1).toNat = N_L3_line_164 → zm_R (L3_line_164 (d + 5) a0 a1 h) (zm_I fun v h' => zc_Q h0 h' ∧ zv_rg v ∧ ((v = 0 ∨ v = 1))) := by
  induction N_L3_line_164 using Nat.strongRecOn with
  | _ N_L3_line_164 ih_L3_line_164 =>
    intro h a0 a1 F0 h_a0 h_a1 eN
    rw [qL3_line_164]
    refine zm_if (fun c1 => ?_) (fun c1 => ?_)
    · exact zm_iI ⟨F0, (by unfold zv_rg; omega), by omega⟩
    · refine zc_cI (K := fun v => (v = 0 ∨ v = 1)) F0 (zc_C3_closed F0.2 h_a0) fun q1v q1h F2 r_q1 k_q1 => ?_
      dsimp only
      refine zm_if (fun c3 => ?_) (fun c3 => ?_)
      · exact zm_iI ⟨F2, (by unfold zv_rg; omega), by omega⟩
      · exact zm_iI ⟨F2, (by unfold zv_rg; omega), by omega⟩
theorem zc_L3_line_144 {d : Nat} {h0 : zv_H} (N_L3_line_144 : Nat) : ∀ {h : zv_H} {a0 : Nat} {a1 : Int}, zc_Q h0 h → (zv_lay a0 = (1, 3)) → (zv_rg a1) → (2147483647 - a1).toNat = N_L3_line_144 → zm_R (L3_line_144 (d + 5) a0 a1 h) (zm_I fun v h' => zc_Q h0 h' ∧ zv_rg v ∧ ((v = 0 ∨ v = 1))) := by
  induction N_L3_line_144 using Nat.strongRecOn with
  | _ N_L3_line_144 ih_L3_line_144 =>
    intro h a0 a1 F0 h_a0 h_a1 eN
    rw [qL3_line_144]
    refine zm_if (fun c1 => ?_) (fun c1 => ?_)
    · exact zc_L3_line_164  _ F0 h_a0 h_a1  rfl
    · refine zc_rI F0 h_a0 fun v1 e_v1 r_v1 => ?_
      refine zm_if (fun c2 => ?_) (fun c2 => ?_)
      · refine zc_cI (K := fun v => (v = 0 ∨ v = 1)) F0 (zc_C3_spelled F0.2 h_a0 (by unfold zv_rg; omega)) fun q2v q2h F3 r_q2 k_q2 => ?_
        dsimp only
        exact zc_L3_line_164  _ F3 h_a0 r_q2  rfl
      · exact zc_L3_line_164  _ F0 h_a0 h_a1  rfl
theorem zc_L3_line_126 {d : Nat} {h0 : zv_H} (N_L3_line_126 : Nat) : ∀ {h : zv_H} {a0 : Nat} {a1 : Int}, zc_Q h0 h → (zv_lay a0 = (1, 3)) → (zv_rg a1) → (2147483647 - a1).toNat = N_L3_line_126 → zm_R (L3_line_126 (d + 5) a0 a1 h) (zm_I fun v h' => zc_Q h0 h' ∧ zv_rg v ∧ ((v = 0 ∨ v = 1))) := by
  induction N_L3_line_126 using Nat.strongRecOn with
  | _ N_L3_line_126 ih_L3_line_126 =>
    intro h a0 a1 F0 h_a0 h_a1 eN
    rw [qL3_line_126]
    refine zm_if (fun c1 => ?_) (fun c1 => ?_)
    · exact zc_L3_line_144  _ F0 h_a0 h_a1  rfl
    · refine zc_rI F0 h_a0 fun v1 e_v1 r_v1 => ?_
      refine zm_if (fun c2 => ?_) (fun c2 => ?_)
      · refine zc_cI (K := fun v => (v = 0 ∨ v = 1)) F0 (zc_C3_spelled F0.2 h_a0 (by unfold zv_rg; omega)) fun q2v q2h F3 r_q2 k_q2 => ?_
        dsimp only
        exact zc_L3_line_144  _ F3 h_a0 r_q2  rfl
      · exact zc_L3_line_144  _ F0 h_a0 h_a1  rfl
theorem zc_L3_line_85 {d : Nat} {h0 : zv_H} (N_L3_line_85 : Nat) : ∀ {h : zv_H} {a0 : Nat} {a1 : Int}, zc_Q h0 h → (zv_lay a0 = (1, 3)) → (zv_rg a1) → (2147483647 - a1).toNat = N_L3_line_85 → zm_R (L3_line_85 (d + 5) a0 a1 h) (zm_I fun v h' => zc_Q h0 h' ∧ zv_rg v ∧ ((v = 0 ∨ v = 1))) := by
  induction N_L3_line_85 using Nat.strongRecOn with
  | _ N_L3_line_85 ih_L3_line_85 =>
    intro h a0 a1 F0 h_a0 h_a1 eN
    rw [qL3_line_85]
    refine zm_if (fun c1 => ?_) (fun c1 => ?_)
    · exact zc_L3_line_126  _ F0 h_a0 h_a1  rfl
    · refine zc_rI F0 h_a0 fun v1 e_v1 r_v1 => ?_
      refine zm_if (fun c2 => ?_) (fun c2 => ?_)
      · refine zc_rI F0 h_a0 fun v2 e_v2 r_v2 => ?_
        refine zc_wO F0 h_a0 (zc_frO h_a0 (zc_lt h_a0 (by decide)) (by decide) rfl (by decide)) r_v2 fun g3 F3 => ?_
        refine zc_rI F3 h_a0 fun v4 e_v4 r_v4 => ?_
        refine zm_if (fun c4 => ?_) (fun c4 => ?_)
        · refine zc_cI (K := fun v => (v = 0 ∨ v = 1)) F3 (zc_C3_next F3.2 h_a0) fun q5v q5h F5 r_q5 k_q5 => ?_
          dsimp only
          rw [qL3_line_125]
          exact zc_L3_line_126  _ F5 h_a0 r_q5  rfl
        · refine zc_cI (K := fun v => (v = 0)) F3 (zc_C3_fail F3.2 h_a0 (by unfold zv_rg; omega)) fun q6v q6h F6 r_q6 k_q6 => ?_
          dsimp only
          rw [qL3_line_125]
          exact zc_L3_line_126  _ F6 h_a0 r_q6  rfl
      · exact zc_L3_line_126  _ F0 h_a0 h_a1  rfl
theorem zc_E3_line {d : Nat} {h : zv_H} {a0 : Nat} (hA : zc_A h) (h_a0 : zv_lay a0 = (1, 3)) : zm_R (E3_line (d + 5) a0 h) (zm_I fun v h' => zc_Q h h' ∧ zv_rg v ∧ ((v = 0 ∨ v = 1))) := by
  have F0 := zc_Q_r hA
  rw [qE3_line]
  refine zc_pI (K := fun v => True) (zc_C3_verbHere F0.2 h_a0) fun q1v r_q1 k_q1 => ?_
  dsimp only
  refine zc_wO F0 h_a0 (zc_frO h_a0 (zc_lt h_a0 (by decide)) (by decide) rfl (by decide)) r_q1 fun g2 F2 => ?_
  refine zc_rI F2 h_a0 fun v3 e_v3 r_v3 => ?_
  refine zm_if (fun c3 => ?_) (fun c3 => ?_)
  · refine zc_cI (K := fun v => (v = 0)) F2 (zc_C3_fail F2.2 h_a0 (by unfold zv_rg; omega)) fun q4v q4h F4 r_q4 k_q4 => ?_
    dsimp only
    refine zm_if (fun c5 => ?_) (fun c5 => ?_)
    · exact zm_iI ⟨F4, r_q4, by omega⟩
    · omega
  · refine zc_cI (K := fun v => (v = 0 ∨ v = 1)) F2 (zc_C3_next F2.2 h_a0) fun q5v q5h F6 r_q5 k_q5 => ?_
    dsimp only
    refine zm_if (fun c7 => ?_) (fun c7 => ?_)
    · exact zc_L3_line_85  _ F6 h_a0 r_q5  rfl
    · refine zc_rI F6 h_a0 fun v6 e_v6 r_v6 => ?_
      refine zm_if (fun c8 => ?_) (fun c8 => ?_)
      · exact zc_L3_line_85  _ F6 h_a0 r_q5  rfl
      · refine zc_rI F6 h_a0 fun v7 e_v7 r_v7 => ?_
        refine zm_if (fun c9 => ?_) (fun c9 => ?_)
        · exact zc_L3_line_85  _ F6 h_a0 r_q5  rfl
        · refine zc_rI F6 h_a0 fun v8 e_v8 r_v8 => ?_
          refine zm_if (fun c10 => ?_) (fun c10 => ?_)
          · exact zc_L3_line_85  _ F6 h_a0 r_q5  rfl
          · refine zc_rI F6 h_a0 fun v9 e_v9 r_v9 => ?_
            refine zc_wO F6 h_a0 (zc_frO h_a0 (zc_lt h_a0 (by decide)) (by decide) rfl (by decide)) r_v9 fun g10 F11 => ?_
            refine zc_rI F11 h_a0 fun v11 e_v11 r_v11 => ?_
            refine zm_if (fun c12 => ?_) (fun c12 => ?_)
            · refine zc_cI (K := fun v => (v = 0 ∨ v = 1)) F11 (zc_C3_next F11.2 h_a0) fun q12v q12h F13 r_q12 k_q12 => ?_
              dsimp only
              rw [qL3_line_84]
              exact zc_L3_line_85  _ F13 h_a0 r_q12  rfl
            · refine zc_cI (K := fun v => (v = 0)) F11 (zc_C3_fail F11.2 h_a0 (by unfold zv_rg; omega)) fun q13v q13h F14 r_q13 k_q13 => ?_
              dsimp only
              rw [qL3_line_84]
              exact zc_L3_line_85  _ F14 h_a0 r_q13  rfl
theorem zc_C3_line {d : Nat} {h : zv_H} {a0 : Nat} (hA : zc_A h) (h_a0 : zv_lay a0 = (1, 3)) : zm_R (C3_line (d + 6) a0 h) (fun q => zc_Q h q.2 ∧ zv_rg q.1 ∧ ((q.1 = 0 ∨ q.1 = 1))) := zm_cI (fun e => lC3_line (zc_ob hA h_a0) e) (zc_E3_line hA h_a0)
