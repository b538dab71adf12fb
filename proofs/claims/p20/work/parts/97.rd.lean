/-! ===== the class: TEST is read ===== -/
def zc_bb (h : zv_H) (q : Int × zv_H) : Prop := zc_Q h q.2 ∧ zv_rg q.1 ∧ (q.1 = 0 ∨ q.1 = 1)
section
variable {h0 : zv_H} {a0 a1 : Nat} {a2 : Int}
theorem zc_bx {h : zv_H} (F : zc_Q h0 h) {v : Int} (hv : v = 0 ∨ v = 1) : zc_b h0 (if v = 0 ∨ v = 1 then some (some (zv_i v), h) else none) := by
  rw [if_pos hv]
  exact zm_iI ⟨F, by unfold zv_rg; omega, hv⟩
theorem zc_L3_side_10 {d : Nat} (h_a0 : zv_lay a0 = (1, 3)) (h_a1 : zv_lay a1 = (1, 1)) (hf : ∀ h, zc_A h → zm_R (C3_fact (d + 6) a0 a1 a2 h) (zc_bb h)) : ∀ (n : Nat) (h : zv_H) (a3 a4 : Int), zc_Q h0 h → (a3 = 0 ∨ a3 = 1) → 0 ≤ a4 → (700 - a4).toNat = n → zc_b h0 (L3_side_10 (d + 6) a0 a1 a2 a3 a4 h) := by
  intro n
  induction n with
  | zero =>
    intro h a3 a4 F h3 z hn
    rw [qL3_side_10, if_neg (by omega)]
    exact zc_bx F h3
  | succ n ih =>
    intro h a3 a4 F h3 z hn
    have go : ∀ (h : zv_H) (e0 : Int), zc_Q h0 h → (e0 = 0 ∨ e0 = 1) → zc_b h0 (L3_side_52 (d + 6) a0 a1 a2 a4 e0 h) := fun h e0 F he => by
      rw [qL3_side_52]
      refine zc_cV F (zc_C1_add F.2 h_a1 (by unfold zv_rg; omega) (by unfold zv_rg; omega)) fun g1 F1 => ?_
      rw [zm_w (by omega)]
      exact ih g1 e0 _ F1 he (by omega) (by omega)
    rw [qL3_side_10, if_pos (by omega)]
    refine zm_if (fun c => zc_bx F h3) (fun c => ?_)
    refine zc_pI (K := fun v => (v = 0 ∨ v = 1)) (zc_C3_is F.2 h_a0 (by decide)) fun q1v r1 k1 => ?_
    dsimp only
    refine zm_if (fun c => zc_bx F h3) (fun c => ?_)
    refine zc_cI (K := fun v => (v = 0 ∨ v = 1)) F (zc_C3_next F.2 h_a0) fun q2v q2h F2 r2 k2 => ?_
    dsimp only
    refine zm_if (fun c => ?_) (fun c => ?_)
    · rw [qL3_side_51]
      exact go _ 0 F2 (Or.inl rfl)
    · refine zc_cI (K := fun v => (v = 0 ∨ v = 1)) F2 (hf _ F2.2) fun q3v q3h F3 r3 k3 => ?_
      dsimp only
      refine zm_if (fun c => ?_) (fun c => ?_)
      · rw [qL3_side_51]
        exact go _ 0 F3 (Or.inl rfl)
      · exact go _ 1 F3 (Or.inr rfl)
theorem zc_side {d : Nat} (h_a0 : zv_lay a0 = (1, 3)) (h_a1 : zv_lay a1 = (1, 1)) (hf : ∀ h, zc_A h → zm_R (C3_fact (d + 6) a0 a1 a2 h) (zc_bb h)) (h : zv_H) (hA : zc_A h) : zm_R (C3_side (d + 7) a0 a1 a2 h) (zc_bb h) := by
  refine zm_cI (P := fun v h' => zc_bb h (v, h')) (fun e => lC3_side (zc_ob hA h_a0) e) ?_
  rw [qE3_side]
  refine zc_cI (K := fun v => (v = 0 ∨ v = 1)) (zc_Q_r hA) (hf _ hA) fun q1v q1h F1 r1 k1 => ?_
  exact zc_L3_side_10 h_a0 h_a1 hf _ _ _ 0 F1 k1 (by omega) rfl
theorem zc_L3_test_10 {d : Nat} (h_a0 : zv_lay a0 = (1, 3)) (h_a1 : zv_lay a1 = (1, 1)) (hf : ∀ h, zc_A h → zm_R (C3_side (d + 7) a0 a1 a2 h) (zc_bb h)) : ∀ (n : Nat) (h : zv_H) (a3 a4 : Int), zc_Q h0 h → (a3 = 0 ∨ a3 = 1) → 0 ≤ a4 → (700 - a4).toNat = n → zc_b h0 (L3_test_10 (d + 7) a0 a1 a2 a3 a4 h) := by
  intro n
  induction n with
  | zero =>
    intro h a3 a4 F h3 z hn
    rw [qL3_test_10, if_neg (by omega)]
    exact zc_bx F h3
  | succ n ih =>
    intro h a3 a4 F h3 z hn
    have go : ∀ (h : zv_H) (e0 : Int), zc_Q h0 h → (e0 = 0 ∨ e0 = 1) → zc_b h0 (L3_test_52 (d + 7) a0 a1 a2 a4 e0 h) := fun h e0 F he => by
      rw [qL3_test_52]
      refine zc_cV F (zc_C1_add F.2 h_a1 (by unfold zv_rg; omega) (by unfold zv_rg; omega)) fun g1 F1 => ?_
      rw [zm_w (by omega)]
      exact ih g1 e0 _ F1 he (by omega) (by omega)
    rw [qL3_test_10, if_pos (by omega)]
    refine zm_if (fun c => zc_bx F h3) (fun c => ?_)
    refine zc_pI (K := fun v => (v = 0 ∨ v = 1)) (zc_C3_is F.2 h_a0 (by decide)) fun q1v r1 k1 => ?_
    dsimp only
    refine zm_if (fun c => zc_bx F h3) (fun c => ?_)
    refine zc_cI (K := fun v => (v = 0 ∨ v = 1)) F (zc_C3_next F.2 h_a0) fun q2v q2h F2 r2 k2 => ?_
    dsimp only
    refine zm_if (fun c => ?_) (fun c => ?_)
    · rw [qL3_test_51]
      exact go _ 0 F2 (Or.inl rfl)
    · refine zc_cI (K := fun v => (v = 0 ∨ v = 1)) F2 (hf _ F2.2) fun q3v q3h F3 r3 k3 => ?_
      dsimp only
      refine zm_if (fun c => ?_) (fun c => ?_)
      · rw [qL3_test_51]
        exact go _ 0 F3 (Or.inl rfl)
      · exact go _ 1 F3 (Or.inr rfl)
theorem zc_test {d : Nat} (h_a0 : zv_lay a0 = (1, 3)) (h_a1 : zv_lay a1 = (1, 1)) (hf : ∀ h, zc_A h → zm_R (C3_side (d + 7) a0 a1 a2 h) (zc_bb h)) (h : zv_H) (hA : zc_A h) : zm_R (C3_test (d + 8) a0 a1 a2 h) (zc_bb h) := by
  refine zm_cI (P := fun v h' => zc_bb h (v, h')) (fun e => lC3_test (zc_ob hA h_a0) e) ?_
  rw [qE3_test]
  refine zc_cI (K := fun v => (v = 0 ∨ v = 1)) (zc_Q_r hA) (hf _ hA) fun q1v q1h F1 r1 k1 => ?_
  exact zc_L3_test_10 h_a0 h_a1 hf _ _ _ 0 F1 k1 (by omega) rfl
theorem zc_fact (h_a0 : zv_lay a0 = (1, 3)) (h_a1 : zv_lay a1 = (1, 1)) : ∀ (j D : Nat) (a2 : Int), 3 * j ≤ D → j ≤ 6 → a2 = 6 - (j : Int) → ∀ h, zc_A h → zm_R (C3_fact (D + 6) a0 a1 a2 h) (zc_bb h) := by
  intro j
  induction j with
  | zero =>
    intro D a2 hD hj e2 h hA
    refine zm_cI (P := fun v h' => zc_bb h (v, h')) (fun e => lC3_fact (zc_ob hA h_a0) e) ?_
    have F := zc_Q_r hA
    have go : ∀ (h' : zv_H) (a3 : Int), zc_Q h h' → zc_b h (L3_fact_30 (D + 5) a0 a1 a2 a3 h') := fun h' a3 F => by
      rw [qL3_fact_30, if_neg (by omega)]
      refine zc_cI (K := fun v => (v = 0)) F (zc_C3_fail F.2 h_a0 (by unfold zv_rg; omega)) fun q3v q3h F3 r3 k3 => ?_
      exact zc_bx F3 (Or.inl k3)
    rw [qE3_fact]
    refine zc_pI (K := fun v => (v = 0 ∨ v = 1)) (zc_C3_is F.2 h_a0 (by decide)) fun q1v r1 k1 => ?_
    dsimp only
    refine zm_if (fun c => ?_) (fun c => go _ _ F)
    refine zc_pI (K := fun v => (v = 0 ∨ v = 1)) (zc_C3_isSign F.2 h_a0 (by unfold zv_rg; omega)) fun q2v r2 k2 => ?_
    dsimp only
    refine zm_if (fun c => ?_) (fun c => go _ _ F)
    refine zc_pI (K := fun v => True) (zc_C3_asked F.2 h_a0) fun q3v r3 k3 => ?_
    dsimp only
    refine zc_cI (K := fun v => (v = 0 ∨ v = 1)) F (zc_C3_comparison F.2 h_a0 h_a1 r3) fun q4v q4h F4 r4 k4 => ?_
    exact zc_bx F4 k4
  | succ j ih =>
    intro D a2 hD hj e2 h hA
    obtain ⟨D', rfl⟩ : ∃ D', D = D' + 3 := ⟨D - 3, by omega⟩
    refine zm_cI (P := fun v h' => zc_bb h (v, h')) (fun e => lC3_fact (zc_ob hA h_a0) e) ?_
    have F := zc_Q_r hA
    have ew : zv_w (a2 + 1) = 6 - (j : Int) := by rw [zm_w (by omega)]; omega
    have go : ∀ (h' : zv_H) (a3 : Int), zc_Q h h' → zc_b h (L3_fact_30 (D' + 8) a0 a1 a2 a3 h') := fun h' a3 F => by
      rw [qL3_fact_30, if_pos (by omega), ew]
      refine zc_cI (K := fun v => (v = 0 ∨ v = 1)) F (zc_C3_next F.2 h_a0) fun q1v q1h F1 r1 k1 => ?_
      dsimp only
      refine zm_if (fun c => zc_b0 F1) (fun c => ?_)
      refine zm_if (fun c => ?_) (fun c => ?_)
      · refine zc_cI (K := fun v => (v = 0 ∨ v = 1)) F1 (zc_test h_a0 h_a1 (zc_side h_a0 h_a1 (ih D' _ (by omega) (by omega) rfl)) _ F1.2) fun q2v q2h F2 r2 k2 => ?_
        dsimp only
        refine zm_if (fun c => zc_b0 F2) (fun c => ?_)
        refine zc_pI (K := fun v => (v = 0 ∨ v = 1)) (zc_C3_isSign F2.2 h_a0 (by unfold zv_rg; omega)) fun q3v r3 k3 => ?_
        dsimp only
        refine zm_if (fun c => ?_) (fun c => ?_)
        · refine zc_cI (K := fun v => (v = 0)) F2 (zc_C3_fail F2.2 h_a0 (by unfold zv_rg; omega)) fun q4v q4h F4 r4 k4 => ?_
          exact zc_bx F4 (Or.inl k4)
        · refine zc_cI (K := fun v => (v = 0 ∨ v = 1)) F2 (zc_C3_next F2.2 h_a0) fun q5v q5h F5 r5 k5 => ?_
          exact zc_bx F5 k5
      · refine zc_cI (K := fun v => (v = 0 ∨ v = 1)) F1 (ih (D' + 2) _ (by omega) (by omega) rfl _ F1.2) fun q6v q6h F6 r6 k6 => ?_
        dsimp only
        refine zc_cV F6 (zc_C1_add F6.2 h_a1 (by unfold zv_rg; omega) (by unfold zv_rg; omega)) fun g7 F7 => ?_
        exact zc_bx F7 k6
    rw [qE3_fact]
    refine zc_pI (K := fun v => (v = 0 ∨ v = 1)) (zc_C3_is F.2 h_a0 (by decide)) fun q1v r1 k1 => ?_
    dsimp only
    refine zm_if (fun c => ?_) (fun c => go _ _ F)
    refine zc_pI (K := fun v => (v = 0 ∨ v = 1)) (zc_C3_isSign F.2 h_a0 (by unfold zv_rg; omega)) fun q2v r2 k2 => ?_
    dsimp only
    refine zm_if (fun c => ?_) (fun c => go _ _ F)
    refine zc_pI (K := fun v => True) (zc_C3_asked F.2 h_a0) fun q3v r3 k3 => ?_
    dsimp only
    refine zc_cI (K := fun v => (v = 0 ∨ v = 1)) F (zc_C3_comparison F.2 h_a0 h_a1 r3) fun q4v q4h F4 r4 k4 => ?_
    exact zc_bx F4 k4
theorem zc_test0 {d : Nat} (h_a0 : zv_lay a0 = (1, 3)) (h_a1 : zv_lay a1 = (1, 1)) {h : zv_H} (hA : zc_A h) : zm_R (C3_test (d + 26) a0 a1 0 h) (zc_bb h) := zc_test (d := d + 18) h_a0 h_a1 (zc_side h_a0 h_a1 (zc_fact h_a0 h_a1 6 (d + 18) 0 (by omega) (by omega) rfl)) h hA
theorem zc_L3_head_52 {d : Nat} (h_a0 : zv_lay a0 = (1, 3)) (h_a1 : zv_lay a1 = (1, 0)) {h : zv_H} (F : zc_Q h0 h) : zm_R (L3_head_52 (d + 26) a0 a1 h) (zm_V fun h' => zc_Q h0 h') := by
  rw [qL3_head_52]
  refine zc_rI F h_a0 fun v1 e1 r1 => ?_
  refine zm_if (fun c => ?_) (fun c => zm_iV F)
  refine zc_pI (K := fun v => (v = 0 ∨ v = 1)) (zc_C3_is F.2 h_a0 (by decide)) fun q1v r1 k1 => ?_
  dsimp only
  refine zm_if (fun c => zm_iV F) (fun c => ?_)
  refine zc_cI (K := fun v => (v = 0 ∨ v = 1)) F (zc_C3_next F.2 h_a0) fun q2v q2h F r2 k2 => ?_
  dsimp only
  refine zm_if (fun c => zm_iV F) (fun c => ?_)
  refine zc_rF F 22 h_a1 ?_
  refine zc_cV F (zc_C1_clear F.2 (zc_y0_8 h_a1).1) fun g5 F => ?_
  refine zc_rF F 22 h_a1 ?_
  refine zc_cI (K := fun v => (v = 0 ∨ v = 1)) F (zc_test0 h_a0 (zc_y0_8 h_a1).1 F.2) fun q7v q7h F r7 k7 => ?_
  dsimp only
  refine zm_if (fun c => zm_iV F) (fun c => ?_)
  refine zc_cI (K := fun v => (v = 0 ∨ v = 1)) F (zc_C3_closed F.2 h_a0) fun q8v q8h F r8 k8 => ?_
  dsimp only
  refine zm_if (fun c => zm_iV F) (fun c => ?_)
  refine zc_cI (K := fun v => (v = 0 ∨ v = 1)) F (zc_C3_next F.2 h_a0) fun q9v q9h F r9 k9 => ?_
  exact zm_iV F
theorem zc_C3_head {d : Nat} {h : zv_H} (hA : zc_A h) (h_a0 : zv_lay a0 = (1, 3)) (h_a1 : zv_lay a1 = (1, 0)) : zm_R (C3_head (d + 27) a0 a1 h) (fun q => zc_Q h q) := by
  refine zm_cV (fun e => lC3_head (zc_ob hA h_a0) e) ?_
  have F := zc_Q_r hA
  have go : ∀ {h'}, zc_Q h h' → zm_R (L3_head_52 (d + 26) a0 a1 h') (zm_V fun h' => zc_Q h h') := fun F => zc_L3_head_52 h_a0 h_a1 F
  rw [qE3_head]
  refine zc_rI F h_a0 fun v1 e1 r1 => ?_
  refine zm_if (fun c => ?_) (fun c => go F)
  refine zc_pI (K := fun v => (v = 0 ∨ v = 1)) (zc_C3_is F.2 h_a0 (by decide)) fun q1v r1 k1 => ?_
  dsimp only
  refine zm_if (fun c => go F) (fun c => ?_)
  refine zc_cI (K := fun v => (v = 0 ∨ v = 1)) F (zc_C3_next F.2 h_a0) fun q2v q2h F r2 k2 => ?_
  dsimp only
  refine zm_if (fun c => go F) (fun c => ?_)
  refine zc_cI (K := fun v => (v = 0 ∨ v = 1)) F (zc_C3_spelled F.2 h_a0 (by unfold zv_rg; omega)) fun q3v q3h F r3 k3 => ?_
  dsimp only
  refine zm_if (fun c => go F) (fun c => ?_)
  refine zc_cI (K := fun v => (v = 0 ∨ v = 1)) F (zc_C3_closed F.2 h_a0) fun q4v q4h F r4 k4 => ?_
  dsimp only
  refine zm_if (fun c => go F) (fun c => ?_)
  refine zc_rF F 2 h_a0 ?_
  refine zc_cV F (zc_C0_startWith F.2 h_a1 (zc_y3_1 h_a0).1) fun g7 F => ?_
  refine zc_cI (K := fun v => (v = 0 ∨ v = 1)) F (zc_C3_next F.2 h_a0) fun q8v q8h F r8 k8 => ?_
  exact go F
end
