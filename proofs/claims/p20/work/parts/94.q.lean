theorem zc_L2_drop_6 {d : Nat} {h0 : zv_H} {a0 : Nat} (h_a0 : zv_lay a0 = (1, 2)) : ∀ (n : Nat) (h : zv_H) (a2 : Int), zc_Q h0 h → 0 ≤ a2 → a2 ≤ 12 → (12 - a2).toNat = n → zm_R (L2_drop_6 d a0 a2 h) (zm_V fun h' => zc_Q h0 h') := by
  intro n
  have fin : ∀ h, zc_Q h0 h → zm_R (L2_drop_58 d a0 h) (zm_V fun h' => zc_Q h0 h') := fun h F0 => by
    rw [qL2_drop_58]
    refine zc_rI F0 h_a0 fun v1 e_v1 r_v1 => ?_
    refine zc_wO F0 h_a0 (zc_frO h_a0 (zc_lt h_a0 (by decide)) (by decide) rfl (by decide)) (zc_mx (zc_w _) (by unfold zv_rg; omega)) fun g2 F1 => ?_
    exact zm_iV F1
  induction n with
  | zero =>
    intro h a2 F0 z1 z2 hn
    rw [qL2_drop_6]
    refine zc_rI F0 h_a0 fun v1 e_v1 r_v1 => ?_
    refine zm_if (fun c1 => ?_) (fun c1 => fin h F0)
    rw [zm_w (by omega)]
    rw [if_neg (by omega)]
    exact fin h F0
  | succ n ih =>
    intro h a2 F0 z1 z2 hn
    rw [qL2_drop_6]
    refine zc_rI F0 h_a0 fun v1 e_v1 r_v1 => ?_
    rw [zm_w (by omega)]
    refine zm_if (fun c1 => ?_) (fun c1 => fin h F0)
    refine zm_if (fun c2 => ?_) (fun c2 => fin h F0)
    refine zc_rF F0 1 h_a0 ?_
    refine zc_rF F0 1 h_a0 ?_
    refine zc_rA F0 (zc_y2_0 h_a0).1 (zc_y2_0 h_a0).2 (by omega) (by omega) fun v4 r_v4 => ?_
    refine zc_wA F0 (zc_y2_0 h_a0).1 (zc_y2_0 h_a0).2 (by omega) (by omega) r_v4 fun g5 F1 u => ?_
    refine zc_rF F1 2 h_a0 ?_
    refine zc_rF F1 2 h_a0 ?_
    refine zc_rA F1 (zc_y2_1 h_a0).1 (zc_y2_1 h_a0).2 (by omega) (by omega) fun v8 r_v8 => ?_
    refine zc_wA F1 (zc_y2_1 h_a0).1 (zc_y2_1 h_a0).2 (by omega) (by omega) r_v8 fun g9 F2 u => ?_
    exact ih g9 _ F2 (by omega) (by omega) (by omega)
theorem zc_E2_drop {d : Nat} {h : zv_H} {a0 : Nat} {a1 : Int} (hA : zc_A h) (h_a0 : zv_lay a0 = (1, 2)) (h_a1 : (0 ≤ a1 ∧ a1 < 12) ∧ zv_rg a1) : zm_R (E2_drop d a0 a1 h) (zm_V fun h' => zc_Q h h') := by
  rw [qE2_drop]
  exact zc_L2_drop_6 h_a0 _ h _ (zc_Q_r hA) (by omega) (by omega) rfl
theorem zc_C2_drop {d : Nat} {h : zv_H} {a0 : Nat} {a1 : Int} (hA : zc_A h) (h_a0 : zv_lay a0 = (1, 2)) (h_a1 : (0 ≤ a1 ∧ a1 < 12) ∧ zv_rg a1) : zm_R (C2_drop (d + 1) a0 a1 h) (fun q => zc_Q h q) := zm_cV (fun e => lC2_drop (zc_ob hA h_a0) e) (zc_E2_drop hA h_a0 h_a1)
theorem zc_L0_placeIn {d : Nat} {h0 : zv_H} (hA : zc_A h0) {a0 a1 a2 : Nat} (h_a0 : zv_lay a0 = (1, 0)) (h_a1 : zv_lay a1 = (1, 5)) (h_a2 : zv_lay a2 = (1, 7)) : ∀ (n : Nat) (a3 : Int), 0 ≤ a3 → a3 ≤ 121 → (121 - a3).toNat = n → zm_R (L0_placeIn_2 (d + 3) a0 a1 a2 a3 h0) (zm_I fun v h' => h' = h0 ∧ zv_rg v ∧ True) := by
  have F0 := zc_Q_r hA
  intro n
  induction n with
  | zero =>
    intro a3 z1 z2 hn
    rw [qL0_placeIn_2]
    refine zc_rI F0 h_a2 fun v1 e_v1 r_v1 => ?_
    have b1 := zc_bdv (k := 1) (m := 40) F0 h_a2 rfl
    rw [← e_v1] at b1
    refine zc_rI F0 h_a1 fun v2 e_v2 r_v2 => ?_
    have b2 := zc_bdv (k := 12) (m := 120) F0 h_a1 rfl
    rw [← e_v2] at b2
    rw [zm_w (by omega), if_neg (by omega)]
    exact zm_iI ⟨rfl, by unfold zv_rg; omega, trivial⟩
  | succ n ih =>
    intro a3 z1 z2 hn
    rw [qL0_placeIn_2]
    refine zc_rI F0 h_a2 fun v1 e_v1 r_v1 => ?_
    have b1 := zc_bdv (k := 1) (m := 40) F0 h_a2 rfl
    rw [← e_v1] at b1
    refine zc_rI F0 h_a1 fun v2 e_v2 r_v2 => ?_
    have b2 := zc_bdv (k := 12) (m := 120) F0 h_a1 rfl
    rw [← e_v2] at b2
    rw [zm_w (by omega)]
    refine zm_if (fun c1 => ?_) (fun c1 => zm_iI ⟨rfl, by unfold zv_rg; omega, trivial⟩)
    have fin : ∀ a4 : Int, zm_R (L0_placeIn_51 (d + 3) a0 a1 a2 a3 a4 h0) (zm_I fun v h' => h' = h0 ∧ zv_rg v ∧ True) := fun a4 => by
      rw [qL0_placeIn_51]
      refine zc_rI F0 h_a2 fun v1 e_v1 r_v1 => ?_
      refine zm_if (fun c2 => zm_iI ⟨rfl, by unfold zv_rg; omega, trivial⟩) (fun c2 => ?_)
      rw [zm_w (by omega)]
      exact ih _ (by omega) (by omega) (by omega)
    have inner : ∀ (m : Nat) (a4 : Int), 0 ≤ a4 → (40 - a4).toNat = m → zm_R (L0_placeIn_18 (d + 3) a0 a1 a2 a3 a4 h0) (zm_I fun v h' => h' = h0 ∧ zv_rg v ∧ True) := by
      intro m
      induction m with
      | zero =>
        intro a4 y1 hm
        rw [qL0_placeIn_18, zm_e (zc_gI hA h_a2 1), ← e_v1, if_neg (by omega)]
        exact fin _
      | succ m ihm =>
        intro a4 y1 hm
        rw [qL0_placeIn_18, zm_e (zc_gI hA h_a2 1), ← e_v1]
        refine zm_if (fun c2 => ?_) (fun c2 => fin _)
        refine zc_pI (K := fun _ => True) (zc_C0_letterAt hA h_a0 h_a1 (zc_w _)) fun q2v r_q2 k_q2 => ?_
        dsimp only
        refine zc_pI (K := fun _ => True) (zc_C7_at hA h_a2 (by unfold zv_rg; omega)) fun q3v r_q3 k_q3 => ?_
        dsimp only
        refine zm_if (fun c3 => ?_) (fun c3 => fin _)
        rw [zm_w (by omega)]
        exact ihm _ (by omega) (by omega)
    exact inner _ 0 (by omega) rfl
theorem zc_C0_placeIn {d : Nat} {h : zv_H} {a0 a1 a2 : Nat} (hA : zc_A h) (h_a0 : zv_lay a0 = (1, 0)) (h_a1 : zv_lay a1 = (1, 5)) (h_a2 : zv_lay a2 = (1, 7)) : zm_R (C0_placeIn (d + 4) a0 a1 a2 h) (fun q => q.2 = h ∧ zv_rg q.1 ∧ True) := by
  refine zm_cI (P := fun v h' => h' = h ∧ zv_rg v ∧ True) (fun e => lC0_placeIn (zc_ob hA h_a0) e) ?_
  rw [qE0_placeIn]
  exact zc_L0_placeIn hA h_a0 h_a1 h_a2 _ 0 (by omega) (by omega) rfl
theorem zc_E0_dropName {d : Nat} {h : zv_H} {a0 : Nat} {a1 : Int} (hA : zc_A h) (h_a0 : zv_lay a0 = (1, 0)) (h_a1 : zv_rg a1) : zm_R (E0_dropName (d + 1) a0 a1 h) (zm_I fun v h' => zc_Q h h' ∧ zv_rg v ∧ True) := by
  have F0 := zc_Q_r hA
  rw [qE0_dropName]
  refine zm_if (fun c1 => ?_) (fun c1 => ?_)
  · exact zm_iI ⟨F0, (by unfold zv_rg; omega), trivial⟩
  · refine zc_rF F0 14 h_a0 ?_
    refine zc_pI (K := fun v => (v = -1 ∨ (0 ≤ v ∧ v < 12))) (zc_C2_indexOf F0.2 (zc_y0_6 h_a0).1 h_a1) fun q2v r_q2 k_q2 => ?_
    dsimp only
    refine zm_if (fun c3 => ?_) (fun c3 => ?_)
    · exact zm_iI ⟨F0, (by unfold zv_rg; omega), trivial⟩
    · refine zc_rF F0 14 h_a0 ?_
      refine zc_cV F0 (zc_C2_drop F0.2 (zc_y0_6 h_a0).1 ⟨by unfold zv_rg at *; omega, r_q2⟩) fun g4 F4 => ?_
      refine zc_rF F4 14 h_a0 ?_
      refine zc_rI F4 (zc_y0_6 h_a0).1 fun v6 e_v6 r_v6 => ?_
      exact zm_iI ⟨F4, r_v6, trivial⟩
theorem zc_C0_dropName {d : Nat} {h : zv_H} {a0 : Nat} {a1 : Int} (hA : zc_A h) (h_a0 : zv_lay a0 = (1, 0)) (h_a1 : zv_rg a1) : zm_R (C0_dropName (d + 2) a0 a1 h) (fun q => zc_Q h q.2 ∧ zv_rg q.1 ∧ True) := zm_cI (fun e => lC0_dropName (zc_ob hA h_a0) e) (zc_E0_dropName hA h_a0 h_a1)
theorem zc_L0_leastWith_2 {d : Nat} {h0 : zv_H} (hA : zc_A h0) (N_L0_leastWith_2 : Nat) : ∀ {a0 : Nat} {a1 : Nat} {a2 : Int}, (zv_lay a0 = (1, 0)) → (zv_lay a1 = (1, 7)) → (0 ≤ a2 ∧ zv_rg a2) → (2147483647 - a2).toNat = N_L0_leastWith_2 → zm_R (L0_leastWith_2 (d + 4) a0 a1 a2 h0) (zm_I fun v h' => h' = h0 ∧ zv_rg v ∧ True) := by
  induction N_L0_leastWith_2 using Nat.strongRecOn with
  | _ N_L0_leastWith_2 ih_L0_leastWith_2 =>
    intro a0 a1 a2 h_a0 h_a1 h_a2 eN
    rw [qL0_leastWith_2]
    have z_a2 := h_a2.1
    refine zm_if (fun c1 => ?_) (fun c1 => ?_)
    · refine zc_pN (K := fun v => (v = 0 ∨ zc_V h0 v)) (zc_C0_at (zc_Q_r hA).2 h_a0 h_a2.2) fun q1v k_q1 => ?_
      dsimp only
      refine zm_if (fun c3 => ?_) (fun c3 => ?_)
      · exact ih_L0_leastWith_2 _ (by rw [← eN]; exact zc_up h_a2.2 (by unfold zv_rg; omega) c1) h_a0 h_a1 ⟨by rw [zc_up1 h_a2.2 (by unfold zv_rg; omega) c1]; omega, zc_w _⟩  rfl
      · refine zc_pI (K := fun v => True) (zc_C0_placeIn (zc_Q_r hA).2 h_a0 ((Or.imp id (zc_Vb (zc_Q_r hA).1) k_q1).resolve_left c3).1 h_a1) fun q2v r_q2 k_q2 => ?_
        dsimp only
        refine zm_if (fun c5 => ?_) (fun c5 => ?_)
        · exact ih_L0_leastWith_2 _ (by rw [← eN]; exact zc_up h_a2.2 (by unfold zv_rg; omega) c1) h_a0 h_a1 ⟨by rw [zc_up1 h_a2.2 (by unfold zv_rg; omega) c1]; omega, zc_w _⟩  rfl
        · exact zm_iI ⟨rfl, h_a2.2, trivial⟩
    · exact zm_iI ⟨rfl, (by unfold zv_rg; omega), trivial⟩
theorem zc_E0_leastWith {d : Nat} {h : zv_H} {a0 : Nat} {a1 : Nat} (hA : zc_A h) (h_a0 : zv_lay a0 = (1, 0)) (h_a1 : zv_lay a1 = (1, 7)) : zm_R (E0_leastWith (d + 4) a0 a1 h) (zm_I fun v h' => h' = h ∧ zv_rg v ∧ True) := by
  have F0 := zc_Q_r hA
  rw [qE0_leastWith]
  exact zc_L0_leastWith_2 hA  _ h_a0 h_a1 ⟨by omega, (by unfold zv_rg; omega)⟩  rfl
theorem zc_C0_leastWith {d : Nat} {h : zv_H} {a0 : Nat} {a1 : Nat} (hA : zc_A h) (h_a0 : zv_lay a0 = (1, 0)) (h_a1 : zv_lay a1 = (1, 7)) : zm_R (C0_leastWith (d + 5) a0 a1 h) (fun q => q.2 = h ∧ zv_rg q.1 ∧ True) := zm_cI (fun e => lC0_leastWith (zc_ob hA h_a0) e) (zc_E0_leastWith hA h_a0 h_a1)
theorem zc_L0_statesWith_4 {d : Nat} {h0 : zv_H} (hA : zc_A h0) (N_L0_statesWith_4 : Nat) : ∀ {a0 : Nat} {a1 : Nat} {a2 : Int} {a3 : Int}, (zv_lay a0 = (1, 0)) → (zv_lay a1 = (1, 7)) → (zv_rg a2) → (0 ≤ a3 ∧ zv_rg a3) → (2147483647 - a3).toNat = N_L0_statesWith_4 → zm_R (L0_statesWith_4 (d + 4) a0 a1 a2 a3 h0) (zm_I fun v h' => h' = h0 ∧ zv_rg v ∧ True) := by
  induction N_L0_statesWith_4 using Nat.strongRecOn with
  | _ N_L0_statesWith_4 ih_L0_statesWith_4 =>
    intro a0 a1 a2 a3 h_a0 h_a1 h_a2 h_a3 eN
    rw [qL0_statesWith_4]
    have z_a3 := h_a3.1
    refine zm_if (fun c1 => ?_) (fun c1 => ?_)
    · refine zc_pN (K := fun v => (v = 0 ∨ zc_V h0 v)) (zc_C0_at (zc_Q_r hA).2 h_a0 h_a3.2) fun q1v k_q1 => ?_
      dsimp only
      refine zm_if (fun c3 => ?_) (fun c3 => ?_)
      · exact ih_L0_statesWith_4 _ (by rw [← eN]; exact zc_up h_a3.2 (by unfold zv_rg; omega) c1) h_a0 h_a1 (zc_w _) ⟨by rw [zc_up1 h_a3.2 (by unfold zv_rg; omega) c1]; omega, zc_w _⟩  rfl
      · refine zc_pI (K := fun v => True) (zc_C0_placeIn (zc_Q_r hA).2 h_a0 ((Or.imp id (zc_Vb (zc_Q_r hA).1) k_q1).resolve_left c3).1 h_a1) fun q2v r_q2 k_q2 => ?_
        dsimp only
        refine zm_if (fun c5 => ?_) (fun c5 => ?_)
        · exact ih_L0_statesWith_4 _ (by rw [← eN]; exact zc_up h_a3.2 (by unfold zv_rg; omega) c1) h_a0 h_a1 (zc_w _) ⟨by rw [zc_up1 h_a3.2 (by unfold zv_rg; omega) c1]; omega, zc_w _⟩  rfl
        · exact ih_L0_statesWith_4 _ (by rw [← eN]; exact zc_up h_a3.2 (by unfold zv_rg; omega) c1) h_a0 h_a1 (zc_w _) ⟨by rw [zc_up1 h_a3.2 (by unfold zv_rg; omega) c1]; omega, zc_w _⟩  rfl
    · exact zm_iI ⟨rfl, h_a2, trivial⟩
theorem zc_E0_statesWith {d : Nat} {h : zv_H} {a0 : Nat} {a1 : Nat} (hA : zc_A h) (h_a0 : zv_lay a0 = (1, 0)) (h_a1 : zv_lay a1 = (1, 7)) : zm_R (E0_statesWith (d + 4) a0 a1 h) (zm_I fun v h' => h' = h ∧ zv_rg v ∧ True) := by
  have F0 := zc_Q_r hA
  rw [qE0_statesWith]
  exact zc_L0_statesWith_4 hA  _ h_a0 h_a1 (by unfold zv_rg; omega) ⟨by omega, (by unfold zv_rg; omega)⟩  rfl
theorem zc_C0_statesWith {d : Nat} {h : zv_H} {a0 : Nat} {a1 : Nat} (hA : zc_A h) (h_a0 : zv_lay a0 = (1, 0)) (h_a1 : zv_lay a1 = (1, 7)) : zm_R (C0_statesWith (d + 5) a0 a1 h) (fun q => q.2 = h ∧ zv_rg q.1 ∧ True) := zm_cI (fun e => lC0_statesWith (zc_ob hA h_a0) e) (zc_E0_statesWith hA h_a0 h_a1)
