theorem zc_lt0 {h : zv_H} {s : Nat} (q : s = 0 ∨ zc_V h s) : s < 373 := by
  cases q with
  | inl q => omega
  | inr q => exact zv_lay_lt (zc_ly q.1)
theorem zc_lt1 {s : Nat} (q : s = 0 ∨ zv_lay s = (1, 5)) : s < 373 := by
  cases q with
  | inl q => omega
  | inr q => exact zv_lay_lt (zc_ly q)
theorem zc_E0_at {d : Nat} {h : zv_H} {a0 : Nat} {a1 : Int} (hA : zc_A h) (h_a0 : zv_lay a0 = (1, 0)) (h_a1 : zv_rg a1) : zm_R (E0_at d a0 a1 h) (zm_N fun v h' => h' = h ∧ (v = 0 ∨ zc_V h v)) := by
  have F0 := zc_Q_r hA
  rw [qE0_at]
  refine zm_if (fun c1 => ?_) (fun c1 => ?_)
  · exact zm_iN ⟨rfl, Or.inl rfl⟩
  refine zm_if (fun c2 => ?_) (fun c2 => ?_)
  · refine zc_rF F0 4 h_a0 ?_
    refine zc_rS F0 h_a0 (by omega) (by omega) fun v2 l_v2 f_v2 e_v2 n_v2 => ?_
    refine zm_if (fun c3 => ?_) (fun c3 => ?_)
    · exact zm_iN ⟨rfl, Or.inl rfl⟩
    refine zc_rT F0 l_v2 fun v3 e_v3 r_v3 => ?_
    refine zm_if (fun c4 => ?_) (fun c4 => ?_)
    · exact zm_iN ⟨rfl, Or.inl rfl⟩
    · refine zm_iN ⟨rfl, Or.inr ⟨l_v2, ?_⟩⟩
      cases hA.2.1 v2 l_v2 with
      | inl t => exact absurd (e_v3.trans t.1) c4
      | inr t => exact t.1
  · exact zm_iN ⟨rfl, Or.inl rfl⟩
theorem zc_C0_at {d : Nat} {h : zv_H} {a0 : Nat} {a1 : Int} (hA : zc_A h) (h_a0 : zv_lay a0 = (1, 0)) (h_a1 : zv_rg a1) : zm_R (C0_at (d + 1) a0 a1 h) (fun q => q.2 = h ∧ (q.1 = 0 ∨ zc_V h q.1)) := zm_cN (fun e => lC0_at (zc_ob hA h_a0) e) (zc_E0_at hA h_a0 h_a1)
theorem zc_L0_leaves_4 {d : Nat} {h0 : zv_H} (hA : zc_A h0) (N_L0_leaves_4 : Nat) : ∀ {a0 : Nat} {a1 : Int} {a2 : Int}, (zv_lay a0 = (1, 0)) → (zv_rg a1) → (0 ≤ a2 ∧ zv_rg a2) → (2147483647 - a2).toNat = N_L0_leaves_4 → zm_R (L0_leaves_4 (d + 1) a0 a1 a2 h0) (zm_I fun v h' => h' = h0 ∧ zv_rg v ∧ True) := by
  induction N_L0_leaves_4 using Nat.strongRecOn with
  | _ N_L0_leaves_4 ih_L0_leaves_4 =>
    intro a0 a1 a2 h_a0 h_a1 h_a2 eN
    rw [qL0_leaves_4]
    have z_a2 := h_a2.1
    refine zm_if (fun c1 => ?_) (fun c1 => ?_)
    · refine zc_pN (K := fun v => (v = 0 ∨ zc_V h0 v)) (zc_C0_at (zc_Q_r hA).2 h_a0 h_a2.2) fun q1v k_q1 => ?_
      dsimp only
      refine zm_if (fun c3 => ?_) (fun c3 => ?_)
      · exact ih_L0_leaves_4 _ (by rw [← eN]; exact zc_up h_a2.2 (by unfold zv_rg; omega) c1) h_a0 (zc_w _) ⟨by rw [zc_up1 h_a2.2 (by unfold zv_rg; omega) c1]; omega, zc_w _⟩  rfl
      · refine zc_rT (zc_Q_r hA) ((Or.imp id (zc_Vb (zc_Q_r hA).1) k_q1).resolve_left c3).1 fun v2 e_v2 r_v2 => ?_
        refine zm_if (fun c4 => ?_) (fun c4 => ?_)
        · exact ih_L0_leaves_4 _ (by rw [← eN]; exact zc_up h_a2.2 (by unfold zv_rg; omega) c1) h_a0 (zc_w _) ⟨by rw [zc_up1 h_a2.2 (by unfold zv_rg; omega) c1]; omega, zc_w _⟩  rfl
        · exact ih_L0_leaves_4 _ (by rw [← eN]; exact zc_up h_a2.2 (by unfold zv_rg; omega) c1) h_a0 (zc_w _) ⟨by rw [zc_up1 h_a2.2 (by unfold zv_rg; omega) c1]; omega, zc_w _⟩  rfl
    · exact zm_iI ⟨rfl, h_a1, trivial⟩
theorem zc_E0_leaves {d : Nat} {h : zv_H} {a0 : Nat} (hA : zc_A h) (h_a0 : zv_lay a0 = (1, 0)) : zm_R (E0_leaves (d + 1) a0 h) (zm_I fun v h' => h' = h ∧ zv_rg v ∧ True) := by
  have F0 := zc_Q_r hA
  rw [qE0_leaves]
  exact zc_L0_leaves_4 hA  _ h_a0 (by unfold zv_rg; omega) ⟨by omega, (by unfold zv_rg; omega)⟩  rfl
theorem zc_C0_leaves {d : Nat} {h : zv_H} {a0 : Nat} (hA : zc_A h) (h_a0 : zv_lay a0 = (1, 0)) : zm_R (C0_leaves (d + 2) a0 h) (fun q => q.2 = h ∧ zv_rg q.1 ∧ True) := zm_cI (fun e => lC0_leaves (zc_ob hA h_a0) e) (zc_E0_leaves hA h_a0)
theorem zc_L0_onLine_2 {d : Nat} {h0 : zv_H} (hA : zc_A h0) (N_L0_onLine_2 : Nat) : ∀ {a0 : Nat} {a2 : Nat}, (zc_V h0 a0) → (a2 = 0 ∨ zc_V h0 a2) → zc_dm h0 a2 = N_L0_onLine_2 → zm_R (L0_onLine_2 (d + 0) a0 a2 h0) (zm_I fun v h' => h' = h0 ∧ zv_rg v ∧ True) := by
  induction N_L0_onLine_2 using Nat.strongRecOn with
  | _ N_L0_onLine_2 ih_L0_onLine_2 =>
    intro a0 a2 h_a0 h_a2 eN
    rw [qL0_onLine_2]
    refine zm_if (fun c1 => ?_) (fun c1 => ?_)
    · rw [qL0_onLine_25]
      refine zm_if (fun c2 => ?_) (fun c2 => ?_)
      · have w_a2 := zc_lt0 h_a2
        have w_a0 := zv_lay_lt (zc_ly h_a0.1)
        omega
      · refine zm_if (fun c3 => ?_) (fun c3 => ?_)
        · exact zm_iI ⟨rfl, (by unfold zv_rg; omega), trivial⟩
        · exact zm_iI ⟨rfl, (by unfold zv_rg; omega), trivial⟩
    · refine zc_rT (zc_Q_r hA) (h_a2.resolve_left c1).1 fun v1 e_v1 r_v1 => ?_
      have d_v1 := (zc_dep (zc_Q_r hA) (h_a2.resolve_left c1)).1
      rw [← e_v1] at d_v1
      refine zc_rT (zc_Q_r hA) h_a0.1 fun v2 e_v2 r_v2 => ?_
      have d_v2 := (zc_dep (zc_Q_r hA) h_a0).1
      rw [← e_v2] at d_v2
      refine zm_if (fun c4 => ?_) (fun c4 => ?_)
      · rw [qL0_onLine_25]
        refine zm_if (fun c5 => ?_) (fun c5 => ?_)
        · have w_a2 := zv_lay_lt (zc_ly (h_a2.resolve_left c1).1)
          have w_a0 := zv_lay_lt (zc_ly h_a0.1)
          omega
        · refine zm_if (fun c6 => ?_) (fun c6 => ?_)
          · exact zm_iI ⟨rfl, (by unfold zv_rg; omega), trivial⟩
          · exact zm_iI ⟨rfl, (by unfold zv_rg; omega), trivial⟩
      · refine zc_rR5 (zc_Q_r hA) (h_a2.resolve_left c1).1 ?_
        exact ih_L0_onLine_2 _ (by rw [← eN]; exact zc_dmP (zc_Q_r hA) (h_a2.resolve_left c1)) h_a0 (zc_pV (zc_Q_r hA) (h_a2.resolve_left c1))  rfl
theorem zc_E0_onLine {d : Nat} {h : zv_H} {a0 : Nat} {a1 : Nat} (hA : zc_A h) (h_a0 : zc_V h a0) (h_a1 : a1 = 0 ∨ zc_V h a1) : zm_R (E0_onLine (d + 0) a0 a1 h) (zm_I fun v h' => h' = h ∧ zv_rg v ∧ True) := by
  have F0 := zc_Q_r hA
  rw [qE0_onLine]
  exact zc_L0_onLine_2 hA  _ h_a0 h_a1  rfl
theorem zc_C0_onLine {d : Nat} {h : zv_H} {a0 : Nat} {a1 : Nat} (hA : zc_A h) (h_a0 : zc_V h a0) (h_a1 : a1 = 0 ∨ zc_V h a1) : zm_R (C0_onLine (d + 1) a0 a1 h) (fun q => q.2 = h ∧ zv_rg q.1 ∧ True) := zm_cI (fun e => lC0_onLine e) (zc_E0_onLine hA h_a0 h_a1)
theorem zc_L0_above_2 {d : Nat} {h0 : zv_H} (hA : zc_A h0) (N_L0_above_2 : Nat) : ∀ {a1 : Int} {a2 : Nat}, (zv_rg a1) → (a2 = 0 ∨ zc_V h0 a2) → zc_dm h0 a2 = N_L0_above_2 → zm_R (L0_above_2 (d + 0) a1 a2 h0) (zm_N fun v h' => h' = h0 ∧ ((v = 0 ∨ zc_V h0 v))) := by
  induction N_L0_above_2 using Nat.strongRecOn with
  | _ N_L0_above_2 ih_L0_above_2 =>
    intro a1 a2 h_a1 h_a2 eN
    rw [qL0_above_2]
    refine zm_if (fun c1 => ?_) (fun c1 => ?_)
    · exact zm_iN ⟨rfl, h_a2⟩
    · refine zc_rT (zc_Q_r hA) (h_a2.resolve_left c1).1 fun v1 e_v1 r_v1 => ?_
      have d_v1 := (zc_dep (zc_Q_r hA) (h_a2.resolve_left c1)).1
      rw [← e_v1] at d_v1
      refine zm_if (fun c2 => ?_) (fun c2 => ?_)
      · exact zm_iN ⟨rfl, Or.inr (h_a2.resolve_left c1)⟩
      · refine zc_rR5 (zc_Q_r hA) (h_a2.resolve_left c1).1 ?_
        exact ih_L0_above_2 _ (by rw [← eN]; exact zc_dmP (zc_Q_r hA) (h_a2.resolve_left c1)) h_a1 (zc_pV (zc_Q_r hA) (h_a2.resolve_left c1))  rfl
theorem zc_E0_above {d : Nat} {h : zv_H} {a0 : Nat} {a1 : Int} (hA : zc_A h) (h_a0 : a0 = 0 ∨ zc_V h a0) (h_a1 : zv_rg a1) : zm_R (E0_above (d + 0) a0 a1 h) (zm_N fun v h' => h' = h ∧ ((v = 0 ∨ zc_V h v))) := by
  have F0 := zc_Q_r hA
  rw [qE0_above]
  exact zc_L0_above_2 hA  _ h_a1 h_a0  rfl
theorem zc_C0_above {d : Nat} {h : zv_H} {a0 : Nat} {a1 : Int} (hA : zc_A h) (h_a0 : a0 = 0 ∨ zc_V h a0) (h_a1 : zv_rg a1) : zm_R (C0_above (d + 1) a0 a1 h) (fun q => q.2 = h ∧ ((q.1 = 0 ∨ zc_V h q.1))) := zm_cN (fun e => lC0_above e) (zc_E0_above hA h_a0 h_a1)
theorem zc_L0_lettersOfHereBy_5 {d : Nat} {h0 : zv_H} (hA : zc_A h0) (N_L0_lettersOfHereBy_5 : Nat) : ∀ {a0 : Nat} {a1 : Int64} {a3 : Int} {a4 : Int}, (zv_lay a0 = (1, 0)) → (zv_rg a3) → (0 ≤ a4 ∧ zv_rg a4) → (2147483647 - a4).toNat = N_L0_lettersOfHereBy_5 → zm_R (L0_lettersOfHereBy_5 (d + 1) a0 a1 a3 a4 h0) (zm_I fun v h' => h' = h0 ∧ zv_rg v ∧ True) := by
  induction N_L0_lettersOfHereBy_5 using Nat.strongRecOn with
  | _ N_L0_lettersOfHereBy_5 ih_L0_lettersOfHereBy_5 =>
    intro a0 a1 a3 a4 h_a0 h_a3 h_a4 eN
    rw [qL0_lettersOfHereBy_5]
    have z_a4 := h_a4.1
    refine zc_rRo (zc_Q_r hA) h_a0 ?_
    refine zc_rI (zc_Q_r hA) (zc_hV (zc_Q_r hA) h_a0).1.1 fun v2 e_v2 r_v2 => ?_
    have b_v2 := zc_bdv (k := 12) (m := 120) (zc_Q_r hA) (zc_hV (zc_Q_r hA) h_a0).1.1 rfl
    rw [← e_v2] at b_v2
    refine zm_if (fun c1 => ?_) (fun c1 => ?_)
    · refine zc_rRo (zc_Q_r hA) h_a0 ?_
      refine zc_pI (K := fun v => True) (zc_C5_idAt (zc_Q_r hA).2 (zc_hV (zc_Q_r hA) h_a0).1.1 h_a4.2) fun q4v r_q4 k_q4 => ?_
      dsimp only
      refine zc_pI (K := fun v => True) (zc_C4_putter (zc_Q_r hA).2 r_q4) fun q5v r_q5 k_q5 => ?_
      dsimp only
      refine zm_if (fun c4 => ?_) (fun c4 => ?_)
      · exact ih_L0_lettersOfHereBy_5 _ (by rw [← eN]; exact zc_up h_a4.2 r_v2 c1) h_a0 (zc_w _) ⟨by rw [zc_up1 h_a4.2 r_v2 c1]; omega, zc_w _⟩  rfl
      · exact ih_L0_lettersOfHereBy_5 _ (by rw [← eN]; exact zc_up h_a4.2 r_v2 c1) h_a0 (zc_w _) ⟨by rw [zc_up1 h_a4.2 r_v2 c1]; omega, zc_w _⟩  rfl
    · exact zm_iI ⟨rfl, h_a3, trivial⟩
theorem zc_E0_lettersOfHereBy {d : Nat} {h : zv_H} {a0 : Nat} {a1 : Int64} (hA : zc_A h) (h_a0 : zv_lay a0 = (1, 0)) : zm_R (E0_lettersOfHereBy (d + 1) a0 a1 h) (zm_I fun v h' => h' = h ∧ zv_rg v ∧ True) := by
  have F0 := zc_Q_r hA
  rw [qE0_lettersOfHereBy]
  exact zc_L0_lettersOfHereBy_5 hA  _ h_a0 (by unfold zv_rg; omega) ⟨by omega, (by unfold zv_rg; omega)⟩  rfl
theorem zc_C0_lettersOfHereBy {d : Nat} {h : zv_H} {a0 : Nat} {a1 : Int64} (hA : zc_A h) (h_a0 : zv_lay a0 = (1, 0)) : zm_R (C0_lettersOfHereBy (d + 2) a0 a1 h) (fun q => q.2 = h ∧ zv_rg q.1 ∧ True) := zm_cI (fun e => lC0_lettersOfHereBy (zc_ob hA h_a0) e) (zc_E0_lettersOfHereBy hA h_a0)
theorem zc_L0_takes_2 {d : Nat} {h0 : zv_H} (hA : zc_A h0) (N_L0_takes_2 : Nat) : ∀ {a0 : Nat} {a1 : Nat} {a2 : Int} {a3 : Int}, (zv_lay a0 = (1, 0)) → (zv_lay a1 = (1, 5)) → (zv_rg a2) → (0 ≤ a3 ∧ zv_rg a3) → (2147483647 - a3).toNat = N_L0_takes_2 → zm_R (L0_takes_2 (d + 2) a0 a1 a2 a3 h0) (zm_I fun v h' => h' = h0 ∧ zv_rg v ∧ True) := by
  induction N_L0_takes_2 using Nat.strongRecOn with
  | _ N_L0_takes_2 ih_L0_takes_2 =>
    intro a0 a1 a2 a3 h_a0 h_a1 h_a2 h_a3 eN
    rw [qL0_takes_2]
    have z_a3 := h_a3.1
    refine zc_rI (zc_Q_r hA) h_a1 fun v1 e_v1 r_v1 => ?_
    refine zm_if (fun c1 => ?_) (fun c1 => ?_)
    · refine zm_if (fun c2 => ?_) (fun c2 => ?_)
      · exact ih_L0_takes_2 _ (by rw [← eN]; exact zc_up h_a3.2 r_v1 c1) h_a0 h_a1 h_a2 ⟨by rw [zc_up1 h_a3.2 r_v1 c1]; omega, zc_w _⟩  rfl
      · refine zc_pI (K := fun v => True) (zc_C5_tookAt (zc_Q_r hA).2 h_a1 h_a3.2) fun q2v r_q2 k_q2 => ?_
        dsimp only
        refine zc_pI (K := fun v => True) (zc_C0_standOf (zc_Q_r hA).2 h_a0 r_q2) fun q3v r_q3 k_q3 => ?_
        dsimp only
        refine zm_if (fun c5 => ?_) (fun c5 => ?_)
        · exact zm_iI ⟨rfl, (by unfold zv_rg; omega), trivial⟩
        · exact ih_L0_takes_2 _ (by rw [← eN]; exact zc_up h_a3.2 r_v1 c1) h_a0 h_a1 h_a2 ⟨by rw [zc_up1 h_a3.2 r_v1 c1]; omega, zc_w _⟩  rfl
    · exact zm_iI ⟨rfl, (by unfold zv_rg; omega), trivial⟩
theorem zc_E0_takes {d : Nat} {h : zv_H} {a0 : Nat} {a1 : Nat} {a2 : Int} (hA : zc_A h) (h_a0 : zv_lay a0 = (1, 0)) (h_a1 : zv_lay a1 = (1, 5)) (h_a2 : zv_rg a2) : zm_R (E0_takes (d + 2) a0 a1 a2 h) (zm_I fun v h' => h' = h ∧ zv_rg v ∧ True) := by
  have F0 := zc_Q_r hA
  rw [qE0_takes]
  exact zc_L0_takes_2 hA  _ h_a0 h_a1 h_a2 ⟨by omega, (by unfold zv_rg; omega)⟩  rfl
theorem zc_C0_takes {d : Nat} {h : zv_H} {a0 : Nat} {a1 : Nat} {a2 : Int} (hA : zc_A h) (h_a0 : zv_lay a0 = (1, 0)) (h_a1 : zv_lay a1 = (1, 5)) (h_a2 : zv_rg a2) : zm_R (C0_takes (d + 3) a0 a1 a2 h) (fun q => q.2 = h ∧ zv_rg q.1 ∧ True) := zm_cI (fun e => lC0_takes (zc_ob hA h_a0) e) (zc_E0_takes hA h_a0 h_a1 h_a2)
theorem zc_L0_firstTaken_2 {d : Nat} {h0 : zv_H} (hA : zc_A h0) (N_L0_firstTaken_2 : Nat) : ∀ {a0 : Nat} {a1 : Nat} {a2 : Int}, (zv_lay a0 = (1, 0)) → (zv_lay a1 = (1, 5)) → (0 ≤ a2 ∧ zv_rg a2) → (2147483647 - a2).toNat = N_L0_firstTaken_2 → zm_R (L0_firstTaken_2 (d + 3) a0 a1 a2 h0) (zm_I fun v h' => h' = h0 ∧ zv_rg v ∧ True) := by
  induction N_L0_firstTaken_2 using Nat.strongRecOn with
  | _ N_L0_firstTaken_2 ih_L0_firstTaken_2 =>
    intro a0 a1 a2 h_a0 h_a1 h_a2 eN
    rw [qL0_firstTaken_2]
    have z_a2 := h_a2.1
    refine zc_rRo (zc_Q_r hA) h_a0 ?_
    refine zc_rI (zc_Q_r hA) (zc_hV (zc_Q_r hA) h_a0).1.1 fun v2 e_v2 r_v2 => ?_
    have b_v2 := zc_bdv (k := 12) (m := 120) (zc_Q_r hA) (zc_hV (zc_Q_r hA) h_a0).1.1 rfl
    rw [← e_v2] at b_v2
    refine zm_if (fun c1 => ?_) (fun c1 => ?_)
    · refine zc_rRo (zc_Q_r hA) h_a0 ?_
      refine zc_pI (K := fun v => True) (zc_C5_idAt (zc_Q_r hA).2 (zc_hV (zc_Q_r hA) h_a0).1.1 h_a2.2) fun q4v r_q4 k_q4 => ?_
      dsimp only
      refine zc_pI (K := fun v => True) (zc_C0_takes (zc_Q_r hA).2 h_a0 h_a1 r_q4) fun q5v r_q5 k_q5 => ?_
      dsimp only
      refine zm_if (fun c4 => ?_) (fun c4 => ?_)
      · exact ih_L0_firstTaken_2 _ (by rw [← eN]; exact zc_up h_a2.2 r_v2 c1) h_a0 h_a1 ⟨by rw [zc_up1 h_a2.2 r_v2 c1]; omega, zc_w _⟩  rfl
      · exact zm_iI ⟨rfl, h_a2.2, trivial⟩
    · exact zm_iI ⟨rfl, (by unfold zv_rg; omega), trivial⟩
theorem zc_E0_firstTaken {d : Nat} {h : zv_H} {a0 : Nat} {a1 : Nat} (hA : zc_A h) (h_a0 : zv_lay a0 = (1, 0)) (h_a1 : zv_lay a1 = (1, 5)) : zm_R (E0_firstTaken (d + 3) a0 a1 h) (zm_I fun v h' => h' = h ∧ zv_rg v ∧ True) := by
  have F0 := zc_Q_r hA
  rw [qE0_firstTaken]
  exact zc_L0_firstTaken_2 hA  _ h_a0 h_a1 ⟨by omega, (by unfold zv_rg; omega)⟩  rfl
theorem zc_C0_firstTaken {d : Nat} {h : zv_H} {a0 : Nat} {a1 : Nat} (hA : zc_A h) (h_a0 : zv_lay a0 = (1, 0)) (h_a1 : zv_lay a1 = (1, 5)) : zm_R (C0_firstTaken (d + 4) a0 a1 h) (fun q => q.2 = h ∧ zv_rg q.1 ∧ True) := zm_cI (fun e => lC0_firstTaken (zc_ob hA h_a0) e) (zc_E0_firstTaken hA h_a0 h_a1)
theorem zc_L0_takenFrom_9 {d : Nat} {h0 : zv_H} (hA : zc_A h0) (N_L0_takenFrom_9 : Nat) : ∀ {a0 : Nat} {a1 : Nat} {a2 : Int} {a3 : Int} {a4 : Int}, (zv_lay a0 = (1, 0)) → (zv_lay a1 = (1, 5)) → (zv_rg a2) → (zv_rg a3) → (0 ≤ a4 ∧ zv_rg a4) → (2147483647 - a4).toNat = N_L0_takenFrom_9 → zm_R (L0_takenFrom_9 (d + 3) a0 a1 a2 a3 a4 h0) (zm_I fun v h' => h' = h0 ∧ zv_rg v ∧ True) := by
  induction N_L0_takenFrom_9 using Nat.strongRecOn with
  | _ N_L0_takenFrom_9 ih_L0_takenFrom_9 =>
    intro a0 a1 a2 a3 a4 h_a0 h_a1 h_a2 h_a3 h_a4 eN
    rw [qL0_takenFrom_9]
    have z_a4 := h_a4.1
    refine zc_rRo (zc_Q_r hA) h_a0 ?_
    refine zc_rI (zc_Q_r hA) (zc_hV (zc_Q_r hA) h_a0).1.1 fun v2 e_v2 r_v2 => ?_
    have b_v2 := zc_bdv (k := 12) (m := 120) (zc_Q_r hA) (zc_hV (zc_Q_r hA) h_a0).1.1 rfl
    rw [← e_v2] at b_v2
    refine zm_if (fun c1 => ?_) (fun c1 => ?_)
    · refine zc_rRo (zc_Q_r hA) h_a0 ?_
      refine zc_pI (K := fun v => True) (zc_C5_idAt (zc_Q_r hA).2 (zc_hV (zc_Q_r hA) h_a0).1.1 h_a4.2) fun q4v r_q4 k_q4 => ?_
      dsimp only
      refine zc_pI (K := fun v => True) (zc_C0_takes (zc_Q_r hA).2 h_a0 h_a1 r_q4) fun q5v r_q5 k_q5 => ?_
      dsimp only
      refine zm_if (fun c4 => ?_) (fun c4 => ?_)
      · exact ih_L0_takenFrom_9 _ (by rw [← eN]; exact zc_up h_a4.2 r_v2 c1) h_a0 h_a1 h_a2 h_a3 ⟨by rw [zc_up1 h_a4.2 r_v2 c1]; omega, zc_w _⟩  rfl
      · refine zm_if (fun c5 => ?_) (fun c5 => ?_)
        · exact ih_L0_takenFrom_9 _ (by rw [← eN]; exact zc_up h_a4.2 r_v2 c1) h_a0 h_a1 h_a2 (zc_w _) ⟨by rw [zc_up1 h_a4.2 r_v2 c1]; omega, zc_w _⟩  rfl
        · exact zm_iI ⟨rfl, (by unfold zv_rg; omega), trivial⟩
    · exact zm_iI ⟨rfl, h_a3, trivial⟩
theorem zc_E0_takenFrom {d : Nat} {h : zv_H} {a0 : Nat} {a1 : Nat} {a2 : Int} (hA : zc_A h) (h_a0 : zv_lay a0 = (1, 0)) (h_a1 : zv_lay a1 = (1, 5)) (h_a2 : zv_rg a2) : zm_R (E0_takenFrom (d + 3) a0 a1 a2 h) (zm_I fun v h' => h' = h ∧ zv_rg v ∧ True) := by
  have F0 := zc_Q_r hA
  rw [qE0_takenFrom]
  exact zc_L0_takenFrom_9 hA  _ h_a0 h_a1 h_a2 (by unfold zv_rg; omega) ⟨by omega, (zc_mx h_a2 (by unfold zv_rg; omega))⟩  rfl
theorem zc_C0_takenFrom {d : Nat} {h : zv_H} {a0 : Nat} {a1 : Nat} {a2 : Int} (hA : zc_A h) (h_a0 : zv_lay a0 = (1, 0)) (h_a1 : zv_lay a1 = (1, 5)) (h_a2 : zv_rg a2) : zm_R (C0_takenFrom (d + 4) a0 a1 a2 h) (fun q => q.2 = h ∧ zv_rg q.1 ∧ True) := zm_cI (fun e => lC0_takenFrom (zc_ob hA h_a0) e) (zc_E0_takenFrom hA h_a0 h_a1 h_a2)
theorem zc_L0_firstDifference_15 {d : Nat} {h0 : zv_H} (hA : zc_A h0) (N_L0_firstDifference_15 : Nat) : ∀ {a0 : Nat} {a1 : Nat} {a2 : Nat} {a3 : Int} {a4 : Int}, (zv_lay a0 = (1, 0)) → (zv_lay a1 = (1, 5)) → (zv_lay a2 = (1, 5)) → (zv_rg a3) → (0 ≤ a4 ∧ zv_rg a4) → (2147483647 - a4).toNat = N_L0_firstDifference_15 → zm_R (L0_firstDifference_15 (d + 2) a0 a1 a2 a3 a4 h0) (zm_I fun v h' => h' = h0 ∧ zv_rg v ∧ True) := by
  induction N_L0_firstDifference_15 using Nat.strongRecOn with
  | _ N_L0_firstDifference_15 ih_L0_firstDifference_15 =>
    intro a0 a1 a2 a3 a4 h_a0 h_a1 h_a2 h_a3 h_a4 eN
    rw [qL0_firstDifference_15]
    have z_a4 := h_a4.1
    refine zm_if (fun c1 => ?_) (fun c1 => ?_)
    · refine zc_pI (K := fun v => True) (zc_C0_letterAt (zc_Q_r hA).2 h_a0 h_a1 h_a4.2) fun q1v r_q1 k_q1 => ?_
      dsimp only
      refine zc_pI (K := fun v => True) (zc_C0_letterAt (zc_Q_r hA).2 h_a0 h_a2 h_a4.2) fun q2v r_q2 k_q2 => ?_
      dsimp only
      refine zm_if (fun c4 => ?_) (fun c4 => ?_)
      · exact ih_L0_firstDifference_15 _ (by rw [← eN]; exact zc_up h_a4.2 h_a3 c1) h_a0 h_a1 h_a2 h_a3 ⟨by rw [zc_up1 h_a4.2 h_a3 c1]; omega, zc_w _⟩  rfl
      · exact zm_iI ⟨rfl, h_a4.2, trivial⟩
    · exact zm_iI ⟨rfl, (by unfold zv_rg; omega), trivial⟩
theorem zc_E0_firstDifference {d : Nat} {h : zv_H} {a0 : Nat} {a1 : Nat} {a2 : Nat} (hA : zc_A h) (h_a0 : zv_lay a0 = (1, 0)) (h_a1 : zv_lay a1 = (1, 5)) (h_a2 : zv_lay a2 = (1, 5)) : zm_R (E0_firstDifference (d + 2) a0 a1 a2 h) (zm_I fun v h' => h' = h ∧ zv_rg v ∧ True) := by
  have F0 := zc_Q_r hA
  rw [qE0_firstDifference]
  refine zc_rI F0 h_a1 fun v1 e_v1 r_v1 => ?_
  have b_v1 := zc_bdv (k := 12) (m := 120) F0 h_a1 rfl
  rw [← e_v1] at b_v1
  refine zc_rI F0 h_a2 fun v2 e_v2 r_v2 => ?_
  have b_v2 := zc_bdv (k := 12) (m := 120) F0 h_a2 rfl
  rw [← e_v2] at b_v2
  exact zc_L0_firstDifference_15 hA  _ h_a0 h_a1 h_a2 (zc_mx r_v1 r_v2) ⟨by omega, (by unfold zv_rg; omega)⟩  rfl
theorem zc_C0_firstDifference {d : Nat} {h : zv_H} {a0 : Nat} {a1 : Nat} {a2 : Nat} (hA : zc_A h) (h_a0 : zv_lay a0 = (1, 0)) (h_a1 : zv_lay a1 = (1, 5)) (h_a2 : zv_lay a2 = (1, 5)) : zm_R (C0_firstDifference (d + 3) a0 a1 a2 h) (fun q => q.2 = h ∧ zv_rg q.1 ∧ True) := zm_cI (fun e => lC0_firstDifference (zc_ob hA h_a0) e) (zc_E0_firstDifference hA h_a0 h_a1 h_a2)
theorem zc_L0_keptOf_17 {d : Nat} {h0 : zv_H} (hA : zc_A h0) {N_L0_keptOf_5 : Nat} (ih_L0_keptOf_5 : ∀ m, m < N_L0_keptOf_5 → ∀ {a1 : Nat} {a2 : Nat} {a3 : Int} {a4 : Int}, (zv_lay a1 = (1, 5)) → (zv_lay a2 = (1, 5)) → (zv_rg a3) → (0 ≤ a4 ∧ zv_rg a4) → (2147483647 - a4).toNat = m → zm_R (L0_keptOf_5 (d + 1) a1 a2 a3 a4 h0) (zm_I fun v h' => h' = h0 ∧ zv_rg v ∧ True)) (N_L0_keptOf_17 : Nat) : ∀ {a1 : Nat} {a2 : Nat} {a3 : Int} {a4 : Int} {a5 : Int}, (zv_lay a1 = (1, 5)) → (zv_lay a2 = (1, 5)) → (zv_rg a3) → (zv_rg a4) → (0 ≤ a5 ∧ zv_rg a5) → ((2147483647 - (zv_w (a4 + 1))).toNat < N_L0_keptOf_5 ∧ 0 ≤ (zv_w (a4 + 1))) → (2147483647 - a5).toNat = N_L0_keptOf_17 → zm_R (L0_keptOf_17 (d + 1) a1 a2 a3 a4 a5 h0) (zm_I fun v h' => h' = h0 ∧ zv_rg v ∧ True) := by
  induction N_L0_keptOf_17 using Nat.strongRecOn with
  | _ N_L0_keptOf_17 ih_L0_keptOf_17 =>
    intro a1 a2 a3 a4 a5 h_a1 h_a2 h_a3 h_a4 h_a5 hm_L0_keptOf_5 eN
    rw [qL0_keptOf_17]
    have z_a5 := h_a5.1
    refine zc_rI (zc_Q_r hA) h_a2 fun v1 e_v1 r_v1 => ?_
    have b_v1 := zc_bdv (k := 12) (m := 120) (zc_Q_r hA) h_a2 rfl
    rw [← e_v1] at b_v1
    refine zm_if (fun c1 => ?_) (fun c1 => ?_)
    · refine zc_pI (K := fun v => True) (zc_C5_idAt (zc_Q_r hA).2 h_a1 h_a4) fun q2v r_q2 k_q2 => ?_
      dsimp only
      refine zc_pI (K := fun v => True) (zc_C5_idAt (zc_Q_r hA).2 h_a2 h_a5.2) fun q3v r_q3 k_q3 => ?_
      dsimp only
      refine zm_if (fun c4 => ?_) (fun c4 => ?_)
      · exact ih_L0_keptOf_17 _ (by rw [← eN]; exact zc_up h_a5.2 r_v1 c1) h_a1 h_a2 (zc_w _) h_a4 ⟨by rw [zc_up1 h_a5.2 r_v1 c1]; omega, zc_w _⟩ hm_L0_keptOf_5 rfl
      · exact ih_L0_keptOf_17 _ (by rw [← eN]; exact zc_up h_a5.2 r_v1 c1) h_a1 h_a2 (zc_w _) h_a4 ⟨by rw [zc_up1 h_a5.2 r_v1 c1]; omega, zc_w _⟩ hm_L0_keptOf_5 rfl
    · exact ih_L0_keptOf_5 _ hm_L0_keptOf_5.1 h_a1 h_a2 h_a3 ⟨hm_L0_keptOf_5.2, (zc_w _)⟩  rfl
theorem zc_L0_keptOf_5 {d : Nat} {h0 : zv_H} (hA : zc_A h0) (N_L0_keptOf_5 : Nat) : ∀ {a1 : Nat} {a2 : Nat} {a3 : Int} {a4 : Int}, (zv_lay a1 = (1, 5)) → (zv_lay a2 = (1, 5)) → (zv_rg a3) → (0 ≤ a4 ∧ zv_rg a4) → (2147483647 - a4).toNat = N_L0_keptOf_5 → zm_R (L0_keptOf_5 (d + 1) a1 a2 a3 a4 h0) (zm_I fun v h' => h' = h0 ∧ zv_rg v ∧ True) := by
  induction N_L0_keptOf_5 using Nat.strongRecOn with
  | _ N_L0_keptOf_5 ih_L0_keptOf_5 =>
    intro a1 a2 a3 a4 h_a1 h_a2 h_a3 h_a4 eN
    rw [qL0_keptOf_5]
    have z_a4 := h_a4.1
    refine zc_rI (zc_Q_r hA) h_a1 fun v1 e_v1 r_v1 => ?_
    have b_v1 := zc_bdv (k := 12) (m := 120) (zc_Q_r hA) h_a1 rfl
    rw [← e_v1] at b_v1
    refine zm_if (fun c1 => ?_) (fun c1 => ?_)
    · exact zc_L0_keptOf_17 hA ih_L0_keptOf_5 _ h_a1 h_a2 h_a3 h_a4.2 ⟨by omega, (by unfold zv_rg; omega)⟩ ⟨(by rw [← eN]; exact zc_up h_a4.2 r_v1 c1), (⟨by rw [zc_up1 h_a4.2 r_v1 c1]; omega, zc_w _⟩ : 0 ≤ (zv_w (a4 + 1)) ∧ zv_rg (zv_w (a4 + 1))).1⟩ rfl
    · exact zm_iI ⟨rfl, h_a3, trivial⟩
theorem zc_E0_keptOf {d : Nat} {h : zv_H} {a0 : Nat} {a1 : Nat} {a2 : Nat} (hA : zc_A h) (h_a0 : zv_lay a0 = (1, 0)) (h_a1 : zv_lay a1 = (1, 5)) (h_a2 : zv_lay a2 = (1, 5)) : zm_R (E0_keptOf (d + 1) a0 a1 a2 h) (zm_I fun v h' => h' = h ∧ zv_rg v ∧ True) := by
  have F0 := zc_Q_r hA
  rw [qE0_keptOf]
  exact zc_L0_keptOf_5 hA  _ h_a1 h_a2 (by unfold zv_rg; omega) ⟨by omega, (by unfold zv_rg; omega)⟩  rfl
theorem zc_C0_keptOf {d : Nat} {h : zv_H} {a0 : Nat} {a1 : Nat} {a2 : Nat} (hA : zc_A h) (h_a0 : zv_lay a0 = (1, 0)) (h_a1 : zv_lay a1 = (1, 5)) (h_a2 : zv_lay a2 = (1, 5)) : zm_R (C0_keptOf (d + 2) a0 a1 a2 h) (fun q => q.2 = h ∧ zv_rg q.1 ∧ True) := zm_cI (fun e => lC0_keptOf (zc_ob hA h_a0) e) (zc_E0_keptOf hA h_a0 h_a1 h_a2)
theorem zc_L0_twinOf_2 {d : Nat} {h0 : zv_H} (hA : zc_A h0) (N_L0_twinOf_2 : Nat) : ∀ {a0 : Nat} {a1 : Nat} {a2 : Int}, (zv_lay a0 = (1, 0)) → (zv_lay a1 = (1, 5)) → (0 ≤ a2 ∧ zv_rg a2) → (2147483647 - a2).toNat = N_L0_twinOf_2 → zm_R (L0_twinOf_2 (d + 3) a0 a1 a2 h0) (zm_I fun v h' => h' = h0 ∧ zv_rg v ∧ True) := by
  induction N_L0_twinOf_2 using Nat.strongRecOn with
  | _ N_L0_twinOf_2 ih_L0_twinOf_2 =>
    intro a0 a1 a2 h_a0 h_a1 h_a2 eN
    rw [qL0_twinOf_2]
    have z_a2 := h_a2.1
    refine zm_if (fun c1 => ?_) (fun c1 => ?_)
    · refine zc_pN (K := fun v => (v = 0 ∨ zc_V h0 v)) (zc_C0_at (zc_Q_r hA).2 h_a0 h_a2.2) fun q1v k_q1 => ?_
      dsimp only
      refine zm_if (fun c3 => ?_) (fun c3 => ?_)
      · exact ih_L0_twinOf_2 _ (by rw [← eN]; exact zc_up h_a2.2 (by unfold zv_rg; omega) c1) h_a0 h_a1 ⟨by rw [zc_up1 h_a2.2 (by unfold zv_rg; omega) c1]; omega, zc_w _⟩  rfl
      · refine zm_if (fun c4 => ?_) (fun c4 => ?_)
        · have w_a1 := zv_lay_lt (zc_ly h_a1)
          have w_q1_1 := zv_lay_lt (zc_ly ((Or.imp id (zc_Vb (zc_Q_r hA).1) k_q1).resolve_left c3).1)
          omega
        · refine zm_if (fun c5 => ?_) (fun c5 => ?_)
          · exact ih_L0_twinOf_2 _ (by rw [← eN]; exact zc_up h_a2.2 (by unfold zv_rg; omega) c1) h_a0 h_a1 ⟨by rw [zc_up1 h_a2.2 (by unfold zv_rg; omega) c1]; omega, zc_w _⟩  rfl
          · refine zc_pI (K := fun v => True) (zc_C0_firstDifference (zc_Q_r hA).2 h_a0 h_a1 ((Or.imp id (zc_Vb (zc_Q_r hA).1) k_q1).resolve_left c3).1) fun q2v r_q2 k_q2 => ?_
            dsimp only
            refine zm_if (fun c7 => ?_) (fun c7 => ?_)
            · exact zm_iI ⟨rfl, h_a2.2, trivial⟩
            · exact ih_L0_twinOf_2 _ (by rw [← eN]; exact zc_up h_a2.2 (by unfold zv_rg; omega) c1) h_a0 h_a1 ⟨by rw [zc_up1 h_a2.2 (by unfold zv_rg; omega) c1]; omega, zc_w _⟩  rfl
    · exact zm_iI ⟨rfl, (by unfold zv_rg; omega), trivial⟩
theorem zc_E0_twinOf {d : Nat} {h : zv_H} {a0 : Nat} {a1 : Nat} (hA : zc_A h) (h_a0 : zv_lay a0 = (1, 0)) (h_a1 : zv_lay a1 = (1, 5)) : zm_R (E0_twinOf (d + 3) a0 a1 h) (zm_I fun v h' => h' = h ∧ zv_rg v ∧ True) := by
  have F0 := zc_Q_r hA
  rw [qE0_twinOf]
  exact zc_L0_twinOf_2 hA  _ h_a0 h_a1 ⟨by omega, (by unfold zv_rg; omega)⟩  rfl
theorem zc_C0_twinOf {d : Nat} {h : zv_H} {a0 : Nat} {a1 : Nat} (hA : zc_A h) (h_a0 : zv_lay a0 = (1, 0)) (h_a1 : zv_lay a1 = (1, 5)) : zm_R (C0_twinOf (d + 4) a0 a1 h) (fun q => q.2 = h ∧ zv_rg q.1 ∧ True) := zm_cI (fun e => lC0_twinOf (zc_ob hA h_a0) e) (zc_E0_twinOf hA h_a0 h_a1)
theorem zc_E0_isNear {d : Nat} {h : zv_H} {a0 : Nat} {a1 : Nat} (hA : zc_A h) (h_a0 : zv_lay a0 = (1, 5)) (h_a1 : zv_lay a1 = (1, 5)) : zm_R (E0_isNear (d + 0) a0 a1 h) (zm_I fun v h' => h' = h ∧ zv_rg v ∧ True) := by
  have F0 := zc_Q_r hA
  rw [qE0_isNear]
  refine zc_rI F0 h_a1 fun v1 e_v1 r_v1 => ?_
  refine zm_if (fun c1 => ?_) (fun c1 => ?_)
  · refine zc_rI F0 h_a1 fun v2 e_v2 r_v2 => ?_
    refine zc_rI F0 h_a1 fun v3 e_v3 r_v3 => ?_
    rw [qL0_isNear_23]
    refine zc_rI F0 h_a0 fun v1x1 e_v1x1 r_v1x1 => ?_
    refine zm_if (fun c2 => ?_) (fun c2 => ?_)
    · refine zc_rI F0 h_a0 fun v2x1 e_v2x1 r_v2x1 => ?_
      refine zm_if (fun c3 => ?_) (fun c3 => ?_)
      · exact zm_iI ⟨rfl, (by unfold zv_rg; omega), trivial⟩
      · exact zm_iI ⟨rfl, (by unfold zv_rg; omega), trivial⟩
    · refine zc_rI F0 h_a0 fun v3x1 e_v3x1 r_v3x1 => ?_
      refine zc_rI F0 h_a0 fun v4 e_v4 r_v4 => ?_
      refine zm_if (fun c4 => ?_) (fun c4 => ?_)
      · exact zm_iI ⟨rfl, (by unfold zv_rg; omega), trivial⟩
      · refine zc_rI F0 h_a1 fun v5 e_v5 r_v5 => ?_
        refine zm_if (fun c5 => ?_) (fun c5 => ?_)
        · refine zc_rI F0 h_a0 fun v6 e_v6 r_v6 => ?_
          refine zm_if (fun c6 => ?_) (fun c6 => ?_)
          · exact zm_iI ⟨rfl, (by unfold zv_rg; omega), trivial⟩
          · exact zm_iI ⟨rfl, (by unfold zv_rg; omega), trivial⟩
        · exact zm_iI ⟨rfl, (by unfold zv_rg; omega), trivial⟩
  · refine zc_rI F0 h_a1 fun v4x1 e_v4x1 r_v4x1 => ?_
    rw [qL0_isNear_23]
    refine zc_rI F0 h_a0 fun v1x2 e_v1x2 r_v1x2 => ?_
    refine zm_if (fun c7 => ?_) (fun c7 => ?_)
    · refine zc_rI F0 h_a0 fun v2x2 e_v2x2 r_v2x2 => ?_
      refine zm_if (fun c8 => ?_) (fun c8 => ?_)
      · exact zm_iI ⟨rfl, (by unfold zv_rg; omega), trivial⟩
      · exact zm_iI ⟨rfl, (by unfold zv_rg; omega), trivial⟩
    · refine zc_rI F0 h_a0 fun v3x2 e_v3x2 r_v3x2 => ?_
      refine zc_rI F0 h_a0 fun v4x2 e_v4x2 r_v4x2 => ?_
      refine zm_if (fun c9 => ?_) (fun c9 => ?_)
      · exact zm_iI ⟨rfl, (by unfold zv_rg; omega), trivial⟩
      · refine zc_rI F0 h_a1 fun v5x1 e_v5x1 r_v5x1 => ?_
        refine zm_if (fun c10 => ?_) (fun c10 => ?_)
        · refine zc_rI F0 h_a0 fun v6x1 e_v6x1 r_v6x1 => ?_
          refine zm_if (fun c11 => ?_) (fun c11 => ?_)
          · exact zm_iI ⟨rfl, (by unfold zv_rg; omega), trivial⟩
          · exact zm_iI ⟨rfl, (by unfold zv_rg; omega), trivial⟩
        · exact zm_iI ⟨rfl, (by unfold zv_rg; omega), trivial⟩
theorem zc_C0_isNear {d : Nat} {h : zv_H} {a0 : Nat} {a1 : Nat} (hA : zc_A h) (h_a0 : zv_lay a0 = (1, 5)) (h_a1 : zv_lay a1 = (1, 5)) : zm_R (C0_isNear (d + 1) a0 a1 h) (fun q => q.2 = h ∧ zv_rg q.1 ∧ True) := zm_cI (fun e => lC0_isNear e) (zc_E0_isNear hA h_a0 h_a1)
