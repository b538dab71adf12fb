/-! 91.q -/
section
theorem zc_lt0 {h : zv_H} {s : Nat} (q : s = 0 ∨ zc_V h s) : s < 373 := by
  cases q with
  | inl q => omega
  | inr q => exact zv_lay_lt (zc_ly q.1)
theorem zc_lt1 {s : Nat} (q : s = 0 ∨ zv_lay s = (1, 5)) : s < 373 := by
  cases q with
  | inl q => omega
  | inr q => exact zv_lay_lt (zc_ly q)
theorem zc_E0_at {d : Nat} {h : zv_H} {a0 : Nat} {a1 : Int} (hA : zc_A h) (h_a0 : zv_lay a0 = (1, 0)) (h_a1 : zv_rg a1) : zm_R (E0_at d a0 a1 h) (zm_N fun v h' => h' = h ∧ (v = 0 ∨ zc_V h v)) := by
  have F0 := zc_Q_r hA
  rw [qE0_at]
  refine zm_if (fun c1 => ?_) (fun c1 => ?_)
  · exact zm_iN ⟨rfl, Or.inl rfl⟩
  refine zm_if (fun c2 => ?_) (fun c2 => ?_)
  · refine zc_rF F0 4 h_a0 ?_
    refine zc_rS F0 h_a0 (by omega) (by omega) fun v2 l_v2 f_v2 e_v2 n_v2 => ?_
    refine zm_if (fun c3 => ?_) (fun c3 => ?_)
    · exact zm_iN ⟨rfl, Or.inl rfl⟩
    refine zc_rT F0 l_v2 fun v3 e_v3 r_v3 => ?_
    refine zm_if (fun c4 => ?_) (fun c4 => ?_)
    · exact zm_iN ⟨rfl, Or.inl rfl⟩
    · refine zm_iN ⟨rfl, Or.inr ⟨l_v2, ?_⟩⟩
      cases hA.2.1 v2 l_v2 with
      | inl t => exact absurd (e_v3.trans t.1) c4
      | inr t => exact t.1
  · exact zm_iN ⟨rfl, Or.inl rfl⟩
theorem zc_C0_at {d : Nat} {h : zv_H} {a0 : Nat} {a1 : Int} (hA : zc_A h) (h_a0 : zv_lay a0 = (1, 0)) (h_a1 : zv_rg a1) : zm_R (C0_at (d + 1) a0 a1 h) (fun q => q.2 = h ∧ (q.1 = 0 ∨ zc_V h q.1)) := zm_cN (fun e => lC0_at (zc_ob hA h_a0) e) (zc_E0_at hA h_a0 h_a1)
theorem zc_L0_leaves_4 {d : Nat} {h0 : zv_H} (hA : zc_A h0) (N_L0_leaves_4 : Nat) : ∀ {a0 : Nat} {a1 : Int} {a2 : Int}, (zv_lay a0 = (1, 0)) → (zv_rg a1) → (0 ≤ a2 ∧ zv_rg a2) → (2147483647 - a2).toNat = N_L0_leaves_4 → zm_R (L0_leaves_4 (d + 1) a0 a1 a2 h0) (zm_I fun v h' => h' = h0 ∧ zv_rg v ∧ True) := by
  induction N_L0_leaves_4 using Nat.strongRecOn with
  | _ N_L0_leaves_4 ih_L0_leaves_4 =>
    intro a0 a1 a2 h_a0 h_a1 h_a2 eN
    rw [qL0_leaves_4]
    have z_a2 := h_a2.1
    refine zm_if (fun c1 => ?_) (fun c1 => ?_)
    · refine zc_pN (K := fun v => (v = 0 ∨ zc_V h0 v)) (zc_C0_at (zc_Q_r hA).2 h_a0 h_a2.2) fun q1v k_q1 => ?_
      dsimp only
      refine zm_if (fun c3 => ?_) (fun c3 => ?_)
      · exact ih_L0_leaves_4 _ (by rw [← eN]; exact zc_up h_a2.2 (by unfold zv_rg; omega) c1) h_a0 (zc_w _) ⟨by rw [zc_up1 h_a2.2 (by unfold zv_rg; omega) c1]; omega, zc_w _⟩  rfl
      · refine zc_rT (zc_Q_r hA) ((Or.imp id (zc_Vb (zc_Q_r hA).1) k_q1).resolve_left c3).1 fun v2 e_v2 r_v2 => ?_
        refine zm_if (fun c4 => ?_) (fun c4 => ?_)
        · exact ih_L0_leaves_4 _ (by rw [← eN]; exact zc_up h_a2.2 (by unfold zv_rg; omega) c1) h_a0 (zc_w _) ⟨by rw [zc_up1 h_a2.2 (by unfold zv_rg; omega) c1]; omega, zc_w _⟩  rfl
        · exact ih_L0_leaves_4 _ (by rw [← eN]; exact zc_up h_a2.2 (by unfold zv_rg; omega) c1) h_a0 (zc_w _) ⟨by rw [zc_up1 h_a2.2 (by unfold zv_rg; omega) c1]; omega, zc_w _⟩  rfl
    · exact zm_iI ⟨rfl, h_a1, trivial⟩
theorem zc_E0_leaves {d : Nat} {h : zv_H} {a0 : Nat} (hA : zc_A h) (h_a0 : zv_lay a0 = (1, 0)) : zm_R (E0_leaves (d + 1) a0 h) (zm_I fun v h' => h' = h ∧ zv_rg v ∧ True) := by
  have F0 := zc_Q_r hA
  rw [qE0_leaves]
  exact zc_L0_leaves_4 hA  _ h_a0 (by unfold zv_rg; omega) ⟨by omega, (by unfold zv_rg; omega)⟩  rfl
theorem zc_C0_leaves {d : Nat} {h : zv_H} {a0 : Nat} (hA : zc_A h) (h_a0 : zv_lay a0 = (1, 0)) : zm_R (C0_leaves (d + 2) a0 h) (fun q => q.2 = h ∧ zv_rg q.1 ∧ True) := zm_cI (fun e => lC0_leaves (zc_ob hA h_a0) e) (zc_E0_leaves hA h_a0)
theorem zc_L0_onLine_2 {d : Nat} {h0 : zv_H} (hA : zc_A h0) (N_L0_onLine_2 : Nat) : ∀ {a0 : Nat} {a2 : Nat}, (zc_V h0 a0) → (a2 = 0 ∨ zc_V h0 a2) → zc_dm h0 a2 = N_L0_onLine_2 → zm_R (L0_onLine_2 (d + 0) a0 a2 h0) (zm_I fun v h' => h' = h0 ∧ zv_rg v ∧ True) := by
  induction N_L0_onLine_2 using Nat.strongRecOn with
  | _ N_L0_onLine_2 ih_L0_onLine_2 =>
    intro a0 a2 h_a0 h_a2 eN
    rw [qL0_onLine_2]
    refine zm_if (fun c1 => ?_) (fun c1 => ?_)
    · rw [qL0_onLine_25]
      refine zm_if (fun c2 => ?_) (fun c2 => ?_)
      · have w_a2 := zc_lt0 h_a2
        have w_a0 := zv_lay_lt (zc_ly h_a0.1)
        omega
      · refine zm_if (fun c3 => ?_) (fun c3 => ?_)
        · exact zm_iI ⟨rfl, (by unfold zv_rg; omega), trivial⟩
        · exact zm_iI ⟨rfl, (by unfold zv_rg; omega), trivial⟩
    · refine zc_rT (zc_Q_r hA) (h_a2.resolve_left c1).1 fun v1 e_v1 r_v1 => ?_
      have d_v1 := (zc_dep (zc_Q_r hA) (h_a2.resolve_left c1)).1
      rw [← e_v1] at d_v1
      refine zc_rT (zc_Q_r hA) h_a0.1 fun v2 e_v2 r_v2 => ?_
      have d_v2 := (zc_dep (zc_Q_r hA) h_a0).1
      rw [← e_v2] at d_v2
      refine zm_if (fun c4 => ?_) (fun c4 => ?_)
      · rw [qL0_onLine_25]
        refine zm_if (fun c5 => ?_) (fun c5 => ?_)
        · have w_a2 := zv_lay_lt (zc_ly (h_a2.resolve_left c1).1)
          have w_a0 := zv_lay_lt (zc_ly h_a0.1)
          omega
        · refine zm_if (fun c6 => ?_) (fun c6 => ?_)
          · exact zm_iI ⟨rfl, (by unfold zv_rg; omega), trivial⟩
          · exact zm_iI ⟨rfl, (by unfold zv_rg; omega), trivial⟩
      · refine zc_rR5 (zc_Q_r hA) (h_a2.resolve_left c1).1 ?_
        exact ih_L0_onLine_2 _ (by rw [← eN]; exact zc_dmP (zc_Q_r hA) (h_a2.resolve_left c1)) h_a0 (zc_pV (zc_Q_r hA) (h_a2.resolve_left c1))  rfl
theorem zc_E0_onLine {d : Nat} {h : zv_H} {a0 : Nat} {a1 : Nat} (hA : zc_A h) (h_a0 : zc_V h a0) (h_a1 : a1 = 0 ∨ zc_V h a1) : zm_R (E0_onLine (d + 0) a0 a1 h) (zm_I fun v h' => h' = h ∧ zv_rg v ∧ True) := by
  have F0 := zc_Q_r hA
  rw [qE0_onLine]
  exact zc_L0_onLine_2 hA  _ h_a0 h_a1  rfl
theorem zc_C0_onLine {d : Nat} {h : zv_H} {a0 : Nat} {a1 : Nat} (hA : zc_A h) (h_a0 : zc_V h a0) (h_a1 : a1 = 0 ∨ zc_V h a1) : zm_R (C0_onLine (d + 1) a0 a1 h) (fun q => q.2 = h ∧ zv_rg q.1 ∧ True) := zm_cI (fun e => lC0_onLine e) (zc_E0_onLine hA h_a0 h_a1)
theorem zc_L0_above_2 {d : Nat} {h0 : zv_H} (hA : zc_A h0) (N_L0_above_2 : Nat) : ∀ {a1 : Int} {a2 : Nat}, (zv_rg a1) → (a2 = 0 ∨ zc_V h0 a2) → zc_dm h0 a2 = N_L0_above_2 → zm_R (L0_above_2 (d + 0) a1 a2 h0) (zm_N fun v h' => h' = h0 ∧ ((v = 0 ∨ zc_V h0 v))) := by
  induction N_L0_above_2 using Nat.strongRecOn with
  | _ N_L0_above_2 ih_L0_above_2 =>
    intro a1 a2 h_a1 h_a2 eN
    rw [qL0_above_2]
    refine zm_if (fun c1 => ?_) (fun c1 => ?_)
    · exact zm_iN ⟨rfl, h_a2⟩
    · refine zc_rT (zc_Q_r hA) (h_a2.resolve_left c1).1 fun v1 e_v1 r_v1 => ?_
      have d_v1 := (zc_dep (zc_Q_r hA) (h_a2.resolve_left c1)).1
      rw [← e_v1] at d_v1
      refine zm_if (fun c2 => ?_) (fun c2 => ?_)
      · exact zm_iN ⟨rfl, Or.inr (h_a2.resolve_left c1)⟩
      · refine zc_rR5 (zc_Q_r hA) (h_a2.resolve_left c1).1 ?_
        exact ih_L0_above_2 _ (by rw [← eN]; exact zc_dmP (zc_Q_r hA) (h_a2.resolve_left c1)) h_a1 (zc_pV (zc_Q_r hA) (h_a2.resolve_left c1))  rfl
theorem zc_E0_above {d : Nat} {h : zv_H} {a0 : Nat} {a1 : Int} (hA : zc_A h) (h_a0 : a0 = 0 ∨ zc_V h a0) (h_a1 : zv_rg a1) : zm_R (E0_above (d + 0) a0 a1 h) (zm_N fun v h' => h' = h ∧ ((v = 0 ∨ zc_V h v))) := by
  have F0 := zc_Q_r hA
  rw [qE0_above]
  exact zc_L0_above_2 hA  _ h_a1 h_a0  rfl
theorem zc_C0_above {d : Nat} {h : zv_H} {a0 : Nat} {a1 : Int} (hA : zc_A h) (h_a0 : a0 = 0 ∨ zc_V h a0) (h_a1 : zv_rg a1) : zm_R (C0_above (d + 1) a0 a1 h) (fun q => q.2 = h ∧ ((q.1 = 0 ∨ zc_V h q.1))) := zm_cN (fun e => lC0_above e) (zc_E0_above hA h_a0 h_a1)
theorem zc_L0_lettersOfHereBy_5 {d : Nat} {h0 : zv_H} (hA : zc_A h0) (N_L0_lettersOfHereBy_5 : Nat) : ∀ {a0 : Nat} {a1 : Int64} {a3 : Int} {a4 : Int}, (zv_lay a0 = (1, 0)) → (zv_rg a3) → (0 ≤ a4 ∧ zv_rg a4) → (2147483647 - a4).toNat = N_L0_lettersOfHereBy_5 → zm_R (L0_lettersOfHereBy_5 (d + 1) a0 a1 a3 a4 h0) (zm_I fun v h' => h' = h0 ∧ zv_rg v ∧ True) := by
  induction N_L0_lettersOfHereBy_5 using Nat.strongRecOn with
  | _ N_L0_lettersOfHereBy_5 ih_L0_lettersOfHereBy_5 =>
    intro a0 a1 a3 a4 h_a0 h_a3 h_a4 eN
    rw [qL0_lettersOfHereBy_5]
    have z_a4 := h_a4.1
    refine zc_rRo (zc_Q_r hA) h_a0 ?_
    refine zc_rI (zc_Q_r hA) (zc_hV (zc_Q_r hA) h_a0).1.1 fun v2 e_v2 r_v2 => ?_
    have b_v2 := zc_bdv (k := 12) (m := 120) (zc_Q_r hA) (zc_hV (zc_Q_r hA) h_a0).1.1 rfl
    rw [← e_v2] at b_v2
    refine zm_if (fun c1 => ?_) (fun c1 => ?_)
    · refine zc_rRo (zc_Q_r hA) h_a0 ?_
      refine zc_pI (K := fun v => True) (zc_C5_idAt (zc_Q_r hA).2 (zc_hV (zc_Q_r hA) h_a0).1.1 h_a4.2) fun q4v r_q4 k_q4 => ?_
      dsimp only
      refine zc_pI (K := fun v => True) (zc_C4_putter (zc_Q_r hA).2 r_q4) fun q5v r_q5 k_q5 => ?_
      dsimp only
      refine zm_if (fun c4 => ?_) (fun c4 => ?_)
      · exact ih_L0_lettersOfHereBy_5 _ (by rw [← eN]; exact zc_up h_a4.2 r_v2 c1) h_a0 (zc_w _) ⟨by rw [zc_up1 h_a4.2 r_v2 c1]; omega, zc_w _⟩  rfl
      · exact ih_L0_lettersOfHereBy_5 _ (by rw [← eN]; exact zc_up h_a4.2 r_v2 c1) h_a0 (zc_w _) ⟨by rw [zc_up1 h_a4.2 r_v2 c1]; omega, zc_w _⟩  rfl
    · exact zm_iI ⟨rfl, h_a3, trivial⟩
theorem zc_E0_lettersOfHereBy {d : Nat} {h : zv_H} {a0 : Nat} {a1 : Int64} (hA : zc_A h) (h_a0 : zv_lay a0 = (1, 0)) : zm_R (E0_lettersOfHereBy (d + 1) a0 a1 h) (zm_I fun v h' => h' = h ∧ zv_rg v ∧ True) := by
  have F0 := zc_Q_r hA
  rw [qE0_lettersOfHereBy]
  exact zc_L0_lettersOfHereBy_5 hA  _ h_a0 (by unfold zv_rg; omega) ⟨by omega, (by unfold zv_rg; omega)⟩  rfl
theorem zc_C0_lettersOfHereBy {d : Nat} {h : zv_H} {a0 : Nat} {a1 : Int64} (hA : zc_A h) (h_a0 : zv_lay a0 = (1, 0)) : zm_R (C0_lettersOfHereBy (d + 2) a0 a1 h) (fun q => q.2 = h ∧ zv_rg q.1 ∧ True) := zm_cI (fun e => lC0_lettersOfHereBy (zc_ob hA h_a0) e) (zc_E0_lettersOfHereBy hA h_a0)
theorem zc_L0_takes_2 {d : Nat} {h0 : zv_H} (hA : zc_A h0) (N_L0_takes_2 : Nat) : ∀ {a0 : Nat} {a1 : Nat} {a2 : Int} {a3 : Int}, (zv_lay a0 = (1, 0)) → (zv_lay a1 = (1, 5)) → (zv_rg a2) → (0 ≤ a3 ∧ zv_rg a3) → (2147483647 - a3).toNat = N_L0_takes_2 → zm_R (L0_takes_2 (d + 2) a0 a1 a2 a3 h0) (zm_I fun v h' => h' = h0 ∧ zv_rg v ∧ True) := by
  induction N_L0_takes_2 using Nat.strongRecOn with
  | _ N_L0_takes_2 ih_L0_takes_2 =>
    intro a0 a1 a2 a3 h_a0 h_a1 h_a2 h_a3 eN
    rw [qL0_takes_2]
    have z_a3 := h_a3.1
    refine zc_rI (zc_Q_r hA) h_a1 fun v1 e_v1 r_v1 => ?_
    refine zm_if (fun c1 => ?_) (fun c1 => ?_)
    · refine zm_if (fun c2 => ?_) (fun c2 => ?_)
      · exact ih_L0_takes_2 _ (by rw [← eN]; exact zc_up h_a3.2 r_v1 c1) h_a0 h_a1 h_a2 ⟨by rw [zc_up1 h_a3.2 r_v1 c1]; omega, zc_w _⟩  rfl
      · refine zc_pI (K := fun v => True) (zc_C5_tookAt (zc_Q_r hA).2 h_a1 h_a3.2) fun q2v r_q2 k_q2 => ?_
        dsimp only
        refine zc_pI (K := fun v => True) (zc_C0_standOf (zc_Q_r hA).2 h_a0 r_q2) fun q3v r_q3 k_q3 => ?_
        dsimp only
        refine zm_if (fun c5 => ?_) (fun c5 => ?_)
        · exact zm_iI ⟨rfl, (by unfold zv_rg; omega), trivial⟩
        · exact ih_L0_takes_2 _ (by rw [← eN]; exact zc_up h_a3.2 r_v1 c1) h_a0 h_a1 h_a2 ⟨by rw [zc_up1 h_a3.2 r_v1 c1]; omega, zc_w _⟩  rfl
    · exact zm_iI ⟨rfl, (by unfold zv_rg; omega), trivial⟩
theorem zc_E0_takes {d : Nat} {h : zv_H} {a0 : Nat} {a1 : Nat} {a2 : Int} (hA : zc_A h) (h_a0 : zv_lay a0 = (1, 0)) (h_a1 : zv_lay a1 = (1, 5)) (h_a2 : zv_rg a2) : zm_R (E0_takes (d + 2) a0 a1 a2 h) (zm_I fun v h' => h' = h ∧ zv_rg v ∧ True) := by
  have F0 := zc_Q_r hA
  rw [qE0_takes]
  exact zc_L0_takes_2 hA  _ h_a0 h_a1 h_a2 ⟨by omega, (by unfold zv_rg; omega)⟩  rfl
theorem zc_C0_takes {d : Nat} {h : zv_H} {a0 : Nat} {a1 : Nat} {a2 : Int} (hA : zc_A h) (h_a0 : zv_lay a0 = (1, 0)) (h_a1 : zv_lay a1 = (1, 5)) (h_a2 : zv_rg a2) : zm_R (C0_takes (d + 3) a0 a1 a2 h) (fun q => q.2 = h ∧ zv_rg q.1 ∧ True) := zm_cI (fun e => lC0_takes (zc_ob hA h_a0) e) (zc_E0_takes hA h_a0 h_a1 h_a2)
theorem zc_L0_firstTaken_2 {d : Nat} {h0 : zv_H} (hA : zc_A h0) (N_L0_firstTaken_2 : Nat) : ∀ {a0 : Nat} {a1 : Nat} {a2 : Int}, (zv_lay a0 = (1, 0)) → (zv_lay a1 = (1, 5)) → (0 ≤ a2 ∧ zv_rg a2) → (2147483647 - a2).toNat = N_L0_firstTaken_2 → zm_R (L0_firstTaken_2 (d + 3) a0 a1 a2 h0) (zm_I fun v h' => h' = h0 ∧ zv_rg v ∧ True) := by
  induction N_L0_firstTaken_2 using Nat.strongRecOn with
  | _ N_L0_firstTaken_2 ih_L0_firstTaken_2 =>
    intro a0 a1 a2 h_a0 h_a1 h_a2 eN
    rw [qL0_firstTaken_2]
    have z_a2 := h_a2.1
    refine zc_rRo (zc_Q_r hA) h_a0 ?_
    refine zc_rI (zc_Q_r hA) (zc_hV (zc_Q_r hA) h_a0).1.1 fun v2 e_v2 r_v2 => ?_
    have b_v2 := zc_bdv (k := 12) (m := 120) (zc_Q_r hA) (zc_hV (zc_Q_r hA) h_a0).1.1 rfl
    rw [← e_v2] at b_v2
    refine zm_if (fun c1 => ?_) (fun c1 => ?_)
    · refine zc_rRo (zc_Q_r hA) h_a0 ?_
      refine zc_pI (K := fun v => True) (zc_C5_idAt (zc_Q_r hA).2 (zc_hV (zc_Q_r hA) h_a0).1.1 h_a2.2) fun q4v r_q4 k_q4 => ?_
      dsimp only
      refine zc_pI (K := fun v => True) (zc_C0_takes (zc_Q_r hA).2 h_a0 h_a1 r_q4) fun q5v r_q5 k_q5 => ?_
      dsimp only
      refine zm_if (fun c4 => ?_) (fun c4 => ?_)
      · exact ih_L0_firstTaken_2 _ (by rw [← eN]; exact zc_up h_a2.2 r_v2 c1) h_a0 h_a1 ⟨by rw [zc_up1 h_a2.2 r_v2 c1]; omega, zc_w _⟩  rfl
      · exact zm_iI ⟨rfl, h_a2.2, trivial⟩
    · exact zm_iI ⟨rfl, (by unfold zv_rg; omega), trivial⟩
theorem zc_E0_firstTaken {d : Nat} {h : zv_H} {a0 : Nat} {a1 : Nat} (hA : zc_A h) (h_a0 : zv_lay a0 = (1, 0)) (h_a1 : zv_lay a1 = (1, 5)) : zm_R (E0_firstTaken (d + 3) a0 a1 h) (zm_I fun v h' => h' = h ∧ zv_rg v ∧ True) := by
  have F0 := zc_Q_r hA
  rw [qE0_firstTaken]
  exact zc_L0_firstTaken_2 hA  _ h_a0 h_a1 ⟨by omega, (by unfold zv_rg; omega)⟩  rfl
theorem zc_C0_firstTaken {d : Nat} {h : zv_H} {a0 : Nat} {a1 : Nat} (hA : zc_A h) (h_a0 : zv_lay a0 = (1, 0)) (h_a1 : zv_lay a1 = (1, 5)) : zm_R (C0_firstTaken (d + 4) a0 a1 h) (fun q => q.2 = h ∧ zv_rg q.1 ∧ True) := zm_cI (fun e => lC0_firstTaken (zc_ob hA h_a0) e) (zc_E0_firstTaken hA h_a0 h_a1)
theorem zc_L0_takenFrom_9 {d : Nat} {h0 : zv_H} (hA : zc_A h0) (N_L0_takenFrom_9 : Nat) : ∀ {a0 : Nat} {a1 : Nat} {a2 : Int} {a3 : Int} {a4 : Int}, (zv_lay a0 = (1, 0)) → (zv_lay a1 = (1, 5)) → (zv_rg a2) → (zv_rg a3) → (0 ≤ a4 ∧ zv_rg a4) → (2147483647 - a4).toNat = N_L0_takenFrom_9 → zm_R (L0_takenFrom_9 (d + 3) a0 a1 a2 a3 a4 h0) (zm_I fun v h' => h' = h0 ∧ zv_rg v ∧ True) := by
  induction N_L0_takenFrom_9 using Nat.strongRecOn with
  | _ N_L0_takenFrom_9 ih_L0_takenFrom_9 =>
    intro a0 a1 a2 a3 a4 h_a0 h_a1 h_a2 h_a3 h_a4 eN
    rw [qL0_takenFrom_9]
    have z_a4 := h_a4.1
    refine zc_rRo (zc_Q_r hA) h_a0 ?_
    refine zc_rI (zc_Q_r hA) (zc_hV (zc_Q_r hA) h_a0).1.1 fun v2 e_v2 r_v2 => ?_
    have b_v2 := zc_bdv (k := 12) (m := 120) (zc_Q_r hA) (zc_hV (zc_Q_r hA) h_a0).1.1 rfl
    rw [← e_v2] at b_v2
    refine zm_if (fun c1 => ?_) (fun c1 => ?_)
    · refine zc_rRo (zc_Q_r hA) h_a0 ?_
      refine zc_pI (K := fun v => True) (zc_C5_idAt (zc_Q_r hA).2 (zc_hV (zc_Q_r hA) h_a0).1.1 h_a4.2) fun q4v r_q4 k_q4 => ?_
      dsimp only
      refine zc_pI (K := fun v => True) (zc_C0_takes (zc_Q_r hA).2 h_a0 h_a1 r_q4) fun q5v r_q5 k_q5 => ?_
      dsimp only
      refine zm_if (fun c4 => ?_) (fun c4 => ?_)
      · exact ih_L0_takenFrom_9 _ (by rw [← eN]; exact zc_up h_a4.2 r_v2 c1) h_a0 h_a1 h_a2 h_a3 ⟨by rw [zc_up1 h_a4.2 r_v2 c1]; omega, zc_w _⟩  rfl
      · refine zm_if (fun c5 => ?_) (fun c5 => ?_)
        · exact ih_L0_takenFrom_9 _ (by rw [← eN]; exact zc_up h_a4.2 r_v2 c1) h_a0 h_a1 h_a2 (zc_w _) ⟨by rw [zc_up1 h_a4.2 r_v2 c1]; omega, zc_w _⟩  rfl
        · exact zm_iI ⟨rfl, (by unfold zv_rg; omega), trivial⟩
    · exact zm_iI ⟨rfl, h_a3, trivial⟩
theorem zc_E0_takenFrom {d : Nat} {h : zv_H} {a0 : Nat} {a1 : Nat} {a2 : Int} (hA : zc_A h) (h_a0 : zv_lay a0 = (1, 0)) (h_a1 : zv_lay a1 = (1, 5)) (h_a2 : zv_rg a2) : zm_R (E0_takenFrom (d + 3) a0 a1 a2 h) (zm_I fun v h' => h' = h ∧ zv_rg v ∧ True) := by
  have F0 := zc_Q_r hA
  rw [qE0_takenFrom]
  exact zc_L0_takenFrom_9 hA  _ h_a0 h_a1 h_a2 (by unfold zv_rg; omega) ⟨by omega, (zc_mx h_a2 (by unfold zv_rg; omega))⟩  rfl
theorem zc_C0_takenFrom {d : Nat} {h : zv_H} {a0 : Nat} {a1 : Nat} {a2 : Int} (hA : zc_A h) (h_a0 : zv_lay a0 = (1, 0)) (h_a1 : zv_lay a1 = (1, 5)) (h_a2 : zv_rg a2) : zm_R (C0_takenFrom (d + 4) a0 a1 a2 h) (fun q => q.2 = h ∧ zv_rg q.1 ∧ True) := zm_cI (fun e => lC0_takenFrom (zc_ob hA h_a0) e) (zc_E0_takenFrom hA h_a0 h_a1 h_a2)
theorem zc_L0_firstDifference_15 {d : Nat} {h0 : zv_H} (hA : zc_A h0) (N_L0_firstDifference_15 : Nat) : ∀ {a0 : Nat} {a1 : Nat} {a2 : Nat} {a3 : Int} {a4 : Int}, (zv_lay a0 = (1, 0)) → (zv_lay a1 = (1, 5)) → (zv_lay a2 = (1, 5)) → (zv_rg a3) → (0 ≤ a4 ∧ zv_rg a4) → (2147483647 - a4).toNat = N_L0_firstDifference_15 → zm_R (L0_firstDifference_15 (d + 2) a0 a1 a2 a3 a4 h0) (zm_I fun v h' => h' = h0 ∧ zv_rg v ∧ True) := by
  induction N_L0_firstDifference_15 using Nat.strongRecOn with
  | _ N_L0_firstDifference_15 ih_L0_firstDifference_15 =>
    intro a0 a1 a2 a3 a4 h_a0 h_a1 h_a2 h_a3 h_a4 eN
    rw [qL0_firstDifference_15]
    have z_a4 := h_a4.1
    refine zm_if (fun c1 => ?_) (fun c1 => ?_)
    · refine zc_pI (K := fun v => True) (zc_C0_letterAt (zc_Q_r hA).2 h_a0 h_a1 h_a4.2) fun q1v r_q1 k_q1 => ?_
      dsimp only
      refine zc_pI (K := fun v => True) (zc_C0_letterAt (zc_Q_r hA).2 h_a0 h_a2 h_a4.2) fun q2v r_q2 k_q2 => ?_
      dsimp only
      refine zm_if (fun c4 => ?_) (fun c4 => ?_)
      · exact ih_L0_firstDifference_15 _ (by rw [← eN]; exact zc_up h_a4.2 h_a3 c1) h_a0 h_a1 h_a2 h_a3 ⟨by rw [zc_up1 h_a4.2 h_a3 c1]; omega, zc_w _⟩  rfl
      · exact zm_iI ⟨rfl, h_a4.2, trivial⟩
    · exact zm_iI ⟨rfl, (by unfold zv_rg; omega), trivial⟩
theorem zc_E0_firstDifference {d : Nat} {h : zv_H} {a0 : Nat} {a1 : Nat} {a2 : Nat} (hA : zc_A h) (h_a0 : zv_lay a0 = (1, 0)) (h_a1 : zv_lay a1 = (1, 5)) (h_a2 : zv_lay a2 = (1, 5)) : zm_R (E0_firstDifference (d + 2) a0 a1 a2 h) (zm_I fun v h' => h' = h ∧ zv_rg v ∧ True) := by
  have F0 := zc_Q_r hA
  rw [qE0_firstDifference]
  refine zc_rI F0 h_a1 fun v1 e_v1 r_v1 => ?_
  have b_v1 := zc_bdv (k := 12) (m := 120) F0 h_a1 rfl
  rw [← e_v1] at b_v1
  refine zc_rI F0 h_a2 fun v2 e_v2 r_v2 => ?_
  have b_v2 := zc_bdv (k := 12) (m := 120) F0 h_a2 rfl
  rw [← e_v2] at b_v2
  exact zc_L0_firstDifference_15 hA  _ h_a0 h_a1 h_a2 (zc_mx r_v1 r_v2) ⟨by omega, (by unfold zv_rg; omega)⟩  rfl
theorem zc_C0_firstDifference {d : Nat} {h : zv_H} {a0 : Nat} {a1 : Nat} {a2 : Nat} (hA : zc_A h) (h_a0 : zv_lay a0 = (1, 0)) (h_a1 : zv_lay a1 = (1, 5)) (h_a2 : zv_lay a2 = (1, 5)) : zm_R (C0_firstDifference (d + 3) a0 a1 a2 h) (fun q => q.2 = h ∧ zv_rg q.1 ∧ True) := zm_cI (fun e => lC0_firstDifference (zc_ob hA h_a0) e) (zc_E0_firstDifference hA h_a0 h_a1 h_a2)
theorem zc_L0_keptOf_17 {d : Nat} {h0 : zv_H} (hA : zc_A h0) {N_L0_keptOf_5 : Nat} (ih_L0_keptOf_5 : ∀ m, m < N_L0_keptOf_5 → ∀ {a1 : Nat} {a2 : Nat} {a3 : Int} {a4 : Int}, (zv_lay a1 = (1, 5)) → (zv_lay a2 = (1, 5)) → (zv_rg a3) → (0 ≤ a4 ∧ zv_rg a4) → (2147483647 - a4).toNat = m → zm_R (L0_keptOf_5 (d + 1) a1 a2 a3 a4 h0) (zm_I fun v h' => h' = h0 ∧ zv_rg v ∧ True)) (N_L0_keptOf_17 : Nat) : ∀ {a1 : Nat} {a2 : Nat} {a3 : Int} {a4 : Int} {a5 : Int}, (zv_lay a1 = (1, 5)) → (zv_lay a2 = (1, 5)) → (zv_rg a3) → (zv_rg a4) → (0 ≤ a5 ∧ zv_rg a5) → ((2147483647 - (zv_w (a4 + 1))).toNat < N_L0_keptOf_5 ∧ 0 ≤ (zv_w (a4 + 1))) → (2147483647 - a5).toNat = N_L0_keptOf_17 → zm_R (L0_keptOf_17 (d + 1) a1 a2 a3 a4 a5 h0) (zm_I fun v h' => h' = h0 ∧ zv_rg v ∧ True) := by
  induction N_L0_keptOf_17 using Nat.strongRecOn with
  | _ N_L0_keptOf_17 ih_L0_keptOf_17 =>
    intro a1 a2 a3 a4 a5 h_a1 h_a2 h_a3 h_a4 h_a5 hm_L0_keptOf_5 eN
    rw [qL0_keptOf_17]
    have z_a5 := h_a5.1
    refine zc_rI (zc_Q_r hA) h_a2 fun v1 e_v1 r_v1 => ?_
    have b_v1 := zc_bdv (k := 12) (m := 120) (zc_Q_r hA) h_a2 rfl
    rw [← e_v1] at b_v1
    refine zm_if (fun c1 => ?_) (fun c1 => ?_)
    · refine zc_pI (K := fun v => True) (zc_C5_idAt (zc_Q_r hA).2 h_a1 h_a4) fun q2v r_q2 k_q2 => ?_
      dsimp only
      refine zc_pI (K := fun v => True) (zc_C5_idAt (zc_Q_r hA).2 h_a2 h_a5.2) fun q3v r_q3 k_q3 => ?_
      dsimp only
      refine zm_if (fun c4 => ?_) (fun c4 => ?_)
      · exact ih_L0_keptOf_17 _ (by rw [← eN]; exact zc_up h_a5.2 r_v1 c1) h_a1 h_a2 (zc_w _) h_a4 ⟨by rw [zc_up1 h_a5.2 r_v1 c1]; omega, zc_w _⟩ hm_L0_keptOf_5 rfl
      · exact ih_L0_keptOf_17 _ (by rw [← eN]; exact zc_up h_a5.2 r_v1 c1) h_a1 h_a2 (zc_w _) h_a4 ⟨by rw [zc_up1 h_a5.2 r_v1 c1]; omega, zc_w _⟩ hm_L0_keptOf_5 rfl
    · exact ih_L0_keptOf_5 _ hm_L0_keptOf_5.1 h_a1 h_a2 h_a3 ⟨hm_L0_keptOf_5.2, (zc_w _)⟩  rfl
theorem zc_L0_keptOf_5 {d : Nat} {h0 : zv_H} (hA : zc_A h0) (N_L0_keptOf_5 : Nat) : ∀ {a1 : Nat} {a2 : Nat} {a3 : Int} {a4 : Int}, (zv_lay a1 = (1, 5)) → (zv_lay a2 = (1, 5)) → (zv_rg a3) → (0 ≤ a4 ∧ zv_rg a4) → (2147483647 - a4).toNat = N_L0_keptOf_5 → zm_R (L0_keptOf_5 (d + 1) a1 a2 a3 a4 h0) (zm_I fun v h' => h' = h0 ∧ zv_rg v ∧ True) := by
  induction N_L0_keptOf_5 using Nat.strongRecOn with
  | _ N_L0_keptOf_5 ih_L0_keptOf_5 =>
    intro a1 a2 a3 a4 h_a1 h_a2 h_a3 h_a4 eN
    rw [qL0_keptOf_5]
    have z_a4 := h_a4.1
    refine zc_rI (zc_Q_r hA) h_a1 fun v1 e_v1 r_v1 => ?_
    have b_v1 := zc_bdv (k := 12) (m := 120) (zc_Q_r hA) h_a1 rfl
    rw [← e_v1] at b_v1
    refine zm_if (fun c1 => ?_) (fun c1 => ?_)
    · exact zc_L0_keptOf_17 hA ih_L0_keptOf_5 _ h_a1 h_a2 h_a3 h_a4.2 ⟨by omega, (by unfold zv_rg; omega)⟩ ⟨(by rw [← eN]; exact zc_up h_a4.2 r_v1 c1), (⟨by rw [zc_up1 h_a4.2 r_v1 c1]; omega, zc_w _⟩ : 0 ≤ (zv_w (a4 + 1)) ∧ zv_rg (zv_w (a4 + 1))).1⟩ rfl
    · exact zm_iI ⟨rfl, h_a3, trivial⟩
theorem zc_E0_keptOf {d : Nat} {h : zv_H} {a0 : Nat} {a1 : Nat} {a2 : Nat} (hA : zc_A h) (h_a0 : zv_lay a0 = (1, 0)) (h_a1 : zv_lay a1 = (1, 5)) (h_a2 : zv_lay a2 = (1, 5)) : zm_R (E0_keptOf (d + 1) a0 a1 a2 h) (zm_I fun v h' => h' = h ∧ zv_rg v ∧ True) := by
  have F0 := zc_Q_r hA
  rw [qE0_keptOf]
  exact zc_L0_keptOf_5 hA  _ h_a1 h_a2 (by unfold zv_rg; omega) ⟨by omega, (by unfold zv_rg; omega)⟩  rfl
theorem zc_C0_keptOf {d : Nat} {h : zv_H} {a0 : Nat} {a1 : Nat} {a2 : Nat} (hA : zc_A h) (h_a0 : zv_lay a0 = (1, 0)) (h_a1 : zv_lay a1 = (1, 5)) (h_a2 : zv_lay a2 = (1, 5)) : zm_R (C0_keptOf (d + 2) a0 a1 a2 h) (fun q => q.2 = h ∧ zv_rg q.1 ∧ True) := zm_cI (fun e => lC0_keptOf (zc_ob hA h_a0) e) (zc_E0_keptOf hA h_a0 h_a1 h_a2)
theorem zc_L0_twinOf_2 {d : Nat} {h0 : zv_H} (hA : zc_A h0) (N_L0_twinOf_2 : Nat) : ∀ {a0 : Nat} {a1 : Nat} {a2 : Int}, (zv_lay a0 = (1, 0)) → (zv_lay a1 = (1, 5)) → (0 ≤ a2 ∧ zv_rg a2) → (2147483647 - a2).toNat = N_L0_twinOf_2 → zm_R (L0_twinOf_2 (d + 3) a0 a1 a2 h0) (zm_I fun v h' => h' = h0 ∧ zv_rg v ∧ True) := by
  induction N_L0_twinOf_2 using Nat.strongRecOn with
  | _ N_L0_twinOf_2 ih_L0_twinOf_2 =>
    intro a0 a1 a2 h_a0 h_a1 h_a2 eN
    rw [qL0_twinOf_2]
    have z_a2 := h_a2.1
    refine zm_if (fun c1 => ?_) (fun c1 => ?_)
    · refine zc_pN (K := fun v => (v = 0 ∨ zc_V h0 v)) (zc_C0_at (zc_Q_r hA).2 h_a0 h_a2.2) fun q1v k_q1 => ?_
      dsimp only
      refine zm_if (fun c3 => ?_) (fun c3 => ?_)
      · exact ih_L0_twinOf_2 _ (by rw [← eN]; exact zc_up h_a2.2 (by unfold zv_rg; omega) c1) h_a0 h_a1 ⟨by rw [zc_up1 h_a2.2 (by unfold zv_rg; omega) c1]; omega, zc_w _⟩  rfl
      · refine zm_if (fun c4 => ?_) (fun c4 => ?_)
        · have w_a1 := zv_lay_lt (zc_ly h_a1)
          have w_q1_1 := zv_lay_lt (zc_ly ((Or.imp id (zc_Vb (zc_Q_r hA).1) k_q1).resolve_left c3).1)
          omega
        · refine zm_if (fun c5 => ?_) (fun c5 => ?_)
          · exact ih_L0_twinOf_2 _ (by rw [← eN]; exact zc_up h_a2.2 (by unfold zv_rg; omega) c1) h_a0 h_a1 ⟨by rw [zc_up1 h_a2.2 (by unfold zv_rg; omega) c1]; omega, zc_w _⟩  rfl
          · refine zc_pI (K := fun v => True) (zc_C0_firstDifference (zc_Q_r hA).2 h_a0 h_a1 ((Or.imp id (zc_Vb (zc_Q_r hA).1) k_q1).resolve_left c3).1) fun q2v r_q2 k_q2 => ?_
            dsimp only
            refine zm_if (fun c7 => ?_) (fun c7 => ?_)
            · exact zm_iI ⟨rfl, h_a2.2, trivial⟩
            · exact ih_L0_twinOf_2 _ (by rw [← eN]; exact zc_up h_a2.2 (by unfold zv_rg; omega) c1) h_a0 h_a1 ⟨by rw [zc_up1 h_a2.2 (by unfold zv_rg; omega) c1]; omega, zc_w _⟩  rfl
    · exact zm_iI ⟨rfl, (by unfold zv_rg; omega), trivial⟩
theorem zc_E0_twinOf {d : Nat} {h : zv_H} {a0 : Nat} {a1 : Nat} (hA : zc_A h) (h_a0 : zv_lay a0 = (1, 0)) (h_a1 : zv_lay a1 = (1, 5)) : zm_R (E0_twinOf (d + 3) a0 a1 h) (zm_I fun v h' => h' = h ∧ zv_rg v ∧ True) := by
  have F0 := zc_Q_r hA
  rw [qE0_twinOf]
  exact zc_L0_twinOf_2 hA  _ h_a0 h_a1 ⟨by omega, (by unfold zv_rg; omega)⟩  rfl
theorem zc_C0_twinOf {d : Nat} {h : zv_H} {a0 : Nat} {a1 : Nat} (hA : zc_A h) (h_a0 : zv_lay a0 = (1, 0)) (h_a1 : zv_lay a1 = (1, 5)) : zm_R (C0_twinOf (d + 4) a0 a1 h) (fun q => q.2 = h ∧ zv_rg q.1 ∧ True) := zm_cI (fun e => lC0_twinOf (zc_ob hA h_a0) e) (zc_E0_twinOf hA h_a0 h_a1)
theorem zc_E0_isNear {d : Nat} {h : zv_H} {a0 : Nat} {a1 : Nat} (hA : zc_A h) (h_a0 : zv_lay a0 = (1, 5)) (h_a1 : zv_lay a1 = (1, 5)) : zm_R (E0_isNear (d + 0) a0 a1 h) (zm_I fun v h' => h' = h ∧ zv_rg v ∧ True) := by
  have F0 := zc_Q_r hA
  rw [qE0_isNear]
  refine zc_rI F0 h_a1 fun v1 e_v1 r_v1 => ?_
  refine zm_if (fun c1 => ?_) (fun c1 => ?_)
  · refine zc_rI F0 h_a1 fun v2 e_v2 r_v2 => ?_
    refine zc_rI F0 h_a1 fun v3 e_v3 r_v3 => ?_
    rw [qL0_isNear_23]
    refine zc_rI F0 h_a0 fun v1x1 e_v1x1 r_v1x1 => ?_
    refine zm_if (fun c2 => ?_) (fun c2 => ?_)
    · refine zc_rI F0 h_a0 fun v2x1 e_v2x1 r_v2x1 => ?_
      refine zm_if (fun c3 => ?_) (fun c3 => ?_)
      · exact zm_iI ⟨rfl, (by unfold zv_rg; omega), trivial⟩
      · exact zm_iI ⟨rfl, (by unfold zv_rg; omega), trivial⟩
    · refine zc_rI F0 h_a0 fun v3x1 e_v3x1 r_v3x1 => ?_
      refine zc_rI F0 h_a0 fun v4 e_v4 r_v4 => ?_
      refine zm_if (fun c4 => ?_) (fun c4 => ?_)
      · exact zm_iI ⟨rfl, (by unfold zv_rg; omega), trivial⟩
      · refine zc_rI F0 h_a1 fun v5 e_v5 r_v5 => ?_
        refine zm_if (fun c5 => ?_) (fun c5 => ?_)
        · refine zc_rI F0 h_a0 fun v6 e_v6 r_v6 => ?_
          refine zm_if (fun c6 => ?_) (fun c6 => ?_)
          · exact zm_iI ⟨rfl, (by unfold zv_rg; omega), trivial⟩
          · exact zm_iI ⟨rfl, (by unfold zv_rg; omega), trivial⟩
        · exact zm_iI ⟨rfl, (by unfold zv_rg; omega), trivial⟩
  · refine zc_rI F0 h_a1 fun v4x1 e_v4x1 r_v4x1 => ?_
    rw [qL0_isNear_23]
    refine zc_rI F0 h_a0 fun v1x2 e_v1x2 r_v1x2 => ?_
    refine zm_if (fun c7 => ?_) (fun c7 => ?_)
    · refine zc_rI F0 h_a0 fun v2x2 e_v2x2 r_v2x2 => ?_
      refine zm_if (fun c8 => ?_) (fun c8 => ?_)
      · exact zm_iI ⟨rfl, (by unfold zv_rg; omega), trivial⟩
      · exact zm_iI ⟨rfl, (by unfold zv_rg; omega), trivial⟩
    · refine zc_rI F0 h_a0 fun v3x2 e_v3x2 r_v3x2 => ?_
      refine zc_rI F0 h_a0 fun v4x2 e_v4x2 r_v4x2 => ?_
      refine zm_if (fun c9 => ?_) (fun c9 => ?_)
      · exact zm_iI ⟨rfl, (by unfold zv_rg; omega), trivial⟩
      · refine zc_rI F0 h_a1 fun v5x1 e_v5x1 r_v5x1 => ?_
        refine zm_if (fun c10 => ?_) (fun c10 => ?_)
        · refine zc_rI F0 h_a0 fun v6x1 e_v6x1 r_v6x1 => ?_
          refine zm_if (fun c11 => ?_) (fun c11 => ?_)
          · exact zm_iI ⟨rfl, (by unfold zv_rg; omega), trivial⟩
          · exact zm_iI ⟨rfl, (by unfold zv_rg; omega), trivial⟩
        · exact zm_iI ⟨rfl, (by unfold zv_rg; omega), trivial⟩
theorem zc_C0_isNear {d : Nat} {h : zv_H} {a0 : Nat} {a1 : Nat} (hA : zc_A h) (h_a0 : zv_lay a0 = (1, 5)) (h_a1 : zv_lay a1 = (1, 5)) : zm_R (C0_isNear (d + 1) a0 a1 h) (fun q => q.2 = h ∧ zv_rg q.1 ∧ True) := zm_cI (fun e => lC0_isNear e) (zc_E0_isNear hA h_a0 h_a1)
end
/-! 92.q -/
section
theorem zc_L0_findNewest_49 {d : Nat} {h0 : zv_H} {N_L0_findNewest_35 : Nat} (ih_L0_findNewest_35 : ∀ m, m < N_L0_findNewest_35 → ∀ {h : zv_H} {a0 : Nat} {a1 : Int}, zc_Q h0 h → (zv_lay a0 = (1, 0)) → (0 ≤ a1 ∧ zv_rg a1) → (2147483647 - a1).toNat = m → zm_R (L0_findNewest_35 (d + 1) a0 a1 h) (zm_V fun h' => zc_Q h0 h')) (N_L0_findNewest_49 : Nat) : ∀ {h : zv_H} {a0 : Nat} {a1 : Int} {a2 : Nat} {a3 : Nat}, zc_Q h0 h → (zv_lay a0 = (1, 0)) → (zv_rg a1) → (a3 = 0 ∨ zc_V h0 a2) → (a3 = 0 ∨ zc_V h0 a3) → ((2147483647 - (zv_w (a1 + 1))).toNat < N_L0_findNewest_35 ∧ 0 ≤ (zv_w (a1 + 1))) → zc_dm h0 a3 = N_L0_findNewest_49 → zm_R (L0_findNewest_49 (d + 1) a0 a1 a2 a3 h) (zm_V fun h' => zc_Q h0 h') := by
  induction N_L0_findNewest_49 using Nat.strongRecOn with
  | _ N_L0_findNewest_49 ih_L0_findNewest_49 =>
    intro h a0 a1 a2 a3 F0 h_a0 h_a1 h_a2 h_a3 hm_L0_findNewest_35 eN
    rw [qL0_findNewest_49]
    refine zm_if (fun c1 => ?_) (fun c1 => ?_)
    · exact ih_L0_findNewest_35 _ hm_L0_findNewest_35.1 F0 h_a0 ⟨hm_L0_findNewest_35.2, (zc_w _)⟩  rfl
    · refine zc_rI F0 (h_a3.resolve_left c1).1 fun v1 e_v1 r_v1 => ?_
      refine zc_rI F0 (h_a2.resolve_left c1).1 fun v2 e_v2 r_v2 => ?_
      refine zc_wO F0 (h_a3.resolve_left c1).1 (zc_frO (h_a3.resolve_left c1).1 (zc_lt (h_a3.resolve_left c1).1 (by decide)) (by decide) rfl (by decide)) (zc_mx r_v1 r_v2) fun g3 F2 => ?_
      refine zc_rR5 F2 (h_a3.resolve_left c1).1 ?_
      exact ih_L0_findNewest_49 _ (by rw [← eN]; exact zc_dmP F2 (h_a3.resolve_left c1)) F2 h_a0 h_a1 (Or.inr (h_a2.resolve_left c1)) (zc_pV F2 (h_a3.resolve_left c1)) hm_L0_findNewest_35 rfl
theorem zc_L0_findNewest_35 {d : Nat} {h0 : zv_H} (N_L0_findNewest_35 : Nat) : ∀ {h : zv_H} {a0 : Nat} {a1 : Int}, zc_Q h0 h → (zv_lay a0 = (1, 0)) → (0 ≤ a1 ∧ zv_rg a1) → (2147483647 - a1).toNat = N_L0_findNewest_35 → zm_R (L0_findNewest_35 (d + 1) a0 a1 h) (zm_V fun h' => zc_Q h0 h') := by
  induction N_L0_findNewest_35 using Nat.strongRecOn with
  | _ N_L0_findNewest_35 ih_L0_findNewest_35 =>
    intro h a0 a1 F0 h_a0 h_a1 eN
    rw [qL0_findNewest_35]
    have z_a1 := h_a1.1
    refine zm_if (fun c1 => ?_) (fun c1 => ?_)
    · refine zc_pN (K := fun v => (v = 0 ∨ zc_V h v)) (zc_C0_at F0.2 h_a0 h_a1.2) fun q1v k_q1 => ?_
      dsimp only
      exact zc_L0_findNewest_49 ih_L0_findNewest_35 _ F0 h_a0 h_a1.2 (Or.imp id (zc_Vb F0.1) k_q1) (Or.imp id (zc_Vb F0.1) k_q1) ⟨(by rw [← eN]; exact zc_up h_a1.2 (by unfold zv_rg; omega) c1), (⟨by rw [zc_up1 h_a1.2 (by unfold zv_rg; omega) c1]; omega, zc_w _⟩ : 0 ≤ (zv_w (a1 + 1)) ∧ zv_rg (zv_w (a1 + 1))).1⟩ rfl
    · exact zm_iV F0
theorem zc_L0_findNewest_2 {d : Nat} {h0 : zv_H} (N_L0_findNewest_2 : Nat) : ∀ {h : zv_H} {a0 : Nat} {a1 : Int}, zc_Q h0 h → (zv_lay a0 = (1, 0)) → (0 ≤ a1 ∧ zv_rg a1) → (2147483647 - a1).toNat = N_L0_findNewest_2 → zm_R (L0_findNewest_2 (d + 1) a0 a1 h) (zm_V fun h' => zc_Q h0 h') := by
  induction N_L0_findNewest_2 using Nat.strongRecOn with
  | _ N_L0_findNewest_2 ih_L0_findNewest_2 =>
    intro h a0 a1 F0 h_a0 h_a1 eN
    rw [qL0_findNewest_2]
    have z_a1 := h_a1.1
    refine zm_if (fun c1 => ?_) (fun c1 => ?_)
    · refine zc_rF F0 4 h_a0 ?_
      refine zc_rS F0 h_a0 (by omega) (by omega) fun v2 l_v2 f_v2 e_v2 n_v2 => ?_
      refine zm_if (fun c2 => ?_) (fun c2 => ?_)
      · exact absurd c2 (zc_nz l_v2)
      · refine zc_rF F0 4 h_a0 ?_
        refine zc_rS F0 h_a0 (by omega) (by omega) fun v4 l_v4 f_v4 e_v4 n_v4 => ?_
        refine zc_wO F0 l_v4 (zc_frO l_v4 (zc_lt l_v4 (by decide)) (by decide) rfl (by decide)) (by unfold zv_rg; omega) fun g5 F3 => ?_
        exact ih_L0_findNewest_2 _ (by rw [← eN]; exact zc_up h_a1.2 (by unfold zv_rg; omega) c1) F3 h_a0 ⟨by rw [zc_up1 h_a1.2 (by unfold zv_rg; omega) c1]; omega, zc_w _⟩  rfl
    · exact zc_L0_findNewest_35  _ F0 h_a0 ⟨by omega, (by unfold zv_rg; omega)⟩  rfl
theorem zc_E0_findNewest {d : Nat} {h : zv_H} {a0 : Nat} (hA : zc_A h) (h_a0 : zv_lay a0 = (1, 0)) : zm_R (E0_findNewest (d + 1) a0 h) (zm_V fun h' => zc_Q h h') := by
  have F0 := zc_Q_r hA
  rw [qE0_findNewest]
  exact zc_L0_findNewest_2  _ F0 h_a0 ⟨by omega, (by unfold zv_rg; omega)⟩  rfl
theorem zc_C0_findNewest {d : Nat} {h : zv_H} {a0 : Nat} (hA : zc_A h) (h_a0 : zv_lay a0 = (1, 0)) : zm_R (C0_findNewest (d + 2) a0 h) (fun q => zc_Q h q) := zm_cV (fun e => lC0_findNewest (zc_ob hA h_a0) e) (zc_E0_findNewest hA h_a0)
theorem zc_L0_newestChild_5 {d : Nat} {h0 : zv_H} (hA : zc_A h0) (N_L0_newestChild_5 : Nat) : ∀ {a0 : Nat} {a1 : Nat} {a2 : Int} {a3 : Nat} {a4 : Int}, (zv_lay a0 = (1, 0)) → (zv_lay a1 = (1, 5)) → (zv_rg a2) → (a3 = 0 ∨ zc_V h0 a3) → (0 ≤ a4 ∧ zv_rg a4) → (2147483647 - a4).toNat = N_L0_newestChild_5 → zm_R (L0_newestChild_5 (d + 1) a0 a1 a2 a3 a4 h0) (zm_N fun v h' => h' = h0 ∧ ((v = 0 ∨ zc_V h0 v))) := by
  induction N_L0_newestChild_5 using Nat.strongRecOn with
  | _ N_L0_newestChild_5 ih_L0_newestChild_5 =>
    intro a0 a1 a2 a3 a4 h_a0 h_a1 h_a2 h_a3 h_a4 eN
    rw [qL0_newestChild_5]
    have z_a4 := h_a4.1
    refine zm_if (fun c1 => ?_) (fun c1 => ?_)
    · refine zc_pN (K := fun v => (v = 0 ∨ zc_V h0 v)) (zc_C0_at (zc_Q_r hA).2 h_a0 h_a4.2) fun q1v k_q1 => ?_
      dsimp only
      refine zm_if (fun c3 => ?_) (fun c3 => ?_)
      · exact ih_L0_newestChild_5 _ (by rw [← eN]; exact zc_up h_a4.2 (by unfold zv_rg; omega) c1) h_a0 h_a1 h_a2 h_a3 ⟨by rw [zc_up1 h_a4.2 (by unfold zv_rg; omega) c1]; omega, zc_w _⟩  rfl
      · refine zc_rR5 (zc_Q_r hA) ((Or.imp id (zc_Vb (zc_Q_r hA).1) k_q1).resolve_left c3).1 ?_
        refine zm_if (fun c4 => ?_) (fun c4 => ?_)
        · have w_v2 := zc_lt0 (zc_pV (zc_Q_r hA) ((Or.imp id (zc_Vb (zc_Q_r hA).1) k_q1).resolve_left c3))
          have w_a1 := zv_lay_lt (zc_ly h_a1)
          omega
        · refine zm_if (fun c5 => ?_) (fun c5 => ?_)
          · refine zc_rI (zc_Q_r hA) ((Or.imp id (zc_Vb (zc_Q_r hA).1) k_q1).resolve_left c3).1 fun v3 e_v3 r_v3 => ?_
            refine zm_if (fun c6 => ?_) (fun c6 => ?_)
            · refine zm_if (fun c7 => ?_) (fun c7 => ?_)
              · exact ih_L0_newestChild_5 _ (by rw [← eN]; exact zc_up h_a4.2 (by unfold zv_rg; omega) c1) h_a0 h_a1 h_a2 (Or.inr ((Or.imp id (zc_Vb (zc_Q_r hA).1) k_q1).resolve_left c3)) ⟨by rw [zc_up1 h_a4.2 (by unfold zv_rg; omega) c1]; omega, zc_w _⟩  rfl
              · refine zc_rI (zc_Q_r hA) ((Or.imp id (zc_Vb (zc_Q_r hA).1) k_q1).resolve_left c3).1 fun v4 e_v4 r_v4 => ?_
                refine zc_rI (zc_Q_r hA) (h_a3.resolve_left c7).1 fun v5 e_v5 r_v5 => ?_
                refine zm_if (fun c8 => ?_) (fun c8 => ?_)
                · exact ih_L0_newestChild_5 _ (by rw [← eN]; exact zc_up h_a4.2 (by unfold zv_rg; omega) c1) h_a0 h_a1 h_a2 (Or.inr (h_a3.resolve_left c7)) ⟨by rw [zc_up1 h_a4.2 (by unfold zv_rg; omega) c1]; omega, zc_w _⟩  rfl
                · exact ih_L0_newestChild_5 _ (by rw [← eN]; exact zc_up h_a4.2 (by unfold zv_rg; omega) c1) h_a0 h_a1 h_a2 (Or.inr ((Or.imp id (zc_Vb (zc_Q_r hA).1) k_q1).resolve_left c3)) ⟨by rw [zc_up1 h_a4.2 (by unfold zv_rg; omega) c1]; omega, zc_w _⟩  rfl
            · exact ih_L0_newestChild_5 _ (by rw [← eN]; exact zc_up h_a4.2 (by unfold zv_rg; omega) c1) h_a0 h_a1 h_a2 h_a3 ⟨by rw [zc_up1 h_a4.2 (by unfold zv_rg; omega) c1]; omega, zc_w _⟩  rfl
          · exact ih_L0_newestChild_5 _ (by rw [← eN]; exact zc_up h_a4.2 (by unfold zv_rg; omega) c1) h_a0 h_a1 h_a2 h_a3 ⟨by rw [zc_up1 h_a4.2 (by unfold zv_rg; omega) c1]; omega, zc_w _⟩  rfl
    · exact zm_iN ⟨rfl, h_a3⟩
theorem zc_E0_newestChild {d : Nat} {h : zv_H} {a0 : Nat} {a1 : Nat} {a2 : Int} (hA : zc_A h) (h_a0 : zv_lay a0 = (1, 0)) (h_a1 : zv_lay a1 = (1, 5)) (h_a2 : zv_rg a2) : zm_R (E0_newestChild (d + 1) a0 a1 a2 h) (zm_N fun v h' => h' = h ∧ ((v = 0 ∨ zc_V h v))) := by
  have F0 := zc_Q_r hA
  rw [qE0_newestChild]
  exact zc_L0_newestChild_5 hA  _ h_a0 h_a1 h_a2 (Or.inl rfl) ⟨by omega, (by unfold zv_rg; omega)⟩  rfl
theorem zc_C0_newestChild {d : Nat} {h : zv_H} {a0 : Nat} {a1 : Nat} {a2 : Int} (hA : zc_A h) (h_a0 : zv_lay a0 = (1, 0)) (h_a1 : zv_lay a1 = (1, 5)) (h_a2 : zv_rg a2) : zm_R (C0_newestChild (d + 2) a0 a1 a2 h) (fun q => q.2 = h ∧ ((q.1 = 0 ∨ zc_V h q.1))) := zm_cN (fun e => lC0_newestChild (zc_ob hA h_a0) e) (zc_E0_newestChild hA h_a0 h_a1 h_a2)
theorem zc_L0_childOf_34 {d : Nat} {h0 : zv_H} (N_L0_childOf_34 : Nat) : ∀ {h : zv_H} {a0 : Nat} {a1 : Nat} {a2 : Int} {a3 : Nat} {a4 : Int} {a5 : Int}, zc_Q h0 h → (zv_lay a0 = (1, 0)) → (zv_lay a1 = (1, 5)) → ((-2147483648 ≤ a2 ∧ a2 < 2147483647) ∧ zv_rg a2) → (a3 = 0 ∨ zc_V h0 a3) → (zv_rg a4) → (0 ≤ a5 ∧ zv_rg a5) → (2147483647 - a5).toNat = N_L0_childOf_34 → zm_R (L0_childOf_34 (d + 2) a0 a1 a2 a3 a4 a5 h) (zm_N fun v h' => zc_Q h0 h' ∧ ((v = 0 ∨ zc_V h0 v))) := by
  induction N_L0_childOf_34 using Nat.strongRecOn with
  | _ N_L0_childOf_34 ih_L0_childOf_34 =>
    intro h a0 a1 a2 a3 a4 a5 F0 h_a0 h_a1 h_a2 h_a3 h_a4 h_a5 eN
    rw [qL0_childOf_34]
    have z_a2 := h_a2.1
    have z_a5 := h_a5.1
    refine zm_if (fun c1 => ?_) (fun c1 => ?_)
    · refine zc_pN (K := fun v => (v = 0 ∨ zc_V h v)) (zc_C0_newestChild F0.2 h_a0 h_a1 h_a4) fun q1v k_q1 => ?_
      dsimp only
      refine zm_if (fun c3 => ?_) (fun c3 => ?_)
      · exact zm_iN ⟨F0, Or.inl rfl⟩
      · refine zc_rI F0 ((Or.imp id (zc_Vb F0.1) k_q1).resolve_left c3).1 fun v2 e_v2 r_v2 => ?_
        exact ih_L0_childOf_34 _ (by rw [← eN]; exact zc_up h_a5.2 (show zv_rg (a2 + 1) from (by unfold zv_rg at *; omega)) (by omega)) F0 h_a0 h_a1 ⟨by unfold zv_rg at *; omega, h_a2.2⟩ (Or.inr ((Or.imp id (zc_Vb F0.1) k_q1).resolve_left c3)) r_v2 ⟨by rw [zc_up1 h_a5.2 (show zv_rg (a2 + 1) from (by unfold zv_rg at *; omega)) (by omega)]; omega, zc_w _⟩  rfl
    · exact zm_iN ⟨F0, h_a3⟩
theorem zc_E0_childOf {d : Nat} {h : zv_H} {a0 : Nat} {a1 : Nat} {a2 : Int} (hA : zc_A h) (h_a0 : zv_lay a0 = (1, 0)) (h_a1 : zv_lay a1 = (1, 5)) (h_a2 : zv_rg a2) : zm_R (E0_childOf (d + 2) a0 a1 a2 h) (zm_N fun v h' => zc_Q h h' ∧ ((v = 0 ∨ zc_V h v))) := by
  have F0 := zc_Q_r hA
  rw [qE0_childOf]
  refine zm_if (fun c1 => ?_) (fun c1 => ?_)
  · exact zm_iN ⟨F0, Or.inl rfl⟩
  · refine zc_rT F0 h_a1 fun v1 e_v1 r_v1 => ?_
    refine zm_if (fun c2 => ?_) (fun c2 => ?_)
    · refine zc_cV F0 (zc_C0_findNewest F0.2 h_a0) fun g2 F3 => ?_
      refine zc_rF F3 17 h_a0 ?_
      refine zc_rI F3 (zc_y0_7 h_a0).1 fun v4 e_v4 r_v4 => ?_
      exact zc_L0_childOf_34  _ F3 h_a0 h_a1 ⟨by unfold zv_rg at *; omega, h_a2⟩ (Or.inl rfl) (zc_w _) ⟨by omega, (by unfold zv_rg; omega)⟩  rfl
    · exact zm_iN ⟨F0, Or.inl rfl⟩
theorem zc_C0_childOf {d : Nat} {h : zv_H} {a0 : Nat} {a1 : Nat} {a2 : Int} (hA : zc_A h) (h_a0 : zv_lay a0 = (1, 0)) (h_a1 : zv_lay a1 = (1, 5)) (h_a2 : zv_rg a2) : zm_R (C0_childOf (d + 3) a0 a1 a2 h) (fun q => zc_Q h q.2 ∧ ((q.1 = 0 ∨ zc_V h q.1))) := zm_cN (fun e => lC0_childOf (zc_ob hA h_a0) e) (zc_E0_childOf hA h_a0 h_a1 h_a2)
theorem zc_L0_nearest_2 {d : Nat} {h0 : zv_H} (hA : zc_A h0) (N_L0_nearest_2 : Nat) : ∀ {a1 : Nat} {a2 : Nat}, (zc_V h0 a1) → (zc_V h0 a2) → zc_dm h0 a2 = N_L0_nearest_2 → zm_R (L0_nearest_2 (d + 1) a1 a2 h0) (zm_N fun v h' => h' = h0 ∧ (zc_V h0 v)) := by
  induction N_L0_nearest_2 using Nat.strongRecOn with
  | _ N_L0_nearest_2 ih_L0_nearest_2 =>
    intro a1 a2 h_a1 h_a2 eN
    rw [qL0_nearest_2]
    refine zc_rR5 (zc_Q_r hA) h_a2.1 ?_
    refine zm_if (fun c1 => ?_) (fun c1 => ?_)
    · exact zm_iN ⟨rfl, h_a2⟩
    · refine zc_pI (K := fun v => True) (zc_C0_onLine (zc_Q_r hA).2 (zc_Vq (zc_Q_r hA).1 h_a2) (Or.inr (zc_Vq (zc_Q_r hA).1 h_a1))) fun q2v r_q2 k_q2 => ?_
      dsimp only
      refine zm_if (fun c3 => ?_) (fun c3 => ?_)
      · refine zc_rR5 (zc_Q_r hA) h_a2.1 ?_
        exact ih_L0_nearest_2 _ (by rw [← eN]; exact zc_dmP (zc_Q_r hA) h_a2) h_a1 ((zc_pV (zc_Q_r hA) h_a2).resolve_left c1)  rfl
      · exact zm_iN ⟨rfl, h_a2⟩
theorem zc_E0_nearest {d : Nat} {h : zv_H} {a0 : Nat} {a1 : Nat} (hA : zc_A h) (h_a0 : zc_V h a0) (h_a1 : zc_V h a1) : zm_R (E0_nearest (d + 1) a0 a1 h) (zm_N fun v h' => h' = h ∧ (zc_V h v)) := by
  have F0 := zc_Q_r hA
  rw [qE0_nearest]
  exact zc_L0_nearest_2 hA  _ h_a1 h_a0  rfl
theorem zc_C0_nearest {d : Nat} {h : zv_H} {a0 : Nat} {a1 : Nat} (hA : zc_A h) (h_a0 : zc_V h a0) (h_a1 : zc_V h a1) : zm_R (C0_nearest (d + 2) a0 a1 h) (fun q => q.2 = h ∧ (zc_V h q.1)) := zm_cN (fun e => lC0_nearest e) (zc_E0_nearest hA h_a0 h_a1)
theorem zc_E0_wayLength {d : Nat} {h : zv_H} {a0 : Nat} {a1 : Nat} (hA : zc_A h) (h_a0 : zc_V h a0) (h_a1 : zc_V h a1) : zm_R (E0_wayLength (d + 2) a0 a1 h) (zm_I fun v h' => h' = h ∧ zv_rg v ∧ True) := by
  have F0 := zc_Q_r hA
  rw [qE0_wayLength]
  refine zc_rT F0 h_a0.1 fun v1 e_v1 r_v1 => ?_
  have d_v1 := (zc_dep F0 h_a0).1
  rw [← e_v1] at d_v1
  refine zc_rT F0 h_a1.1 fun v2 e_v2 r_v2 => ?_
  have d_v2 := (zc_dep F0 h_a1).1
  rw [← e_v2] at d_v2
  refine zc_pN (K := fun v => zc_V h v) (zc_C0_nearest F0.2 (zc_Vq F0.1 h_a0) (zc_Vq F0.1 h_a1)) fun q3v k_q3 => ?_
  dsimp only
  refine zc_rT F0 (zc_Vb F0.1 k_q3).1 fun v4 e_v4 r_v4 => ?_
  have d_v4 := (zc_dep F0 (zc_Vb F0.1 k_q3)).1
  rw [← e_v4] at d_v4
  exact zm_iI ⟨rfl, (zc_w _), trivial⟩
theorem zc_C0_wayLength {d : Nat} {h : zv_H} {a0 : Nat} {a1 : Nat} (hA : zc_A h) (h_a0 : zc_V h a0) (h_a1 : zc_V h a1) : zm_R (C0_wayLength (d + 3) a0 a1 h) (fun q => q.2 = h ∧ zv_rg q.1 ∧ True) := zm_cI (fun e => lC0_wayLength e) (zc_E0_wayLength hA h_a0 h_a1)
theorem zc_E0_onWay {d : Nat} {h : zv_H} {a0 : Nat} {a1 : Nat} {a2 : Int} (hA : zc_A h) (h_a0 : zc_V h a0) (h_a1 : zc_V h a1) (h_a2 : zv_rg a2) : zm_R (E0_onWay (d + 3) a0 a1 a2 h) (zm_N fun v h' => h' = h ∧ ((v = 0 ∨ zc_V h v))) := by
  have F0 := zc_Q_r hA
  rw [qE0_onWay]
  refine zc_rT F0 h_a0.1 fun v1 e_v1 r_v1 => ?_
  have d_v1 := (zc_dep F0 h_a0).1
  rw [← e_v1] at d_v1
  refine zc_pN (K := fun v => zc_V h v) (zc_C0_nearest F0.2 (zc_Vq F0.1 h_a0) (zc_Vq F0.1 h_a1)) fun q2v k_q2 => ?_
  dsimp only
  refine zc_rT F0 (zc_Vb F0.1 k_q2).1 fun v3 e_v3 r_v3 => ?_
  have d_v3 := (zc_dep F0 (zc_Vb F0.1 k_q2)).1
  rw [← e_v3] at d_v3
  refine zc_pI (K := fun v => True) (zc_C0_wayLength F0.2 (zc_Vq F0.1 h_a0) (zc_Vq F0.1 h_a1)) fun q4v r_q4 k_q4 => ?_
  dsimp only
  refine zm_if (fun c3 => ?_) (fun c3 => ?_)
  · exact zm_iN ⟨rfl, Or.inl rfl⟩
  · refine zm_if (fun c4 => ?_) (fun c4 => ?_)
    · refine zm_if (fun c5 => ?_) (fun c5 => ?_)
      · refine zc_rT F0 h_a0.1 fun v5 e_v5 r_v5 => ?_
        have d_v5 := (zc_dep F0 h_a0).1
        rw [← e_v5] at d_v5
        refine zc_pN (K := fun v => (v = 0 ∨ zc_V h v)) (zc_C0_above F0.2 (Or.inr (zc_Vq F0.1 h_a0)) (zc_w _)) fun q6v k_q6 => ?_
        dsimp only
        exact zm_iN ⟨rfl, (Or.imp id (zc_Vb F0.1) k_q6)⟩
      · refine zc_rT F0 h_a1.1 fun v7 e_v7 r_v7 => ?_
        have d_v7 := (zc_dep F0 h_a1).1
        rw [← e_v7] at d_v7
        refine zc_pN (K := fun v => (v = 0 ∨ zc_V h v)) (zc_C0_above F0.2 (Or.inr (zc_Vq F0.1 h_a1)) (zc_w _)) fun q8v k_q8 => ?_
        dsimp only
        exact zm_iN ⟨rfl, (Or.imp id (zc_Vb F0.1) k_q8)⟩
    · exact zm_iN ⟨rfl, Or.inl rfl⟩
theorem zc_C0_onWay {d : Nat} {h : zv_H} {a0 : Nat} {a1 : Nat} {a2 : Int} (hA : zc_A h) (h_a0 : zc_V h a0) (h_a1 : zc_V h a1) (h_a2 : zv_rg a2) : zm_R (C0_onWay (d + 4) a0 a1 a2 h) (fun q => q.2 = h ∧ ((q.1 = 0 ∨ zc_V h q.1))) := zm_cN (fun e => lC0_onWay e) (zc_E0_onWay hA h_a0 h_a1 h_a2)
theorem zc_L0_nextToGo_4 {d : Nat} {h0 : zv_H} (hA : zc_A h0) (N_L0_nextToGo_4 : Nat) : ∀ {a0 : Nat} {a1 : Nat} {a2 : Int}, (zv_lay a0 = (1, 0)) → (a1 = 0 ∨ zc_V h0 a1) → (0 ≤ a2 ∧ zv_rg a2) → (2147483647 - a2).toNat = N_L0_nextToGo_4 → zm_R (L0_nextToGo_4 (d + 1) a0 a1 a2 h0) (zm_N fun v h' => h' = h0 ∧ ((v = 0 ∨ zc_V h0 v))) := by
  induction N_L0_nextToGo_4 using Nat.strongRecOn with
  | _ N_L0_nextToGo_4 ih_L0_nextToGo_4 =>
    intro a0 a1 a2 h_a0 h_a1 h_a2 eN
    rw [qL0_nextToGo_4]
    have z_a2 := h_a2.1
    refine zm_if (fun c1 => ?_) (fun c1 => ?_)
    · refine zc_pN (K := fun v => (v = 0 ∨ zc_V h0 v)) (zc_C0_at (zc_Q_r hA).2 h_a0 h_a2.2) fun q1v k_q1 => ?_
      dsimp only
      refine zm_if (fun c3 => ?_) (fun c3 => ?_)
      · exact ih_L0_nextToGo_4 _ (by rw [← eN]; exact zc_up h_a2.2 (by unfold zv_rg; omega) c1) h_a0 h_a1 ⟨by rw [zc_up1 h_a2.2 (by unfold zv_rg; omega) c1]; omega, zc_w _⟩  rfl
      · refine zc_rRo (zc_Q_r hA) h_a0 ?_
        refine zm_if (fun c4 => ?_) (fun c4 => ?_)
        · have w_v2 := zv_lay_lt (zc_ly (zc_hV (zc_Q_r hA) h_a0).1.1)
          have w_q1_1 := zv_lay_lt (zc_ly ((Or.imp id (zc_Vb (zc_Q_r hA).1) k_q1).resolve_left c3).1)
          omega
        · refine zm_if (fun c5 => ?_) (fun c5 => ?_)
          · exact ih_L0_nextToGo_4 _ (by rw [← eN]; exact zc_up h_a2.2 (by unfold zv_rg; omega) c1) h_a0 h_a1 ⟨by rw [zc_up1 h_a2.2 (by unfold zv_rg; omega) c1]; omega, zc_w _⟩  rfl
          · refine zc_rT (zc_Q_r hA) ((Or.imp id (zc_Vb (zc_Q_r hA).1) k_q1).resolve_left c3).1 fun v3 e_v3 r_v3 => ?_
            refine zm_if (fun c6 => ?_) (fun c6 => ?_)
            · refine zc_rF (zc_Q_r hA) 14 h_a0 ?_
              refine zc_pI (K := fun v => True) (zc_C2_countOf (zc_Q_r hA).2 (zc_y0_6 h_a0).1 h_a2.2) fun q5v r_q5 k_q5 => ?_
              dsimp only
              refine zm_if (fun c8 => ?_) (fun c8 => ?_)
              · refine zm_if (fun c9 => ?_) (fun c9 => ?_)
                · exact ih_L0_nextToGo_4 _ (by rw [← eN]; exact zc_up h_a2.2 (by unfold zv_rg; omega) c1) h_a0 (Or.inr ((Or.imp id (zc_Vb (zc_Q_r hA).1) k_q1).resolve_left c3)) ⟨by rw [zc_up1 h_a2.2 (by unfold zv_rg; omega) c1]; omega, zc_w _⟩  rfl
                · refine zc_rI (zc_Q_r hA) ((Or.imp id (zc_Vb (zc_Q_r hA).1) k_q1).resolve_left c3).1 fun v6 e_v6 r_v6 => ?_
                  refine zc_rI (zc_Q_r hA) (h_a1.resolve_left c9).1 fun v7 e_v7 r_v7 => ?_
                  refine zm_if (fun c10 => ?_) (fun c10 => ?_)
                  · exact ih_L0_nextToGo_4 _ (by rw [← eN]; exact zc_up h_a2.2 (by unfold zv_rg; omega) c1) h_a0 (Or.inr ((Or.imp id (zc_Vb (zc_Q_r hA).1) k_q1).resolve_left c3)) ⟨by rw [zc_up1 h_a2.2 (by unfold zv_rg; omega) c1]; omega, zc_w _⟩  rfl
                  · exact ih_L0_nextToGo_4 _ (by rw [← eN]; exact zc_up h_a2.2 (by unfold zv_rg; omega) c1) h_a0 (Or.inr (h_a1.resolve_left c9)) ⟨by rw [zc_up1 h_a2.2 (by unfold zv_rg; omega) c1]; omega, zc_w _⟩  rfl
              · exact ih_L0_nextToGo_4 _ (by rw [← eN]; exact zc_up h_a2.2 (by unfold zv_rg; omega) c1) h_a0 h_a1 ⟨by rw [zc_up1 h_a2.2 (by unfold zv_rg; omega) c1]; omega, zc_w _⟩  rfl
            · exact ih_L0_nextToGo_4 _ (by rw [← eN]; exact zc_up h_a2.2 (by unfold zv_rg; omega) c1) h_a0 h_a1 ⟨by rw [zc_up1 h_a2.2 (by unfold zv_rg; omega) c1]; omega, zc_w _⟩  rfl
    · exact zm_iN ⟨rfl, h_a1⟩
theorem zc_E0_nextToGo {d : Nat} {h : zv_H} {a0 : Nat} (hA : zc_A h) (h_a0 : zv_lay a0 = (1, 0)) : zm_R (E0_nextToGo (d + 1) a0 h) (zm_N fun v h' => h' = h ∧ ((v = 0 ∨ zc_V h v))) := by
  have F0 := zc_Q_r hA
  rw [qE0_nextToGo]
  exact zc_L0_nextToGo_4 hA  _ h_a0 (Or.inl rfl) ⟨by omega, (by unfold zv_rg; omega)⟩  rfl
theorem zc_C0_nextToGo {d : Nat} {h : zv_H} {a0 : Nat} (hA : zc_A h) (h_a0 : zv_lay a0 = (1, 0)) : zm_R (C0_nextToGo (d + 2) a0 h) (fun q => q.2 = h ∧ ((q.1 = 0 ∨ zc_V h q.1))) := zm_cN (fun e => lC0_nextToGo (zc_ob hA h_a0) e) (zc_E0_nextToGo hA h_a0)
end
/-! 93.q -/
section
theorem zc_or (x y : Int) : zv_rg (zv_or x y) := zv_rg_toInt _
theorem zc_and (x y : Int) : zv_rg (zv_and x y) := zv_rg_toInt _
theorem zc_shl (x y : Int) : zv_rg (zv_shl x y) := zv_rg_toInt _
theorem zc_shr (x y : Int) : zv_rg (zv_shr x y) := zv_rg_toInt _
theorem zc_ushr (x y : Int) : zv_rg (zv_ushr x y) := zv_rg_toInt _
theorem zc_l2i (x : Int64) : zv_rg (zv_l2i x) := zv_rg_toInt _
/-- the first of a group is there, in the same half -/
theorem zc_fV1 {h : zv_H} (hA : zc_A h) : ∀ (n : Nat) (s : Nat), zc_V h s → (zv_I h s 10).toNat = n → zc_V h (zv_R h s 5) ∧ zc_hf (zv_R h s 5) = zc_hf s := by
  intro n
  induction n with
  | zero =>
    intro s hV hn
    have t := hA.2.1 s hV.1
    have d := zc_dep (zc_Q_r hA) hV
    cases t with
    | inl t => exact absurd t.1 (by rw [hV.2]; decide)
    | inr t =>
      cases t.2.2.2.1 with
      | inl u => rw [u]; exact ⟨hV, rfl⟩
      | inr u =>
        have u1 := d.2.resolve_left u.1
        have := (zc_dep (zc_Q_r hA) u1.1).1
        have := u1.2.2
        omega
  | succ n ih =>
    intro s hV hn
    have t := hA.2.1 s hV.1
    have d := zc_dep (zc_Q_r hA) hV
    cases t with
    | inl t => exact absurd t.1 (by rw [hV.2]; decide)
    | inr t =>
      cases t.2.2.2.1 with
      | inl u => rw [u]; exact ⟨hV, rfl⟩
      | inr u =>
        have u1 := d.2.resolve_left u.1
        have := (zc_dep (zc_Q_r hA) u1.1).1
        have u2 := u1.2.2
        have i := ih _ u1.1 (by omega)
        rw [u.2]
        exact ⟨i.1, i.2.trans u1.2.1⟩
theorem zc_fV {h0 h : zv_H} (F : zc_Q h0 h) {s : Nat} (hV : zc_V h0 s) : zc_V h0 (zv_R h0 s 5) := by
  have i := (zc_fV1 F.2 _ s (zc_Vq F.1 hV) rfl).1
  rw [zc_sR_q F.1 hV.1 5] at i
  exact zc_Vb F.1 i
theorem zc_L0_groups_7 {d : Nat} {h0 : zv_H} (hA : zc_A h0) (N_L0_groups_7 : Nat) : ∀ {a0 : Nat} {a1 : Int} {a2 : Nat}, (zv_lay a0 = (1, 0)) → (zv_rg a1) → (a2 = 0 ∨ zc_V h0 a2) → zc_dm h0 a2 = N_L0_groups_7 → zm_R (L0_groups_7 (d + 0) a0 a1 a2 h0) (zm_I fun v h' => h' = h0 ∧ zv_rg v ∧ True) := by
  induction N_L0_groups_7 using Nat.strongRecOn with
  | _ N_L0_groups_7 ih_L0_groups_7 =>
    intro a0 a1 a2 h_a0 h_a1 h_a2 eN
    rw [qL0_groups_7]
    refine zm_if (fun c1 => ?_) (fun c1 => ?_)
    · exact zm_iI ⟨rfl, h_a1, trivial⟩
    · refine zc_rF (zc_Q_r hA) 1 h_a0 ?_
      refine zm_if (fun c2 => ?_) (fun c2 => ?_)
      · have w_a2 := zv_lay_lt (zc_ly (h_a2.resolve_left c1).1)
        have w_v1 := zv_lay_lt (zc_ly (zc_y0_0 h_a0).1)
        omega
      · refine zm_if (fun c3 => ?_) (fun c3 => ?_)
        · refine zc_rR5 (zc_Q_r hA) (h_a2.resolve_left c1).1 ?_
          exact ih_L0_groups_7 _ (by rw [← eN]; exact zc_dmP (zc_Q_r hA) (h_a2.resolve_left c1)) h_a0 (zc_w _) (zc_pV (zc_Q_r hA) (h_a2.resolve_left c1))  rfl
        · refine zc_rR5 (zc_Q_r hA) (h_a2.resolve_left c1).1 ?_
          refine zm_if (fun c4 => ?_) (fun c4 => ?_)
          · have w_v3 := zv_lay_lt (zc_ly (zc_fV (zc_Q_r hA) (h_a2.resolve_left c1)).1)
            have w_a2 := zv_lay_lt (zc_ly (h_a2.resolve_left c1).1)
            omega
          · refine zm_if (fun c5 => ?_) (fun c5 => ?_)
            · refine zc_rR5 (zc_Q_r hA) (h_a2.resolve_left c1).1 ?_
              exact ih_L0_groups_7 _ (by rw [← eN]; exact zc_dmP (zc_Q_r hA) (h_a2.resolve_left c1)) h_a0 (zc_w _) (zc_pV (zc_Q_r hA) (h_a2.resolve_left c1))  rfl
            · refine zc_rR5 (zc_Q_r hA) (h_a2.resolve_left c1).1 ?_
              exact ih_L0_groups_7 _ (by rw [← eN]; exact zc_dmP (zc_Q_r hA) (h_a2.resolve_left c1)) h_a0 (zc_w _) (zc_pV (zc_Q_r hA) (h_a2.resolve_left c1))  rfl
theorem zc_E0_groups {d : Nat} {h : zv_H} {a0 : Nat} (hA : zc_A h) (h_a0 : zv_lay a0 = (1, 0)) : zm_R (E0_groups (d + 0) a0 h) (zm_I fun v h' => h' = h ∧ zv_rg v ∧ True) := by
  have F0 := zc_Q_r hA
  rw [qE0_groups]
  refine zc_rRo F0 h_a0 ?_
  exact zc_L0_groups_7 hA  _ h_a0 (by unfold zv_rg; omega) (Or.inr (zc_hV F0 h_a0).1)  rfl
theorem zc_C0_groups {d : Nat} {h : zv_H} {a0 : Nat} (hA : zc_A h) (h_a0 : zv_lay a0 = (1, 0)) : zm_R (C0_groups (d + 1) a0 h) (fun q => q.2 = h ∧ zv_rg q.1 ∧ True) := zm_cI (fun e => lC0_groups (zc_ob hA h_a0) e) (zc_E0_groups hA h_a0)
theorem zc_L0_longestCommon_58 {d : Nat} {h0 : zv_H} {N_L0_longestCommon_34 : Nat} (ih_L0_longestCommon_34 : ∀ m, m < N_L0_longestCommon_34 → ∀ {h : zv_H} {a0 : Nat} {a1 : Nat} {a2 : Nat} {a3 : Int} {a4 : Int}, zc_Q h0 h → (zv_lay a0 = (1, 0)) → (zv_lay a1 = (1, 5)) → (zv_lay a2 = (1, 5)) → ((0 ≤ a3 ∧ a3 < 121) ∧ zv_rg a3) → (0 ≤ a4 ∧ zv_rg a4) → (2147483647 - a4).toNat = m → zm_R (L0_longestCommon_34 (d + 2) a0 a1 a2 a3 a4 h) (zm_I fun v h' => zc_Q h0 h' ∧ zv_rg v ∧ True)) (N_L0_longestCommon_58 : Nat) : ∀ {h : zv_H} {a0 : Nat} {a1 : Nat} {a2 : Nat} {a3 : Int} {a4 : Int} {a5 : Int} {a6 : Int} {a7 : Int}, zc_Q h0 h → (zv_lay a0 = (1, 0)) → (zv_lay a1 = (1, 5)) → (zv_lay a2 = (1, 5)) → ((0 ≤ a3 ∧ a3 < 121) ∧ zv_rg a3) → (zv_rg a4) → (zv_rg a5) → (zv_rg a6) → ((1 ≤ a7 ∧ a7 < 2147483648) ∧ zv_rg a7) → ((2147483647 - (zv_w (a4 + 1))).toNat < N_L0_longestCommon_34 ∧ 0 ≤ (zv_w (a4 + 1))) → (2147483647 - a7).toNat = N_L0_longestCommon_58 → zm_R (L0_longestCommon_58 (d + 2) a0 a1 a2 a3 a4 a5 a6 a7 h) (zm_I fun v h' => zc_Q h0 h' ∧ zv_rg v ∧ True) := by
  induction N_L0_longestCommon_58 using Nat.strongRecOn with
  | _ N_L0_longestCommon_58 ih_L0_longestCommon_58 =>
    intro h a0 a1 a2 a3 a4 a5 a6 a7 F0 h_a0 h_a1 h_a2 h_a3 h_a4 h_a5 h_a6 h_a7 hm_L0_longestCommon_34 eN
    rw [qL0_longestCommon_58]
    have z_a3 := h_a3.1
    have z_a7 := h_a7.1
    refine zm_if (fun c1 => ?_) (fun c1 => ?_)
    · refine zc_rF F0 7 h_a0 ?_
      refine zc_rA F0 (zc_y0_4 h_a0).1 (zc_y0_4 h_a0).2 (by omega) (by omega) fun v2 r_v2 => ?_
      refine zc_rF F0 7 h_a0 ?_
      refine zc_pI (K := fun v => True) (zc_C0_letterAt F0.2 h_a0 h_a2 (zc_w _)) fun q4v r_q4 k_q4 => ?_
      dsimp only
      refine zm_if (fun c3 => ?_) (fun c3 => ?_)
      · refine zc_wA F0 (zc_y0_4 h_a0).1 (zc_y0_4 h_a0).2 (by omega) (by omega) (zc_w _) fun g5 F4 u_g5 => ?_
        exact ih_L0_longestCommon_58 _ (by rw [← eN]; exact zc_up h_a7.2 (show zv_rg (a3 + 1) from (by unfold zv_rg at *; omega)) (by omega)) F4 h_a0 h_a1 h_a2 ⟨by unfold zv_rg at *; omega, h_a3.2⟩ h_a4 h_a5 r_v2 ⟨by rw [zm_w (by omega)]; omega, (zc_w _)⟩ hm_L0_longestCommon_34 rfl
      · refine zc_rF F0 7 h_a0 ?_
        refine zc_rA F0 (zc_y0_4 h_a0).1 (zc_y0_4 h_a0).2 (by first | omega | (rw [zm_w (by omega)]; omega)) (by first | omega | (rw [zm_w (by omega)]; omega)) fun v7 r_v7 => ?_
        refine zc_wA F0 (zc_y0_4 h_a0).1 (zc_y0_4 h_a0).2 (by omega) (by omega) (zc_mx r_v2 r_v7) fun g8 F5 u_g8 => ?_
        exact ih_L0_longestCommon_58 _ (by rw [← eN]; exact zc_up h_a7.2 (show zv_rg (a3 + 1) from (by unfold zv_rg at *; omega)) (by omega)) F5 h_a0 h_a1 h_a2 ⟨by unfold zv_rg at *; omega, h_a3.2⟩ h_a4 h_a5 r_v2 ⟨by rw [zm_w (by omega)]; omega, (zc_w _)⟩ hm_L0_longestCommon_34 rfl
    · exact ih_L0_longestCommon_34 _ hm_L0_longestCommon_34.1 F0 h_a0 h_a1 h_a2 ⟨by unfold zv_rg at *; omega, h_a3.2⟩ ⟨hm_L0_longestCommon_34.2, (zc_w _)⟩  rfl
theorem zc_L0_longestCommon_34 {d : Nat} {h0 : zv_H} (N_L0_longestCommon_34 : Nat) : ∀ {h : zv_H} {a0 : Nat} {a1 : Nat} {a2 : Nat} {a3 : Int} {a4 : Int}, zc_Q h0 h → (zv_lay a0 = (1, 0)) → (zv_lay a1 = (1, 5)) → (zv_lay a2 = (1, 5)) → ((0 ≤ a3 ∧ a3 < 121) ∧ zv_rg a3) → (0 ≤ a4 ∧ zv_rg a4) → (2147483647 - a4).toNat = N_L0_longestCommon_34 → zm_R (L0_longestCommon_34 (d + 2) a0 a1 a2 a3 a4 h) (zm_I fun v h' => zc_Q h0 h' ∧ zv_rg v ∧ True) := by
  induction N_L0_longestCommon_34 using Nat.strongRecOn with
  | _ N_L0_longestCommon_34 ih_L0_longestCommon_34 =>
    intro h a0 a1 a2 a3 a4 F0 h_a0 h_a1 h_a2 h_a3 h_a4 eN
    rw [qL0_longestCommon_34]
    have z_a3 := h_a3.1
    have z_a4 := h_a4.1
    refine zc_rI F0 h_a1 fun v1 e_v1 r_v1 => ?_
    have b_v1 := zc_bdv (k := 12) (m := 120) F0 h_a1 rfl
    rw [← e_v1] at b_v1
    refine zm_if (fun c1 => ?_) (fun c1 => ?_)
    · refine zc_pI (K := fun v => True) (zc_C0_letterAt F0.2 h_a0 h_a1 h_a4.2) fun q2v r_q2 k_q2 => ?_
      dsimp only
      exact zc_L0_longestCommon_58 ih_L0_longestCommon_34 _ F0 h_a0 h_a1 h_a2 ⟨by unfold zv_rg at *; omega, h_a3.2⟩ h_a4.2 r_q2 (by unfold zv_rg; omega) ⟨by unfold zv_rg at *; omega, (by unfold zv_rg; omega)⟩ ⟨(by rw [← eN]; exact zc_up h_a4.2 r_v1 c1), (⟨by rw [zc_up1 h_a4.2 r_v1 c1]; omega, zc_w _⟩ : 0 ≤ (zv_w (a4 + 1)) ∧ zv_rg (zv_w (a4 + 1))).1⟩ rfl
    · refine zc_rF F0 7 h_a0 ?_
      refine zc_rA F0 (zc_y0_4 h_a0).1 (zc_y0_4 h_a0).2 (by omega) (by omega) fun v4 r_v4 => ?_
      exact zm_iI ⟨F0, r_v4, trivial⟩
theorem zc_L0_longestCommon_2 {d : Nat} {h0 : zv_H} (N_L0_longestCommon_2 : Nat) : ∀ {h : zv_H} {a0 : Nat} {a1 : Nat} {a2 : Nat} {a3 : Int}, zc_Q h0 h → (zv_lay a0 = (1, 0)) → (zv_lay a1 = (1, 5)) → (zv_lay a2 = (1, 5)) → (0 ≤ a3 ∧ zv_rg a3) → (2147483647 - a3).toNat = N_L0_longestCommon_2 → zm_R (L0_longestCommon_2 (d + 2) a0 a1 a2 a3 h) (zm_I fun v h' => zc_Q h0 h' ∧ zv_rg v ∧ True) := by
  induction N_L0_longestCommon_2 using Nat.strongRecOn with
  | _ N_L0_longestCommon_2 ih_L0_longestCommon_2 =>
    intro h a0 a1 a2 a3 F0 h_a0 h_a1 h_a2 h_a3 eN
    rw [qL0_longestCommon_2]
    have z_a3 := h_a3.1
    refine zm_if (fun c1 => ?_) (fun c1 => ?_)
    · refine zc_rF F0 7 h_a0 ?_
      refine zc_wA F0 (zc_y0_4 h_a0).1 (zc_y0_4 h_a0).2 (by omega) (by omega) (by unfold zv_rg; omega) fun g2 F2 u_g2 => ?_
      exact ih_L0_longestCommon_2 _ (by rw [← eN]; exact zc_up h_a3.2 (show zv_rg ((120 : Int) + 1) from (by unfold zv_rg at *; omega)) (by omega)) F2 h_a0 h_a1 h_a2 ⟨by rw [zc_up1 h_a3.2 (show zv_rg ((120 : Int) + 1) from (by unfold zv_rg at *; omega)) (by omega)]; omega, zc_w _⟩  rfl
    · refine zc_rI F0 h_a2 fun v3 e_v3 r_v3 => ?_
      have b_v3 := zc_bdv (k := 12) (m := 120) F0 h_a2 rfl
      rw [← e_v3] at b_v3
      exact zc_L0_longestCommon_34  _ F0 h_a0 h_a1 h_a2 ⟨by unfold zv_rg at *; omega, (zc_mn r_v3 (by unfold zv_rg; omega))⟩ ⟨by omega, (by unfold zv_rg; omega)⟩  rfl
theorem zc_E0_longestCommon {d : Nat} {h : zv_H} {a0 : Nat} {a1 : Nat} {a2 : Nat} (hA : zc_A h) (h_a0 : zv_lay a0 = (1, 0)) (h_a1 : zv_lay a1 = (1, 5)) (h_a2 : zv_lay a2 = (1, 5)) : zm_R (E0_longestCommon (d + 2) a0 a1 a2 h) (zm_I fun v h' => zc_Q h h' ∧ zv_rg v ∧ True) := by
  have F0 := zc_Q_r hA
  rw [qE0_longestCommon]
  exact zc_L0_longestCommon_2  _ F0 h_a0 h_a1 h_a2 ⟨by omega, (by unfold zv_rg; omega)⟩  rfl
theorem zc_C0_longestCommon {d : Nat} {h : zv_H} {a0 : Nat} {a1 : Nat} {a2 : Nat} (hA : zc_A h) (h_a0 : zv_lay a0 = (1, 0)) (h_a1 : zv_lay a1 = (1, 5)) (h_a2 : zv_lay a2 = (1, 5)) : zm_R (C0_longestCommon (d + 3) a0 a1 a2 h) (fun q => zc_Q h q.2 ∧ zv_rg q.1 ∧ True) := zm_cI (fun e => lC0_longestCommon (zc_ob hA h_a0) e) (zc_E0_longestCommon hA h_a0 h_a1 h_a2)
theorem zc_E0_passTime {d : Nat} {h : zv_H} {a0 : Nat} {a1 : Int} (hA : zc_A h) (h_a0 : zv_lay a0 = (1, 0)) (h_a1 : zv_rg a1) : zm_R (E0_passTime (d + 1) a0 a1 h) (zm_I fun v h' => zc_Q h h' ∧ zv_rg v ∧ True) := by
  have F0 := zc_Q_r hA
  rw [qE0_passTime]
  refine zc_pI (K := fun v => (v = 0 ∨ v = 1)) (zc_C8_within F0.2 h_a1 (by unfold zv_rg; omega) (by unfold zv_rg; omega)) fun q1v r_q1 k_q1 => ?_
  dsimp only
  refine zm_if (fun c2 => ?_) (fun c2 => ?_)
  · exact zm_iI ⟨F0, (by unfold zv_rg; omega), trivial⟩
  · refine zc_rI F0 h_a0 fun v2 e_v2 r_v2 => ?_
    refine zc_wO F0 h_a0 (zc_frO h_a0 (zc_lt h_a0 (by decide)) (by decide) rfl (by decide)) (zc_w _) fun g3 F3 => ?_
    refine zc_rI F3 h_a0 fun v4 e_v4 r_v4 => ?_
    exact zm_iI ⟨F3, r_v4, trivial⟩
theorem zc_C0_passTime {d : Nat} {h : zv_H} {a0 : Nat} {a1 : Int} (hA : zc_A h) (h_a0 : zv_lay a0 = (1, 0)) (h_a1 : zv_rg a1) : zm_R (C0_passTime (d + 2) a0 a1 h) (fun q => zc_Q h q.2 ∧ zv_rg q.1 ∧ True) := zm_cI (fun e => lC0_passTime (zc_ob hA h_a0) e) (zc_E0_passTime hA h_a0 h_a1)
theorem zc_L0_behind_7 {d : Nat} {h0 : zv_H} (hA : zc_A h0) (N_L0_behind_7 : Nat) : ∀ {a1 : Int} {a2 : Nat} {a3 : Int}, (zv_rg a1) → (a2 = 0 ∨ zc_V h0 a2) → (0 ≤ a3 ∧ zv_rg a3) → (2147483647 - a3).toNat = N_L0_behind_7 → zm_R (L0_behind_7 (d + 0) a1 a2 a3 h0) (zm_N fun v h' => h' = h0 ∧ ((v = 0 ∨ zc_V h0 v))) := by
  induction N_L0_behind_7 using Nat.strongRecOn with
  | _ N_L0_behind_7 ih_L0_behind_7 =>
    intro a1 a2 a3 h_a1 h_a2 h_a3 eN
    rw [qL0_behind_7]
    have z_a3 := h_a3.1
    refine zm_if (fun c1 => ?_) (fun c1 => ?_)
    · refine zm_if (fun c2 => ?_) (fun c2 => ?_)
      · exact zm_iN ⟨rfl, h_a2⟩
      · refine zc_rR5 (zc_Q_r hA) (h_a2.resolve_left c2).1 ?_
        refine zm_if (fun c3 => ?_) (fun c3 => ?_)
        · exact absurd c3 (zc_nz (zc_fV (zc_Q_r hA) (h_a2.resolve_left c2)).1)
        · refine zc_rR5 (zc_Q_r hA) (h_a2.resolve_left c2).1 ?_
          refine zc_rR5 (zc_Q_r hA) (zc_fV (zc_Q_r hA) (h_a2.resolve_left c2)).1 ?_
          exact ih_L0_behind_7 _ (by rw [← eN]; exact zc_up h_a3.2 h_a1 c1) h_a1 (zc_pV (zc_Q_r hA) (zc_fV (zc_Q_r hA) (h_a2.resolve_left c2))) ⟨by rw [zc_up1 h_a3.2 h_a1 c1]; omega, zc_w _⟩  rfl
    · exact zm_iN ⟨rfl, h_a2⟩
theorem zc_E0_behind {d : Nat} {h : zv_H} {a0 : Nat} {a1 : Int} (hA : zc_A h) (h_a0 : zv_lay a0 = (1, 0)) (h_a1 : zv_rg a1) : zm_R (E0_behind (d + 0) a0 a1 h) (zm_N fun v h' => h' = h ∧ ((v = 0 ∨ zc_V h v))) := by
  have F0 := zc_Q_r hA
  rw [qE0_behind]
  refine zc_rRo F0 h_a0 ?_
  exact zc_L0_behind_7 hA  _ h_a1 (Or.inr (zc_hV F0 h_a0).1) ⟨by omega, (by unfold zv_rg; omega)⟩  rfl
theorem zc_C0_behind {d : Nat} {h : zv_H} {a0 : Nat} {a1 : Int} (hA : zc_A h) (h_a0 : zv_lay a0 = (1, 0)) (h_a1 : zv_rg a1) : zm_R (C0_behind (d + 1) a0 a1 h) (fun q => q.2 = h ∧ ((q.1 = 0 ∨ zc_V h q.1))) := zm_cN (fun e => lC0_behind (zc_ob hA h_a0) e) (zc_E0_behind hA h_a0 h_a1)
theorem zc_L7_key_24 {d : Nat} {h0 : zv_H} (hA : zc_A h0) (N_L7_key_24 : Nat) : ∀ {a0 : Nat} {a1 : Int} {a2 : Int}, (zv_lay a0 = (1, 7)) → (zv_rg a1) → (zv_rg a2) → (a2 + 1).toNat = N_L7_key_24 → zm_R (L7_key_24 (d + 1) a0 a1 a2 h0) (zm_I fun v h' => h' = h0 ∧ zv_rg v ∧ True) := by
  induction N_L7_key_24 using Nat.strongRecOn with
  | _ N_L7_key_24 ih_L7_key_24 =>
    intro a0 a1 a2 h_a0 h_a1 h_a2 eN
    rw [qL7_key_24]
    refine zm_if (fun c1 => ?_) (fun c1 => ?_)
    · exact zm_iI ⟨rfl, h_a1, trivial⟩
    · refine zc_pI (K := fun v => True) (zc_C7_at (zc_Q_r hA).2 h_a0 h_a2) fun q1v r_q1 k_q1 => ?_
      dsimp only
      exact ih_L7_key_24 _ (by rw [← eN]; exact zc_dn h_a2 c1) h_a0 (zc_or _ _) (zc_w _)  rfl
theorem zc_E7_key {d : Nat} {h : zv_H} {a0 : Nat} (hA : zc_A h) (h_a0 : zv_lay a0 = (1, 7)) : zm_R (E7_key (d + 1) a0 h) (zm_I fun v h' => h' = h ∧ zv_rg v ∧ True) := by
  have F0 := zc_Q_r hA
  rw [qE7_key]
  refine zc_rI F0 h_a0 fun v1 e_v1 r_v1 => ?_
  have b_v1 := zc_bdv (k := 1) (m := 40) F0 h_a0 rfl
  rw [← e_v1] at b_v1
  refine zc_pI (K := fun v => (v = 0 ∨ v = 1)) (zc_C8_within F0.2 r_v1 (by unfold zv_rg; omega) (by unfold zv_rg; omega)) fun q2v r_q2 k_q2 => ?_
  dsimp only
  refine zm_if (fun c2 => ?_) (fun c2 => ?_)
  · exact zm_iI ⟨rfl, (by unfold zv_rg; omega), trivial⟩
  · refine zc_rI F0 h_a0 fun v3 e_v3 r_v3 => ?_
    have b_v3 := zc_bdv (k := 1) (m := 40) F0 h_a0 rfl
    rw [← e_v3] at b_v3
    exact zc_L7_key_24 hA  _ h_a0 (by unfold zv_rg; omega) (zc_w _)  rfl
theorem zc_C7_key {d : Nat} {h : zv_H} {a0 : Nat} (hA : zc_A h) (h_a0 : zv_lay a0 = (1, 7)) : zm_R (C7_key (d + 2) a0 h) (fun q => q.2 = h ∧ zv_rg q.1 ∧ True) := zm_cI (fun e => lC7_key (zc_ob hA h_a0) e) (zc_E7_key hA h_a0)
theorem zc_E0_nameHere {d : Nat} {h : zv_H} {a0 : Nat} {a1 : Int} (hA : zc_A h) (h_a0 : zv_lay a0 = (1, 0)) (h_a1 : zv_rg a1) : zm_R (E0_nameHere (d + 2) a0 a1 h) (zm_I fun v h' => zc_Q h h' ∧ zv_rg v ∧ True) := by
  have F0 := zc_Q_r hA
  rw [qE0_nameHere]
  refine zm_if (fun c1 => ?_) (fun c1 => ?_)
  · exact zm_iI ⟨F0, (by unfold zv_rg; omega), trivial⟩
  · refine zc_rF F0 14 h_a0 ?_
    refine zc_pI (K := fun v => (v = -1 ∨ (0 ≤ v ∧ v < 12))) (zc_C2_indexOf F0.2 (zc_y0_6 h_a0).1 h_a1) fun q2v r_q2 k_q2 => ?_
    dsimp only
    refine zm_if (fun c3 => ?_) (fun c3 => ?_)
    · refine zc_rF F0 14 h_a0 ?_
      refine zc_rI F0 (zc_y0_6 h_a0).1 fun v4 e_v4 r_v4 => ?_
      refine zm_if (fun c4 => ?_) (fun c4 => ?_)
      · rw [qL0_nameHere_35]
        refine zm_if (fun c5 => ?_) (fun c5 => ?_)
        · rw [qL0_nameHere_61]
          refine zc_rF F0 14 h_a0 ?_
          refine zc_rRo F0 h_a0 ?_
          refine zc_rT F0 (zc_hV F0 h_a0).1.1 fun v3x1 e_v3x1 r_v3x1 => ?_
          refine zc_cV F0 (zc_C2_own F0.2 (zc_y0_6 h_a0).1 h_a1 r_v3x1) fun g4 F6 => ?_
          refine zc_rF F6 14 h_a0 ?_
          refine zc_rI F6 (zc_y0_6 h_a0).1 fun v6 e_v6 r_v6 => ?_
          exact zm_iI ⟨F6, r_v6, trivial⟩
        · refine zc_rF F0 14 h_a0 ?_
          refine zc_pI (K := fun v => True) (zc_C2_ownerAt F0.2 (zc_y0_6 h_a0).1 r_q2) fun q2x1v r_q2x1 k_q2x1 => ?_
          dsimp only
          refine zc_rRo F0 h_a0 ?_
          refine zc_rT F0 (zc_hV F0 h_a0).1.1 fun v4x1 e_v4x1 r_v4x1 => ?_
          refine zm_if (fun c8 => ?_) (fun c8 => ?_)
          · exact zm_iI ⟨F0, (by unfold zv_rg; omega), trivial⟩
          · rw [qL0_nameHere_61]
            refine zc_rF F0 14 h_a0 ?_
            refine zc_rRo F0 h_a0 ?_
            refine zc_rT F0 (zc_hV F0 h_a0).1.1 fun v3x3 e_v3x3 r_v3x3 => ?_
            refine zc_cV F0 (zc_C2_own F0.2 (zc_y0_6 h_a0).1 h_a1 r_v3x3) fun g4x1 F9 => ?_
            refine zc_rF F9 14 h_a0 ?_
            refine zc_rI F9 (zc_y0_6 h_a0).1 fun v6x1 e_v6x1 r_v6x1 => ?_
            exact zm_iI ⟨F9, r_v6x1, trivial⟩
      · exact zm_iI ⟨F0, (by unfold zv_rg; omega), trivial⟩
    · rw [qL0_nameHere_35]
      refine zm_if (fun c10 => ?_) (fun c10 => ?_)
      · rw [qL0_nameHere_61]
        refine zc_rF F0 14 h_a0 ?_
        refine zc_rRo F0 h_a0 ?_
        refine zc_rT F0 (zc_hV F0 h_a0).1.1 fun v3x4 e_v3x4 r_v3x4 => ?_
        refine zc_cV F0 (zc_C2_own F0.2 (zc_y0_6 h_a0).1 h_a1 r_v3x4) fun g4x2 F11 => ?_
        refine zc_rF F11 14 h_a0 ?_
        refine zc_rI F11 (zc_y0_6 h_a0).1 fun v6x2 e_v6x2 r_v6x2 => ?_
        exact zm_iI ⟨F11, r_v6x2, trivial⟩
      · refine zc_rF F0 14 h_a0 ?_
        refine zc_pI (K := fun v => True) (zc_C2_ownerAt F0.2 (zc_y0_6 h_a0).1 r_q2) fun q2x2v r_q2x2 k_q2x2 => ?_
        dsimp only
        refine zc_rRo F0 h_a0 ?_
        refine zc_rT F0 (zc_hV F0 h_a0).1.1 fun v4x2 e_v4x2 r_v4x2 => ?_
        refine zm_if (fun c13 => ?_) (fun c13 => ?_)
        · exact zm_iI ⟨F0, (by unfold zv_rg; omega), trivial⟩
        · rw [qL0_nameHere_61]
          refine zc_rF F0 14 h_a0 ?_
          refine zc_rRo F0 h_a0 ?_
          refine zc_rT F0 (zc_hV F0 h_a0).1.1 fun v3x6 e_v3x6 r_v3x6 => ?_
          refine zc_cV F0 (zc_C2_own F0.2 (zc_y0_6 h_a0).1 h_a1 r_v3x6) fun g4x3 F14 => ?_
          refine zc_rF F14 14 h_a0 ?_
          refine zc_rI F14 (zc_y0_6 h_a0).1 fun v6x3 e_v6x3 r_v6x3 => ?_
          exact zm_iI ⟨F14, r_v6x3, trivial⟩
theorem zc_C0_nameHere {d : Nat} {h : zv_H} {a0 : Nat} {a1 : Int} (hA : zc_A h) (h_a0 : zv_lay a0 = (1, 0)) (h_a1 : zv_rg a1) : zm_R (C0_nameHere (d + 3) a0 a1 h) (fun q => zc_Q h q.2 ∧ zv_rg q.1 ∧ True) := zm_cI (fun e => lC0_nameHere (zc_ob hA h_a0) e) (zc_E0_nameHere hA h_a0 h_a1)
theorem zc_L0_startWith_21 {d : Nat} {h0 : zv_H} (N_L0_startWith_21 : Nat) : ∀ {h : zv_H} {a0 : Nat} {a1 : Nat} {a2 : Int}, zc_Q h0 h → (zv_lay a0 = (1, 0)) → (zv_lay a1 = (1, 7)) → (0 ≤ a2 ∧ zv_rg a2) → (2147483647 - a2).toNat = N_L0_startWith_21 → zm_R (L0_startWith_21 (d + 1) a0 a1 a2 h) (zm_V fun h' => zc_Q h0 h') := by
  induction N_L0_startWith_21 using Nat.strongRecOn with
  | _ N_L0_startWith_21 ih_L0_startWith_21 =>
    intro h a0 a1 a2 F0 h_a0 h_a1 h_a2 eN
    rw [qL0_startWith_21]
    have z_a2 := h_a2.1
    refine zc_rI F0 h_a1 fun v1 e_v1 r_v1 => ?_
    have b_v1 := zc_bdv (k := 1) (m := 40) F0 h_a1 rfl
    rw [← e_v1] at b_v1
    refine zm_if (fun c1 => ?_) (fun c1 => ?_)
    · refine zc_pI (K := fun v => True) (zc_C4_id F0.2 (by unfold zv_rg; omega) h_a2.2) fun q2v r_q2 k_q2 => ?_
      dsimp only
      refine zc_pI (K := fun v => True) (zc_C7_at F0.2 h_a1 h_a2.2) fun q3v r_q3 k_q3 => ?_
      dsimp only
      refine zc_cV F0 (zc_C0_setGlyph F0.2 h_a0 r_q2 r_q3) fun g4 F4 => ?_
      refine zc_rF F4 1 h_a0 ?_
      refine zc_cV F4 (zc_C5_addId F4.2 (zc_y0_0 h_a0).1 r_q2) fun g6 F5 => ?_
      exact ih_L0_startWith_21 _ (by rw [← eN]; exact zc_up h_a2.2 r_v1 c1) F5 h_a0 h_a1 ⟨by rw [zc_up1 h_a2.2 r_v1 c1]; omega, zc_w _⟩  rfl
    · exact zm_iV F0
theorem zc_E0_startWith {d : Nat} {h : zv_H} {a0 : Nat} {a1 : Nat} (hA : zc_A h) (h_a0 : zv_lay a0 = (1, 0)) (h_a1 : zv_lay a1 = (1, 7)) : zm_R (E0_startWith (d + 1) a0 a1 h) (zm_V fun h' => zc_Q h h') := by
  have F0 := zc_Q_r hA
  rw [qE0_startWith]
  refine zc_rF F0 1 h_a0 ?_
  refine zc_rI F0 h_a1 fun v2 e_v2 r_v2 => ?_
  have b_v2 := zc_bdv (k := 1) (m := 40) F0 h_a1 rfl
  rw [← e_v2] at b_v2
  refine zc_wO F0 (zc_y0_0 h_a0).1 (zc_frO (zc_y0_0 h_a0).1 (zc_lt (zc_y0_0 h_a0).1 (by decide)) (by decide) rfl (by decide)) r_v2 fun g3 F1 => ?_
  refine zc_rF F1 1 h_a0 ?_
  refine zc_wL (m := 120) F1 (zc_y0_0 h_a0).1 rfl (by omega) (by omega) ?_ (fun _ => by decide)
  intro g5 F2
  exact zc_L0_startWith_21  _ F2 h_a0 h_a1 ⟨by omega, (by unfold zv_rg; omega)⟩  rfl
theorem zc_C0_startWith {d : Nat} {h : zv_H} {a0 : Nat} {a1 : Nat} (hA : zc_A h) (h_a0 : zv_lay a0 = (1, 0)) (h_a1 : zv_lay a1 = (1, 7)) : zm_R (C0_startWith (d + 2) a0 a1 h) (fun q => zc_Q h q) := zm_cV (fun e => lC0_startWith (zc_ob hA h_a0) e) (zc_E0_startWith hA h_a0 h_a1)
end
/-! 94.q -/
section
theorem zc_L2_drop_6 {d : Nat} {h0 : zv_H} {a0 : Nat} (h_a0 : zv_lay a0 = (1, 2)) : ∀ (n : Nat) (h : zv_H) (a2 : Int), zc_Q h0 h → 0 ≤ a2 → a2 ≤ 12 → (12 - a2).toNat = n → zm_R (L2_drop_6 d a0 a2 h) (zm_V fun h' => zc_Q h0 h') := by
  intro n
  have fin : ∀ h, zc_Q h0 h → zm_R (L2_drop_58 d a0 h) (zm_V fun h' => zc_Q h0 h') := fun h F0 => by
    rw [qL2_drop_58]
    refine zc_rI F0 h_a0 fun v1 e_v1 r_v1 => ?_
    refine zc_wO F0 h_a0 (zc_frO h_a0 (zc_lt h_a0 (by decide)) (by decide) rfl (by decide)) (zc_mx (zc_w _) (by unfold zv_rg; omega)) fun g2 F1 => ?_
    exact zm_iV F1
  induction n with
  | zero =>
    intro h a2 F0 z1 z2 hn
    rw [qL2_drop_6]
    refine zc_rI F0 h_a0 fun v1 e_v1 r_v1 => ?_
    refine zm_if (fun c1 => ?_) (fun c1 => fin h F0)
    rw [zm_w (by omega)]
    rw [if_neg (by omega)]
    exact fin h F0
  | succ n ih =>
    intro h a2 F0 z1 z2 hn
    rw [qL2_drop_6]
    refine zc_rI F0 h_a0 fun v1 e_v1 r_v1 => ?_
    rw [zm_w (by omega)]
    refine zm_if (fun c1 => ?_) (fun c1 => fin h F0)
    refine zm_if (fun c2 => ?_) (fun c2 => fin h F0)
    refine zc_rF F0 1 h_a0 ?_
    refine zc_rF F0 1 h_a0 ?_
    refine zc_rA F0 (zc_y2_0 h_a0).1 (zc_y2_0 h_a0).2 (by omega) (by omega) fun v4 r_v4 => ?_
    refine zc_wA F0 (zc_y2_0 h_a0).1 (zc_y2_0 h_a0).2 (by omega) (by omega) r_v4 fun g5 F1 u => ?_
    refine zc_rF F1 2 h_a0 ?_
    refine zc_rF F1 2 h_a0 ?_
    refine zc_rA F1 (zc_y2_1 h_a0).1 (zc_y2_1 h_a0).2 (by omega) (by omega) fun v8 r_v8 => ?_
    refine zc_wA F1 (zc_y2_1 h_a0).1 (zc_y2_1 h_a0).2 (by omega) (by omega) r_v8 fun g9 F2 u => ?_
    exact ih g9 _ F2 (by omega) (by omega) (by omega)
theorem zc_E2_drop {d : Nat} {h : zv_H} {a0 : Nat} {a1 : Int} (hA : zc_A h) (h_a0 : zv_lay a0 = (1, 2)) (h_a1 : (0 ≤ a1 ∧ a1 < 12) ∧ zv_rg a1) : zm_R (E2_drop d a0 a1 h) (zm_V fun h' => zc_Q h h') := by
  rw [qE2_drop]
  exact zc_L2_drop_6 h_a0 _ h _ (zc_Q_r hA) (by omega) (by omega) rfl
theorem zc_C2_drop {d : Nat} {h : zv_H} {a0 : Nat} {a1 : Int} (hA : zc_A h) (h_a0 : zv_lay a0 = (1, 2)) (h_a1 : (0 ≤ a1 ∧ a1 < 12) ∧ zv_rg a1) : zm_R (C2_drop (d + 1) a0 a1 h) (fun q => zc_Q h q) := zm_cV (fun e => lC2_drop (zc_ob hA h_a0) e) (zc_E2_drop hA h_a0 h_a1)
theorem zc_L0_placeIn {d : Nat} {h0 : zv_H} (hA : zc_A h0) {a0 a1 a2 : Nat} (h_a0 : zv_lay a0 = (1, 0)) (h_a1 : zv_lay a1 = (1, 5)) (h_a2 : zv_lay a2 = (1, 7)) : ∀ (n : Nat) (a3 : Int), 0 ≤ a3 → a3 ≤ 121 → (121 - a3).toNat = n → zm_R (L0_placeIn_2 (d + 3) a0 a1 a2 a3 h0) (zm_I fun v h' => h' = h0 ∧ zv_rg v ∧ True) := by
  have F0 := zc_Q_r hA
  intro n
  induction n with
  | zero =>
    intro a3 z1 z2 hn
    rw [qL0_placeIn_2]
    refine zc_rI F0 h_a2 fun v1 e_v1 r_v1 => ?_
    have b1 := zc_bdv (k := 1) (m := 40) F0 h_a2 rfl
    rw [← e_v1] at b1
    refine zc_rI F0 h_a1 fun v2 e_v2 r_v2 => ?_
    have b2 := zc_bdv (k := 12) (m := 120) F0 h_a1 rfl
    rw [← e_v2] at b2
    rw [zm_w (by omega), if_neg (by omega)]
    exact zm_iI ⟨rfl, by unfold zv_rg; omega, trivial⟩
  | succ n ih =>
    intro a3 z1 z2 hn
    rw [qL0_placeIn_2]
    refine zc_rI F0 h_a2 fun v1 e_v1 r_v1 => ?_
    have b1 := zc_bdv (k := 1) (m := 40) F0 h_a2 rfl
    rw [← e_v1] at b1
    refine zc_rI F0 h_a1 fun v2 e_v2 r_v2 => ?_
    have b2 := zc_bdv (k := 12) (m := 120) F0 h_a1 rfl
    rw [← e_v2] at b2
    rw [zm_w (by omega)]
    refine zm_if (fun c1 => ?_) (fun c1 => zm_iI ⟨rfl, by unfold zv_rg; omega, trivial⟩)
    have fin : ∀ a4 : Int, zm_R (L0_placeIn_51 (d + 3) a0 a1 a2 a3 a4 h0) (zm_I fun v h' => h' = h0 ∧ zv_rg v ∧ True) := fun a4 => by
      rw [qL0_placeIn_51]
      refine zc_rI F0 h_a2 fun v1 e_v1 r_v1 => ?_
      refine zm_if (fun c2 => zm_iI ⟨rfl, by unfold zv_rg; omega, trivial⟩) (fun c2 => ?_)
      rw [zm_w (by omega)]
      exact ih _ (by omega) (by omega) (by omega)
    have inner : ∀ (m : Nat) (a4 : Int), 0 ≤ a4 → (40 - a4).toNat = m → zm_R (L0_placeIn_18 (d + 3) a0 a1 a2 a3 a4 h0) (zm_I fun v h' => h' = h0 ∧ zv_rg v ∧ True) := by
      intro m
      induction m with
      | zero =>
        intro a4 y1 hm
        rw [qL0_placeIn_18, zm_e (zc_gI hA h_a2 1), ← e_v1, if_neg (by omega)]
        exact fin _
      | succ m ihm =>
        intro a4 y1 hm
        rw [qL0_placeIn_18, zm_e (zc_gI hA h_a2 1), ← e_v1]
        refine zm_if (fun c2 => ?_) (fun c2 => fin _)
        refine zc_pI (K := fun _ => True) (zc_C0_letterAt hA h_a0 h_a1 (zc_w _)) fun q2v r_q2 k_q2 => ?_
        dsimp only
        refine zc_pI (K := fun _ => True) (zc_C7_at hA h_a2 (by unfold zv_rg; omega)) fun q3v r_q3 k_q3 => ?_
        dsimp only
        refine zm_if (fun c3 => ?_) (fun c3 => fin _)
        rw [zm_w (by omega)]
        exact ihm _ (by omega) (by omega)
    exact inner _ 0 (by omega) rfl
theorem zc_C0_placeIn {d : Nat} {h : zv_H} {a0 a1 a2 : Nat} (hA : zc_A h) (h_a0 : zv_lay a0 = (1, 0)) (h_a1 : zv_lay a1 = (1, 5)) (h_a2 : zv_lay a2 = (1, 7)) : zm_R (C0_placeIn (d + 4) a0 a1 a2 h) (fun q => q.2 = h ∧ zv_rg q.1 ∧ True) := by
  refine zm_cI (P := fun v h' => h' = h ∧ zv_rg v ∧ True) (fun e => lC0_placeIn (zc_ob hA h_a0) e) ?_
  rw [qE0_placeIn]
  exact zc_L0_placeIn hA h_a0 h_a1 h_a2 _ 0 (by omega) (by omega) rfl
theorem zc_E0_dropName {d : Nat} {h : zv_H} {a0 : Nat} {a1 : Int} (hA : zc_A h) (h_a0 : zv_lay a0 = (1, 0)) (h_a1 : zv_rg a1) : zm_R (E0_dropName (d + 1) a0 a1 h) (zm_I fun v h' => zc_Q h h' ∧ zv_rg v ∧ True) := by
  have F0 := zc_Q_r hA
  rw [qE0_dropName]
  refine zm_if (fun c1 => ?_) (fun c1 => ?_)
  · exact zm_iI ⟨F0, (by unfold zv_rg; omega), trivial⟩
  · refine zc_rF F0 14 h_a0 ?_
    refine zc_pI (K := fun v => (v = -1 ∨ (0 ≤ v ∧ v < 12))) (zc_C2_indexOf F0.2 (zc_y0_6 h_a0).1 h_a1) fun q2v r_q2 k_q2 => ?_
    dsimp only
    refine zm_if (fun c3 => ?_) (fun c3 => ?_)
    · exact zm_iI ⟨F0, (by unfold zv_rg; omega), trivial⟩
    · refine zc_rF F0 14 h_a0 ?_
      refine zc_cV F0 (zc_C2_drop F0.2 (zc_y0_6 h_a0).1 ⟨by unfold zv_rg at *; omega, r_q2⟩) fun g4 F4 => ?_
      refine zc_rF F4 14 h_a0 ?_
      refine zc_rI F4 (zc_y0_6 h_a0).1 fun v6 e_v6 r_v6 => ?_
      exact zm_iI ⟨F4, r_v6, trivial⟩
theorem zc_C0_dropName {d : Nat} {h : zv_H} {a0 : Nat} {a1 : Int} (hA : zc_A h) (h_a0 : zv_lay a0 = (1, 0)) (h_a1 : zv_rg a1) : zm_R (C0_dropName (d + 2) a0 a1 h) (fun q => zc_Q h q.2 ∧ zv_rg q.1 ∧ True) := zm_cI (fun e => lC0_dropName (zc_ob hA h_a0) e) (zc_E0_dropName hA h_a0 h_a1)
theorem zc_L0_leastWith_2 {d : Nat} {h0 : zv_H} (hA : zc_A h0) (N_L0_leastWith_2 : Nat) : ∀ {a0 : Nat} {a1 : Nat} {a2 : Int}, (zv_lay a0 = (1, 0)) → (zv_lay a1 = (1, 7)) → (0 ≤ a2 ∧ zv_rg a2) → (2147483647 - a2).toNat = N_L0_leastWith_2 → zm_R (L0_leastWith_2 (d + 4) a0 a1 a2 h0) (zm_I fun v h' => h' = h0 ∧ zv_rg v ∧ True) := by
  induction N_L0_leastWith_2 using Nat.strongRecOn with
  | _ N_L0_leastWith_2 ih_L0_leastWith_2 =>
    intro a0 a1 a2 h_a0 h_a1 h_a2 eN
    rw [qL0_leastWith_2]
    have z_a2 := h_a2.1
    refine zm_if (fun c1 => ?_) (fun c1 => ?_)
    · refine zc_pN (K := fun v => (v = 0 ∨ zc_V h0 v)) (zc_C0_at (zc_Q_r hA).2 h_a0 h_a2.2) fun q1v k_q1 => ?_
      dsimp only
      refine zm_if (fun c3 => ?_) (fun c3 => ?_)
      · exact ih_L0_leastWith_2 _ (by rw [← eN]; exact zc_up h_a2.2 (by unfold zv_rg; omega) c1) h_a0 h_a1 ⟨by rw [zc_up1 h_a2.2 (by unfold zv_rg; omega) c1]; omega, zc_w _⟩  rfl
      · refine zc_pI (K := fun v => True) (zc_C0_placeIn (zc_Q_r hA).2 h_a0 ((Or.imp id (zc_Vb (zc_Q_r hA).1) k_q1).resolve_left c3).1 h_a1) fun q2v r_q2 k_q2 => ?_
        dsimp only
        refine zm_if (fun c5 => ?_) (fun c5 => ?_)
        · exact ih_L0_leastWith_2 _ (by rw [← eN]; exact zc_up h_a2.2 (by unfold zv_rg; omega) c1) h_a0 h_a1 ⟨by rw [zc_up1 h_a2.2 (by unfold zv_rg; omega) c1]; omega, zc_w _⟩  rfl
        · exact zm_iI ⟨rfl, h_a2.2, trivial⟩
    · exact zm_iI ⟨rfl, (by unfold zv_rg; omega), trivial⟩
theorem zc_E0_leastWith {d : Nat} {h : zv_H} {a0 : Nat} {a1 : Nat} (hA : zc_A h) (h_a0 : zv_lay a0 = (1, 0)) (h_a1 : zv_lay a1 = (1, 7)) : zm_R (E0_leastWith (d + 4) a0 a1 h) (zm_I fun v h' => h' = h ∧ zv_rg v ∧ True) := by
  have F0 := zc_Q_r hA
  rw [qE0_leastWith]
  exact zc_L0_leastWith_2 hA  _ h_a0 h_a1 ⟨by omega, (by unfold zv_rg; omega)⟩  rfl
theorem zc_C0_leastWith {d : Nat} {h : zv_H} {a0 : Nat} {a1 : Nat} (hA : zc_A h) (h_a0 : zv_lay a0 = (1, 0)) (h_a1 : zv_lay a1 = (1, 7)) : zm_R (C0_leastWith (d + 5) a0 a1 h) (fun q => q.2 = h ∧ zv_rg q.1 ∧ True) := zm_cI (fun e => lC0_leastWith (zc_ob hA h_a0) e) (zc_E0_leastWith hA h_a0 h_a1)
theorem zc_L0_statesWith_4 {d : Nat} {h0 : zv_H} (hA : zc_A h0) (N_L0_statesWith_4 : Nat) : ∀ {a0 : Nat} {a1 : Nat} {a2 : Int} {a3 : Int}, (zv_lay a0 = (1, 0)) → (zv_lay a1 = (1, 7)) → (zv_rg a2) → (0 ≤ a3 ∧ zv_rg a3) → (2147483647 - a3).toNat = N_L0_statesWith_4 → zm_R (L0_statesWith_4 (d + 4) a0 a1 a2 a3 h0) (zm_I fun v h' => h' = h0 ∧ zv_rg v ∧ True) := by
  induction N_L0_statesWith_4 using Nat.strongRecOn with
  | _ N_L0_statesWith_4 ih_L0_statesWith_4 =>
    intro a0 a1 a2 a3 h_a0 h_a1 h_a2 h_a3 eN
    rw [qL0_statesWith_4]
    have z_a3 := h_a3.1
    refine zm_if (fun c1 => ?_) (fun c1 => ?_)
    · refine zc_pN (K := fun v => (v = 0 ∨ zc_V h0 v)) (zc_C0_at (zc_Q_r hA).2 h_a0 h_a3.2) fun q1v k_q1 => ?_
      dsimp only
      refine zm_if (fun c3 => ?_) (fun c3 => ?_)
      · exact ih_L0_statesWith_4 _ (by rw [← eN]; exact zc_up h_a3.2 (by unfold zv_rg; omega) c1) h_a0 h_a1 (zc_w _) ⟨by rw [zc_up1 h_a3.2 (by unfold zv_rg; omega) c1]; omega, zc_w _⟩  rfl
      · refine zc_pI (K := fun v => True) (zc_C0_placeIn (zc_Q_r hA).2 h_a0 ((Or.imp id (zc_Vb (zc_Q_r hA).1) k_q1).resolve_left c3).1 h_a1) fun q2v r_q2 k_q2 => ?_
        dsimp only
        refine zm_if (fun c5 => ?_) (fun c5 => ?_)
        · exact ih_L0_statesWith_4 _ (by rw [← eN]; exact zc_up h_a3.2 (by unfold zv_rg; omega) c1) h_a0 h_a1 (zc_w _) ⟨by rw [zc_up1 h_a3.2 (by unfold zv_rg; omega) c1]; omega, zc_w _⟩  rfl
        · exact ih_L0_statesWith_4 _ (by rw [← eN]; exact zc_up h_a3.2 (by unfold zv_rg; omega) c1) h_a0 h_a1 (zc_w _) ⟨by rw [zc_up1 h_a3.2 (by unfold zv_rg; omega) c1]; omega, zc_w _⟩  rfl
    · exact zm_iI ⟨rfl, h_a2, trivial⟩
theorem zc_E0_statesWith {d : Nat} {h : zv_H} {a0 : Nat} {a1 : Nat} (hA : zc_A h) (h_a0 : zv_lay a0 = (1, 0)) (h_a1 : zv_lay a1 = (1, 7)) : zm_R (E0_statesWith (d + 4) a0 a1 h) (zm_I fun v h' => h' = h ∧ zv_rg v ∧ True) := by
  have F0 := zc_Q_r hA
  rw [qE0_statesWith]
  exact zc_L0_statesWith_4 hA  _ h_a0 h_a1 (by unfold zv_rg; omega) ⟨by omega, (by unfold zv_rg; omega)⟩  rfl
theorem zc_C0_statesWith {d : Nat} {h : zv_H} {a0 : Nat} {a1 : Nat} (hA : zc_A h) (h_a0 : zv_lay a0 = (1, 0)) (h_a1 : zv_lay a1 = (1, 7)) : zm_R (C0_statesWith (d + 5) a0 a1 h) (fun q => q.2 = h ∧ zv_rg q.1 ∧ True) := zm_cI (fun e => lC0_statesWith (zc_ob hA h_a0) e) (zc_E0_statesWith hA h_a0 h_a1)
end
/-! 95.rd -/
section
/-! ===== the class: the reader ===== -/
theorem zc_wE {α : Type} {h0 h : zv_H} {P : α → Prop} (F : zc_Q h0 h) {r c k : Nat} {v : Int} (hr : zv_lay r = (1, c)) (hf : zc_fr r k) (hv : zv_rg v) {g : zv_H → Option α} (n : zc_Q h0 (zv_sI h r k v) → zm_R (g (zv_sI h r k v)) P) : zm_R ((zv_pI h r c k v).bind g) P := by
  have e : zv_pI h r c k v = some (zv_sI h r k v) := if_pos (zc_ob F.2 hr)
  rw [zm_e e]
  exact n (zc_Q_t F (zc_QI F.2 hf hv))
theorem zc_C3_is {d : Nat} {h : zv_H} {a0 a1 : Nat} (hA : zc_A h) (h_a0 : zv_lay a0 = (1, 3)) (h_a1 : 1000000 ≤ a1 ∧ a1 < 1000024) : zm_R (C3_is (d + 4) a0 a1 h) (fun q => q.2 = h ∧ zv_rg q.1 ∧ (q.1 = 0 ∨ q.1 = 1)) := by
  refine zm_cI (P := fun v h' => h' = h ∧ zv_rg v ∧ (v = 0 ∨ v = 1)) (fun e => lC3_is (zc_ob hA h_a0) e) ?_
  have F0 := zc_Q_r hA
  have no : zm_R (some (some (zv_i 0), h)) (zm_I fun v h' => h' = h ∧ zv_rg v ∧ (v = 0 ∨ v = 1)) := zm_iI ⟨rfl, by unfold zv_rg; omega, Or.inl rfl⟩
  have ln := (zm_tx_l (r := a1)).1
  have loop : ∀ (n : Nat) (a2 : Int), 0 ≤ a2 → ((zm_tx a1).length - a2).toNat = n → zm_R (L3_is_28 (d + 3) a0 a1 a2 h) (zm_I fun v h' => h' = h ∧ zv_rg v ∧ (v = 0 ∨ v = 1)) := by
    intro n
    induction n with
    | zero =>
      intro a2 z hn
      rw [qL3_is_28, zm_e (zm_slen h (d + 1) h_a1)]
      dsimp only
      rw [if_neg (by omega)]
      exact zm_iI ⟨rfl, by unfold zv_rg; omega, Or.inr rfl⟩
    | succ n ih =>
      intro a2 z hn
      rw [qL3_is_28, zm_e (zm_slen h (d + 1) h_a1)]
      dsimp only
      rw [if_pos (by omega)]
      refine zc_rI F0 h_a0 fun v2 e2 r2 => ?_
      refine zc_pI (K := fun _ => True) (zc_C3_byteAt hA h_a0 (zc_w _)) fun q3v r3 _ => ?_
      dsimp only
      have eu := zm_charAt h d h_a1 z (show a2 < ((zm_tx a1).length : Int) by omega)
      generalize (zm_tx a1).getD a2.toNat 0 = u at eu
      rw [zm_e eu]
      dsimp only
      refine zm_if (fun c => ?_) (fun c => no)
      rw [zm_w (by omega)]
      exact ih _ (by omega) (by omega)
  rw [qE3_is]
  refine zc_rI F0 h_a0 fun v1 e1 r1 => ?_
  refine zm_if (fun c1 => ?_) (fun c1 => no)
  refine zc_rI F0 h_a0 fun v2 e2 r2 => ?_
  refine zc_rI F0 h_a0 fun v3 e3 r3 => ?_
  rw [zm_e (zm_slen h (d + 1) h_a1)]
  dsimp only
  refine zm_if (fun c2 => ?_) (fun c2 => no)
  exact loop _ 0 (by omega) rfl
section
variable {h0 : zv_H} {a0 : Nat} (h_a0 : zv_lay a0 = (1, 3))
theorem zc_fr3 (h_a0 : zv_lay a0 = (1, 3)) {k : Nat} (hk : k ≠ 2 := by decide) : zc_fr a0 k := zc_frO h_a0 (zc_lt h_a0 (by decide)) (Or.inl (by decide)) (by unfold zc_bd; rw [if_neg (fun q => absurd q.1 (by decide)), if_neg (fun q => absurd q.1 (by decide)), if_neg (fun q => absurd q.1 (by decide))]) (Or.inr hk)
def zc_b (h0 : zv_H) : zv_O → Prop := fun o => zm_R o (zm_I fun v h' => zc_Q h0 h' ∧ zv_rg v ∧ (v = 0 ∨ v = 1))
theorem zc_b0 {h : zv_H} (F : zc_Q h0 h) : zc_b h0 (some (some (zv_i 0), h)) := zm_iI ⟨F, by unfold zv_rg; omega, Or.inl rfl⟩
theorem zc_b1 {h : zv_H} (F : zc_Q h0 h) : zc_b h0 (some (some (zv_i 1), h)) := zm_iI ⟨F, by unfold zv_rg; omega, Or.inr rfl⟩
theorem zc_L3_next_108 {d : Nat} (h_a0 : zv_lay a0 = (1, 3)) : ∀ (n : Nat) (h : zv_H), zc_Q h0 h → (zv_I h a0 3 - zv_I h a0 6).toNat ≤ n → zc_b h0 (L3_next_108 (d + 1) a0 h) := by
  intro n
  induction n with
  | zero =>
    intro h F hn
    rw [qL3_next_108]
    refine zc_rI F h_a0 fun v1 e1 r1 => ?_
    refine zc_rI F h_a0 fun v2 e2 r2 => ?_
    rw [← e1, ← e2] at hn
    rw [if_neg (by omega)]
    exact zc_b1 F
  | succ n ih =>
    intro h F hn
    rw [qL3_next_108]
    refine zc_rI F h_a0 fun v1 e1 r1 => ?_
    refine zc_rI F h_a0 fun v2 e2 r2 => ?_
    rw [← e1, ← e2] at hn
    refine zm_if (fun c => ?_) (fun c => zc_b1 F)
    refine zc_rI F h_a0 fun v3 e3 r3 => ?_
    refine zc_pI (K := fun _ => True) (zc_C3_byteAt F.2 h_a0 r3) fun q4v r4 _ => ?_
    dsimp only
    refine zc_pI (K := fun v => (v = 0 ∨ v = 1)) (zc_C3_isSmall F.2 r4) fun q5v r5 _ => ?_
    dsimp only
    refine zm_if (fun c => zc_b1 F) (fun c => ?_)
    refine zc_rI F h_a0 fun v6 e6 r6 => ?_
    refine zc_wE F h_a0 (zc_fr3 h_a0) (zc_w _) fun F2 => ?_
    refine ih _ F2 ?_
    rw [zc_sI2, zc_sI1 _ _ _ _ (fun e => absurd e.2 (by decide)), ← e2, zc_up1 r6 r2 (by omega)]
    omega
theorem zc_L3_next_242 {d : Nat} (h_a0 : zv_lay a0 = (1, 3)) {h : zv_H} (F : zc_Q h0 h) : zc_b h0 (L3_next_242 (d + 1) a0 h) := by
  rw [qL3_next_242]
  refine zc_rI F h_a0 fun v1 e1 r1 => ?_
  refine zc_rI F h_a0 fun v2 e2 r2 => ?_
  refine zm_if (fun c => zc_b1 F) (fun c => ?_)
  refine zc_cI (K := fun v => (v = 0)) F (zc_C3_fail F.2 h_a0 (by unfold zv_rg; omega)) fun q3v q3h F3 r3 k3 => ?_
  dsimp only
  exact zm_if (fun c => zc_b0 F3) (fun c => zc_b1 F3)
theorem zc_L3_next_302 {d : Nat} (h_a0 : zv_lay a0 = (1, 3)) {h : zv_H} (F : zc_Q h0 h) : zc_b h0 (L3_next_302 (d + 1) a0 h) := by
  rw [qL3_next_302]
  refine zc_rI F h_a0 fun v1 e1 r1 => ?_
  refine zm_if (fun c => zc_b1 F) (fun c => ?_)
  refine zc_rI F h_a0 fun v2 e2 r2 => ?_
  refine zm_if (fun c => zc_b1 F) (fun c => ?_)
  refine zc_cI (K := fun v => (v = 0)) F (zc_C3_fail F.2 h_a0 (by unfold zv_rg; omega)) fun q3v q3h F3 r3 k3 => ?_
  dsimp only
  exact zm_if (fun c => zc_b0 F3) (fun c => zc_b1 F3)
theorem zc_L3_next_168 {d : Nat} (h_a0 : zv_lay a0 = (1, 3)) : ∀ (n : Nat) (h : zv_H), zc_Q h0 h → (zv_I h a0 3 - zv_I h a0 6).toNat ≤ n → zc_b h0 (L3_next_168 (d + 1) a0 h) := by
  intro n
  induction n with
  | zero =>
    intro h F hn
    rw [qL3_next_168]
    refine zc_rI F h_a0 fun v1 e1 r1 => ?_
    refine zc_rI F h_a0 fun v2 e2 r2 => ?_
    rw [← e1, ← e2] at hn
    rw [if_neg (by omega)]
    exact zc_L3_next_242 h_a0 F
  | succ n ih =>
    intro h F hn
    rw [qL3_next_168]
    refine zc_rI F h_a0 fun v1 e1 r1 => ?_
    refine zc_rI F h_a0 fun v2 e2 r2 => ?_
    rw [← e1, ← e2] at hn
    refine zm_if (fun c => ?_) (fun c => zc_L3_next_242 h_a0 F)
    refine zc_rI F h_a0 fun v3 e3 r3 => ?_
    refine zc_rI F h_a0 fun v4 e4 r4 => ?_
    refine zm_if (fun c => ?_) (fun c => zc_L3_next_242 h_a0 F)
    refine zc_rI F h_a0 fun v5 e5 r5 => ?_
    refine zc_pI (K := fun _ => True) (zc_C3_byteAt F.2 h_a0 r5) fun q6v r6 _ => ?_
    dsimp only
    refine zc_pI (K := fun v => (v = 0 ∨ v = 1)) (zc_C3_isDigit F.2 r6) fun q7v r7 _ => ?_
    dsimp only
    refine zm_if (fun c => zc_L3_next_242 h_a0 F) (fun c => ?_)
    refine zc_rI F h_a0 fun v8 e8 r8 => ?_
    refine zc_rI F h_a0 fun v9 e9 r9 => ?_
    refine zc_pI (K := fun _ => True) (zc_C3_byteAt F.2 h_a0 r9) fun q10v r10 _ => ?_
    dsimp only
    refine zc_wE F h_a0 (zc_fr3 h_a0) (zc_w _) fun F2 => ?_
    refine zc_rI F2 h_a0 fun v12 e12 r12 => ?_
    rw [zc_sI1 _ _ _ _ (fun e => absurd e.2 (by decide))] at e12
    refine zc_wE F2 h_a0 (zc_fr3 h_a0) (zc_w _) fun F3 => ?_
    refine ih _ F3 ?_
    rw [zc_sI2, zc_sI1 _ _ _ _ (fun e => absurd e.2 (by decide)), zc_sI1 _ _ _ _ (fun e => absurd e.2 (by decide)), ← e2, zc_up1 r12 r2 (by omega)]
    omega
theorem zc_L3_next_58 {d : Nat} (h_a0 : zv_lay a0 = (1, 3)) {h : zv_H} (F : zc_Q h0 h) : zc_b h0 (L3_next_58 (d + 1) a0 h) := by
  rw [qL3_next_58]
  refine zc_rI F h_a0 fun v1 e1 r1 => ?_
  refine zc_wE F h_a0 (zc_fr3 h_a0) r1 fun F => ?_
  refine zc_rI F h_a0 fun v3 e3 r3 => ?_
  refine zc_pI (K := fun _ => True) (zc_C3_byteAt F.2 h_a0 r3) fun q4v r4 _ => ?_
  dsimp only
  refine zc_wE F h_a0 (zc_fr3 h_a0) r4 fun F => ?_
  refine zc_rI F h_a0 fun v6 e6 r6 => ?_
  refine zm_if (fun c => ?_) (fun c => ?_)
  · refine zc_wE F h_a0 (zc_fr3 h_a0) (by unfold zv_rg; omega) fun F => ?_
    exact zc_b1 F
  · refine zc_rI F h_a0 fun v8 e8 r8 => ?_
    refine zc_pI (K := fun v => (v = 0 ∨ v = 1)) (zc_C3_isSmall F.2 r8) fun q9v r9 _ => ?_
    dsimp only
    refine zm_if (fun c => ?_) (fun c => ?_)
    · refine zc_rI F h_a0 fun v10 e10 r10 => ?_
      refine zc_pI (K := fun v => (v = 0 ∨ v = 1)) (zc_C3_isDigit F.2 r10) fun q11v r11 _ => ?_
      dsimp only
      refine zm_if (fun c => ?_) (fun c => ?_)
      · refine zc_wE F h_a0 (zc_fr3 h_a0) (by unfold zv_rg; omega) fun F => ?_
        refine zc_rI F h_a0 fun v13 e13 r13 => ?_
        refine zc_wE F h_a0 (zc_fr3 h_a0) (zc_w _) fun F => ?_
        refine zc_rI F h_a0 fun v15 e15 r15 => ?_
        refine zm_if (fun c => zc_L3_next_302 h_a0 F) (fun c => ?_)
        refine zc_rI F h_a0 fun v16 e16 r16 => ?_
        exact zm_if (fun c => zc_b1 F) (fun c => zc_L3_next_302 h_a0 F)
      · refine zc_wE F h_a0 (zc_fr3 h_a0) (by unfold zv_rg; omega) fun F => ?_
        refine zc_wE F h_a0 (zc_fr3 h_a0) (by unfold zv_rg; omega) fun F => ?_
        exact zc_L3_next_168 h_a0 _ _ F (Nat.le_refl _)
    · refine zc_wE F h_a0 (zc_fr3 h_a0) (by unfold zv_rg; omega) fun F => ?_
      exact zc_L3_next_108 h_a0 _ _ F (Nat.le_refl _)
theorem zc_L3_next_8 {d : Nat} (h_a0 : zv_lay a0 = (1, 3)) : ∀ (n : Nat) (h : zv_H), zc_Q h0 h → (zv_I h a0 3 - zv_I h a0 5).toNat ≤ n → zc_b h0 (L3_next_8 (d + 1) a0 h) := by
  intro n
  induction n with
  | zero =>
    intro h F hn
    rw [qL3_next_8]
    refine zc_rI F h_a0 fun v1 e1 r1 => ?_
    refine zc_rI F h_a0 fun v2 e2 r2 => ?_
    rw [← e1, ← e2] at hn
    rw [if_neg (by omega)]
    exact zc_L3_next_58 h_a0 F
  | succ n ih =>
    intro h F hn
    rw [qL3_next_8]
    refine zc_rI F h_a0 fun v1 e1 r1 => ?_
    refine zc_rI F h_a0 fun v2 e2 r2 => ?_
    rw [← e1, ← e2] at hn
    refine zm_if (fun c => ?_) (fun c => zc_L3_next_58 h_a0 F)
    refine zc_rI F h_a0 fun v3 e3 r3 => ?_
    refine zc_pI (K := fun _ => True) (zc_C3_byteAt F.2 h_a0 r3) fun q4v r4 _ => ?_
    dsimp only
    refine zm_if (fun c => ?_) (fun c => ?_)
    · refine zc_rI F h_a0 fun v6 e6 r6 => ?_
      refine zc_wE F h_a0 (zc_fr3 h_a0) (zc_w _) fun F2 => ?_
      refine ih _ F2 ?_
      rw [zc_sI2, zc_sI1 _ _ _ _ (fun e => absurd e.2 (by decide)), ← e2, zc_up1 r6 r2 (by omega)]
      omega
    · refine zc_rI F h_a0 fun v7 e7 r7 => ?_
      refine zc_pI (K := fun _ => True) (zc_C3_byteAt F.2 h_a0 r7) fun q8v r8 _ => ?_
      dsimp only
      refine zm_if (fun c => ?_) (fun c => zc_L3_next_58 h_a0 F)
      refine zc_rI F h_a0 fun v6 e6 r6 => ?_
      refine zc_wE F h_a0 (zc_fr3 h_a0) (zc_w _) fun F2 => ?_
      refine ih _ F2 ?_
      rw [zc_sI2, zc_sI1 _ _ _ _ (fun e => absurd e.2 (by decide)), ← e2, zc_up1 r6 r2 (by omega)]
      omega
theorem zc_E3_next {d : Nat} {h : zv_H} (hA : zc_A h) (h_a0 : zv_lay a0 = (1, 3)) : zc_b h (E3_next (d + 1) a0 h) := by
  have F := zc_Q_r hA
  rw [qE3_next]
  refine zc_rI F h_a0 fun v1 e1 r1 => ?_
  refine zc_wE F h_a0 (zc_fr3 h_a0) r1 fun F => ?_
  exact zc_L3_next_8 h_a0 _ _ F (Nat.le_refl _)
theorem zc_C3_next {d : Nat} {h : zv_H} (hA : zc_A h) (h_a0 : zv_lay a0 = (1, 3)) : zm_R (C3_next (d + 2) a0 h) (fun q => zc_Q h q.2 ∧ zv_rg q.1 ∧ (q.1 = 0 ∨ q.1 = 1)) := zm_cI (fun e => lC3_next (zc_ob hA h_a0) e) (zc_E3_next hA h_a0)
end
end
/-! 96.q -/
section
theorem zc_L3_spelled_45 {d : Nat} {h0 : zv_H} (N_L3_spelled_45 : Nat) : ∀ {h : zv_H} {a0 : Nat} {a2 : Int}, zc_Q h0 h → (zv_lay a0 = (1, 3)) → (zv_rg a2) → (2147483647 - a2).toNat = N_L3_spelled_45 → zm_R (L3_spelled_45 (d + 2) a0 a2 h) (zm_I fun v h' => zc_Q h0 h' ∧ zv_rg v ∧ ((v = 0 ∨ v = 1))) := by
  induction N_L3_spelled_45 using Nat.strongRecOn with
  | _ N_L3_spelled_45 ih_L3_spelled_45 =>
    intro h a0 a2 F0 h_a0 h_a2 eN
    rw [qL3_spelled_45]
    refine zc_rI F0 h_a0 fun v1 e_v1 r_v1 => ?_
    refine zm_if (fun c1 => ?_) (fun c1 => ?_)
    · refine zc_rF F0 2 h_a0 ?_
      refine zc_pI (K := fun v => True) (zc_C3_byteAt F0.2 h_a0 h_a2) fun q3v r_q3 k_q3 => ?_
      dsimp only
      refine zc_cV F0 (zc_C7_add F0.2 (zc_y3_1 h_a0).1 (zc_w _)) fun g4 F3 => ?_
      exact ih_L3_spelled_45 _ (by rw [← eN]; exact zc_up h_a2 r_v1 c1) F3 h_a0 (zc_w _)  rfl
    · refine zc_cI (K := fun v => (v = 0 ∨ v = 1)) F0 (zc_C3_next F0.2 h_a0) fun q5v q5h F4 r_q5 k_q5 => ?_
      dsimp only
      refine zm_if (fun c5 => ?_) (fun c5 => ?_)
      · exact zm_iI ⟨F4, r_q5, by omega⟩
      · omega
theorem zc_E3_spelled {d : Nat} {h : zv_H} {a0 : Nat} {a1 : Int} (hA : zc_A h) (h_a0 : zv_lay a0 = (1, 3)) (h_a1 : zv_rg a1) : zm_R (E3_spelled (d + 2) a0 a1 h) (zm_I fun v h' => zc_Q h h' ∧ zv_rg v ∧ ((v = 0 ∨ v = 1))) := by
  have F0 := zc_Q_r hA
  rw [qE3_spelled]
  refine zc_rI F0 h_a0 fun v1 e_v1 r_v1 => ?_
  refine zm_if (fun c1 => ?_) (fun c1 => ?_)
  · refine zc_rI F0 h_a0 fun v2 e_v2 r_v2 => ?_
    refine zc_rI F0 h_a0 fun v3 e_v3 r_v3 => ?_
    refine zm_if (fun c2 => ?_) (fun c2 => ?_)
    · refine zc_rF F0 2 h_a0 ?_
      refine zc_cV F0 (zc_C7_clear F0.2 (zc_y3_1 h_a0).1) fun g5 F3 => ?_
      refine zc_rI F3 h_a0 fun v6 e_v6 r_v6 => ?_
      exact zc_L3_spelled_45  _ F3 h_a0 r_v6  rfl
    · refine zc_cI (K := fun v => (v = 0)) F0 (zc_C3_fail F0.2 h_a0 (by unfold zv_rg; omega)) fun q7v q7h F4 r_q7 k_q7 => ?_
      dsimp only
      refine zm_if (fun c5 => ?_) (fun c5 => ?_)
      · exact zm_iI ⟨F4, r_q7, by omega⟩
      · omega
  · refine zc_cI (K := fun v => (v = 0)) F0 (zc_C3_fail F0.2 h_a0 (by unfold zv_rg; omega)) fun q8v q8h F6 r_q8 k_q8 => ?_
    dsimp only
    refine zm_if (fun c7 => ?_) (fun c7 => ?_)
    · exact zm_iI ⟨F6, r_q8, by omega⟩
    · omega
theorem zc_C3_spelled {d : Nat} {h : zv_H} {a0 : Nat} {a1 : Int} (hA : zc_A h) (h_a0 : zv_lay a0 = (1, 3)) (h_a1 : zv_rg a1) : zm_R (C3_spelled (d + 3) a0 a1 h) (fun q => zc_Q h q.2 ∧ zv_rg q.1 ∧ ((q.1 = 0 ∨ q.1 = 1))) := zm_cI (fun e => lC3_spelled (zc_ob hA h_a0) e) (zc_E3_spelled hA h_a0 h_a1)
theorem zc_E3_asked {d : Nat} {h : zv_H} {a0 : Nat} (hA : zc_A h) (h_a0 : zv_lay a0 = (1, 3)) : zm_R (E3_asked (d + 4) a0 h) (zm_I fun v h' => h' = h ∧ zv_rg v ∧ True) := by
  have F0 := zc_Q_r hA
  rw [qE3_asked]
  refine zc_pI (K := fun v => (v = 0 ∨ v = 1)) (zc_C3_is F0.2 h_a0 (by decide)) fun q1v r_q1 k_q1 => ?_
  dsimp only
  refine zm_if (fun c2 => ?_) (fun c2 => ?_)
  · refine zc_pI (K := fun v => (v = 0 ∨ v = 1)) (zc_C3_is F0.2 h_a0 (by decide)) fun q2v r_q2 k_q2 => ?_
    dsimp only
    refine zm_if (fun c4 => ?_) (fun c4 => ?_)
    · refine zc_pI (K := fun v => (v = 0 ∨ v = 1)) (zc_C3_is F0.2 h_a0 (by decide)) fun q3v r_q3 k_q3 => ?_
      dsimp only
      refine zm_if (fun c6 => ?_) (fun c6 => ?_)
      · refine zc_pI (K := fun v => (v = 0 ∨ v = 1)) (zc_C3_is F0.2 h_a0 (by decide)) fun q4v r_q4 k_q4 => ?_
        dsimp only
        refine zm_if (fun c8 => ?_) (fun c8 => ?_)
        · refine zc_pI (K := fun v => (v = 0 ∨ v = 1)) (zc_C3_is F0.2 h_a0 (by decide)) fun q5v r_q5 k_q5 => ?_
          dsimp only
          refine zm_if (fun c10 => ?_) (fun c10 => ?_)
          · refine zc_pI (K := fun v => (v = 0 ∨ v = 1)) (zc_C3_is F0.2 h_a0 (by decide)) fun q6v r_q6 k_q6 => ?_
            dsimp only
            refine zm_if (fun c12 => ?_) (fun c12 => ?_)
            · exact zm_iI ⟨rfl, (by unfold zv_rg; omega), trivial⟩
            · exact zm_iI ⟨rfl, (by unfold zv_rg; omega), trivial⟩
          · exact zm_iI ⟨rfl, (by unfold zv_rg; omega), trivial⟩
        · exact zm_iI ⟨rfl, (by unfold zv_rg; omega), trivial⟩
      · exact zm_iI ⟨rfl, (by unfold zv_rg; omega), trivial⟩
    · exact zm_iI ⟨rfl, (by unfold zv_rg; omega), trivial⟩
  · exact zm_iI ⟨rfl, (by unfold zv_rg; omega), trivial⟩
theorem zc_C3_asked {d : Nat} {h : zv_H} {a0 : Nat} (hA : zc_A h) (h_a0 : zv_lay a0 = (1, 3)) : zm_R (C3_asked (d + 5) a0 h) (fun q => q.2 = h ∧ zv_rg q.1 ∧ True) := zm_cI (fun e => lC3_asked (zc_ob hA h_a0) e) (zc_E3_asked hA h_a0)
theorem zc_E3_verbHere {d : Nat} {h : zv_H} {a0 : Nat} (hA : zc_A h) (h_a0 : zv_lay a0 = (1, 3)) : zm_R (E3_verbHere (d + 4) a0 h) (zm_I fun v h' => h' = h ∧ zv_rg v ∧ True) := by
  have F0 := zc_Q_r hA
  rw [qE3_verbHere]
  refine zc_pI (K := fun v => (v = 0 ∨ v = 1)) (zc_C3_is F0.2 h_a0 (by decide)) fun q1v r_q1 k_q1 => ?_
  dsimp only
  refine zm_if (fun c2 => ?_) (fun c2 => ?_)
  · refine zc_pI (K := fun v => (v = 0 ∨ v = 1)) (zc_C3_is F0.2 h_a0 (by decide)) fun q2v r_q2 k_q2 => ?_
    dsimp only
    refine zm_if (fun c4 => ?_) (fun c4 => ?_)
    · refine zc_pI (K := fun v => (v = 0 ∨ v = 1)) (zc_C3_is F0.2 h_a0 (by decide)) fun q3v r_q3 k_q3 => ?_
      dsimp only
      refine zm_if (fun c6 => ?_) (fun c6 => ?_)
      · refine zc_pI (K := fun v => (v = 0 ∨ v = 1)) (zc_C3_is F0.2 h_a0 (by decide)) fun q4v r_q4 k_q4 => ?_
        dsimp only
        refine zm_if (fun c8 => ?_) (fun c8 => ?_)
        · refine zc_pI (K := fun v => (v = 0 ∨ v = 1)) (zc_C3_is F0.2 h_a0 (by decide)) fun q5v r_q5 k_q5 => ?_
          dsimp only
          refine zm_if (fun c10 => ?_) (fun c10 => ?_)
          · refine zc_pI (K := fun v => (v = 0 ∨ v = 1)) (zc_C3_is F0.2 h_a0 (by decide)) fun q6v r_q6 k_q6 => ?_
            dsimp only
            refine zm_if (fun c12 => ?_) (fun c12 => ?_)
            · refine zc_pI (K := fun v => (v = 0 ∨ v = 1)) (zc_C3_is F0.2 h_a0 (by decide)) fun q7v r_q7 k_q7 => ?_
              dsimp only
              refine zm_if (fun c14 => ?_) (fun c14 => ?_)
              · refine zc_pI (K := fun v => (v = 0 ∨ v = 1)) (zc_C3_is F0.2 h_a0 (by decide)) fun q8v r_q8 k_q8 => ?_
                dsimp only
                refine zm_if (fun c16 => ?_) (fun c16 => ?_)
                · refine zc_pI (K := fun v => (v = 0 ∨ v = 1)) (zc_C3_is F0.2 h_a0 (by decide)) fun q9v r_q9 k_q9 => ?_
                  dsimp only
                  refine zm_if (fun c18 => ?_) (fun c18 => ?_)
                  · refine zc_pI (K := fun v => (v = 0 ∨ v = 1)) (zc_C3_is F0.2 h_a0 (by decide)) fun q10v r_q10 k_q10 => ?_
                    dsimp only
                    refine zm_if (fun c20 => ?_) (fun c20 => ?_)
                    · refine zc_pI (K := fun v => (v = 0 ∨ v = 1)) (zc_C3_is F0.2 h_a0 (by decide)) fun q11v r_q11 k_q11 => ?_
                      dsimp only
                      refine zm_if (fun c22 => ?_) (fun c22 => ?_)
                      · refine zc_pI (K := fun v => (v = 0 ∨ v = 1)) (zc_C3_is F0.2 h_a0 (by decide)) fun q12v r_q12 k_q12 => ?_
                        dsimp only
                        refine zm_if (fun c24 => ?_) (fun c24 => ?_)
                        · exact zm_iI ⟨rfl, (by unfold zv_rg; omega), trivial⟩
                        · exact zm_iI ⟨rfl, (by unfold zv_rg; omega), trivial⟩
                      · exact zm_iI ⟨rfl, (by unfold zv_rg; omega), trivial⟩
                    · exact zm_iI ⟨rfl, (by unfold zv_rg; omega), trivial⟩
                  · exact zm_iI ⟨rfl, (by unfold zv_rg; omega), trivial⟩
                · exact zm_iI ⟨rfl, (by unfold zv_rg; omega), trivial⟩
              · exact zm_iI ⟨rfl, (by unfold zv_rg; omega), trivial⟩
            · exact zm_iI ⟨rfl, (by unfold zv_rg; omega), trivial⟩
          · exact zm_iI ⟨rfl, (by unfold zv_rg; omega), trivial⟩
        · exact zm_iI ⟨rfl, (by unfold zv_rg; omega), trivial⟩
      · exact zm_iI ⟨rfl, (by unfold zv_rg; omega), trivial⟩
    · exact zm_iI ⟨rfl, (by unfold zv_rg; omega), trivial⟩
  · exact zm_iI ⟨rfl, (by unfold zv_rg; omega), trivial⟩
theorem zc_C3_verbHere {d : Nat} {h : zv_H} {a0 : Nat} (hA : zc_A h) (h_a0 : zv_lay a0 = (1, 3)) : zm_R (C3_verbHere (d + 5) a0 h) (fun q => q.2 = h ∧ zv_rg q.1 ∧ True) := zm_cI (fun e => lC3_verbHere (zc_ob hA h_a0) e) (zc_E3_verbHere hA h_a0)
theorem zc_E3_comparison {d : Nat} {h : zv_H} {a0 : Nat} {a1 : Nat} {a2 : Int} (hA : zc_A h) (h_a0 : zv_lay a0 = (1, 3)) (h_a1 : zv_lay a1 = (1, 1)) (h_a2 : zv_rg a2) : zm_R (E3_comparison (d + 2) a0 a1 a2 h) (zm_I fun v h' => zc_Q h h' ∧ zv_rg v ∧ ((v = 0 ∨ v = 1))) := by
  have F0 := zc_Q_r hA
  rw [qE3_comparison]
  refine zm_if (fun c1 => ?_) (fun c1 => ?_)
  · refine zc_cI (K := fun v => (v = 0)) F0 (zc_C3_fail F0.2 h_a0 (by unfold zv_rg; omega)) fun q1v q1h F2 r_q1 k_q1 => ?_
    dsimp only
    refine zm_if (fun c3 => ?_) (fun c3 => ?_)
    · exact zm_iI ⟨F2, r_q1, by omega⟩
    · omega
  · refine zc_cI (K := fun v => (v = 0 ∨ v = 1)) F0 (zc_C3_next F0.2 h_a0) fun q2v q2h F4 r_q2 k_q2 => ?_
    dsimp only
    refine zm_if (fun c5 => ?_) (fun c5 => ?_)
    · exact zm_iI ⟨F4, (by unfold zv_rg; omega), by omega⟩
    · refine zc_rI F4 h_a0 fun v3 e_v3 r_v3 => ?_
      refine zm_if (fun c6 => ?_) (fun c6 => ?_)
      · refine zc_rI F4 h_a0 fun v4 e_v4 r_v4 => ?_
        refine zm_if (fun c7 => ?_) (fun c7 => ?_)
        · rw [qL3_comparison_46]
          refine zc_cI (K := fun v => (v = 0)) F4 (zc_C3_fail F4.2 h_a0 (by unfold zv_rg; omega)) fun q1x1v q1x1h F8 r_q1x1 k_q1x1 => ?_
          dsimp only
          refine zm_if (fun c9 => ?_) (fun c9 => ?_)
          · exact zm_iI ⟨F8, r_q1x1, by omega⟩
          · omega
        · refine zc_rI F4 h_a0 fun v5 e_v5 r_v5 => ?_
          refine zm_if (fun c10 => ?_) (fun c10 => ?_)
          · refine zc_rI F4 h_a0 fun v6 e_v6 r_v6 => ?_
            refine zc_cI (K := fun v => (v = 0 ∨ v = 1)) F4 (zc_C3_next F4.2 h_a0) fun q7v q7h F11 r_q7 k_q7 => ?_
            dsimp only
            refine zm_if (fun c12 => ?_) (fun c12 => ?_)
            · exact zm_iI ⟨F11, (by unfold zv_rg; omega), by omega⟩
            · refine zc_rI F11 h_a0 fun v8 e_v8 r_v8 => ?_
              refine zm_if (fun c13 => ?_) (fun c13 => ?_)
              · refine zc_rI F11 h_a0 fun v9 e_v9 r_v9 => ?_
                refine zc_cV F11 (zc_C1_compare F11.2 h_a1 h_a2 (zc_w _) r_v9) fun g10 F14 => ?_
                refine zc_cI (K := fun v => (v = 0 ∨ v = 1)) F14 (zc_C3_next F14.2 h_a0) fun q11v q11h F15 r_q11 k_q11 => ?_
                dsimp only
                refine zm_if (fun c16 => ?_) (fun c16 => ?_)
                · exact zm_iI ⟨F15, r_q11, by omega⟩
                · omega
              · refine zc_cI (K := fun v => (v = 0)) F11 (zc_C3_fail F11.2 h_a0 (by unfold zv_rg; omega)) fun q12v q12h F17 r_q12 k_q12 => ?_
                dsimp only
                refine zm_if (fun c18 => ?_) (fun c18 => ?_)
                · exact zm_iI ⟨F17, r_q12, by omega⟩
                · omega
          · rw [qL3_comparison_46]
            refine zc_cI (K := fun v => (v = 0)) F4 (zc_C3_fail F4.2 h_a0 (by unfold zv_rg; omega)) fun q1x2v q1x2h F19 r_q1x2 k_q1x2 => ?_
            dsimp only
            refine zm_if (fun c20 => ?_) (fun c20 => ?_)
            · exact zm_iI ⟨F19, r_q1x2, by omega⟩
            · omega
      · rw [qL3_comparison_46]
        refine zc_cI (K := fun v => (v = 0)) F4 (zc_C3_fail F4.2 h_a0 (by unfold zv_rg; omega)) fun q1x3v q1x3h F21 r_q1x3 k_q1x3 => ?_
        dsimp only
        refine zm_if (fun c22 => ?_) (fun c22 => ?_)
        · exact zm_iI ⟨F21, r_q1x3, by omega⟩
        · omega
theorem zc_C3_comparison {d : Nat} {h : zv_H} {a0 : Nat} {a1 : Nat} {a2 : Int} (hA : zc_A h) (h_a0 : zv_lay a0 = (1, 3)) (h_a1 : zv_lay a1 = (1, 1)) (h_a2 : zv_rg a2) : zm_R (C3_comparison (d + 3) a0 a1 a2 h) (fun q => zc_Q h q.2 ∧ zv_rg q.1 ∧ ((q.1 = 0 ∨ q.1 = 1))) := zm_cI (fun e => lC3_comparison (zc_ob hA h_a0) e) (zc_E3_comparison hA h_a0 h_a1 h_a2)
theorem zc_L3_line_164 {d : Nat} {h0 : zv_H} (N_L3_line_164 : Nat) : ∀ {h : zv_H} {a0 : Nat} {a1 : Int}, zc_Q h0 h → (zv_lay a0 = (1, 3)) → (zv_rg a1) → (2147483647 - a1).toNat = N_L3_line_164 → zm_R (L3_line_164 (d + 5) a0 a1 h) (zm_I fun v h' => zc_Q h0 h' ∧ zv_rg v ∧ ((v = 0 ∨ v = 1))) := by
  induction N_L3_line_164 using Nat.strongRecOn with
  | _ N_L3_line_164 ih_L3_line_164 =>
    intro h a0 a1 F0 h_a0 h_a1 eN
    rw [qL3_line_164]
    refine zm_if (fun c1 => ?_) (fun c1 => ?_)
    · exact zm_iI ⟨F0, (by unfold zv_rg; omega), by omega⟩
    · refine zc_cI (K := fun v => (v = 0 ∨ v = 1)) F0 (zc_C3_closed F0.2 h_a0) fun q1v q1h F2 r_q1 k_q1 => ?_
      dsimp only
      refine zm_if (fun c3 => ?_) (fun c3 => ?_)
      · exact zm_iI ⟨F2, (by unfold zv_rg; omega), by omega⟩
      · exact zm_iI ⟨F2, (by unfold zv_rg; omega), by omega⟩
theorem zc_L3_line_144 {d : Nat} {h0 : zv_H} (N_L3_line_144 : Nat) : ∀ {h : zv_H} {a0 : Nat} {a1 : Int}, zc_Q h0 h → (zv_lay a0 = (1, 3)) → (zv_rg a1) → (2147483647 - a1).toNat = N_L3_line_144 → zm_R (L3_line_144 (d + 5) a0 a1 h) (zm_I fun v h' => zc_Q h0 h' ∧ zv_rg v ∧ ((v = 0 ∨ v = 1))) := by
  induction N_L3_line_144 using Nat.strongRecOn with
  | _ N_L3_line_144 ih_L3_line_144 =>
    intro h a0 a1 F0 h_a0 h_a1 eN
    rw [qL3_line_144]
    refine zm_if (fun c1 => ?_) (fun c1 => ?_)
    · exact zc_L3_line_164  _ F0 h_a0 h_a1  rfl
    · refine zc_rI F0 h_a0 fun v1 e_v1 r_v1 => ?_
      refine zm_if (fun c2 => ?_) (fun c2 => ?_)
      · refine zc_cI (K := fun v => (v = 0 ∨ v = 1)) F0 (zc_C3_spelled F0.2 h_a0 (by unfold zv_rg; omega)) fun q2v q2h F3 r_q2 k_q2 => ?_
        dsimp only
        exact zc_L3_line_164  _ F3 h_a0 r_q2  rfl
      · exact zc_L3_line_164  _ F0 h_a0 h_a1  rfl
theorem zc_L3_line_126 {d : Nat} {h0 : zv_H} (N_L3_line_126 : Nat) : ∀ {h : zv_H} {a0 : Nat} {a1 : Int}, zc_Q h0 h → (zv_lay a0 = (1, 3)) → (zv_rg a1) → (2147483647 - a1).toNat = N_L3_line_126 → zm_R (L3_line_126 (d + 5) a0 a1 h) (zm_I fun v h' => zc_Q h0 h' ∧ zv_rg v ∧ ((v = 0 ∨ v = 1))) := by
  induction N_L3_line_126 using Nat.strongRecOn with
  | _ N_L3_line_126 ih_L3_line_126 =>
    intro h a0 a1 F0 h_a0 h_a1 eN
    rw [qL3_line_126]
    refine zm_if (fun c1 => ?_) (fun c1 => ?_)
    · exact zc_L3_line_144  _ F0 h_a0 h_a1  rfl
    · refine zc_rI F0 h_a0 fun v1 e_v1 r_v1 => ?_
      refine zm_if (fun c2 => ?_) (fun c2 => ?_)
      · refine zc_cI (K := fun v => (v = 0 ∨ v = 1)) F0 (zc_C3_spelled F0.2 h_a0 (by unfold zv_rg; omega)) fun q2v q2h F3 r_q2 k_q2 => ?_
        dsimp only
        exact zc_L3_line_144  _ F3 h_a0 r_q2  rfl
      · exact zc_L3_line_144  _ F0 h_a0 h_a1  rfl
theorem zc_L3_line_85 {d : Nat} {h0 : zv_H} (N_L3_line_85 : Nat) : ∀ {h : zv_H} {a0 : Nat} {a1 : Int}, zc_Q h0 h → (zv_lay a0 = (1, 3)) → (zv_rg a1) → (2147483647 - a1).toNat = N_L3_line_85 → zm_R (L3_line_85 (d + 5) a0 a1 h) (zm_I fun v h' => zc_Q h0 h' ∧ zv_rg v ∧ ((v = 0 ∨ v = 1))) := by
  induction N_L3_line_85 using Nat.strongRecOn with
  | _ N_L3_line_85 ih_L3_line_85 =>
    intro h a0 a1 F0 h_a0 h_a1 eN
    rw [qL3_line_85]
    refine zm_if (fun c1 => ?_) (fun c1 => ?_)
    · exact zc_L3_line_126  _ F0 h_a0 h_a1  rfl
    · refine zc_rI F0 h_a0 fun v1 e_v1 r_v1 => ?_
      refine zm_if (fun c2 => ?_) (fun c2 => ?_)
      · refine zc_rI F0 h_a0 fun v2 e_v2 r_v2 => ?_
        refine zc_wO F0 h_a0 (zc_frO h_a0 (zc_lt h_a0 (by decide)) (by decide) rfl (by decide)) r_v2 fun g3 F3 => ?_
        refine zc_rI F3 h_a0 fun v4 e_v4 r_v4 => ?_
        refine zm_if (fun c4 => ?_) (fun c4 => ?_)
        · refine zc_cI (K := fun v => (v = 0 ∨ v = 1)) F3 (zc_C3_next F3.2 h_a0) fun q5v q5h F5 r_q5 k_q5 => ?_
          dsimp only
          rw [qL3_line_125]
          exact zc_L3_line_126  _ F5 h_a0 r_q5  rfl
        · refine zc_cI (K := fun v => (v = 0)) F3 (zc_C3_fail F3.2 h_a0 (by unfold zv_rg; omega)) fun q6v q6h F6 r_q6 k_q6 => ?_
          dsimp only
          rw [qL3_line_125]
          exact zc_L3_line_126  _ F6 h_a0 r_q6  rfl
      · exact zc_L3_line_126  _ F0 h_a0 h_a1  rfl
theorem zc_E3_line {d : Nat} {h : zv_H} {a0 : Nat} (hA : zc_A h) (h_a0 : zv_lay a0 = (1, 3)) : zm_R (E3_line (d + 5) a0 h) (zm_I fun v h' => zc_Q h h' ∧ zv_rg v ∧ ((v = 0 ∨ v = 1))) := by
  have F0 := zc_Q_r hA
  rw [qE3_line]
  refine zc_pI (K := fun v => True) (zc_C3_verbHere F0.2 h_a0) fun q1v r_q1 k_q1 => ?_
  dsimp only
  refine zc_wO F0 h_a0 (zc_frO h_a0 (zc_lt h_a0 (by decide)) (by decide) rfl (by decide)) r_q1 fun g2 F2 => ?_
  refine zc_rI F2 h_a0 fun v3 e_v3 r_v3 => ?_
  refine zm_if (fun c3 => ?_) (fun c3 => ?_)
  · refine zc_cI (K := fun v => (v = 0)) F2 (zc_C3_fail F2.2 h_a0 (by unfold zv_rg; omega)) fun q4v q4h F4 r_q4 k_q4 => ?_
    dsimp only
    refine zm_if (fun c5 => ?_) (fun c5 => ?_)
    · exact zm_iI ⟨F4, r_q4, by omega⟩
    · omega
  · refine zc_cI (K := fun v => (v = 0 ∨ v = 1)) F2 (zc_C3_next F2.2 h_a0) fun q5v q5h F6 r_q5 k_q5 => ?_
    dsimp only
    refine zm_if (fun c7 => ?_) (fun c7 => ?_)
    · exact zc_L3_line_85  _ F6 h_a0 r_q5  rfl
    · refine zc_rI F6 h_a0 fun v6 e_v6 r_v6 => ?_
      refine zm_if (fun c8 => ?_) (fun c8 => ?_)
      · exact zc_L3_line_85  _ F6 h_a0 r_q5  rfl
      · refine zc_rI F6 h_a0 fun v7 e_v7 r_v7 => ?_
        refine zm_if (fun c9 => ?_) (fun c9 => ?_)
        · exact zc_L3_line_85  _ F6 h_a0 r_q5  rfl
        · refine zc_rI F6 h_a0 fun v8 e_v8 r_v8 => ?_
          refine zm_if (fun c10 => ?_) (fun c10 => ?_)
          · exact zc_L3_line_85  _ F6 h_a0 r_q5  rfl
          · refine zc_rI F6 h_a0 fun v9 e_v9 r_v9 => ?_
            refine zc_wO F6 h_a0 (zc_frO h_a0 (zc_lt h_a0 (by decide)) (by decide) rfl (by decide)) r_v9 fun g10 F11 => ?_
            refine zc_rI F11 h_a0 fun v11 e_v11 r_v11 => ?_
            refine zm_if (fun c12 => ?_) (fun c12 => ?_)
            · refine zc_cI (K := fun v => (v = 0 ∨ v = 1)) F11 (zc_C3_next F11.2 h_a0) fun q12v q12h F13 r_q12 k_q12 => ?_
              dsimp only
              rw [qL3_line_84]
              exact zc_L3_line_85  _ F13 h_a0 r_q12  rfl
            · refine zc_cI (K := fun v => (v = 0)) F11 (zc_C3_fail F11.2 h_a0 (by unfold zv_rg; omega)) fun q13v q13h F14 r_q13 k_q13 => ?_
              dsimp only
              rw [qL3_line_84]
              exact zc_L3_line_85  _ F14 h_a0 r_q13  rfl
theorem zc_C3_line {d : Nat} {h : zv_H} {a0 : Nat} (hA : zc_A h) (h_a0 : zv_lay a0 = (1, 3)) : zm_R (C3_line (d + 6) a0 h) (fun q => zc_Q h q.2 ∧ zv_rg q.1 ∧ ((q.1 = 0 ∨ q.1 = 1))) := zm_cI (fun e => lC3_line (zc_ob hA h_a0) e) (zc_E3_line hA h_a0)
end
/-! 97.rd -/
section
/-! ===== the class: TEST is read ===== -/
def zc_bb (h : zv_H) (q : Int × zv_H) : Prop := zc_Q h q.2 ∧ zv_rg q.1 ∧ (q.1 = 0 ∨ q.1 = 1)
section
variable {h0 : zv_H} {a0 a1 : Nat} {a2 : Int}
theorem zc_bx {h : zv_H} (F : zc_Q h0 h) {v : Int} (hv : v = 0 ∨ v = 1) : zc_b h0 (if v = 0 ∨ v = 1 then some (some (zv_i v), h) else none) := by
  rw [if_pos hv]
  exact zm_iI ⟨F, by unfold zv_rg; omega, hv⟩
theorem zc_L3_side_10 {d : Nat} (h_a0 : zv_lay a0 = (1, 3)) (h_a1 : zv_lay a1 = (1, 1)) (hf : ∀ h, zc_A h → zm_R (C3_fact (d + 6) a0 a1 a2 h) (zc_bb h)) : ∀ (n : Nat) (h : zv_H) (a3 a4 : Int), zc_Q h0 h → (a3 = 0 ∨ a3 = 1) → 0 ≤ a4 → (700 - a4).toNat = n → zc_b h0 (L3_side_10 (d + 6) a0 a1 a2 a3 a4 h) := by
  intro n
  induction n with
  | zero =>
    intro h a3 a4 F h3 z hn
    rw [qL3_side_10, if_neg (by omega)]
    exact zc_bx F h3
  | succ n ih =>
    intro h a3 a4 F h3 z hn
    have go : ∀ (h : zv_H) (e0 : Int), zc_Q h0 h → (e0 = 0 ∨ e0 = 1) → zc_b h0 (L3_side_52 (d + 6) a0 a1 a2 a4 e0 h) := fun h e0 F he => by
      rw [qL3_side_52]
      refine zc_cV F (zc_C1_add F.2 h_a1 (by unfold zv_rg; omega) (by unfold zv_rg; omega)) fun g1 F1 => ?_
      rw [zm_w (by omega)]
      exact ih g1 e0 _ F1 he (by omega) (by omega)
    rw [qL3_side_10, if_pos (by omega)]
    refine zm_if (fun c => zc_bx F h3) (fun c => ?_)
    refine zc_pI (K := fun v => (v = 0 ∨ v = 1)) (zc_C3_is F.2 h_a0 (by decide)) fun q1v r1 k1 => ?_
    dsimp only
    refine zm_if (fun c => zc_bx F h3) (fun c => ?_)
    refine zc_cI (K := fun v => (v = 0 ∨ v = 1)) F (zc_C3_next F.2 h_a0) fun q2v q2h F2 r2 k2 => ?_
    dsimp only
    refine zm_if (fun c => ?_) (fun c => ?_)
    · rw [qL3_side_51]
      exact go _ 0 F2 (Or.inl rfl)
    · refine zc_cI (K := fun v => (v = 0 ∨ v = 1)) F2 (hf _ F2.2) fun q3v q3h F3 r3 k3 => ?_
      dsimp only
      refine zm_if (fun c => ?_) (fun c => ?_)
      · rw [qL3_side_51]
        exact go _ 0 F3 (Or.inl rfl)
      · exact go _ 1 F3 (Or.inr rfl)
theorem zc_side {d : Nat} (h_a0 : zv_lay a0 = (1, 3)) (h_a1 : zv_lay a1 = (1, 1)) (hf : ∀ h, zc_A h → zm_R (C3_fact (d + 6) a0 a1 a2 h) (zc_bb h)) (h : zv_H) (hA : zc_A h) : zm_R (C3_side (d + 7) a0 a1 a2 h) (zc_bb h) := by
  refine zm_cI (P := fun v h' => zc_bb h (v, h')) (fun e => lC3_side (zc_ob hA h_a0) e) ?_
  rw [qE3_side]
  refine zc_cI (K := fun v => (v = 0 ∨ v = 1)) (zc_Q_r hA) (hf _ hA) fun q1v q1h F1 r1 k1 => ?_
  exact zc_L3_side_10 h_a0 h_a1 hf _ _ _ 0 F1 k1 (by omega) rfl
theorem zc_L3_test_10 {d : Nat} (h_a0 : zv_lay a0 = (1, 3)) (h_a1 : zv_lay a1 = (1, 1)) (hf : ∀ h, zc_A h → zm_R (C3_side (d + 7) a0 a1 a2 h) (zc_bb h)) : ∀ (n : Nat) (h : zv_H) (a3 a4 : Int), zc_Q h0 h → (a3 = 0 ∨ a3 = 1) → 0 ≤ a4 → (700 - a4).toNat = n → zc_b h0 (L3_test_10 (d + 7) a0 a1 a2 a3 a4 h) := by
  intro n
  induction n with
  | zero =>
    intro h a3 a4 F h3 z hn
    rw [qL3_test_10, if_neg (by omega)]
    exact zc_bx F h3
  | succ n ih =>
    intro h a3 a4 F h3 z hn
    have go : ∀ (h : zv_H) (e0 : Int), zc_Q h0 h → (e0 = 0 ∨ e0 = 1) → zc_b h0 (L3_test_52 (d + 7) a0 a1 a2 a4 e0 h) := fun h e0 F he => by
      rw [qL3_test_52]
      refine zc_cV F (zc_C1_add F.2 h_a1 (by unfold zv_rg; omega) (by unfold zv_rg; omega)) fun g1 F1 => ?_
      rw [zm_w (by omega)]
      exact ih g1 e0 _ F1 he (by omega) (by omega)
    rw [qL3_test_10, if_pos (by omega)]
    refine zm_if (fun c => zc_bx F h3) (fun c => ?_)
    refine zc_pI (K := fun v => (v = 0 ∨ v = 1)) (zc_C3_is F.2 h_a0 (by decide)) fun q1v r1 k1 => ?_
    dsimp only
    refine zm_if (fun c => zc_bx F h3) (fun c => ?_)
    refine zc_cI (K := fun v => (v = 0 ∨ v = 1)) F (zc_C3_next F.2 h_a0) fun q2v q2h F2 r2 k2 => ?_
    dsimp only
    refine zm_if (fun c => ?_) (fun c => ?_)
    · rw [qL3_test_51]
      exact go _ 0 F2 (Or.inl rfl)
    · refine zc_cI (K := fun v => (v = 0 ∨ v = 1)) F2 (hf _ F2.2) fun q3v q3h F3 r3 k3 => ?_
      dsimp only
      refine zm_if (fun c => ?_) (fun c => ?_)
      · rw [qL3_test_51]
        exact go _ 0 F3 (Or.inl rfl)
      · exact go _ 1 F3 (Or.inr rfl)
theorem zc_test {d : Nat} (h_a0 : zv_lay a0 = (1, 3)) (h_a1 : zv_lay a1 = (1, 1)) (hf : ∀ h, zc_A h → zm_R (C3_side (d + 7) a0 a1 a2 h) (zc_bb h)) (h : zv_H) (hA : zc_A h) : zm_R (C3_test (d + 8) a0 a1 a2 h) (zc_bb h) := by
  refine zm_cI (P := fun v h' => zc_bb h (v, h')) (fun e => lC3_test (zc_ob hA h_a0) e) ?_
  rw [qE3_test]
  refine zc_cI (K := fun v => (v = 0 ∨ v = 1)) (zc_Q_r hA) (hf _ hA) fun q1v q1h F1 r1 k1 => ?_
  exact zc_L3_test_10 h_a0 h_a1 hf _ _ _ 0 F1 k1 (by omega) rfl
theorem zc_fact (h_a0 : zv_lay a0 = (1, 3)) (h_a1 : zv_lay a1 = (1, 1)) : ∀ (j D : Nat) (a2 : Int), 3 * j ≤ D → j ≤ 6 → a2 = 6 - (j : Int) → ∀ h, zc_A h → zm_R (C3_fact (D + 6) a0 a1 a2 h) (zc_bb h) := by
  intro j
  induction j with
  | zero =>
    intro D a2 hD hj e2 h hA
    refine zm_cI (P := fun v h' => zc_bb h (v, h')) (fun e => lC3_fact (zc_ob hA h_a0) e) ?_
    have F := zc_Q_r hA
    have go : ∀ (h' : zv_H) (a3 : Int), zc_Q h h' → zc_b h (L3_fact_30 (D + 5) a0 a1 a2 a3 h') := fun h' a3 F => by
      rw [qL3_fact_30, if_neg (by omega)]
      refine zc_cI (K := fun v => (v = 0)) F (zc_C3_fail F.2 h_a0 (by unfold zv_rg; omega)) fun q3v q3h F3 r3 k3 => ?_
      exact zc_bx F3 (Or.inl k3)
    rw [qE3_fact]
    refine zc_pI (K := fun v => (v = 0 ∨ v = 1)) (zc_C3_is F.2 h_a0 (by decide)) fun q1v r1 k1 => ?_
    dsimp only
    refine zm_if (fun c => ?_) (fun c => go _ _ F)
    refine zc_pI (K := fun v => (v = 0 ∨ v = 1)) (zc_C3_isSign F.2 h_a0 (by unfold zv_rg; omega)) fun q2v r2 k2 => ?_
    dsimp only
    refine zm_if (fun c => ?_) (fun c => go _ _ F)
    refine zc_pI (K := fun v => True) (zc_C3_asked F.2 h_a0) fun q3v r3 k3 => ?_
    dsimp only
    refine zc_cI (K := fun v => (v = 0 ∨ v = 1)) F (zc_C3_comparison F.2 h_a0 h_a1 r3) fun q4v q4h F4 r4 k4 => ?_
    exact zc_bx F4 k4
  | succ j ih =>
    intro D a2 hD hj e2 h hA
    obtain ⟨D', rfl⟩ : ∃ D', D = D' + 3 := ⟨D - 3, by omega⟩
    refine zm_cI (P := fun v h' => zc_bb h (v, h')) (fun e => lC3_fact (zc_ob hA h_a0) e) ?_
    have F := zc_Q_r hA
    have ew : zv_w (a2 + 1) = 6 - (j : Int) := by rw [zm_w (by omega)]; omega
    have go : ∀ (h' : zv_H) (a3 : Int), zc_Q h h' → zc_b h (L3_fact_30 (D' + 8) a0 a1 a2 a3 h') := fun h' a3 F => by
      rw [qL3_fact_30, if_pos (by omega), ew]
      refine zc_cI (K := fun v => (v = 0 ∨ v = 1)) F (zc_C3_next F.2 h_a0) fun q1v q1h F1 r1 k1 => ?_
      dsimp only
      refine zm_if (fun c => zc_b0 F1) (fun c => ?_)
      refine zm_if (fun c => ?_) (fun c => ?_)
      · refine zc_cI (K := fun v => (v = 0 ∨ v = 1)) F1 (zc_test h_a0 h_a1 (zc_side h_a0 h_a1 (ih D' _ (by omega) (by omega) rfl)) _ F1.2) fun q2v q2h F2 r2 k2 => ?_
        dsimp only
        refine zm_if (fun c => zc_b0 F2) (fun c => ?_)
        refine zc_pI (K := fun v => (v = 0 ∨ v = 1)) (zc_C3_isSign F2.2 h_a0 (by unfold zv_rg; omega)) fun q3v r3 k3 => ?_
        dsimp only
        refine zm_if (fun c => ?_) (fun c => ?_)
        · refine zc_cI (K := fun v => (v = 0)) F2 (zc_C3_fail F2.2 h_a0 (by unfold zv_rg; omega)) fun q4v q4h F4 r4 k4 => ?_
          exact zc_bx F4 (Or.inl k4)
        · refine zc_cI (K := fun v => (v = 0 ∨ v = 1)) F2 (zc_C3_next F2.2 h_a0) fun q5v q5h F5 r5 k5 => ?_
          exact zc_bx F5 k5
      · refine zc_cI (K := fun v => (v = 0 ∨ v = 1)) F1 (ih (D' + 2) _ (by omega) (by omega) rfl _ F1.2) fun q6v q6h F6 r6 k6 => ?_
        dsimp only
        refine zc_cV F6 (zc_C1_add F6.2 h_a1 (by unfold zv_rg; omega) (by unfold zv_rg; omega)) fun g7 F7 => ?_
        exact zc_bx F7 k6
    rw [qE3_fact]
    refine zc_pI (K := fun v => (v = 0 ∨ v = 1)) (zc_C3_is F.2 h_a0 (by decide)) fun q1v r1 k1 => ?_
    dsimp only
    refine zm_if (fun c => ?_) (fun c => go _ _ F)
    refine zc_pI (K := fun v => (v = 0 ∨ v = 1)) (zc_C3_isSign F.2 h_a0 (by unfold zv_rg; omega)) fun q2v r2 k2 => ?_
    dsimp only
    refine zm_if (fun c => ?_) (fun c => go _ _ F)
    refine zc_pI (K := fun v => True) (zc_C3_asked F.2 h_a0) fun q3v r3 k3 => ?_
    dsimp only
    refine zc_cI (K := fun v => (v = 0 ∨ v = 1)) F (zc_C3_comparison F.2 h_a0 h_a1 r3) fun q4v q4h F4 r4 k4 => ?_
    exact zc_bx F4 k4
theorem zc_test0 {d : Nat} (h_a0 : zv_lay a0 = (1, 3)) (h_a1 : zv_lay a1 = (1, 1)) {h : zv_H} (hA : zc_A h) : zm_R (C3_test (d + 26) a0 a1 0 h) (zc_bb h) := zc_test (d := d + 18) h_a0 h_a1 (zc_side h_a0 h_a1 (zc_fact h_a0 h_a1 6 (d + 18) 0 (by omega) (by omega) rfl)) h hA
theorem zc_L3_head_52 {d : Nat} (h_a0 : zv_lay a0 = (1, 3)) (h_a1 : zv_lay a1 = (1, 0)) {h : zv_H} (F : zc_Q h0 h) : zm_R (L3_head_52 (d + 26) a0 a1 h) (zm_V fun h' => zc_Q h0 h') := by
  rw [qL3_head_52]
  refine zc_rI F h_a0 fun v1 e1 r1 => ?_
  refine zm_if (fun c => ?_) (fun c => zm_iV F)
  refine zc_pI (K := fun v => (v = 0 ∨ v = 1)) (zc_C3_is F.2 h_a0 (by decide)) fun q1v r1 k1 => ?_
  dsimp only
  refine zm_if (fun c => zm_iV F) (fun c => ?_)
  refine zc_cI (K := fun v => (v = 0 ∨ v = 1)) F (zc_C3_next F.2 h_a0) fun q2v q2h F r2 k2 => ?_
  dsimp only
  refine zm_if (fun c => zm_iV F) (fun c => ?_)
  refine zc_rF F 22 h_a1 ?_
  refine zc_cV F (zc_C1_clear F.2 (zc_y0_8 h_a1).1) fun g5 F => ?_
  refine zc_rF F 22 h_a1 ?_
  refine zc_cI (K := fun v => (v = 0 ∨ v = 1)) F (zc_test0 h_a0 (zc_y0_8 h_a1).1 F.2) fun q7v q7h F r7 k7 => ?_
  dsimp only
  refine zm_if (fun c => zm_iV F) (fun c => ?_)
  refine zc_cI (K := fun v => (v = 0 ∨ v = 1)) F (zc_C3_closed F.2 h_a0) fun q8v q8h F r8 k8 => ?_
  dsimp only
  refine zm_if (fun c => zm_iV F) (fun c => ?_)
  refine zc_cI (K := fun v => (v = 0 ∨ v = 1)) F (zc_C3_next F.2 h_a0) fun q9v q9h F r9 k9 => ?_
  exact zm_iV F
theorem zc_C3_head {d : Nat} {h : zv_H} (hA : zc_A h) (h_a0 : zv_lay a0 = (1, 3)) (h_a1 : zv_lay a1 = (1, 0)) : zm_R (C3_head (d + 27) a0 a1 h) (fun q => zc_Q h q) := by
  refine zm_cV (fun e => lC3_head (zc_ob hA h_a0) e) ?_
  have F := zc_Q_r hA
  have go : ∀ {h'}, zc_Q h h' → zm_R (L3_head_52 (d + 26) a0 a1 h') (zm_V fun h' => zc_Q h h') := fun F => zc_L3_head_52 h_a0 h_a1 F
  rw [qE3_head]
  refine zc_rI F h_a0 fun v1 e1 r1 => ?_
  refine zm_if (fun c => ?_) (fun c => go F)
  refine zc_pI (K := fun v => (v = 0 ∨ v = 1)) (zc_C3_is F.2 h_a0 (by decide)) fun q1v r1 k1 => ?_
  dsimp only
  refine zm_if (fun c => go F) (fun c => ?_)
  refine zc_cI (K := fun v => (v = 0 ∨ v = 1)) F (zc_C3_next F.2 h_a0) fun q2v q2h F r2 k2 => ?_
  dsimp only
  refine zm_if (fun c => go F) (fun c => ?_)
  refine zc_cI (K := fun v => (v = 0 ∨ v = 1)) F (zc_C3_spelled F.2 h_a0 (by unfold zv_rg; omega)) fun q3v q3h F r3 k3 => ?_
  dsimp only
  refine zm_if (fun c => go F) (fun c => ?_)
  refine zc_cI (K := fun v => (v = 0 ∨ v = 1)) F (zc_C3_closed F.2 h_a0) fun q4v q4h F r4 k4 => ?_
  dsimp only
  refine zm_if (fun c => go F) (fun c => ?_)
  refine zc_rF F 2 h_a0 ?_
  refine zc_cV F (zc_C0_startWith F.2 h_a1 (zc_y3_1 h_a0).1) fun g7 F => ?_
  refine zc_cI (K := fun v => (v = 0 ∨ v = 1)) F (zc_C3_next F.2 h_a0) fun q8v q8h F r8 k8 => ?_
  exact go F
end
end
