theorem zc_or (x y : Int) : zv_rg (zv_or x y) := zv_rg_toInt _
theorem zc_and (x y : Int) : zv_rg (zv_and x y) := zv_rg_toInt _
theorem zc_shl (x y : Int) : zv_rg (zv_shl x y) := zv_rg_toInt _
theorem zc_shr (x y : Int) : zv_rg (zv_shr x y) := zv_rg_toInt _
theorem zc_ushr (x y : Int) : zv_rg (zv_ushr x y) := zv_rg_toInt _
theorem zc_l2i (x : Int64) : zv_rg (zv_l2i x) := zv_rg_toInt _
/-- the first of a group is there, in the same half -/
theorem zc_fV1 {h : zv_H} (hA : zc_A h) : ∀ (n : Nat) (s : Nat), zc_V h s → (zv_I h s 10).toNat = n → zc_V h (zv_R h s 5) ∧ zc_hf (zv_R h s 5) = zc_hf s := by
  intro n
  induction n with
  | zero =>
    intro s hV hn
    have t := hA.2.1 s hV.1
    have d := zc_dep (zc_Q_r hA) hV
    cases t with
    | inl t => exact absurd t.1 (by rw [hV.2]; decide)
    | inr t =>
      cases t.2.2.2.1 with
      | inl u => rw [u]; exact ⟨hV, rfl⟩
      | inr u =>
        have u1 := d.2.resolve_left u.1
        have := (zc_dep (zc_Q_r hA) u1.1).1
        have := u1.2.2
        omega
  | succ n ih =>
    intro s hV hn
    have t := hA.2.1 s hV.1
    have d := zc_dep (zc_Q_r hA) hV
    cases t with
    | inl t => exact absurd t.1 (by rw [hV.2]; decide)
    | inr t =>
      cases t.2.2.2.1 with
      | inl u => rw [u]; exact ⟨hV, rfl⟩
      | inr u =>
        have u1 := d.2.resolve_left u.1
        have := (zc_dep (zc_Q_r hA) u1.1).1
        have u2 := u1.2.2
        have i := ih _ u1.1 (by omega)
        rw [u.2]
        exact ⟨i.1, i.2.trans u1.2.1⟩
theorem zc_fV {h0 h : zv_H} (F : zc_Q h0 h) {s : Nat} (hV : zc_V h0 s) : zc_V h0 (zv_R h0 s 5) := by
  have i := (zc_fV1 F.2 _ s (zc_Vq F.1 hV) rfl).1
  rw [zc_sR_q F.1 hV.1 5] at i
  exact zc_Vb F.1 i
theorem zc_L0_groups_7 {d : Nat} {h0 : zv_H} (hA : zc_A h0) (N_L0_groups_7 : Nat) : ∀ {a0 : Nat} {a1 : Int} {a2 : Nat}, (zv_lay a0 = (1, 0)) → (zv_rg a1) → (a2 = 0 ∨ zc_V h0 a2) → zc_dm h0 a2 = N_L0_groups_7 → zm_R (L0_groups_7 (d + 0) a0 a1 a2 h0) (zm_I fun v h' => h' = h0 ∧ zv_rg v ∧ True) := by
  induction N_L0_groups_7 using Nat.strongRecOn with
  | _ N_L0_groups_7 ih_L0_groups_7 =>
    intro a0 a1 a2 h_a0 h_a1 h_a2 eN
    rw [qL0_groups_7]
    refine zm_if (fun c1 => ?_) (fun c1 => ?_)
    · exact zm_iI ⟨rfl, h_a1, trivial⟩
    · refine zc_rF (zc_Q_r hA) 1 h_a0 ?_
      refine zm_if (fun c2 => ?_) (fun c2 => ?_)
      · have w_a2 := zv_lay_lt (zc_ly (h_a2.resolve_left c1).1)
        have w_v1 := zv_lay_lt (zc_ly (zc_y0_0 h_a0).1)
        omega
      · refine zm_if (fun c3 => ?_) (fun c3 => ?_)
        · refine zc_rR5 (zc_Q_r hA) (h_a2.resolve_left c1).1 ?_
          exact ih_L0_groups_7 _ (by rw [← eN]; exact zc_dmP (zc_Q_r hA) (h_a2.resolve_left c1)) h_a0 (zc_w _) (zc_pV (zc_Q_r hA) (h_a2.resolve_left c1))  rfl
        · refine zc_rR5 (zc_Q_r hA) (h_a2.resolve_left c1).1 ?_
          refine zm_if (fun c4 => ?_) (fun c4 => ?_)
          · have w_v3 := zv_lay_lt (zc_ly (zc_fV (zc_Q_r hA) (h_a2.resolve_left c1)).1)
            have w_a2 := zv_lay_lt (zc_ly (h_a2.resolve_left c1).1)
            omega
          · refine zm_if (fun c5 => ?_) (fun c5 => ?_)
            · refine zc_rR5 (zc_Q_r hA) (h_a2.resolve_left c1).1 ?_
              exact ih_L0_groups_7 _ (by rw [← eN]; exact zc_dmP (zc_Q_r hA) (h_a2.resolve_left c1)) h_a0 (zc_w _) (zc_pV (zc_Q_r hA) (h_a2.resolve_left c1))  rfl
            · refine zc_rR5 (zc_Q_r hA) (h_a2.resolve_left c1).1 ?_
              exact ih_L0_groups_7 _ (by rw [← eN]; exact zc_dmP (zc_Q_r hA) (h_a2.resolve_left c1)) h_a0 (zc_w _) (zc_pV (zc_Q_r hA) (h_a2.resolve_left c1))  rfl
theorem zc_E0_groups {d : Nat} {h : zv_H} {a0 : Nat} (hA : zc_A h) (h_a0 : zv_lay a0 = (1, 0)) : zm_R (E0_groups (d + 0) a0 h) (zm_I fun v h' => h' = h ∧ zv_rg v ∧ True) := by
  have F0 := zc_Q_r hA
  rw [qE0_groups]
  refine zc_rRo F0 h_a0 ?_
  exact zc_L0_groups_7 hA  _ h_a0 (by unfold zv_rg; omega) (Or.inr (zc_hV F0 h_a0).1)  rfl
theorem zc_C0_groups {d : Nat} {h : zv_H} {a0 : Nat} (hA : zc_A h) (h_a0 : zv_lay a0 = (1, 0)) : zm_R (C0_groups (d + 1) a0 h) (fun q => q.2 = h ∧ zv_rg q.1 ∧ True) := zm_cI (fun e => lC0_groups (zc_ob hA h_a0) e) (zc_E0_groups hA h_a0)
theorem zc_L0_longestCommon_58 {d : Nat} {h0 : zv_H} {N_L0_longestCommon_34 : Nat} (ih_L0_longestCommon_34 : ∀ m, m < N_L0_longestCommon_34 → ∀ {h : zv_H} {a0 : Nat} {a1 : Nat} {a2 : Nat} {a3 : Int} {a4 : Int}, zc_Q h0 h → (zv_lay a0 = (1, 0)) → (zv_lay a1 = (1, 5)) → (zv_lay a2 = (1, 5)) → ((0 ≤ a3 ∧ a3 < 121) ∧ zv_rg a3) → (0 ≤ a4 ∧ zv_rg a4) → (2147483647 - a4).toNat = m → zm_R (L0_longestCommon_34 (d + 2) a0 a1 a2 a3 a4 h) (zm_I fun v h' => zc_Q h0 h' ∧ zv_rg v ∧ True)) (N_L0_longestCommon_58 : Nat) : ∀ {h : zv_H} {a0 : Nat} {a1 : Nat} {a2 : Nat} {a3 : Int} {a4 : Int} {a5 : Int} {a6 : Int} {a7 : Int}, zc_Q h0 h → (zv_lay a0 = (1, 0)) → (zv_lay a1 = (1, 5)) → (zv_lay a2 = (1, 5)) → ((0 ≤ a3 ∧ a3 < 121) ∧ zv_rg a3) → (zv_rg a4) → (zv_rg a5) → (zv_rg a6) → ((1 ≤ a7 ∧ a7 < 2147483648) ∧ zv_rg a7) → ((2147483647 - (zv_w (a4 + 1))).toNat < N_L0_longestCommon_34 ∧ 0 ≤ (zv_w (a4 + 1))) → (2147483647 - a7).toNat = N_L0_longestCommon_58 → zm_R (L0_longestCommon_58 (d + 2) a0 a1 a2 a3 a4 a5 a6 a7 h) (zm_I fun v h' => zc_Q h0 h' ∧ zv_rg v ∧ True) := by
  induction N_L0_longestCommon_58 using Nat.strongRecOn with
  | _ N_L0_longestCommon_58 ih_L0_longestCommon_58 =>
    intro h a0 a1 a2 a3 a4 a5 a6 a7 F0 h_a0 h_a1 h_a2 h_a3 h_a4 h_a5 h_a6 h_a7 hm_L0_longestCommon_34 eN
    rw [qL0_longestCommon_58]
    have z_a3 := h_a3.1
    have z_a7 := h_a7.1
    refine zm_if (fun c1 => ?_) (fun c1 => ?_)
    · refine zc_rF F0 7 h_a0 ?_
      refine zc_rA F0 (zc_y0_4 h_a0).1 (zc_y0_4 h_a0).2 (by omega) (by omega) fun v2 r_v2 => ?_
      refine zc_rF F0 7 h_a0 ?_
      refine zc_pI (K := fun v => True) (zc_C0_letterAt F0.2 h_a0 h_a2 (zc_w _)) fun q4v r_q4 k_q4 => ?_
      dsimp only
      refine zm_if (fun c3 => ?_) (fun c3 => ?_)
      · refine zc_wA F0 (zc_y0_4 h_a0).1 (zc_y0_4 h_a0).2 (by omega) (by omega) (zc_w _) fun g5 F4 u_g5 => ?_
        exact ih_L0_longestCommon_58 _ (by rw [← eN]; exact zc_up h_a7.2 (show zv_rg (a3 + 1) from (by unfold zv_rg at *; omega)) (by omega)) F4 h_a0 h_a1 h_a2 ⟨by unfold zv_rg at *; omega, h_a3.2⟩ h_a4 h_a5 r_v2 ⟨by rw [zm_w (by omega)]; omega, (zc_w _)⟩ hm_L0_longestCommon_34 rfl
      · refine zc_rF F0 7 h_a0 ?_
        refine zc_rA F0 (zc_y0_4 h_a0).1 (zc_y0_4 h_a0).2 (by first | omega | (rw [zm_w (by omega)]; omega)) (by first | omega | (rw [zm_w (by omega)]; omega)) fun v7 r_v7 => ?_
        refine zc_wA F0 (zc_y0_4 h_a0).1 (zc_y0_4 h_a0).2 (by omega) (by omega) (zc_mx r_v2 r_v7) fun g8 F5 u_g8 => ?_
        exact ih_L0_longestCommon_58 _ (by rw [← eN]; exact zc_up h_a7.2 (show zv_rg (a3 + 1) from (by unfold zv_rg at *; omega)) (by omega)) F5 h_a0 h_a1 h_a2 ⟨by unfold zv_rg at *; omega, h_a3.2⟩ h_a4 h_a5 r_v2 ⟨by rw [zm_w (by omega)]; omega, (zc_w _)⟩ hm_L0_longestCommon_34 rfl
    · exact ih_L0_longestCommon_34 _ hm_L0_longestCommon_34.1 F0 h_a0 h_a1 h_a2 ⟨by unfold zv_rg at *; omega, h_a3.2⟩ ⟨hm_L0_longestCommon_34.2, (zc_w _)⟩  rfl
theorem zc_L0_longestCommon_34 {d : Nat} {h0 : zv_H} (N_L0_longestCommon_34 : Nat) : ∀ {h : zv_H} {a0 : Nat} {a1 : Nat} {a2 : Nat} {a3 : Int} {a4 : Int}, zc_Q h0 h → (zv_lay a0 = (1, 0)) → (zv_lay a1 = (1, 5)) → (zv_lay a2 = (1, 5)) → ((0 ≤ a3 ∧ a3 < 121) ∧ zv_rg a3) → (0 ≤ a4 ∧ zv_rg a4) → (2147483647 - a4).toNat = N_L0_longestCommon_34 → zm_R (L0_longestCommon_34 (d + 2) a0 a1 a2 a3 a4 h) (zm_I fun v h' => zc_Q h0 h' ∧ zv_rg v ∧ True) := by
  induction N_L0_longestCommon_34 using Nat.strongRecOn with
  | _ N_L0_longestCommon_34 ih_L0_longestCommon_34 =>
    intro h a0 a1 a2 a3 a4 F0 h_a0 h_a1 h_a2 h_a3 h_a4 eN
    rw [qL0_longestCommon_34]
    have z_a3 := h_a3.1
    have z_a4 := h_a4.1
    refine zc_rI F0 h_a1 fun v1 e_v1 r_v1 => ?_
    have b_v1 := zc_bdv (k := 12) (m := 120) F0 h_a1 rfl
    rw [← e_v1] at b_v1
    refine zm_if (fun c1 => ?_) (fun c1 => ?_)
    · refine zc_pI (K := fun v => True) (zc_C0_letterAt F0.2 h_a0 h_a1 h_a4.2) fun q2v r_q2 k_q2 => ?_
      dsimp only
      exact zc_L0_longestCommon_58 ih_L0_longestCommon_34 _ F0 h_a0 h_a1 h_a2 ⟨by unfold zv_rg at *; omega, h_a3.2⟩ h_a4.2 r_q2 (by unfold zv_rg; omega) ⟨by unfold zv_rg at *; omega, (by unfold zv_rg; omega)⟩ ⟨(by rw [← eN]; exact zc_up h_a4.2 r_v1 c1), (⟨by rw [zc_up1 h_a4.2 r_v1 c1]; omega, zc_w _⟩ : 0 ≤ (zv_w (a4 + 1)) ∧ zv_rg (zv_w (a4 + 1))).1⟩ rfl
    · refine zc_rF F0 7 h_a0 ?_
      refine zc_rA F0 (zc_y0_4 h_a0).1 (zc_y0_4 h_a0).2 (by omega) (by omega) fun v4 r_v4 => ?_
      exact zm_iI ⟨F0, r_v4, trivial⟩
theorem zc_L0_longestCommon_2 {d : Nat} {h0 : zv_H} (N_L0_longestCommon_2 : Nat) : ∀ {h : zv_H} {a0 : Nat} {a1 : Nat} {a2 : Nat} {a3 : Int}, zc_Q h0 h → (zv_lay a0 = (1, 0)) → (zv_lay a1 = (1, 5)) → (zv_lay a2 = (1, 5)) → (0 ≤ a3 ∧ zv_rg a3) → (2147483647 - a3).toNat = N_L0_longestCommon_2 → zm_R (L0_longestCommon_2 (d + 2) a0 a1 a2 a3 h) (zm_I fun v h' => zc_Q h0 h' ∧ zv_rg v ∧ True) := by
  induction N_L0_longestCommon_2 using Nat.strongRecOn with
  | _ N_L0_longestCommon_2 ih_L0_longestCommon_2 =>
    intro h a0 a1 a2 a3 F0 h_a0 h_a1 h_a2 h_a3 eN
    rw [qL0_longestCommon_2]
    have z_a3 := h_a3.1
    refine zm_if (fun c1 => ?_) (fun c1 => ?_)
    · refine zc_rF F0 7 h_a0 ?_
      refine zc_wA F0 (zc_y0_4 h_a0).1 (zc_y0_4 h_a0).2 (by omega) (by omega) (by unfold zv_rg; omega) fun g2 F2 u_g2 => ?_
      exact ih_L0_longestCommon_2 _ (by rw [← eN]; exact zc_up h_a3.2 (show zv_rg ((120 : Int) + 1) from (by unfold zv_rg at *; omega)) (by omega)) F2 h_a0 h_a1 h_a2 ⟨by rw [zc_up1 h_a3.2 (show zv_rg ((120 : Int) + 1) from (by unfold zv_rg at *; omega)) (by omega)]; omega, zc_w _⟩  rfl
    · refine zc_rI F0 h_a2 fun v3 e_v3 r_v3 => ?_
      have b_v3 := zc_bdv (k := 12) (m := 120) F0 h_a2 rfl
      rw [← e_v3] at b_v3
      exact zc_L0_longestCommon_34  _ F0 h_a0 h_a1 h_a2 ⟨by unfold zv_rg at *; omega, (zc_mn r_v3 (by unfold zv_rg; omega))⟩ ⟨by omega, (by unfold zv_rg; omega)⟩  rfl
theorem zc_E0_longestCommon {d : Nat} {h : zv_H} {a0 : Nat} {a1 : Nat} {a2 : Nat} (hA : zc_A h) (h_a0 : zv_lay a0 = (1, 0)) (h_a1 : zv_lay a1 = (1, 5)) (h_a2 : zv_lay a2 = (1, 5)) : zm_R (E0_longestCommon (d + 2) a0 a1 a2 h) (zm_I fun v h' => zc_Q h h' ∧ zv_rg v ∧ True) := by
  have F0 := zc_Q_r hA
  rw [qE0_longestCommon]
  exact zc_L0_longestCommon_2  _ F0 h_a0 h_a1 h_a2 ⟨by omega, (by unfold zv_rg; omega)⟩  rfl
theorem zc_C0_longestCommon {d : Nat} {h : zv_H} {a0 : Nat} {a1 : Nat} {a2 : Nat} (hA : zc_A h) (h_a0 : zv_lay a0 = (1, 0)) (h_a1 : zv_lay a1 = (1, 5)) (h_a2 : zv_lay a2 = (1, 5)) : zm_R (C0_longestCommon (d + 3) a0 a1 a2 h) (fun q => zc_Q h q.2 ∧ zv_rg q.1 ∧ True) := zm_cI (fun e => lC0_longestCommon (zc_ob hA h_a0) e) (zc_E0_longestCommon hA h_a0 h_a1 h_a2)
theorem zc_E0_passTime {d : Nat} {h : zv_H} {a0 : Nat} {a1 : Int} (hA : zc_A h) (h_a0 : zv_lay a0 = (1, 0)) (h_a1 : zv_rg a1) : zm_R (E0_passTime (d + 1) a0 a1 h) (zm_I fun v h' => zc_Q h h' ∧ zv_rg v ∧ True) := by
  have F0 := zc_Q_r hA
  rw [qE0_passTime]
  refine zc_pI (K := fun v => (v = 0 ∨ v = 1)) (zc_C8_within F0.2 h_a1 (by unfold zv_rg; omega) (by unfold zv_rg; omega)) fun q1v r_q1 k_q1 => ?_
  dsimp only
  refine zm_if (fun c2 => ?_) (fun c2 => ?_)
  · exact zm_iI ⟨F0, (by unfold zv_rg; omega), trivial⟩
  · refine zc_rI F0 h_a0 fun v2 e_v2 r_v2 => ?_
    refine zc_wO F0 h_a0 (zc_frO h_a0 (zc_lt h_a0 (by decide)) (by decide) rfl (by decide)) (zc_w _) fun g3 F3 => ?_
    refine zc_rI F3 h_a0 fun v4 e_v4 r_v4 => ?_
    exact zm_iI ⟨F3, r_v4, trivial⟩
theorem zc_C0_passTime {d : Nat} {h : zv_H} {a0 : Nat} {a1 : Int} (hA : zc_A h) (h_a0 : zv_lay a0 = (1, 0)) (h_a1 : zv_rg a1) : zm_R (C0_passTime (d + 2) a0 a1 h) (fun q => zc_Q h q.2 ∧ zv_rg q.1 ∧ True) := zm_cI (fun e => lC0_passTime (zc_ob hA h_a0) e) (zc_E0_passTime hA h_a0 h_a1)
theorem zc_L0_behind_7 {d : Nat} {h0 : zv_H} (hA : zc_A h0) (N_L0_behind_7 : Nat) : ∀ {a1 : Int} {a2 : Nat} {a3 : Int}, (zv_rg a1) → (a2 = 0 ∨ zc_V h0 a2) → (0 ≤ a3 ∧ zv_rg a3) → (2147483647 - a3).toNat = N_L0_behind_7 → zm_R (L0_behind_7 (d + 0) a1 a2 a3 h0) (zm_N fun v h' => h' = h0 ∧ ((v = 0 ∨ zc_V h0 v))) := by
  induction N_L0_behind_7 using Nat.strongRecOn with
  | _ N_L0_behind_7 ih_L0_behind_7 =>
    intro a1 a2 a3 h_a1 h_a2 h_a3 eN
    rw [qL0_behind_7]
    have z_a3 := h_a3.1
    refine zm_if (fun c1 => ?_) (fun c1 => ?_)
    · refine zm_if (fun c2 => ?_) (fun c2 => ?_)
      · exact zm_iN ⟨rfl, h_a2⟩
      · refine zc_rR5 (zc_Q_r hA) (h_a2.resolve_left c2).1 ?_
        refine zm_if (fun c3 => ?_) (fun c3 => ?_)
        · exact absurd c3 (zc_nz (zc_fV (zc_Q_r hA) (h_a2.resolve_left c2)).1)
        · refine zc_rR5 (zc_Q_r hA) (h_a2.resolve_left c2).1 ?_
          refine zc_rR5 (zc_Q_r hA) (zc_fV (zc_Q_r hA) (h_a2.resolve_left c2)).1 ?_
          exact ih_L0_behind_7 _ (by rw [← eN]; exact zc_up h_a3.2 h_a1 c1) h_a1 (zc_pV (zc_Q_r hA) (zc_fV (zc_Q_r hA) (h_a2.resolve_left c2))) ⟨by rw [zc_up1 h_a3.2 h_a1 c1]; omega, zc_w _⟩  rfl
    · exact zm_iN ⟨rfl, h_a2⟩
theorem zc_E0_behind {d : Nat} {h : zv_H} {a0 : Nat} {a1 : Int} (hA : zc_A h) (h_a0 : zv_lay a0 = (1, 0)) (h_a1 : zv_rg a1) : zm_R (E0_behind (d + 0) a0 a1 h) (zm_N fun v h' => h' = h ∧ ((v = 0 ∨ zc_V h v))) := by
  have F0 := zc_Q_r hA
  rw [qE0_behind]
  refine zc_rRo F0 h_a0 ?_
  exact zc_L0_behind_7 hA  _ h_a1 (Or.inr (zc_hV F0 h_a0).1) ⟨by omega, (by unfold zv_rg; omega)⟩  rfl
theorem zc_C0_behind {d : Nat} {h : zv_H} {a0 : Nat} {a1 : Int} (hA : zc_A h) (h_a0 : zv_lay a0 = (1, 0)) (h_a1 : zv_rg a1) : zm_R (C0_behind (d + 1) a0 a1 h) (fun q => q.2 = h ∧ ((q.1 = 0 ∨ zc_V h q.1))) := zm_cN (fun e => lC0_behind (zc_ob hA h_a0) e) (zc_E0_behind hA h_a0 h_a1)
theorem zc_L7_key_24 {d : Nat} {h0 : zv_H} (hA : zc_A h0) (N_L7_key_24 : Nat) : ∀ {a0 : Nat} {a1 : Int} {a2 : Int}, (zv_lay a0 = (1, 7)) → (zv_rg a1) → (zv_rg a2) → (a2 + 1).toNat = N_L7_key_24 → zm_R (L7_key_24 (d + 1) a0 a1 a2 h0) (zm_I fun v h' => h' = h0 ∧ zv_rg v ∧ True) := by
  induction N_L7_key_24 using Nat.strongRecOn with
  | _ N_L7_key_24 ih_L7_key_24 =>
    intro a0 a1 a2 h_a0 h_a1 h_a2 eN
    rw [qL7_key_24]
    refine zm_if (fun c1 => ?_) (fun c1 => ?_)
    · exact zm_iI ⟨rfl, h_a1, trivial⟩
    · refine zc_pI (K := fun v => True) (zc_C7_at (zc_Q_r hA).2 h_a0 h_a2) fun q1v r_q1 k_q1 => ?_
      dsimp only
      exact ih_L7_key_24 _ (by rw [← eN]; exact zc_dn h_a2 c1) h_a0 (zc_or _ _) (zc_w _)  rfl
theorem zc_E7_key {d : Nat} {h : zv_H} {a0 : Nat} (hA : zc_A h) (h_a0 : zv_lay a0 = (1, 7)) : zm_R (E7_key (d + 1) a0 h) (zm_I fun v h' => h' = h ∧ zv_rg v ∧ True) := by
  have F0 := zc_Q_r hA
  rw [qE7_key]
  refine zc_rI F0 h_a0 fun v1 e_v1 r_v1 => ?_
  have b_v1 := zc_bdv (k := 1) (m := 40) F0 h_a0 rfl
  rw [← e_v1] at b_v1
  refine zc_pI (K := fun v => (v = 0 ∨ v = 1)) (zc_C8_within F0.2 r_v1 (by unfold zv_rg; omega) (by unfold zv_rg; omega)) fun q2v r_q2 k_q2 => ?_
  dsimp only
  refine zm_if (fun c2 => ?_) (fun c2 => ?_)
  · exact zm_iI ⟨rfl, (by unfold zv_rg; omega), trivial⟩
  · refine zc_rI F0 h_a0 fun v3 e_v3 r_v3 => ?_
    have b_v3 := zc_bdv (k := 1) (m := 40) F0 h_a0 rfl
    rw [← e_v3] at b_v3
    exact zc_L7_key_24 hA  _ h_a0 (by unfold zv_rg; omega) (zc_w _)  rfl
theorem zc_C7_key {d : Nat} {h : zv_H} {a0 : Nat} (hA : zc_A h) (h_a0 : zv_lay a0 = (1, 7)) : zm_R (C7_key (d + 2) a0 h) (fun q => q.2 = h ∧ zv_rg q.1 ∧ True) := zm_cI (fun e => lC7_key (zc_ob hA h_a0) e) (zc_E7_key hA h_a0)
theorem zc_E0_nameHere {d : Nat} {h : zv_H} {a0 : Nat} {a1 : Int} (hA : zc_A h) (h_a0 : zv_lay a0 = (1, 0)) (h_a1 : zv_rg a1) : zm_R (E0_nameHere (d + 2) a0 a1 h) (zm_I fun v h' => zc_Q h h' ∧ zv_rg v ∧ True) := by
  have F0 := zc_Q_r hA
  rw [qE0_nameHere]
  refine zm_if (fun c1 => ?_) (fun c1 => ?_)
  · exact zm_iI ⟨F0, (by unfold zv_rg; omega), trivial⟩
  · refine zc_rF F0 14 h_a0 ?_
    refine zc_pI (K := fun v => (v = -1 ∨ (0 ≤ v ∧ v < 12))) (zc_C2_indexOf F0.2 (zc_y0_6 h_a0).1 h_a1) fun q2v r_q2 k_q2 => ?_
    dsimp only
    refine zm_if (fun c3 => ?_) (fun c3 => ?_)
    · refine zc_rF F0 14 h_a0 ?_
      refine zc_rI F0 (zc_y0_6 h_a0).1 fun v4 e_v4 r_v4 => ?_
      refine zm_if (fun c4 => ?_) (fun c4 => ?_)
      · rw [qL0_nameHere_35]
        refine zm_if (fun c5 => ?_) (fun c5 => ?_)
        · rw [qL0_nameHere_61]
          refine zc_rF F0 14 h_a0 ?_
          refine zc_rRo F0 h_a0 ?_
          refine zc_rT F0 (zc_hV F0 h_a0).1.1 fun v3x1 e_v3x1 r_v3x1 => ?_
          refine zc_cV F0 (zc_C2_own F0.2 (zc_y0_6 h_a0).1 h_a1 r_v3x1) fun g4 F6 => ?_
          refine zc_rF F6 14 h_a0 ?_
          refine zc_rI F6 (zc_y0_6 h_a0).1 fun v6 e_v6 r_v6 => ?_
          exact zm_iI ⟨F6, r_v6, trivial⟩
        · refine zc_rF F0 14 h_a0 ?_
          refine zc_pI (K := fun v => True) (zc_C2_ownerAt F0.2 (zc_y0_6 h_a0).1 r_q2) fun q2x1v r_q2x1 k_q2x1 => ?_
          dsimp only
          refine zc_rRo F0 h_a0 ?_
          refine zc_rT F0 (zc_hV F0 h_a0).1.1 fun v4x1 e_v4x1 r_v4x1 => ?_
          refine zm_if (fun c8 => ?_) (fun c8 => ?_)
          · exact zm_iI ⟨F0, (by unfold zv_rg; omega), trivial⟩
          · rw [qL0_nameHere_61]
            refine zc_rF F0 14 h_a0 ?_
            refine zc_rRo F0 h_a0 ?_
            refine zc_rT F0 (zc_hV F0 h_a0).1.1 fun v3x3 e_v3x3 r_v3x3 => ?_
            refine zc_cV F0 (zc_C2_own F0.2 (zc_y0_6 h_a0).1 h_a1 r_v3x3) fun g4x1 F9 => ?_
            refine zc_rF F9 14 h_a0 ?_
            refine zc_rI F9 (zc_y0_6 h_a0).1 fun v6x1 e_v6x1 r_v6x1 => ?_
            exact zm_iI ⟨F9, r_v6x1, trivial⟩
      · exact zm_iI ⟨F0, (by unfold zv_rg; omega), trivial⟩
    · rw [qL0_nameHere_35]
      refine zm_if (fun c10 => ?_) (fun c10 => ?_)
      · rw [qL0_nameHere_61]
        refine zc_rF F0 14 h_a0 ?_
        refine zc_rRo F0 h_a0 ?_
        refine zc_rT F0 (zc_hV F0 h_a0).1.1 fun v3x4 e_v3x4 r_v3x4 => ?_
        refine zc_cV F0 (zc_C2_own F0.2 (zc_y0_6 h_a0).1 h_a1 r_v3x4) fun g4x2 F11 => ?_
        refine zc_rF F11 14 h_a0 ?_
        refine zc_rI F11 (zc_y0_6 h_a0).1 fun v6x2 e_v6x2 r_v6x2 => ?_
        exact zm_iI ⟨F11, r_v6x2, trivial⟩
      · refine zc_rF F0 14 h_a0 ?_
        refine zc_pI (K := fun v => True) (zc_C2_ownerAt F0.2 (zc_y0_6 h_a0).1 r_q2) fun q2x2v r_q2x2 k_q2x2 => ?_
        dsimp only
        refine zc_rRo F0 h_a0 ?_
        refine zc_rT F0 (zc_hV F0 h_a0).1.1 fun v4x2 e_v4x2 r_v4x2 => ?_
        refine zm_if (fun c13 => ?_) (fun c13 => ?_)
        · exact zm_iI ⟨F0, (by unfold zv_rg; omega), trivial⟩
        · rw [qL0_nameHere_61]
          refine zc_rF F0 14 h_a0 ?_
          refine zc_rRo F0 h_a0 ?_
          refine zc_rT F0 (zc_hV F0 h_a0).1.1 fun v3x6 e_v3x6 r_v3x6 => ?_
          refine zc_cV F0 (zc_C2_own F0.2 (zc_y0_6 h_a0).1 h_a1 r_v3x6) fun g4x3 F14 => ?_
          refine zc_rF F14 14 h_a0 ?_
          refine zc_rI F14 (zc_y0_6 h_a0).1 fun v6x3 e_v6x3 r_v6x3 => ?_
          exact zm_iI ⟨F14, r_v6x3, trivial⟩
theorem zc_C0_nameHere {d : Nat} {h : zv_H} {a0 : Nat} {a1 : Int} (hA : zc_A h) (h_a0 : zv_lay a0 = (1, 0)) (h_a1 : zv_rg a1) : zm_R (C0_nameHere (d + 3) a0 a1 h) (fun q => zc_Q h q.2 ∧ zv_rg q.1 ∧ True) := zm_cI (fun e => lC0_nameHere (zc_ob hA h_a0) e) (zc_E0_nameHere hA h_a0 h_a1)
theorem zc_L0_startWith_21 {d : Nat} {h0 : zv_H} (N_L0_startWith_21 : Nat) : ∀ {h : zv_H} {a0 : Nat} {a1 : Nat} {a2 : Int}, zc_Q h0 h → (zv_lay a0 = (1, 0)) → (zv_lay a1 = (1, 7)) → (0 ≤ a2 ∧ zv_rg a2) → (2147483647 - a2).toNat = N_L0_startWith_21 → zm_R (L0_startWith_21 (d + 1) a0 a1 a2 h) (zm_V fun h' => zc_Q h0 h') := by
  induction N_L0_startWith_21 using Nat.strongRecOn with
  | _ N_L0_startWith_21 ih_L0_startWith_21 =>
    intro h a0 a1 a2 F0 h_a0 h_a1 h_a2 eN
    rw [qL0_startWith_21]
    have z_a2 := h_a2.1
    refine zc_rI F0 h_a1 fun v1 e_v1 r_v1 => ?_
    have b_v1 := zc_bdv (k := 1) (m := 40) F0 h_a1 rfl
    rw [← e_v1] at b_v1
    refine zm_if (fun c1 => ?_) (fun c1 => ?_)
    · refine zc_pI (K := fun v => True) (zc_C4_id F0.2 (by unfold zv_rg; omega) h_a2.2) fun q2v r_q2 k_q2 => ?_
      dsimp only
      refine zc_pI (K := fun v => True) (zc_C7_at F0.2 h_a1 h_a2.2) fun q3v r_q3 k_q3 => ?_
      dsimp only
      refine zc_cV F0 (zc_C0_setGlyph F0.2 h_a0 r_q2 r_q3) fun g4 F4 => ?_
      refine zc_rF F4 1 h_a0 ?_
      refine zc_cV F4 (zc_C5_addId F4.2 (zc_y0_0 h_a0).1 r_q2) fun g6 F5 => ?_
      exact ih_L0_startWith_21 _ (by rw [← eN]; exact zc_up h_a2.2 r_v1 c1) F5 h_a0 h_a1 ⟨by rw [zc_up1 h_a2.2 r_v1 c1]; omega, zc_w _⟩  rfl
    · exact zm_iV F0
theorem zc_E0_startWith {d : Nat} {h : zv_H} {a0 : Nat} {a1 : Nat} (hA : zc_A h) (h_a0 : zv_lay a0 = (1, 0)) (h_a1 : zv_lay a1 = (1, 7)) : zm_R (E0_startWith (d + 1) a0 a1 h) (zm_V fun h' => zc_Q h h') := by
  have F0 := zc_Q_r hA
  rw [qE0_startWith]
  refine zc_rF F0 1 h_a0 ?_
  refine zc_rI F0 h_a1 fun v2 e_v2 r_v2 => ?_
  have b_v2 := zc_bdv (k := 1) (m := 40) F0 h_a1 rfl
  rw [← e_v2] at b_v2
  refine zc_wO F0 (zc_y0_0 h_a0).1 (zc_frO (zc_y0_0 h_a0).1 (zc_lt (zc_y0_0 h_a0).1 (by decide)) (by decide) rfl (by decide)) r_v2 fun g3 F1 => ?_
  refine zc_rF F1 1 h_a0 ?_
  refine zc_wL (m := 120) F1 (zc_y0_0 h_a0).1 rfl (by omega) (by omega) ?_ (fun _ => by decide)
  intro g5 F2
  exact zc_L0_startWith_21  _ F2 h_a0 h_a1 ⟨by omega, (by unfold zv_rg; omega)⟩  rfl
theorem zc_C0_startWith {d : Nat} {h : zv_H} {a0 : Nat} {a1 : Nat} (hA : zc_A h) (h_a0 : zv_lay a0 = (1, 0)) (h_a1 : zv_lay a1 = (1, 7)) : zm_R (C0_startWith (d + 2) a0 a1 h) (fun q => zc_Q h q) := zm_cV (fun e => lC0_startWith (zc_ob hA h_a0) e) (zc_E0_startWith hA h_a0 h_a1)
