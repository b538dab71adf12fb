/-! ===== the class: telling changes reckoned cells alone ===== -/
section
variable {d : Nat} {h : zv_H}
theorem zd_C8_tellNames (hA : zc_A h) : zm_R (C8_tellNames (d + 4) 1 h) (fun q => zd_Q h q) := by
  refine zm_cV (fun e => lC8_tellNames (zc_ob hA zc_h8) e) ?_
  have F0 := zd_Q_r hA
  have hN := (zc_y0_6 (zd_xH F0).1).1
  have loop : ∀ (n : Nat) (g : zv_H) (i : Int), zd_Q h g → 0 ≤ i → (2147483647 - i).toNat = n → zv_rg i → zm_R (L8_tellNames_10 (d + 3) 1 (zv_R h 1 3 + 14) i g) (zm_V fun h' => zd_Q h h') := by
    intro n
    induction n using Nat.strongRecOn with
    | _ n ih =>
      intro g i F h0 hn ri
      rw [qL8_tellNames_10]
      refine zd_rI F hN fun v1 e1 r1 => ?_
      refine zm_if (fun c => ?_) (fun c => zm_iV F)
      have inner : ∀ (m : Nat) (g : zv_H) (k : Int), zd_Q h g → zv_rg k → k.toNat ≤ m → zm_R (L8_tellNames_34 (d + 3) 1 (zv_R h 1 3 + 14) i k g) (zm_V fun h' => zd_Q h h') := by
        intro m
        have stop : ∀ (g : zv_H) (k : Int), zd_Q h g → k ≤ 0 → zm_R (L8_tellNames_34 (d + 3) 1 (zv_R h 1 3 + 14) i k g) (zm_V fun h' => zd_Q h h') := fun g k F hk => by
          rw [qL8_tellNames_34, if_pos hk]
          refine zd_cV F (zd_C8_tellByte F.2 zc_h8 (by unfold zv_rg; omega)) fun g1 F => ?_
          refine zc_pI (K := fun _ => True) (zc_C2_ownerAt F.2 hN ri) fun v2 r2 _ => ?_
          dsimp only
          refine zd_cV F (zd_C8_tellNumber F.2 zc_h8 r2) fun g3 F => ?_
          exact ih _ (by rw [← hn]; exact zc_up ri r1 c) g3 _ F (by rw [zc_up1 ri r1 c]; omega) rfl (zc_w _)
        induction m with
        | zero => intro g k F rk hk; exact stop g k F (by omega)
        | succ m ihm =>
          intro g k F rk hk
          by_cases c0 : k ≤ 0
          · exact stop g k F c0
          · rw [qL8_tellNames_34, if_neg c0]
            refine zd_cV F (zd_C8_tellByte F.2 zc_h8 (zc_w _)) fun g1 F => ?_
            refine ihm g1 _ F (zc_ushr _ _) ?_
            unfold zv_rg at rk
            rw [zc_ushr5 (by omega) (by omega)]
            omega
      have L28 : ∀ g, zd_Q h g → zm_R (L8_tellNames_28 (d + 3) 1 (zv_R h 1 3 + 14) i g) (zm_V fun h' => zd_Q h h') := fun g F => by
        rw [qL8_tellNames_28]
        refine zc_pI (K := fun _ => True) (zc_C2_keyAt F.2 hN ri) fun v2 r2 _ => ?_
        exact inner _ g v2 F r2 (Nat.le_refl _)
      refine zm_if (fun c => L28 g F) (fun c => ?_)
      refine zd_cV F (zd_C8_tellByte F.2 zc_h8 (by unfold zv_rg; omega)) fun g1 F => ?_
      exact L28 g1 F
  rw [qE8_tellNames]
  refine zd_rRo F0 zc_h8 ?_
  refine zd_rF F0 14 (zd_xH F0).1 ?_
  exact loop _ h 0 F0 (by omega) rfl (by unfold zv_rg; omega)
theorem zd_C8_tell (hA : zc_A h) {x : Int} (rx : zv_rg x) : zm_R (C8_tell (d + 6) 1 x h) (fun q => zd_Q h q.2 ∧ zv_rg q.1 ∧ True) := by
  refine zm_cI (P := fun v h' => zd_Q h h' ∧ zv_rg v ∧ True) (fun e => lC8_tell (zc_ob hA zc_h8) e) ?_
  have F := zd_Q_r hA
  have fin : ∀ g, zd_Q h g → zm_R (L8_tell_47 (d + 5) 1 g) (zm_I fun v h' => zd_Q h h' ∧ zv_rg v ∧ True) := fun g F => by
    rw [qL8_tell_47]
    refine zd_rI F zc_h8 fun v1 e1 r1 => ?_
    refine zd_cI (K := fun _ => True) F (zd_C8_given F.2 zc_h8 r1) fun v2 h2 F2 r2 _ => ?_
    exact zm_iI ⟨F2, r2, trivial⟩
  rw [qE8_tell]
  refine zc_pI (K := fun v => (v = 0 ∨ v = 1)) (zc_C8_within hA rx (by unfold zv_rg; omega) (by unfold zv_rg; omega)) fun v1 r1 _ => ?_
  dsimp only
  refine zm_if (fun c => ?_) (fun c => ?_)
  · refine zd_cI (K := fun _ => True) F (zd_C8_refused hA zc_h8 (by unfold zv_rg; omega)) fun v2 h2 F2 r2 _ => ?_
    exact zm_iI ⟨F2, r2, trivial⟩
  · refine zd_wO F zc_h8 (zc_frO zc_h8 (by decide) (by decide) rfl (by decide)) (by unfold zv_rg; omega) fun g3 F => ?_
    refine zm_if (fun c => ?_) (fun c => ?_)
    · exact zd_cV F (zd_C8_tellDocument F.2 zc_h8) fun g4 F => fin g4 F
    · refine zm_if (fun c => ?_) (fun c => ?_)
      · exact zd_cV F (zd_C8_tellLine F.2 zc_h8) fun g4 F => fin g4 F
      · exact zd_cV F (zd_C8_tellNames F.2) fun g4 F => fin g4 F
end
