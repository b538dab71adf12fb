/-! ===== the class: the reader ===== -/
theorem zc_wE {α : Type} {h0 h : zv_H} {P : α → Prop} (F : zc_Q h0 h) {r c k : Nat} {v : Int} (hr : zv_lay r = (1, c)) (hf : zc_fr r k) (hv : zv_rg v) {g : zv_H → Option α} (n : zc_Q h0 (zv_sI h r k v) → zm_R (g (zv_sI h r k v)) P) : zm_R ((zv_pI h r c k v).bind g) P := by
  have e : zv_pI h r c k v = some (zv_sI h r k v) := if_pos (zc_ob F.2 hr)
  rw [zm_e e]
  exact n (zc_Q_t F (zc_QI F.2 hf hv))
theorem zc_C3_is {d : Nat} {h : zv_H} {a0 a1 : Nat} (hA : zc_A h) (h_a0 : zv_lay a0 = (1, 3)) (h_a1 : 1000000 ≤ a1 ∧ a1 < 1000024) : zm_R (C3_is (d + 4) a0 a1 h) (fun q => q.2 = h ∧ zv_rg q.1 ∧ (q.1 = 0 ∨ q.1 = 1)) := by
  refine zm_cI (P := fun v h' => h' = h ∧ zv_rg v ∧ (v = 0 ∨ v = 1)) (fun e => lC3_is (zc_ob hA h_a0) e) ?_
  have F0 := zc_Q_r hA
  have no : zm_R (some (some (zv_i 0), h)) (zm_I fun v h' => h' = h ∧ zv_rg v ∧ (v = 0 ∨ v = 1)) := zm_iI ⟨rfl, by unfold zv_rg; omega, Or.inl rfl⟩
  have ln := (zm_tx_l (r := a1)).1
  have loop : ∀ (n : Nat) (a2 : Int), 0 ≤ a2 → ((zm_tx a1).length - a2).toNat = n → zm_R (L3_is_28 (d + 3) a0 a1 a2 h) (zm_I fun v h' => h' = h ∧ zv_rg v ∧ (v = 0 ∨ v = 1)) := by
    intro n
    induction n with
    | zero =>
      intro a2 z hn
      rw [qL3_is_28, zm_e (zm_slen h (d + 1) h_a1)]
      dsimp only
      rw [if_neg (by omega)]
      exact zm_iI ⟨rfl, by unfold zv_rg; omega, Or.inr rfl⟩
    | succ n ih =>
      intro a2 z hn
      rw [qL3_is_28, zm_e (zm_slen h (d + 1) h_a1)]
      dsimp only
      rw [if_pos (by omega)]
      refine zc_rI F0 h_a0 fun v2 e2 r2 => ?_
      refine zc_pI (K := fun _ => True) (zc_C3_byteAt hA h_a0 (zc_w _)) fun q3v r3 _ => ?_
      dsimp only
      have eu := zm_charAt h d h_a1 z (show a2 < ((zm_tx a1).length : Int) by omega)
      generalize (zm_tx a1).getD a2.toNat 0 = u at eu
      rw [zm_e eu]
      dsimp only
      refine zm_if (fun c => ?_) (fun c => no)
      rw [zm_w (by omega)]
      exact ih _ (by omega) (by omega)
  rw [qE3_is]
  refine zc_rI F0 h_a0 fun v1 e1 r1 => ?_
  refine zm_if (fun c1 => ?_) (fun c1 => no)
  refine zc_rI F0 h_a0 fun v2 e2 r2 => ?_
  refine zc_rI F0 h_a0 fun v3 e3 r3 => ?_
  rw [zm_e (zm_slen h (d + 1) h_a1)]
  dsimp only
  refine zm_if (fun c2 => ?_) (fun c2 => no)
  exact loop _ 0 (by omega) rfl
section
variable {h0 : zv_H} {a0 : Nat} (h_a0 : zv_lay a0 = (1, 3))
theorem zc_fr3 (h_a0 : zv_lay a0 = (1, 3)) {k : Nat} (hk : k ≠ 2 := by decide) : zc_fr a0 k := zc_frO h_a0 (zc_lt h_a0 (by decide)) (Or.inl (by decide)) (by unfold zc_bd; rw [if_neg (fun q => absurd q.1 (by decide)), if_neg (fun q => absurd q.1 (by decide)), if_neg (fun q => absurd q.1 (by decide))]) (Or.inr hk)
def zc_b (h0 : zv_H) : zv_O → Prop := fun o => zm_R o (zm_I fun v h' => zc_Q h0 h' ∧ zv_rg v ∧ (v = 0 ∨ v = 1))
theorem zc_b0 {h : zv_H} (F : zc_Q h0 h) : zc_b h0 (some (some (zv_i 0), h)) := zm_iI ⟨F, by unfold zv_rg; omega, Or.inl rfl⟩
theorem zc_b1 {h : zv_H} (F : zc_Q h0 h) : zc_b h0 (some (some (zv_i 1), h)) := zm_iI ⟨F, by unfold zv_rg; omega, Or.inr rfl⟩
theorem zc_L3_next_108 {d : Nat} (h_a0 : zv_lay a0 = (1, 3)) : ∀ (n : Nat) (h : zv_H), zc_Q h0 h → (zv_I h a0 3 - zv_I h a0 6).toNat ≤ n → zc_b h0 (L3_next_108 (d + 1) a0 h) := by
  intro n
  induction n with
  | zero =>
    intro h F hn
    rw [qL3_next_108]
    refine zc_rI F h_a0 fun v1 e1 r1 => ?_
    refine zc_rI F h_a0 fun v2 e2 r2 => ?_
    rw [← e1, ← e2] at hn
    rw [if_neg (by omega)]
    exact zc_b1 F
  | succ n ih =>
    intro h F hn
    rw [qL3_next_108]
    refine zc_rI F h_a0 fun v1 e1 r1 => ?_
    refine zc_rI F h_a0 fun v2 e2 r2 => ?_
    rw [← e1, ← e2] at hn
    refine zm_if (fun c => ?_) (fun c => zc_b1 F)
    refine zc_rI F h_a0 fun v3 e3 r3 => ?_
    refine zc_pI (K := fun _ => True) (zc_C3_byteAt F.2 h_a0 r3) fun q4v r4 _ => ?_
    dsimp only
    refine zc_pI (K := fun v => (v = 0 ∨ v = 1)) (zc_C3_isSmall F.2 r4) fun q5v r5 _ => ?_
    dsimp only
    refine zm_if (fun c => zc_b1 F) (fun c => ?_)
    refine zc_rI F h_a0 fun v6 e6 r6 => ?_
    refine zc_wE F h_a0 (zc_fr3 h_a0) (zc_w _) fun F2 => ?_
    refine ih _ F2 ?_
    rw [zc_sI2, zc_sI1 _ _ _ _ (fun e => absurd e.2 (by decide)), ← e2, zc_up1 r6 r2 (by omega)]
    omega
theorem zc_L3_next_242 {d : Nat} (h_a0 : zv_lay a0 = (1, 3)) {h : zv_H} (F : zc_Q h0 h) : zc_b h0 (L3_next_242 (d + 1) a0 h) := by
  rw [qL3_next_242]
  refine zc_rI F h_a0 fun v1 e1 r1 => ?_
  refine zc_rI F h_a0 fun v2 e2 r2 => ?_
  refine zm_if (fun c => zc_b1 F) (fun c => ?_)
  refine zc_cI (K := fun v => (v = 0)) F (zc_C3_fail F.2 h_a0 (by unfold zv_rg; omega)) fun q3v q3h F3 r3 k3 => ?_
  dsimp only
  exact zm_if (fun c => zc_b0 F3) (fun c => zc_b1 F3)
theorem zc_L3_next_302 {d : Nat} (h_a0 : zv_lay a0 = (1, 3)) {h : zv_H} (F : zc_Q h0 h) : zc_b h0 (L3_next_302 (d + 1) a0 h) := by
  rw [qL3_next_302]
  refine zc_rI F h_a0 fun v1 e1 r1 => ?_
  refine zm_if (fun c => zc_b1 F) (fun c => ?_)
  refine zc_rI F h_a0 fun v2 e2 r2 => ?_
  refine zm_if (fun c => zc_b1 F) (fun c => ?_)
  refine zc_cI (K := fun v => (v = 0)) F (zc_C3_fail F.2 h_a0 (by unfold zv_rg; omega)) fun q3v q3h F3 r3 k3 => ?_
  dsimp only
  exact zm_if (fun c => zc_b0 F3) (fun c => zc_b1 F3)
theorem zc_L3_next_168 {d : Nat} (h_a0 : zv_lay a0 = (1, 3)) : ∀ (n : Nat) (h : zv_H), zc_Q h0 h → (zv_I h a0 3 - zv_I h a0 6).toNat ≤ n → zc_b h0 (L3_next_168 (d + 1) a0 h) := by
  intro n
  induction n with
  | zero =>
    intro h F hn
    rw [qL3_next_168]
    refine zc_rI F h_a0 fun v1 e1 r1 => ?_
    refine zc_rI F h_a0 fun v2 e2 r2 => ?_
    rw [← e1, ← e2] at hn
    rw [if_neg (by omega)]
    exact zc_L3_next_242 h_a0 F
  | succ n ih =>
    intro h F hn
    rw [qL3_next_168]
    refine zc_rI F h_a0 fun v1 e1 r1 => ?_
    refine zc_rI F h_a0 fun v2 e2 r2 => ?_
    rw [← e1, ← e2] at hn
    refine zm_if (fun c => ?_) (fun c => zc_L3_next_242 h_a0 F)
    refine zc_rI F h_a0 fun v3 e3 r3 => ?_
    refine zc_rI F h_a0 fun v4 e4 r4 => ?_
    refine zm_if (fun c => ?_) (fun c => zc_L3_next_242 h_a0 F)
    refine zc_rI F h_a0 fun v5 e5 r5 => ?_
    refine zc_pI (K := fun _ => True) (zc_C3_byteAt F.2 h_a0 r5) fun q6v r6 _ => ?_
    dsimp only
    refine zc_pI (K := fun v => (v = 0 ∨ v = 1)) (zc_C3_isDigit F.2 r6) fun q7v r7 _ => ?_
    dsimp only
    refine zm_if (fun c => zc_L3_next_242 h_a0 F) (fun c => ?_)
    refine zc_rI F h_a0 fun v8 e8 r8 => ?_
    refine zc_rI F h_a0 fun v9 e9 r9 => ?_
    refine zc_pI (K := fun _ => True) (zc_C3_byteAt F.2 h_a0 r9) fun q10v r10 _ => ?_
    dsimp only
    refine zc_wE F h_a0 (zc_fr3 h_a0) (zc_w _) fun F2 => ?_
    refine zc_rI F2 h_a0 fun v12 e12 r12 => ?_
    rw [zc_sI1 _ _ _ _ (fun e => absurd e.2 (by decide))] at e12
    refine zc_wE F2 h_a0 (zc_fr3 h_a0) (zc_w _) fun F3 => ?_
    refine ih _ F3 ?_
    rw [zc_sI2, zc_sI1 _ _ _ _ (fun e => absurd e.2 (by decide)), zc_sI1 _ _ _ _ (fun e => absurd e.2 (by decide)), ← e2, zc_up1 r12 r2 (by omega)]
    omega
theorem zc_L3_next_58 {d : Nat} (h_a0 : zv_lay a0 = (1, 3)) {h : zv_H} (F : zc_Q h0 h) : zc_b h0 (L3_next_58 (d + 1) a0 h) := by
  rw [qL3_next_58]
  refine zc_rI F h_a0 fun v1 e1 r1 => ?_
  refine zc_wE F h_a0 (zc_fr3 h_a0) r1 fun F => ?_
  refine zc_rI F h_a0 fun v3 e3 r3 => ?_
  refine zc_pI (K := fun _ => True) (zc_C3_byteAt F.2 h_a0 r3) fun q4v r4 _ => ?_
  dsimp only
  refine zc_wE F h_a0 (zc_fr3 h_a0) r4 fun F => ?_
  refine zc_rI F h_a0 fun v6 e6 r6 => ?_
  refine zm_if (fun c => ?_) (fun c => ?_)
  · refine zc_wE F h_a0 (zc_fr3 h_a0) (by unfold zv_rg; omega) fun F => ?_
    exact zc_b1 F
  · refine zc_rI F h_a0 fun v8 e8 r8 => ?_
    refine zc_pI (K := fun v => (v = 0 ∨ v = 1)) (zc_C3_isSmall F.2 r8) fun q9v r9 _ => ?_
    dsimp only
    refine zm_if (fun c => ?_) (fun c => ?_)
    · refine zc_rI F h_a0 fun v10 e10 r10 => ?_
      refine zc_pI (K := fun v => (v = 0 ∨ v = 1)) (zc_C3_isDigit F.2 r10) fun q11v r11 _ => ?_
      dsimp only
      refine zm_if (fun c => ?_) (fun c => ?_)
      · refine zc_wE F h_a0 (zc_fr3 h_a0) (by unfold zv_rg; omega) fun F => ?_
        refine zc_rI F h_a0 fun v13 e13 r13 => ?_
        refine zc_wE F h_a0 (zc_fr3 h_a0) (zc_w _) fun F => ?_
        refine zc_rI F h_a0 fun v15 e15 r15 => ?_
        refine zm_if (fun c => zc_L3_next_302 h_a0 F) (fun c => ?_)
        refine zc_rI F h_a0 fun v16 e16 r16 => ?_
        exact zm_if (fun c => zc_b1 F) (fun c => zc_L3_next_302 h_a0 F)
      · refine zc_wE F h_a0 (zc_fr3 h_a0) (by unfold zv_rg; omega) fun F => ?_
        refine zc_wE F h_a0 (zc_fr3 h_a0) (by unfold zv_rg; omega) fun F => ?_
        exact zc_L3_next_168 h_a0 _ _ F (Nat.le_refl _)
    · refine zc_wE F h_a0 (zc_fr3 h_a0) (by unfold zv_rg; omega) fun F => ?_
      exact zc_L3_next_108 h_a0 _ _ F (Nat.le_refl _)
theorem zc_L3_next_8 {d : Nat} (h_a0 : zv_lay a0 = (1, 3)) : ∀ (n : Nat) (h : zv_H), zc_Q h0 h → (zv_I h a0 3 - zv_I h a0 5).toNat ≤ n → zc_b h0 (L3_next_8 (d + 1) a0 h) := by
  intro n
  induction n with
  | zero =>
    intro h F hn
    rw [qL3_next_8]
    refine zc_rI F h_a0 fun v1 e1 r1 => ?_
    refine zc_rI F h_a0 fun v2 e2 r2 => ?_
    rw [← e1, ← e2] at hn
    rw [if_neg (by omega)]
    exact zc_L3_next_58 h_a0 F
  | succ n ih =>
    intro h F hn
    rw [qL3_next_8]
    refine zc_rI F h_a0 fun v1 e1 r1 => ?_
    refine zc_rI F h_a0 fun v2 e2 r2 => ?_
    rw [← e1, ← e2] at hn
    refine zm_if (fun c => ?_) (fun c => zc_L3_next_58 h_a0 F)
    refine zc_rI F h_a0 fun v3 e3 r3 => ?_
    refine zc_pI (K := fun _ => True) (zc_C3_byteAt F.2 h_a0 r3) fun q4v r4 _ => ?_
    dsimp only
    refine zm_if (fun c => ?_) (fun c => ?_)
    · refine zc_rI F h_a0 fun v6 e6 r6 => ?_
      refine zc_wE F h_a0 (zc_fr3 h_a0) (zc_w _) fun F2 => ?_
      refine ih _ F2 ?_
      rw [zc_sI2, zc_sI1 _ _ _ _ (fun e => absurd e.2 (by decide)), ← e2, zc_up1 r6 r2 (by omega)]
      omega
    · refine zc_rI F h_a0 fun v7 e7 r7 => ?_
      refine zc_pI (K := fun _ => True) (zc_C3_byteAt F.2 h_a0 r7) fun q8v r8 _ => ?_
      dsimp only
      refine zm_if (fun c => ?_) (fun c => zc_L3_next_58 h_a0 F)
      refine zc_rI F h_a0 fun v6 e6 r6 => ?_
      refine zc_wE F h_a0 (zc_fr3 h_a0) (zc_w _) fun F2 => ?_
      refine ih _ F2 ?_
      rw [zc_sI2, zc_sI1 _ _ _ _ (fun e => absurd e.2 (by decide)), ← e2, zc_up1 r6 r2 (by omega)]
      omega
theorem zc_E3_next {d : Nat} {h : zv_H} (hA : zc_A h) (h_a0 : zv_lay a0 = (1, 3)) : zc_b h (E3_next (d + 1) a0 h) := by
  have F := zc_Q_r hA
  rw [qE3_next]
  refine zc_rI F h_a0 fun v1 e1 r1 => ?_
  refine zc_wE F h_a0 (zc_fr3 h_a0) r1 fun F => ?_
  exact zc_L3_next_8 h_a0 _ _ F (Nat.le_refl _)
theorem zc_C3_next {d : Nat} {h : zv_H} (hA : zc_A h) (h_a0 : zv_lay a0 = (1, 3)) : zm_R (C3_next (d + 2) a0 h) (fun q => zc_Q h q.2 ∧ zv_rg q.1 ∧ (q.1 = 0 ∨ q.1 = 1)) := zm_cI (fun e => lC3_next (zc_ob hA h_a0) e) (zc_E3_next hA h_a0)
end
