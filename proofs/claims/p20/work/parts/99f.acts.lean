/-! ===== the class: withdrawing, carrying, merging, pruning ===== -/
theorem zc_bits {d : Nat} {h : zv_H} (x : Int64) : zm_R (C12_bitCount (d + 1) x h) (fun q => q.2 = h ∧ zv_rg q.1 ∧ True) := by
  refine zm_cI (P := fun v h' => h' = h ∧ zv_rg v ∧ True) (fun e => lC12_bitCount e) ?_
  rw [qE12_bitCount]
  exact zm_iI ⟨rfl, zc_and _ _, trivial⟩
theorem zc_C0_turn {d : Nat} {h : zv_H} (hA : zc_A h) {a : Nat} {x : Int} {y z : Int64} (ha : zv_lay a = (1, 0)) (rx : zv_rg x) : zm_R (C0_turn (d + 3) a x y z h) (zc_O a h) := by
  have F0 := zc_Q_r hA
  refine zm_cI (P := fun v h' => zc_O a h (v, h')) (fun e => lC0_turn (zc_ob hA ha) e) ?_
  rw [qE0_turn]
  refine zc_rI F0 ha fun v1 e1 r1 => ?_
  refine zm_if (fun c1 => ?_) (fun c => zc_On F0 (by decide) (by unfold zv_rg; omega))
  refine zc_rF F0 8 ha ?_
  refine zc_cV F0 (zc_C4_look hA (zc_y0_5 ha).1) fun g3 F => ?_
  refine zc_rF F 8 ha ?_
  refine zc_rI F (zc_y0_5 ha).1 fun v5 e5 r5 => ?_
  refine zm_if (fun c2 => ?_) (fun c => zc_On F (by decide) (by unfold zv_rg; omega))
  refine zc_pI (K := fun _ => True) (zc_bits _) fun v6 r6 _ => ?_
  dsimp only
  obtain ⟨⟨s, h1⟩, e10, hq⟩ := zc_C0_grow (d := d) F.2 ha (x := x) (y := -1) (z := v6) rx (by unfold zv_rg; omega) r6
  rw [zm_e e10]
  cases hq with
  | inl q =>
    obtain ⟨q1, q2⟩ := q
    have q1' : s = 0 := q1
    have q2' : h1 = g3 := q2
    subst q1' q2'
    dsimp only
    rw [if_pos rfl]
    exact zc_On F (by decide) (by unfold zv_rg; omega)
  | inr q =>
    obtain ⟨X1, G⟩ := q
    have A1 : zc_A h1 := X1.2
    have G' : zc_G a h h1 s := zc_q_G ha F.1 G
    have X' : zc_X h h1 := zc_X_t (zc_QX F) X1
    have hs := G'.1
    dsimp only
    rw [if_neg (zc_nz hs)]
    have F := zc_Q_r A1
    refine zc_wJ F hs (zc_lt hs (by decide)) fun g15 F => ?_
    have loop : ∀ (n : Nat) (g : zv_H) (i : Int), zc_Q h1 g → 0 ≤ i → (2147483647 - i).toNat = n → zv_rg i → zm_R (L0_turn_65 (d + 2) a s i g) (zc_Oi a h) := by
      intro n
      induction n using Nat.strongRecOn with
      | _ n ih =>
        intro g i F h0 hn ri
        rw [qL0_turn_65]
        refine zc_rF F 8 ha ?_
        refine zc_rI F (zc_y0_5 ha).1 fun v2 e2 r2 => ?_
        have nx : i < v2 → ∀ g, zc_Q h1 g → zm_R (L0_turn_65 (d + 2) a s (zv_w (i + 1)) g) (zc_Oi a h) := fun c g F => ih _ (by rw [← hn]; exact zc_up ri r2 c) g _ F (by rw [zc_up1 ri r2 c]; omega) rfl (zc_w _)
        refine zm_if (fun c => ?_) (fun c => ?_)
        · refine zc_rF F 8 ha ?_
          refine zc_pI (K := fun _ => True) (zc_C4_seesAt F.2 (zc_y0_5 ha).1 ri) fun v4 r4 _ => ?_
          dsimp only
          refine zm_if (fun c' => nx c g F) (fun c' => ?_)
          refine zc_rF F 8 ha ?_
          refine zc_pI (K := fun _ => True) (zc_C4_idAt F.2 (zc_y0_5 ha).1 ri) fun v6 r6 _ => ?_
          dsimp only
          refine zc_cV F (zc_C5_addId F.2 hs r6) fun g7 F => ?_
          exact nx c g7 F
        · refine zc_rI F hs fun v5 e5 r5 => ?_
          have := zc_num F.2 hs
          rw [← e5] at this
          exact zm_iI ⟨zc_X_t X' (zc_QX F), r5, Or.inr ⟨this.1, s, zc_G_q ha G' F.1⟩⟩
    exact loop _ _ 0 F (by omega) rfl (by unfold zv_rg; omega)
theorem zc_Ox {a : Nat} {h h1 : zv_H} (ha : zv_lay a = (1, 0)) (F : zc_Q h h1) {o : Option (Int × zv_H)} (e : zm_R o (zc_O a h1)) : zm_R (o.bind fun q => some (some (zv_i q.1), q.2)) (zc_Oi a h) := by
  obtain ⟨q, rfl, a⟩ := e
  exact zm_iI (zc_O_q ha F a)
theorem zc_C0_takeBack {d : Nat} {h : zv_H} (hA : zc_A h) {a : Nat} {i : Int} (ha : zv_lay a = (1, 0)) (ri : zv_rg i) : zm_R (C0_takeBack (d + 4) a i h) (zc_O a h) := by
  have F := zc_Q_r hA
  have hV := zc_hV F ha
  refine zm_cI (P := fun v h' => zc_O a h (v, h')) (fun e => lC0_takeBack (zc_ob hA ha) e) ?_
  rw [qE0_takeBack]
  refine zc_pN (K := fun v => zc_U h a v) (zc_at2 hA ha ri) fun v u => ?_
  dsimp only
  refine zm_if (fun c => zc_On F (by decide) (by unfold zv_rg; omega)) (fun c => ?_)
  have u1 := (u.resolve_left c).1
  refine zc_rF F 8 ha ?_
  refine zc_rRo F ha ?_
  refine zc_cV F (zc_C4_lay hA (zc_y0_5 ha).1 hV.1) fun g4 F => ?_
  refine zc_rF F 8 ha ?_
  refine zc_rJ F (zc_y0_5 ha).1 fun v6 => ?_
  refine zc_pJ (zc_C5_bit F.2 u1.1) fun v7 => ?_
  dsimp only
  refine zm_if (fun c => zc_On F (by decide) (by unfold zv_rg; omega)) (fun c => ?_)
  refine zc_rF F 8 ha ?_
  refine zc_rJ F (zc_y0_5 ha).1 fun v9 => ?_
  refine zc_pJ (zc_C5_bit F.2 u1.1) fun v10 => ?_
  dsimp only
  refine zm_if (fun c => zc_On F (by decide) (by unfold zv_rg; omega)) (fun c => ?_)
  refine zc_rF F 8 ha ?_
  refine zc_pJ (zc_C4_leaningOn F.2 (zc_y0_5 ha).1 u1.1) fun v12 => ?_
  dsimp only
  refine zc_rF F 8 ha ?_
  refine zc_rJ F (zc_y0_5 ha).1 fun v14 => ?_
  refine zc_rF F 8 ha ?_
  refine zc_rJ F (zc_y0_5 ha).1 fun v16 => ?_
  exact zc_Ox ha F (zc_C0_turn F.2 ha (by unfold zv_rg; omega))
theorem zc_C0_giveBack {d : Nat} {h : zv_H} (hA : zc_A h) {a : Nat} {i : Int} (ha : zv_lay a = (1, 0)) (ri : zv_rg i) : zm_R (C0_giveBack (d + 4) a i h) (zc_O a h) := by
  have F := zc_Q_r hA
  have hV := zc_hV F ha
  refine zm_cI (P := fun v h' => zc_O a h (v, h')) (fun e => lC0_giveBack (zc_ob hA ha) e) ?_
  rw [qE0_giveBack]
  refine zc_pN (K := fun v => zc_U h a v) (zc_at2 hA ha ri) fun v u => ?_
  dsimp only
  refine zm_if (fun c => zc_On F (by decide) (by unfold zv_rg; omega)) (fun c => ?_)
  have u1 := (u.resolve_left c).1
  refine zc_rF F 8 ha ?_
  refine zc_rRo F ha ?_
  refine zc_cV F (zc_C4_lay hA (zc_y0_5 ha).1 hV.1) fun g4 F => ?_
  refine zc_rF F 8 ha ?_
  refine zc_rJ F (zc_y0_5 ha).1 fun v6 => ?_
  refine zc_pJ (zc_C5_bit F.2 u1.1) fun v7 => ?_
  dsimp only
  refine zm_if (fun c => zc_On F (by decide) (by unfold zv_rg; omega)) (fun c => ?_)
  refine zc_rF F 8 ha ?_
  refine zc_rJ F (zc_y0_5 ha).1 fun v9 => ?_
  refine zc_pJ (zc_C5_bit F.2 u1.1) fun v10 => ?_
  dsimp only
  refine zm_if (fun c => ?_) (fun c => zc_On F (by decide) (by unfold zv_rg; omega))
  refine zc_rF F 8 ha ?_
  refine zc_pJ (zc_C4_groundOf F.2 (zc_y0_5 ha).1 (zc_Vq F.1 u1)) fun v12 => ?_
  dsimp only
  refine zc_rF F 8 ha ?_
  refine zc_rJ F (zc_y0_5 ha).1 fun v14 => ?_
  refine zc_rF F 8 ha ?_
  refine zc_rJ F (zc_y0_5 ha).1 fun v16 => ?_
  exact zc_Ox ha F (zc_C0_turn F.2 ha (by unfold zv_rg; omega))
theorem zc_C0_carryOne {d : Nat} {h : zv_H} (hA : zc_A h) {a s : Nat} (ha : zv_lay a = (1, 0)) (hs : zc_V h s) : zm_R (C0_carryOne (d + 5) a s h) (zc_O a h) := by
  have F0 := zc_Q_r hA
  have hV := zc_hV F0 ha
  refine zm_cI (P := fun v h' => zc_O a h (v, h')) (fun e => lC0_carryOne (zc_ob hA ha) e) ?_
  have L91 : ∀ (n : Nat) (g : zv_H) (x i : Int), zc_Q h g → 0 ≤ i → (2147483647 - i).toNat = n → zv_rg i → zv_rg x → zm_R (L0_carryOne_91 (d + 4) a s x i g) (zc_Oi a h) := by
    intro n
    induction n using Nat.strongRecOn with
    | _ n ih =>
      intro g x i F h0 hn ri rx
      rw [qL0_carryOne_91]
      refine zc_rI F hs.1 fun v1 e1 r1 => ?_
      refine zm_if (fun c => ?_) (fun c => ?_)
      · refine zc_rF F 26 ha ?_
        refine zc_rI F hs.1 fun v3 e3 r3 => ?_
        refine zc_pI (K := fun _ => True) (zc_C4_id F.2 r3 ri) fun v4 r4 _ => ?_
        dsimp only
        refine zc_pI (K := fun _ => True) (zc_C0_glyph F.2 ha r4) fun v5 r5 _ => ?_
        dsimp only
        refine zc_cV F (zc_C7_add F.2 (zc_y0_9 ha).1 r5) fun g6 F => ?_
        exact ih _ (by rw [← hn]; exact zc_up ri r1 c) g6 x _ F (by rw [zc_up1 ri r1 c]; omega) rfl (zc_w _) rx
      · refine zc_rF F 26 ha ?_
        exact zc_Ox ha F (zc_C0_putWord F.2 ha (zc_y0_9 ha).1 rx)
  have L74 : ∀ (g : zv_H) (x : Int), zc_Q h g → zv_rg x → zm_R (L0_carryOne_74 (d + 4) a s x g) (zc_Oi a h) := by
    intro g x F rx
    rw [qL0_carryOne_74]
    refine zm_if (fun c => zc_On F (by decide) (by unfold zv_rg; omega)) (fun c => ?_)
    refine zc_rF F 26 ha ?_
    refine zc_cV F (zc_C7_clear F.2 (zc_y0_9 ha).1) fun g2 F => ?_
    exact L91 _ g2 x 0 F (by omega) rfl (by unfold zv_rg; omega) rx
  rw [qE0_carryOne]
  refine zc_rI F0 hs.1 fun v1 e1 r1 => ?_
  refine zm_if (fun c => ?_) (fun c => ?_)
  · refine zc_pI (K := fun _ => True) (zc_C0_firstTaken hA ha hs.1) fun v2 r2 _ => ?_
    dsimp only
    refine zc_pI (K := fun _ => True) (zc_C0_takenFrom hA ha hs.1 r2) fun v3 r3 _ => ?_
    dsimp only
    refine zm_if (fun c => zc_On F0 (by decide) (by unfold zv_rg; omega)) (fun c => ?_)
    exact zc_Ox ha F0 (zc_C0_cutOut hA ha r2 r3)
  · refine zc_rI F0 hs.1 fun v5 e5 r5 => ?_
    refine zm_if (fun c => L74 _ _ F0 (by unfold zv_rg; omega)) (fun c => ?_)
    refine zc_rF F0 8 ha ?_
    refine zc_rRo F0 ha ?_
    refine zc_cV F0 (zc_C4_lay hA (zc_y0_5 ha).1 hV.1) fun g8 F => ?_
    refine zc_rF F 8 ha ?_
    refine zc_rI F hs.1 fun v10 e10 r10 => ?_
    refine zc_pI (K := fun _ => True) (zc_C0_standOf F.2 ha r10) fun v11 r11 _ => ?_
    dsimp only
    refine zc_pI (K := fun _ => True) (zc_C4_seenUpTo F.2 (zc_y0_5 ha).1 r11) fun v12 r12 _ => ?_
    dsimp only
    exact L74 _ _ F r12
theorem zc_C0_carryOver {d : Nat} {h : zv_H} (hA : zc_A h) {a : Nat} {i : Int} (ha : zv_lay a = (1, 0)) (ri : zv_rg i) : zm_R (C0_carryOver (d + 6) a i h) (zc_O a h) := by
  have F := zc_Q_r hA
  have hV := zc_hV F ha
  refine zm_cI (P := fun v h' => zc_O a h (v, h')) (fun e => lC0_carryOver (zc_ob hA ha) e) ?_
  rw [qE0_carryOver]
  refine zc_pN (K := fun v => zc_U h a v) (zc_at2 hA ha ri) fun v u => ?_
  dsimp only
  refine zm_if (fun c => zc_On F (by decide) (by unfold zv_rg; omega)) (fun c => ?_)
  have u1 := (u.resolve_left c).1
  refine zc_pI (K := fun _ => True) (zc_C5_edits hA u1.1) fun v2 r2 _ => ?_
  dsimp only
  refine zm_if (fun c => zc_On F (by decide) (by unfold zv_rg; omega)) (fun c => ?_)
  refine zc_rRo F ha ?_
  refine zc_pI (K := fun _ => True) (zc_C0_onLine hA u1 (Or.inr hV.1)) fun v4 r4 _ => ?_
  dsimp only
  refine zm_if (fun c => ?_) (fun c => zc_On F (by decide) (by unfold zv_rg; omega))
  refine zc_cV F (zc_C0_standForThemselves hA ha) fun g5 F => ?_
  exact zc_Ox ha F (zc_C0_carryOne F.2 ha (zc_Vq F.1 u1))
/-! a chain of new States -/
def zc_C (a : Nat) : Nat → zv_H → Prop
  | 0, _ => True
  | n + 1, h => ∃ h1 s, zc_A h1 ∧ zc_C a n h1 ∧ zc_G a h1 h s
theorem zc_C_E {a : Nat} (ha : zv_lay a = (1, 0)) {n : Nat} {h h' : zv_H} (c : zc_C a n h) (f : zc_E h h') : zc_C a n h' := by
  cases n with
  | zero => trivial
  | succ n =>
    obtain ⟨h1, s, c1, c2, c3⟩ := c
    exact ⟨h1, s, c1, c2, zc_G_E ha c3 f⟩
def zc_M (a : Nat) (h : zv_H) (q : Int × zv_H) : Prop := zc_Y h q.2 ∧ zv_rg q.1 ∧ zc_C a q.1.toNat q.2
theorem zc_O_Y {a : Nat} {h : zv_H} {q : Int × zv_H} (o : zc_O a h q) : zc_Y h q.2 := by
  refine ⟨o.1, fun t hV => ?_⟩
  cases o.2.2 with
  | inl w => exact zc_Vq w.2.1 hV
  | inr w => obtain ⟨_, s, g⟩ := w; exact (zc_G_V g hV).1
theorem zc_C0_mergeIn {d : Nat} {h : zv_H} (hA : zc_A h) {a : Nat} {i : Int} (ha : zv_lay a = (1, 0)) (ri : zv_rg i) : zm_R (C0_mergeIn (d + 6) a i h) (zc_M a h) := by
  have F := zc_Q_r hA
  have hV := zc_hV F ha
  refine zm_cI (P := fun v h' => zc_M a h (v, h')) (fun e => lC0_mergeIn (zc_ob hA ha) e) ?_
  have no : ∀ v : Int, v < 0 → zv_rg v → zm_R (some (some (zv_i v), h)) (zm_I fun v h' => zc_M a h (v, h')) := fun v hv rv => by
    refine zm_iI ⟨zc_QY F, rv, ?_⟩
    have e : v.toNat = 0 := by omega
    show zc_C a v.toNat h
    rw [e]
    trivial
  rw [qE0_mergeIn]
  refine zc_pN (K := fun v => zc_U h a v) (zc_at2 hA ha ri) fun v u => ?_
  dsimp only
  refine zm_if (fun c => no _ (by decide) (by unfold zv_rg; omega)) (fun c => ?_)
  have u1 := (u.resolve_left c).1
  refine zc_rRo F ha ?_
  refine zc_pI (K := fun _ => True) (zc_C0_onLine hA u1 (Or.inr hV.1)) fun v3 r3 _ => ?_
  dsimp only
  refine zm_if (fun c => ?_) (fun c => no _ (by decide) (by unfold zv_rg; omega))
  refine zc_rF F 8 ha ?_
  refine zc_rRo F ha ?_
  refine zc_cV F (zc_C4_walk hA (zc_y0_5 ha).1 hV.1) fun g6 F => ?_
  refine zc_rF F 8 ha ?_
  refine zc_rJ F (zc_y0_5 ha).1 fun v8 => ?_
  refine zc_rF F 8 ha ?_
  refine zc_cV F (zc_C4_walk F.2 (zc_y0_5 ha).1 (zc_Vq F.1 u1)) fun g10 F => ?_
  refine zc_rF F 8 ha ?_
  refine zc_rJ F (zc_y0_5 ha).1 fun v12 => ?_
  refine zc_cV F (zc_C0_standForThemselves F.2 ha) fun g13 F => ?_
  refine zc_wO F ha (zc_frO ha (zc_lt ha (by decide)) (by decide) rfl (by decide)) (by unfold zv_rg; omega) fun g14 F => ?_
  have loop : ∀ (n : Nat) (g : zv_H) (m j : Int) (z : Int64), zc_Y h g → zc_C a m.toNat g → 0 ≤ m → m < j → j ≤ 48 → (48 - j).toNat = n → zm_R (L0_mergeIn_84 (d + 5) a v z m j g) (zm_I fun v h' => zc_M a h (v, h')) := by
    intro n
    induction n with
    | zero =>
      intro g m j z Y C h0 hm hj hn
      have F := zc_Q_r Y.1.2
      rw [qL0_mergeIn_84]
      refine zc_rI F u1.1 fun v1 e1 r1 => ?_
      have := (zc_dep F (Y.2 _ u1)).1
      rw [← e1] at this
      rw [if_neg (by omega)]
      exact zm_iI ⟨Y, by unfold zv_rg; omega, C⟩
    | succ n ih =>
      intro g m j z Y C h0 hm hj hn
      have F := zc_Q_r Y.1.2
      rw [qL0_mergeIn_84]
      refine zc_rI F u1.1 fun v1 e1 r1 => ?_
      have dp := (zc_dep F (Y.2 _ u1)).1
      rw [← e1] at dp
      refine zm_if (fun c => ?_) (fun c => zm_iI ⟨Y, by unfold zv_rg; omega, C⟩)
      rw [zm_w (show -2147483648 ≤ j + 1 ∧ j + 1 < 2147483648 by omega), zm_w (show -2147483648 ≤ m + 1 ∧ m + 1 < 2147483648 by omega)]
      refine zc_pN (K := fun v => (v = 0 ∨ zc_V g v)) (zc_C0_above F.2 (Or.inr (Y.2 _ u1)) (by unfold zv_rg; omega)) fun v2 u2 => ?_
      dsimp only
      refine zm_if (fun c => ih g m _ z Y C h0 (by omega) (by omega) (by omega)) (fun c => ?_)
      have u3 := u2.resolve_left c
      refine zc_pJ (zc_C5_bit F.2 u3.1) fun v3 => ?_
      dsimp only
      refine zm_if (fun c => ih g m _ z Y C h0 (by omega) (by omega) (by omega)) (fun c => ?_)
      obtain ⟨⟨v4, g4⟩, e4, O⟩ := zc_C0_carryOne (d := d) F.2 ha u3
      rw [zm_e e4]
      have Y4 : zc_Y h g4 := zc_Y_t Y (zc_O_Y O)
      have A4 : zc_A g4 := Y4.1.2
      have F4 := zc_Q_r A4
      have r4 : zv_rg v4 := O.2.1
      have O2 : (v4 < 0 ∧ zc_Q g g4) ∨ (0 ≤ v4 ∧ ∃ s, zc_G a g g4 s) := O.2.2
      dsimp only
      refine zm_if (fun c => ?_) (fun c => ?_)
      · cases O2 with
        | inr w => exact absurd w.1 (by omega)
        | inl w =>
          refine zc_rI F4 ha fun v5 e5 r5 => ?_
          refine zc_wO F4 ha (zc_frO ha (zc_lt ha (by decide)) (by decide) rfl (by decide)) (zc_w _) fun g6 F6 => ?_
          exact ih g6 m _ z (zc_Y_t Y4 (zc_QY F6)) (zc_C_E ha C (zc_E_t (zc_qE w.2.1) (zc_qE F6.1))) h0 (by omega) (by omega) (by omega)
      · cases O2 with
        | inl w => exact absurd w.1 c
        | inr w =>
          obtain ⟨_, s, G⟩ := w
          refine zc_rI F4 u3.1 fun v7 e7 r7 => ?_
          have nb := zc_num A4 u3.1
          rw [← e7] at nb
          rw [if_pos nb.2]
          refine zc_rF F4 6 ha ?_
          refine zc_rI F4 u3.1 fun v9 e9 r9 => ?_
          have nb := zc_num A4 u3.1
          rw [← e9] at nb
          refine zc_wA F4 (zc_y0_3 ha).1 (zc_y0_3 ha).2 (by omega) (by omega) r4 fun g10 F10 _ => ?_
          refine ih g10 (m + 1) _ z (zc_Y_t Y4 (zc_QY F10)) ?_ (by omega) (by omega) (by omega) (by omega)
          have em : (m + 1).toNat = m.toNat + 1 := by omega
          rw [em]
          exact ⟨g, s, Y.1.2, C, zc_G_q ha G F10.1⟩
  exact loop _ g14 0 1 _ (zc_QY F) trivial (by omega) (by omega) (by omega) rfl
