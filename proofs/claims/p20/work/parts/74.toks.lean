/-! ===== the reference: what reads TOKENS ===== -/
theorem zm_RI_F {A B : List Nat} {h h' : zv_H} (r : zm_RI h) (f : zm_F A B h h') (b1 : B.contains 32 = false := by rfl) (b2 : B.contains 33 = false := by rfl) (b3 : B.contains 34 = false := by rfl) (b4 : B.contains 35 = false := by rfl) (b5 : B.contains 36 = false := by rfl) (b6 : B.contains 38 = false := by rfl) : zm_RI h' := by
  have e38 : zv_J h' 347 38 = zv_J h 347 38 := f.2.2.2.2.2 347 38 (fun q => by rw [b6] at q; cases q.2.2)
  unfold zm_RI
  rw [zm_F_g f 32 b1, zm_F_g f 33 b2, zm_F_g f 34 b3, zm_F_g f 35 b4, zm_F_g f 36 b5, e38]
  exact r
theorem zm_must {h : zv_H} (hM : zm_M h) (d : Nat) (b v : Int) (hv : 1 ≤ v) (hw : 0 ≤ zv_I h 347 30) : ∃ h', C9_must (d + 1) 347 b v h = some h' ∧ zm_F [] [30, 31] h h' ∧ 0 ≤ zv_I h' 347 30 ∧ (zv_I h' 347 30 = 0 → b ≠ 0 ∧ h' = h) := by
  have fin : ∀ w : Int, 1 ≤ w → ∃ h', (((zv_pI h 347 9 30 w).bind fun g3 => (zv_gI g3 347 9 32).bind fun v4 => (zv_pI g3 347 9 31 v4).bind fun g5 => some (none, g5)) : zv_O) = some (none, h') ∧ zm_F [] [30, 31] h h' ∧ 0 ≤ zv_I h' 347 30 ∧ (zv_I h' 347 30 = 0 → b ≠ 0 ∧ h' = h) := by
    intro w hw1
    rw [zm_e (zm_pI hM 30 w)]
    have hM1 := zm_M_sI (r := 347) (k := 30) (v := w) hM
    rw [zm_e (zm_gI hM1 32), zm_e (zm_pI hM1 31 _)]
    have e : zv_I (zv_sI (zv_sI h 347 30 w) 347 31 (zv_I (zv_sI h 347 30 w) 347 32)) 347 30 = w := by
      rw [zm_sgI, if_neg (by decide), zm_sgI, if_pos rfl]
    exact ⟨_, rfl, zm_F_f (zm_F_f (zm_F_r _ _ h) rfl _) rfl _, by rw [e]; omega, fun q => by rw [e] at q; omega⟩
  have main : ∃ h', E9_must d 347 b v h = some (none, h') ∧ zm_F [] [30, 31] h h' ∧ 0 ≤ zv_I h' 347 30 ∧ (zv_I h' 347 30 = 0 → b ≠ 0 ∧ h' = h) := by
    rw [qE9_must]
    by_cases c1 : b = 0
    · rw [if_pos c1, zm_e (zm_gI hM 30)]
      by_cases c2 : zv_I h 347 30 ≤ 0
      · rw [if_pos c2]
        by_cases c3 : v = 2
        · rw [if_pos c3, zm_e (zm_gI hM 34)]
          by_cases c4 : zv_I h 347 34 = 4
          · rw [if_pos c4]
            exact fin 1 (by decide)
          · rw [if_neg c4]
            exact fin v hv
        · rw [if_neg c3]
          exact fin v hv
      · rw [if_neg c2]
        exact ⟨h, rfl, zm_F_r _ _ h, hw, fun q => absurd q (by omega)⟩
    · rw [if_neg c1]
      exact ⟨h, rfl, zm_F_r _ _ h, hw, fun _ => ⟨c1, rfl⟩⟩
  obtain ⟨h', e, q⟩ := main
  exact ⟨h', lC9_must (zm_ob hM) e, q⟩
theorem zm_lcmp0 {x y : Int64} (h : zv_lcmp x y = 0) : x = y := by
  unfold zv_lcmp at h
  by_cases c : x = y
  · exact c
  · rw [if_neg c] at h
    split at h
    · cases h
    · cases h
theorem zm_which_l {h : zv_H} (hM : zm_M h) (d : Nat) {r L : Nat} (hl : zv_lay r = (5, L)) (hr : Nat.ble r 372 = true) (hL : L ≤ 100) : ∀ n i : Nat, i + n = L → ∃ v : Int, L9_which_2 d 347 r i h = some (some (zv_i v), h) ∧ (v = -1 ∨ ((0 ≤ v ∧ v < L) ∧ zv_I h 347 34 = 1 ∧ zv_I h 347 30 = 0 ∧ zv_J h r v.toNat = zv_J h 347 38))
  | 0, i, hi => by
    rw [qL9_which_2, zm_e (zm_al hM hl rfl hr), if_neg (by omega)]
    exact ⟨-1, rfl, Or.inl rfl⟩
  | n + 1, i, hi => by
    obtain ⟨v, e, q⟩ := zm_which_l hM d hl hr hL n (i + 1) (by omega)
    have w1 : zv_w ((i : Int) + 1) = ((i + 1 : Nat) : Int) := by
      rw [zm_w (by omega)]
      rfl
    rw [qL9_which_2, zm_e (zm_al hM hl rfl hr), if_pos (by omega), zm_e (zm_gI hM 34), w1, e]
    by_cases c1 : zv_I h 347 34 = 1
    · rw [if_pos c1, zm_e (zm_gI hM 30)]
      by_cases c2 : zv_I h 347 30 = 0
      · rw [if_pos c2, zm_e (zm_aJ hM hl hr (by omega) (by omega)), zm_e (zm_gJ hM 38)]
        by_cases c3 : zv_lcmp (zv_J h r ((i : Int)).toNat) (zv_J h 347 38) = 0
        · rw [if_pos c3, zm_e (zm_gI hM 33), zm_e (zm_gI hM 32)]
          by_cases c4 : zv_w (zv_I h 347 33 - zv_I h 347 32) ≤ 8
          · rw [if_pos c4]
            exact ⟨i, rfl, Or.inr ⟨by omega, c1, c2, zm_lcmp0 c3⟩⟩
          · rw [if_neg c4]
            exact ⟨v, rfl, q⟩
        · rw [if_neg c3]
          exact ⟨v, rfl, q⟩
      · rw [if_neg c2]
        exact ⟨-1, rfl, Or.inl rfl⟩
    · rw [if_neg c1]
      exact ⟨-1, rfl, Or.inl rfl⟩
theorem zm_which {h : zv_H} (hM : zm_M h) (d : Nat) {r L : Nat} (hl : zv_lay r = (5, L)) (hr : Nat.ble r 372 = true) (hL : L ≤ 100) : ∃ v : Int, C9_which (d + 1) 347 r h = some (v, h) ∧ (v = -1 ∨ ((0 ≤ v ∧ v < L) ∧ zv_I h 347 34 = 1 ∧ zv_I h 347 30 = 0 ∧ zv_J h r v.toNat = zv_J h 347 38)) := by
  obtain ⟨v, e, q⟩ := zm_which_l hM d hl hr hL L 0 (by omega)
  refine ⟨v, lC9_which (zm_ob hM) ?_, q⟩
  rw [qE9_which]
  exact e
theorem zm_isSign {h : zv_H} (hM : zm_M h) (d : Nat) (r : zm_RI h) (c : Int) : ∃ v : Int, C9_isSign (d + 1) 347 c h = some (v, h) ∧ (v = 0 ∨ (v = 1 ∧ zv_I h 347 30 = 0 ∧ zv_I h 347 34 = 3)) := by
  have main : ∃ v : Int, E9_isSign d 347 c h = some (some (zv_i v), h) ∧ (v = 0 ∨ (v = 1 ∧ zv_I h 347 30 = 0 ∧ zv_I h 347 34 = 3)) := by
    rw [qE9_isSign, zm_e (zm_gI hM 30)]
    by_cases c1 : zv_I h 347 30 = 0
    · rw [if_pos c1, zm_e (zm_gI hM 34)]
      by_cases c2 : zv_I h 347 34 = 3
      · obtain ⟨r1, r2, r3, _⟩ := r
        have r4 := r3 (by rw [c2]; decide)
        rw [if_pos c2, zm_e (zm_f26 hM), zm_e (zm_gI hM 32), zm_e (zm_aB hM zm_l366 (Or.inr rfl) rfl r2.1 (by omega))]
        by_cases c3 : zv_I h 366 (zv_I h 347 32).toNat = c
        · rw [if_pos c3]
          exact ⟨1, rfl, Or.inr ⟨rfl, c1, c2⟩⟩
        · rw [if_neg c3]
          exact ⟨0, rfl, Or.inl rfl⟩
      · rw [if_neg c2]
        exact ⟨0, rfl, Or.inl rfl⟩
    · rw [if_neg c1]
      exact ⟨0, rfl, Or.inl rfl⟩
  obtain ⟨v, e, q⟩ := main
  exact ⟨v, lC9_isSign (zm_ob hM) e, q⟩
/-- the next TOKEN, where there was one -/
theorem zm_rd (d : Nat) {h : zv_H} (hM : zm_M h) (r : zm_RI h) (hs : zv_I h 347 34 ≠ 0) : ∃ h', C9_reads (d + 5) 347 h = some h' ∧ zm_rF h h' ∧ zm_RI h' ∧ zv_I h 347 33 ≤ zv_I h' 347 32 ∧ zv_I h' 347 30 = zv_I h 347 30 := by
  obtain ⟨h', e, f, r', q⟩ := zm_reads d hM r.1 ⟨by have := r.2.1; omega, r.2.2.1 hs⟩ r.2.2.2.1
  exact ⟨h', e, f, r', q, zm_F_g f 30⟩
/-- behind reading: fine, or a FAULT; where fine, it was fine and the place is further on by so many -/
def zm_Ok (n : Int) (h h' : zv_H) : Prop := zm_RI h' ∧ 0 ≤ zv_I h' 347 30 ∧ (zv_I h' 347 30 = 0 → zv_I h 347 30 = 0 ∧ zv_I h 347 32 + n ≤ zv_I h' 347 32)
theorem zm_takes {h : zv_H} (hM : zm_M h) (d : Nat) (r : zm_RI h) (hw : 0 ≤ zv_I h 347 30) (c : Int) : ∃ h', C9_takes (d + 6) 347 c h = some h' ∧ zm_F [] [30, 31, 32, 33, 34, 35, 38] h h' ∧ zm_Ok 1 h h' := by
  have main : ∃ h', E9_takes (d + 5) 347 c h = some (none, h') ∧ zm_F [] [30, 31, 32, 33, 34, 35, 38] h h' ∧ zm_Ok 1 h h' := by
    obtain ⟨b, eb, qb⟩ := zm_isSign hM (d + 4) r c
    obtain ⟨h1, e1, f1, w1, k1⟩ := zm_must hM (d + 4) b 2 (by decide) hw
    have hM1 := zm_F_M f1 hM
    rw [qE9_takes, zm_e eb]
    dsimp only
    rw [zm_e e1, zm_e (zm_gI hM1 30)]
    by_cases c1 : zv_I h1 347 30 = 0
    · obtain ⟨b0, eh⟩ := k1 c1
      subst eh
      rcases qb with q | ⟨q1, q2, q3⟩
      · exact absurd q b0
      · obtain ⟨h2, e2, f2, r2, p2, z2⟩ := zm_rd d hM r (by rw [q3]; decide)
        rw [if_pos c1, zm_e e2]
        refine ⟨h2, rfl, zm_F_s f2 rfl rfl, r2, by rw [z2]; exact w1, fun _ => ⟨q2, ?_⟩⟩
        have := r.2.1
        omega
    · rw [if_neg c1]
      exact ⟨h1, rfl, zm_F_s f1 rfl rfl, zm_RI_F r f1, w1, fun q => absurd q c1⟩
  obtain ⟨h', e, q⟩ := main
  exact ⟨h', lC9_takes (zm_ob hM) e, q⟩
theorem zm_takesNumber {h : zv_H} (hM : zm_M h) (d : Nat) (r : zm_RI h) (hw : 0 ≤ zv_I h 347 30) : ∃ (v : Int) (h' : zv_H), C9_takesNumber (d + 6) 347 h = some (v, h') ∧ zm_F [] [30, 31, 32, 33, 34, 35, 38] h h' ∧ zm_Ok 1 h h' ∧ 0 ≤ v ∧ v ≤ 999 := by
  have l14 : ∀ b : Int, (b ≠ 0 → zv_I h 347 34 = 2) → ∃ (v : Int) (h' : zv_H), L9_takesNumber_14 (d + 5) 347 347 b h = some (some (zv_i v), h') ∧ zm_F [] [30, 31, 32, 33, 34, 35, 38] h h' ∧ zm_Ok 1 h h' ∧ 0 ≤ v ∧ v ≤ 999 := by
    intro b hb
    obtain ⟨h1, e1, f1, w1, k1⟩ := zm_must hM (d + 4) b 2 (by decide) hw
    have hM1 := zm_F_M f1 hM
    have n1 : zv_I h1 347 35 = zv_I h 347 35 := zm_F_g f1 35
    have hn := r.2.2.2.1
    rw [qL9_takesNumber_14, zm_e e1, zm_e (zm_gI hM1 35), zm_e (zm_gI hM1 30), n1]
    by_cases c1 : zv_I h1 347 30 = 0
    · obtain ⟨b0, eh⟩ := k1 c1
      subst eh
      obtain ⟨h2, e2, f2, r2, p2, z2⟩ := zm_rd d hM r (by rw [hb b0]; decide)
      rw [if_pos c1, zm_e e2]
      refine ⟨_, h2, rfl, zm_F_s f2 rfl rfl, ⟨r2, by rw [z2]; exact w1, fun _ => ⟨c1, ?_⟩⟩, hn⟩
      have := r.2.1
      omega
    · rw [if_neg c1]
      exact ⟨_, h1, rfl, zm_F_s f1 rfl rfl, ⟨zm_RI_F r f1, w1, fun q => absurd q c1⟩, hn⟩
  have main : ∃ (v : Int) (h' : zv_H), E9_takesNumber (d + 5) 347 h = some (some (zv_i v), h') ∧ zm_F [] [30, 31, 32, 33, 34, 35, 38] h h' ∧ zm_Ok 1 h h' ∧ 0 ≤ v ∧ v ≤ 999 := by
    rw [qE9_takesNumber, zm_e (zm_gI hM 34)]
    by_cases c1 : zv_I h 347 34 = 2
    · rw [if_pos c1]
      exact l14 1 (fun _ => c1)
    · rw [if_neg c1]
      exact l14 0 (fun q => absurd rfl q)
  obtain ⟨v, h', e, q⟩ := main
  exact ⟨v, h', lC9_takesNumber (zm_ob hM) e, q⟩
theorem zm_takesWord64 (d : Nat) {m : Nat} (hm : m ≤ 640) : ∀ (n i : Nat) (h : zv_H), i + n = m → zm_M h → zm_RI h → zv_I h 347 34 = 1 → zv_I h 347 19 = m → zv_I h 347 32 + m ≤ zv_I h 347 33 → ∃ h', L9_takesWord_64 (d + 5) 347 i h = some (none, h') ∧ zm_F [360] [32, 33, 34, 35, 38] h h' ∧ zm_RI h' ∧ zv_I h 347 33 ≤ zv_I h' 347 32
  | 0, i, h, hi, hM, r, h34, h19, hx => by
    obtain ⟨h2, e2, f2, r2, p2, z2⟩ := zm_rd d hM r (by rw [h34]; decide)
    rw [qL9_takesWord_64, zm_e (zm_gI hM 19), h19, if_neg (by omega), zm_e e2]
    exact ⟨h2, rfl, zm_F_s f2 rfl rfl, r2, p2⟩
  | n + 1, i, h, hi, hM, r, h34, h19, hx => by
    have w1 : zv_w ((i : Int) + 1) = ((i + 1 : Nat) : Int) := by
      rw [zm_w (by omega)]
      rfl
    obtain ⟨r1, r2, r3, _⟩ := id r
    have r4 := r3 (by rw [h34]; decide)
    rw [qL9_takesWord_64, zm_e (zm_gI hM 19), h19, if_pos (by omega), zm_e (zm_f17 hM), zm_e (zm_f26 hM), zm_e (zm_gI hM 32), zm_w (x := zv_I h 347 32 + (i : Int)) (by omega), zm_e (zm_aB hM zm_l366 (Or.inr rfl) rfl (by omega) (by omega)), zm_e (zm_wI hM zm_l360 rfl (by omega) (by omega) _), w1]
    generalize zv_w (zv_I h 366 (zv_I h 347 32 + (i : Int)).toNat - 97) = v0
    have f0 : zm_F [360] [32, 33, 34, 35, 38] h (zv_sI h 360 ((i : Int)).toNat v0) := zm_F_I (zm_F_r _ _ h) rfl _ _
    obtain ⟨h', i1, i2, i3, i4⟩ := zm_takesWord64 d hm n (i + 1) (zv_sI h 360 ((i : Int)).toNat v0) (by omega) hM r h34 h19 hx
    exact ⟨h', i1, zm_F_t f0 i2, i3, i4⟩
theorem zm_takesWord {h : zv_H} (hM : zm_M h) (d : Nat) (r : zm_RI h) (hw : 0 ≤ zv_I h 347 30) {most : Int} (hm : most ≤ 40) : ∃ h', C9_takesWord (d + 6) 347 most h = some h' ∧ zm_F [360] [19, 30, 31, 32, 33, 34, 35, 38] h h' ∧ zm_Ok 1 h h' ∧ (zv_I h' 347 30 = 0 → 0 ≤ zv_I h' 347 19 ∧ zv_I h' 347 19 ≤ most) := by
  have l14 : ∀ b : Int, (b ≠ 0 → zv_I h 347 34 = 1) → ∃ h', L9_takesWord_14 (d + 5) 347 most 347 b h = some (none, h') ∧ zm_F [360] [19, 30, 31, 32, 33, 34, 35, 38] h h' ∧ zm_Ok 1 h h' ∧ (zv_I h' 347 30 = 0 → 0 ≤ zv_I h' 347 19 ∧ zv_I h' 347 19 ≤ most) := by
    intro b hb
    obtain ⟨h1, e1, f1, w1, k1⟩ := zm_must hM (d + 4) b 2 (by decide) hw
    have hM1 := zm_F_M f1 hM
    have r1 := zm_RI_F r f1
    have x32 : zv_I h1 347 32 = zv_I h 347 32 := zm_F_g f1 32
    have x33 : zv_I h1 347 33 = zv_I h 347 33 := zm_F_g f1 33
    have x34 : zv_I h1 347 34 = zv_I h 347 34 := zm_F_g f1 34
    have hr := r.2.1
    have l37 : ∀ b2 : Int, (b2 ≠ 0 → zv_I h 347 33 - zv_I h 347 32 ≤ most) → ∃ h', L9_takesWord_37 (d + 5) 347 347 b2 h1 = some (none, h') ∧ zm_F [360] [19, 30, 31, 32, 33, 34, 35, 38] h h' ∧ zm_Ok 1 h h' ∧ (zv_I h' 347 30 = 0 → 0 ≤ zv_I h' 347 19 ∧ zv_I h' 347 19 ≤ most) := by
      intro b2 hb2
      obtain ⟨h2, e2, f2, w2, k2⟩ := zm_must hM1 (d + 4) b2 4 (by decide) w1
      have hM2 := zm_F_M f2 hM1
      rw [qL9_takesWord_37, zm_e e2, zm_e (zm_gI hM2 30)]
      by_cases c1 : zv_I h2 347 30 ≤ 0
      · have c2 : zv_I h2 347 30 = 0 := by omega
        obtain ⟨b20, eh2⟩ := k2 c2
        subst eh2
        obtain ⟨b0, eh⟩ := k1 c2
        subst eh
        have hlen := hb2 b20
        have h34 := hb b0
        obtain ⟨m, em⟩ : ∃ m : Nat, zv_I h2 347 33 - zv_I h2 347 32 = m := ⟨(zv_I h2 347 33 - zv_I h2 347 32).toNat, by omega⟩
        rw [if_pos c1, zm_e (zm_gI hM 33), zm_e (zm_gI hM 32), zm_w (x := zv_I h2 347 33 - zv_I h2 347 32) (by omega), em, zm_e (zm_pI hM 19 _)]
        have f3 : zm_F [360] [19, 30, 31, 32, 33, 34, 35, 38] h2 (zv_sI h2 347 19 (m : Int)) := zm_F_f (zm_F_r _ _ h2) rfl _
        have eI : ∀ k, zv_I (zv_sI h2 347 19 (m : Int)) 347 k = if k = 19 then (m : Int) else zv_I h2 347 k := fun k => zm_sgI _ _ _ _
        have r3 : zm_RI (zv_sI h2 347 19 (m : Int)) := zm_RI_F (A := []) (B := [19]) r (zm_F_f (zm_F_r _ _ h2) rfl _)
        generalize zv_sI h2 347 19 (m : Int) = h3 at f3 eI r3
        obtain ⟨h4, i1, i2, i3, i4⟩ := zm_takesWord64 d (m := m) (by omega) m 0 h3 (by omega) (zm_F_M f3 hM) r3 (by rw [eI, if_neg (by decide)]; exact h34) (by rw [eI, if_pos rfl]) (by rw [eI, eI, if_neg (by decide), if_neg (by decide)]; omega)
        have z30 : zv_I h4 347 30 = 0 := by
          rw [zm_F_g i2 30, eI, if_neg (by decide)]
          exact c2
        have z19 : zv_I h4 347 19 = m := by rw [zm_F_g i2 19, eI, if_pos rfl]
        rw [eI, if_neg (by decide)] at i4
        refine ⟨h4, i1, zm_F_t f3 (zm_F_s i2 rfl rfl), ⟨i3, by omega, fun _ => ⟨c2, by omega⟩⟩, fun _ => by omega⟩
      · rw [if_neg c1]
        exact ⟨h2, rfl, zm_F_t (zm_F_s f1 rfl rfl) (zm_F_s f2 rfl rfl), ⟨zm_RI_F r1 f2, w2, fun q => absurd q (by omega)⟩, fun q => absurd q (by omega)⟩
    rw [qL9_takesWord_14, zm_e e1, zm_e (zm_gI hM1 33), zm_e (zm_gI hM1 32), x33, x32, zm_w (x := zv_I h 347 33 - zv_I h 347 32) (by omega)]
    by_cases c1 : zv_I h 347 33 - zv_I h 347 32 ≤ most
    · rw [if_pos c1]
      exact l37 1 (fun _ => c1)
    · rw [if_neg c1]
      exact l37 0 (fun q => absurd rfl q)
  have main : ∃ h', E9_takesWord (d + 5) 347 most h = some (none, h') ∧ zm_F [360] [19, 30, 31, 32, 33, 34, 35, 38] h h' ∧ zm_Ok 1 h h' ∧ (zv_I h' 347 30 = 0 → 0 ≤ zv_I h' 347 19 ∧ zv_I h' 347 19 ≤ most) := by
    rw [qE9_takesWord, zm_e (zm_gI hM 34)]
    by_cases c1 : zv_I h 347 34 = 1
    · rw [if_pos c1]
      exact l14 1 (fun _ => c1)
    · rw [if_neg c1]
      exact l14 0 (fun q => absurd rfl q)
  obtain ⟨h', e, q⟩ := main
  exact ⟨h', lC9_takesWord (zm_ob hM) e, q⟩
