theorem zm_merges25 (d : Nat) (s w : Int) : ∀ (n i : Nat) (h : zv_H), i + n = 4236 → zm_M h → (∀ k : Nat, k < i → zv_I h 350 k = zv_I h 348 k) → ∃ h', L9_merges_25 d 347 s w i h = L9_merges_25 d 347 s w 4236 h' ∧ zm_F [350] [] h h' ∧ (∀ k : Nat, k < 4236 → zv_I h' 350 k = zv_I h 348 k)
  | 0, i, h, hi, _, hk => by
    have e : i = 4236 := by omega
    subst e
    exact ⟨h, rfl, zm_F_r _ _ h, hk⟩
  | n + 1, i, h, hi, hM, hk => by
    rw [qL9_merges_25, if_pos (by omega), zm_e (zm_f2 hM), zm_e (zm_f0 hM), zm_e (zm_aI hM zm_l348 rfl (by omega) (by omega)), zm_e (zm_wI hM zm_l350 rfl (by omega) (by omega) _), zm_w (by omega)]
    obtain ⟨h', i1, i2, i3⟩ := zm_merges25 d s w n (i + 1) (zv_sI h 350 ((i : Int)).toNat (zv_I h 348 ((i : Int)).toNat)) (by omega) hM (fun k hk2 => by
      rw [zm_ss, zm_so h _ _]
      by_cases q : k = i
      · rw [q, show ((i : Int)).toNat = i by omega, zm_u_s]
      · rw [zm_u_o _ _ (by omega)]
        exact hk k (by omega))
    exact ⟨h', i1, zm_F_t (zm_F_I (zm_F_r _ _ h) rfl _ _) i2, fun k hk => by rw [i3 k hk, zm_so h _ _]⟩
theorem zm_merges94 (d : Nat) (v : Int) : ∀ (n i : Nat) (h : zv_H), i + n = 4236 → zm_M h → (∀ k : Nat, k < i → zv_I h 348 k = zv_I h 350 k) → ∃ h', L9_merges_94 d 347 v i h = some (some (zv_i v), h') ∧ zm_F [348] [] h h' ∧ (∀ k : Nat, k < 4236 → zv_I h' 348 k = zv_I h 350 k)
  | 0, i, h, hi, _, hk => by
    have e : i = 4236 := by omega
    subst e
    exact ⟨h, by rw [qL9_merges_94, if_neg (by decide)], zm_F_r _ _ h, hk⟩
  | n + 1, i, h, hi, hM, hk => by
    rw [qL9_merges_94, if_pos (by omega), zm_e (zm_f0 hM), zm_e (zm_f2 hM), zm_e (zm_aI hM zm_l350 rfl (by omega) (by omega)), zm_e (zm_wI hM zm_l348 rfl (by omega) (by omega) _), zm_w (by omega)]
    obtain ⟨h', i1, i2, i3⟩ := zm_merges94 d v n (i + 1) (zv_sI h 348 ((i : Int)).toNat (zv_I h 350 ((i : Int)).toNat)) (by omega) hM (fun k hk2 => by
      rw [zm_ss, zm_so h _ _]
      by_cases q : k = i
      · rw [q, show ((i : Int)).toNat = i by omega, zm_u_s]
      · rw [zm_u_o _ _ (by omega)]
        exact hk k (by omega))
    exact ⟨h', i1, zm_F_t (zm_F_I (zm_F_r _ _ h) rfl _ _) i2, fun k hk => by rw [i3 k hk, zm_so h _ _]⟩
theorem zm_merges {h : zv_H} (i : zm_MI h) (d : Nat) (s w : Int) : zm_R (C9_merges (d + 10) 347 s w h) (fun q => zm_X h q.2) := by
  refine zm_cI (P := fun _ h' => zm_X h h') (lC9_merges (zm_ob i.1)) ?_
  have l15 : ∀ v : Int, zm_R (L9_merges_15 (d + 9) 347 s w 347 v h) (zm_I fun _ h' => zm_X h h') := by
    intro v
    rw [qL9_merges_15]
    refine zm_isq i (fun hw h1 f1 i1 => zm_X_i (zm_X_a i f1 rfl rfl rfl) ?_)
    obtain ⟨h2, e2, f2, k2⟩ := zm_merges25 (d + 9) s w 4236 0 h1 rfl i1.1 (fun k hk => by omega)
    have x2 := zm_X_a i1 f2 rfl rfl rfl
    obtain ⟨⟨n, h3⟩, e3, f3, w3, q3⟩ := zm_mergeNow x2.2.1 rfl x2.2.2.1 d s
    dsimp only at f3 w3 q3
    have x3 := zm_X_of x2.2 f3 rfl rfl w3
    have p3 : ∀ k : Nat, k < 4236 → zv_I h3 350 k = zv_I h1 348 k := fun k hk => by rw [zm_F_a f3 350]; exact k2 k hk
    have fin : ∀ (v : Int) (h4 : zv_H), zm_X h3 h4 → zv_I h4 350 = zv_I h3 350 → zm_R (L9_merges_94 (d + 9) 347 v 0 h4) (zm_I fun _ h' => zm_X h3 h') := by
      intro v h4 x4 e4
      obtain ⟨h5, e5, f5, k5⟩ := zm_merges94 (d + 9) v 4236 0 h4 rfl x4.2.1 (fun k hk => by omega)
      rw [show L9_merges_94 (d + 9) 347 v 0 h4 = _ from e5]
      exact zm_iI (zm_X_t x4 (zm_X_of x4.2 f5 rfl rfl (zm_W_eq i1.2.1 (fun k hk => by rw [k5 k hk, e4]; exact p3 k hk))))
    dsimp only
    rw [show L9_merges_25 (d + 9) 347 s w 0 h1 = _ from e2, qL9_merges_25, if_neg (by decide), zm_e e3]
    dsimp only
    refine zm_X_i x2 (zm_X_i x3 ?_)
    have r3 := zm_F_r [] [] h3
    have xr : zm_X h3 h3 := zm_X_a x3.2 r3 rfl rfl rfl
    refine zm_if (fun _ => zm_rX0 x3.2) (fun _ => zm_if (fun _ => fin n h3 xr rfl) (fun _ => zm_if (fun _ => ?_) (fun _ => ?_)))
    · rw [zm_e (zm_gI x3.2.1 24)]
      exact fin _ h3 xr rfl
    · rw [zm_e (zm_here x3.2.1 _)]
      dsimp only
      obtain ⟨l, a1, a2, a3, a4⟩ := zm_W_l x3.2.2.1.1 x3.2.2.1.2.1
      obtain ⟨⟨n4, h4⟩, e4, _, f4, _⟩ := zm_lettersOf x3.2.1 (d + 4) (zm_sees_st x3.2.1 rfl (d + 4) a1 a2 a3 a4)
      dsimp only at f4
      rw [zm_e e4]
      exact fin n4 h4 (zm_X_a x3.2 f4 rfl rfl rfl) (zm_F_a f4 350)
  rw [qE9_merges]
  exact zm_gb (zm_isIn _ w 0 2) (fun _ => l15 1) (fun _ => l15 0)
/-! what is told -/
theorem zm_tells {h : zv_H} (hM : zm_M h) (d : Nat) (v : Int) (h47 : 0 ≤ zv_I h 347 47 ∧ zv_I h 347 47 < 200) : ∃ h', C9_tells (d + 1) 347 v h = some h' ∧ zm_F [372] [47] h h' ∧ zv_I h' 347 47 = zv_I h 347 47 + 1 := by
  have main : ∃ h', E9_tells d 347 v h = some (none, h') ∧ zm_F [372] [47] h h' ∧ zv_I h' 347 47 = zv_I h 347 47 + 1 := by
    rw [qE9_tells, zm_e (zm_f46 hM), zm_e (zm_gI hM 47), zm_e (zm_wI hM zm_l372 rfl h47.1 (by omega) _)]
    have f1 : zm_F [372] [47] h (zv_sI h 372 (zv_I h 347 47).toNat v) := zm_F_I (zm_F_r _ _ h) rfl _ _
    have e1 : zv_I (zv_sI h 372 (zv_I h 347 47).toNat v) 347 47 = zv_I h 347 47 := rfl
    have hM1 := zm_F_M f1 hM
    rw [zm_e (zm_gI hM1 47), e1, zm_w (by omega), zm_e (zm_pI hM1 47 _)]
    exact ⟨_, rfl, zm_F_f f1 rfl _, by rw [zm_sgI, if_pos rfl]⟩
  obtain ⟨h', e, q⟩ := main
  exact ⟨h', lC9_tells (zm_ob hM) e, q⟩
theorem zm_tellsNumber {h : zv_H} (hM : zm_M h) (d : Nat) (v : Int) (h47 : 0 ≤ zv_I h 347 47 ∧ zv_I h 347 47 < 199) : ∃ h', C9_tellsNumber (d + 2) 347 v h = some h' ∧ zm_F [372] [47] h h' ∧ zv_I h 347 47 + 1 ≤ zv_I h' 347 47 ∧ zv_I h' 347 47 ≤ zv_I h 347 47 + 2 := by
  have l17 : ∀ g : zv_H, zm_M g → (0 ≤ zv_I g 347 47 ∧ zv_I g 347 47 < 200) → ∃ h', L9_tellsNumber_17 (d + 1) 347 v g = some (none, h') ∧ zm_F [372] [47] g h' ∧ zv_I h' 347 47 = zv_I g 347 47 + 1 := by
    intro g hg h2
    obtain ⟨h', e, f, q⟩ := zm_tells hg d (zv_w (48 + v.tmod 10)) h2
    rw [qL9_tellsNumber_17, zm_e e]
    exact ⟨h', rfl, f, q⟩
  have main : ∃ h', E9_tellsNumber (d + 1) 347 v h = some (none, h') ∧ zm_F [372] [47] h h' ∧ zv_I h 347 47 + 1 ≤ zv_I h' 347 47 ∧ zv_I h' 347 47 ≤ zv_I h 347 47 + 2 := by
    rw [qE9_tellsNumber]
    by_cases c1 : v ≤ 9
    · obtain ⟨h', e, f, q⟩ := l17 h hM (by omega)
      rw [if_pos c1]
      exact ⟨h', e, f, by omega, by omega⟩
    · obtain ⟨h1, e1, f1, q1⟩ := zm_tells hM d (zv_w (48 + zv_w (v.tdiv 10))) (by omega)
      obtain ⟨h', e, f, q⟩ := l17 h1 (zm_F_M f1 hM) (by omega)
      rw [if_neg c1, zm_e e1]
      exact ⟨h', e, zm_F_t f1 f, by omega, by omega⟩
  obtain ⟨h', e, q⟩ := main
  exact ⟨h', lC9_tellsNumber (zm_ob hM) e, q⟩
theorem zm_tellsNames_l (d : Nat) {m : Nat} (hm : m ≤ 12) : ∀ (n k : Nat) (h : zv_H), k + n = m → zm_M h → zv_I h 348 3 = m → 0 ≤ zv_I h 347 47 → zv_I h 347 47 ≤ 10 * k → ∃ h', L9_tellsNames_2 (d + 2) 347 k h = some (none, h') ∧ zm_F [372] [47] h h' ∧ 0 ≤ zv_I h' 347 47 ∧ zv_I h' 347 47 ≤ 10 * m
  | 0, k, h, hk, hM, h3, q0, q1 => ⟨h, by rw [qL9_tellsNames_2, zm_e (zm_f0 hM), zm_e (zm_aI hM zm_l348 rfl (by decide) (by decide)), show zv_I h 348 (Int.toNat 3) = _ from h3, if_neg (by omega)], zm_F_r _ _ h, q0, by omega⟩
  | n + 1, k, h, hk, hM, h3, q0, q1 => by
    have w1 : zv_w ((k : Int) + 1) = ((k + 1 : Nat) : Int) := by
      rw [zm_w (by omega)]
      rfl
    have w2 : zv_w (408 + zv_w (2 * (k : Int))) = 408 + 2 * (k : Int) := by
      rw [zm_w (x := 2 * (k : Int)) (by omega), zm_w (by omega)]
    have w3 : zv_w (408 + 2 * (k : Int) + 1) = 408 + 2 * (k : Int) + 1 := zm_w (by omega)
    -- the letters, then the number
    have l38 : ∀ (b : Nat) (v : Int) (g : zv_H), b ≤ 6 → zm_F [372] [47] h g → 0 ≤ zv_I g 347 47 → zv_I g 347 47 + b ≤ 10 * k + 7 → ∃ h', L9_tellsNames_38 (d + 2) 347 k v (5 * (b : Int) - 5) g = some (none, h') ∧ zm_F [372] [47] h h' ∧ 0 ≤ zv_I h' 347 47 ∧ zv_I h' 347 47 ≤ 10 * m := by
      intro b
      induction b with
      | zero =>
        intro v g hb fg g0 g1
        have hMg := zm_F_M fg hM
        obtain ⟨h4, e4, f4, s4⟩ := zm_tells hMg (d + 1) 61 (by omega)
        have hM4 := zm_F_M f4 hMg
        obtain ⟨h5, e5, f5, s5, s6⟩ := zm_tellsNumber hM4 d (zv_I h4 348 (408 + 2 * (k : Int) + 1).toNat) (by omega)
        have F5 : zm_F [372] [47] h h5 := zm_F_t fg (zm_F_t f4 f5)
        obtain ⟨h6, e6, f6, s7, s8⟩ := zm_tellsNames_l d hm n (k + 1) h5 (by omega) (zm_F_M F5 hM) (by rw [zm_F_a F5 348]; exact h3) (by omega) (by omega)
        rw [qL9_tellsNames_38, if_pos (by omega), zm_e e4, zm_e (zm_f0 hM4), w2, w3, zm_e (zm_aI hM4 zm_l348 rfl (by omega) (by omega)), zm_e e5, w1]
        exact ⟨h6, e6, zm_F_t F5 f6, s7, s8⟩
      | succ b ih =>
        intro v g hb fg g0 g1
        have hMg := zm_F_M fg hM
        have w4 : zv_w (5 * ((b + 1 : Nat) : Int) - 5 + -5) = 5 * (b : Int) - 5 := by
          rw [zm_w (by omega)]
          omega
        rw [qL9_tellsNames_38, if_neg (by omega), w4]
        by_cases c1 : zv_shr v (5 * ((b + 1 : Nat) : Int) - 5) ≤ 0
        · rw [if_pos c1]
          exact ih v g (by omega) fg g0 (by omega)
        · obtain ⟨h4, e4, f4, s4⟩ := zm_tells hMg (d + 1) (zv_w (96 + zv_and (zv_shr v (5 * ((b + 1 : Nat) : Int) - 5)) 31)) (by omega)
          rw [if_neg c1, zm_e e4]
          exact ih v h4 (by omega) (zm_F_t fg f4) (by omega) (by omega)
    rw [qL9_tellsNames_2, zm_e (zm_f0 hM), zm_e (zm_aI hM zm_l348 rfl (by decide) (by decide)), show zv_I h 348 (Int.toNat 3) = _ from h3, if_pos (by omega), w2]
    by_cases c1 : (k : Int) ≤ 0
    · rw [if_pos c1, zm_e (zm_f0 hM), zm_e (zm_aI hM zm_l348 rfl (by omega) (by omega))]
      exact l38 6 _ h (by omega) (zm_F_r _ _ h) q0 (by omega)
    · obtain ⟨h4, e4, f4, s4⟩ := zm_tells hM (d + 1) 32 (by omega)
      have hM4 := zm_F_M f4 hM
      rw [if_neg c1, zm_e e4, zm_e (zm_f0 hM4), zm_e (zm_aI hM4 zm_l348 rfl (by omega) (by omega))]
      exact l38 6 _ h4 (by omega) f4 (by omega) (by omega)
theorem zm_X_o {h h' : zv_H} {A : List Nat} (i : zm_MI h) (f : zm_F A [3, 4, 10, 11, 12, 47] h h') (hA : (A.all fun r => List.contains [348, 349, 350, 351, 352, 353, 354, 355, 356, 357, 358, 359, 360, 361, 362, 363, 364, 365, 366, 370, 371, 372] r) = true) (h348 : A.contains 348 = false) (b : 0 ≤ zv_I h' 347 47 ∧ zv_I h' 347 47 ≤ 200) : zm_X h h' := by
  obtain ⟨i1, i2, i3, i4, i5, i6, i7⟩ := i
  refine ⟨zm_F_s f hA rfl, zm_F_M f i1, by rw [zm_F_a f 348 h348]; exact i2, zm_K_F i3 f, by rw [zm_F_g f 27]; exact i4, by rw [zm_F_g f 35]; exact i5, by rw [zm_F_g f 20]; exact i6, b⟩
theorem zm_tell118 (d : Nat) {h : zv_H} (i : zm_MI h) (w : Int) (h0 : w = 2 → zv_I h 347 47 = 0) : zm_R (L9_tell_118 (d + 3) 347 w h) (zm_I fun _ h' => zm_X h h') := by
  rw [qL9_tell_118]
  refine zm_if (fun c => ?_) (fun _ => ?_)
  · have h3 := i.2.1.2.2.1
    obtain ⟨m, em⟩ : ∃ m : Nat, zv_I h 348 3 = m := ⟨(zv_I h 348 3).toNat, by omega⟩
    have z := h0 c
    obtain ⟨h1, e1, f1, q0, q1⟩ := zm_tellsNames_l d (m := m) (by omega) m 0 h (Nat.zero_add _) i.1 em (by omega) (by omega)
    have e : C9_tellsNames (d + 3) 347 h = some h1 := lC9_tellsNames (zm_ob i.1) (by rw [qE9_tellsNames]; exact e1)
    rw [zm_e e, zm_e (zm_gI (zm_F_M f1 i.1) 47)]
    exact zm_iI (zm_X_o i (A := [372]) (zm_F_s f1 rfl rfl) rfl rfl (by omega))
  · rw [zm_e (zm_gI i.1 47)]
    exact zm_rX0 i
theorem zm_tell79 (d : Nat) (w : Int) {c : Nat → Int} {l : List Int} (hn : l.length ≤ 48) : ∀ (m k : Nat) (h : zv_H), k + m = l.length → zm_MI h → zm_lh c l h → (w = 2 → zv_I h 347 47 = 0) → (w = 1 → zv_I h 347 47 ≤ 3 * k) → zm_R (L9_tell_79 (d + 3) 347 w k h) (zm_I fun _ h' => zm_X h h')
  | 0, k, h, hk, i, hh, h0, h1 => by
    rw [qL9_tell_79, zm_e (zm_gI i.1 10), hh.2.2.1, if_neg (by omega)]
    exact zm_tell118 d i w h0
  | m + 1, k, h, hk, i, hh, h0, h1 => by
    have w1 : zv_w ((k : Int) + 1) = ((k + 1 : Nat) : Int) := by
      rw [zm_w (by omega)]
      rfl
    have i7 := i.2.2.2.2.2.2
    rw [qL9_tell_79, zm_e (zm_gI i.1 10), hh.2.2.1, if_pos (by omega)]
    refine zm_if (fun c1 => ?_) (fun _ => zm_tell118 d i w h0)
    have q1 := h1 c1
    have l102 : ∀ g : zv_H, zm_X h g → zm_lh c l g → zv_I g 347 47 ≤ 3 * (k : Int) + 1 → zm_R (L9_tell_102 (d + 3) 347 w k g) (zm_I fun _ h' => zm_X h h') := by
      intro g xg hg g1
      have ig := xg.2
      have g7 := ig.2.2.2.2.2.2
      obtain ⟨t, _, et⟩ := zm_lh_g hg hn (j := k) (by omega) (by omega)
      obtain ⟨h5, e5, f5, s5, s6⟩ := zm_tellsNumber ig.1 (d + 1) t (by omega)
      have x5 := zm_X_o ig (A := [372]) (zm_F_s f5 rfl rfl) rfl rfl (by omega)
      rw [qL9_tell_102, zm_e (zm_f5 ig.1), zm_e et, zm_e e5, w1]
      exact zm_X_i xg (zm_X_i x5 (zm_tell79 d w hn m (k + 1) h5 (by omega) x5.2 (zm_lh_F hg f5) (fun q => by rw [q] at c1; cases c1) (fun _ => by omega)))
    refine zm_if (fun _ => l102 h (zm_X_a (A := []) (B := []) i (zm_F_r _ _ h) rfl rfl rfl) hh (by omega)) (fun _ => ?_)
    obtain ⟨h4, e4, f4, s4⟩ := zm_tells i.1 (d + 2) 60 (by omega)
    rw [zm_e e4]
    exact l102 h4 (zm_X_o i (A := [372]) (zm_F_s f4 rfl rfl) rfl rfl (by omega)) (zm_lh_F hh f4) (by omega)
theorem zm_tell38 (d : Nat) (w : Int) {c : Nat → Int} {l : List Int} (hn : l.length ≤ 48) (g : zm_G0 c l) (hl : ∀ t ∈ l, 0 ≤ t ∧ t ≤ 48) (hb : ((zm_row c l).filter (zm_sn c l)).length ≤ 120) : ∀ (b a : List (Int × Int)), a ++ b = zm_row c l → ∀ h : zv_H, zm_MI h → zv_I h 348 = c → zm_Sn h c l → (w ≠ 0 → zv_I h 347 47 = 0) → (w = 0 → zv_I h 347 47 = (a.filter (zm_sn c l)).length) → zm_R (L9_tell_38 (d + 3) 347 w a.length h) (zm_I fun _ h' => zm_X h h')
  | [], a, e, h, i, hc, n, h0, h1 => by
    have lp : 0 + l.length = l.length := Nat.zero_add _
    rw [List.append_nil] at e
    rw [qL9_tell_38, zm_e (zm_gI i.1 11), n.2.1.1, if_neg (by rw [e]; exact Int.lt_irrefl _)]
    exact zm_tell79 d w hn l.length 0 h lp i ⟨i.1, hc, n.1.1, n.1.2⟩ (fun q => h0 (by rw [q]; decide)) (fun q => by rw [h0 (by rw [q]; decide)]; exact Int.le_refl _)
  | x :: b, a, e, h, i, hc, n, h0, h1 => by
    have h640 := zm_row640 g hn
    have hlen : (zm_row c l).length = a.length + (b.length + 1) := by rw [← e, List.length_append, List.length_cons]
    have hx : (zm_row c l)[a.length]? = some x := by
      rw [← e, List.getElem?_append_right (Nat.le_refl _), Nat.sub_self]
      rfl
    have e' : (a ++ [x]) ++ b = zm_row c l := by
      rw [List.append_assoc]
      exact e
    have w1 : zv_w ((a.length : Int) + 1) = (((a ++ [x]).length : Nat) : Int) := by
      rw [zm_w (by omega), List.length_append]
      rfl
    rw [qL9_tell_38, zm_e (zm_gI i.1 11), n.2.1.1, if_pos (by omega)]
    refine zm_if (fun c0 => ?_) (fun c0 => zm_tell79 d w hn l.length 0 h (Nat.zero_add _) i ⟨i.1, hc, n.1.1, n.1.2⟩ (fun _ => h0 c0) (fun _ => by rw [h0 c0]; exact Int.le_refl _))
    have q1 := h1 c0
    rw [zm_e (zm_f9 i.1), zm_e (zm_aB i.1 zm_l355 (Or.inl rfl) rfl (by omega) (by omega)), show ((a.length : Int)).toNat = a.length by omega, n.2.2.2.1 _ x hx, w1]
    by_cases c1 : zm_sn c l x = true
    · have ok := zm_row_ok hl g x (List.mem_of_getElem? hx)
      have hfa : (a.filter (zm_sn c l)).length + 1 ≤ 120 := by
        have : ((zm_row c l).filter (zm_sn c l)).length = (a.filter (zm_sn c l)).length + (1 + (b.filter (zm_sn c l)).length) := by
          rw [← e, List.filter_append, List.length_append, List.filter_cons_of_pos c1, List.length_cons]
          omega
        omega
      rw [if_pos c1, if_neg (by decide), zm_e (zm_letterIn i.1 hc (d + 1) n.2.1 h640 hx ok.1 (by have := ok.2; omega))]
      dsimp only
      obtain ⟨h4, e4, f4, s4⟩ := zm_tells i.1 (d + 2) (zv_w (97 + zm_lt c x)) (by omega)
      have x4 := zm_X_o i (A := [372]) (zm_F_s f4 rfl rfl) rfl rfl (by omega)
      rw [zm_e e4]
      refine zm_X_i x4 (zm_tell38 d w hn g hl hb b (a ++ [x]) e' h4 x4.2 ((zm_F_a f4 348).trans hc) (zm_Sn_F n f4) (fun q => absurd c0 q) (fun _ => ?_))
      rw [s4, q1, List.filter_append, List.length_append, List.filter_cons_of_pos c1]
      rfl
    · rw [if_neg c1, if_pos rfl]
      refine zm_tell38 d w hn g hl hb b (a ++ [x]) e' h i hc n (fun q => absurd c0 q) (fun _ => ?_)
      rw [q1, List.filter_append, List.length_append, List.filter_cons_of_neg c1]
      rfl
theorem zm_tell {h : zv_H} (i : zm_MI h) (d : Nat) (w : Int) : zm_R (C9_tell (d + 10) 347 w h) (fun q => zm_X h q.2) := by
  refine zm_cI (P := fun _ h' => zm_X h h') (lC9_tell (zm_ob i.1)) ?_
  have l15 : ∀ v : Int, zm_R (L9_tell_15 (d + 9) 347 w 347 v h) (zm_I fun _ h' => zm_X h h') := by
    intro v
    rw [qL9_tell_15]
    refine zm_isq i (fun hw h1 f1 i1 => zm_X_i (zm_X_a i f1 rfl rfl rfl) ?_)
    dsimp only
    rw [zm_e (zm_pI i1.1 47 0)]
    have f2 : zm_F [] [3, 4, 10, 11, 12, 47] h1 (zv_sI h1 347 47 0) := zm_F_f (zm_F_r _ _ h1) rfl _
    have e2 : zv_I (zv_sI h1 347 47 0) 347 47 = 0 := by rw [zm_sgI, if_pos rfl]
    generalize zv_sI h1 347 47 0 = h2 at f2 e2
    have x2 := zm_X_o i1 f2 rfl rfl (by rw [e2]; decide)
    have i2 := x2.2
    obtain ⟨h3, l, e3, f3, i3, x3, n3, s3, m3, g3, b3, c3⟩ := zm_see i2 (d + 5) i2.2.1.2.1
    rw [zm_e (zm_here i2.1 _)]
    dsimp only
    rw [zm_e e3]
    refine zm_X_i x2 (zm_X_i x3 ?_)
    have z : zv_I h3 347 47 = 0 := (zm_F_g f3 47).trans e2
    exact zm_tell38 (d + 6) w m3 g3 (fun t ht => zm_st48 (s3 t ht)) b3 (zm_row (zv_I h3 348) l) [] rfl h3 i3 rfl n3 (fun _ => z) (fun _ => z)
  rw [qE9_tell]
  exact zm_gb (zm_isIn _ w 0 2) (fun _ => l15 1) (fun _ => l15 0)
theorem zm_out {h : zv_H} (i : zm_MI h) (d : Nat) (n : Int) : zm_R (C9_out (d + 10) 347 n h) (fun q => zm_X h q.2) := by
  refine zm_cI (P := fun _ h' => zm_X h h') (lC9_out (zm_ob i.1)) ?_
  have i7 := i.2.2.2.2.2.2
  have l22 : ∀ v : Int, (v = 0 → 0 ≤ n ∧ n < 200) → zm_R (L9_out_22 (d + 9) 347 n 347 v h) (zm_I fun _ h' => zm_X h h') := by
    intro v hv
    rw [qL9_out_22]
    refine zm_isq i (fun hw h1 f1 i1 => zm_X_i (zm_X_a i f1 rfl rfl rfl) ?_)
    have hn := hv hw
    dsimp only
    rw [zm_e (zm_f46 i1.1), zm_e (zm_aI i1.1 zm_l372 rfl hn.1 (by omega))]
    exact zm_rX0 i1
  rw [qE9_out]
  refine zm_if (fun _ => l22 1 (fun q => by cases q)) (fun c1 => ?_)
  rw [zm_e (zm_gI i.1 47)]
  exact zm_if (fun c2 => l22 0 (fun _ => by omega)) (fun _ => l22 5 (fun q => by cases q))
