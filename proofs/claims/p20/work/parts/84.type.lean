/-! ===== the reference: type, feed ===== -/
theorem zm_X_20 {h h' : zv_H} {A : List Nat} (i : zm_MI h) (f : zm_F A [4, 20] h h') (hA : (A.all fun r => List.contains [348, 349, 350, 351, 352, 353, 354, 355, 356, 357, 358, 359, 360, 361, 362, 363, 364, 365, 366, 370, 371, 372] r) = true) (h348 : A.contains 348 = false) (b : 0 ≤ zv_I h' 347 20 ∧ zv_I h' 347 20 ≤ 12) : zm_X h h' := by
  obtain ⟨i1, i2, i3, i4, i5, i6, i7⟩ := i
  exact ⟨zm_F_s f hA rfl, zm_F_M f i1, by rw [zm_F_a f 348 h348]; exact i2, zm_K_F i3 f, by rw [zm_F_g f 27]; exact i4, by rw [zm_F_g f 35]; exact i5, b, by rw [zm_F_g f 47]; exact i7⟩
theorem zm_type103 (d : Nat) {n : Nat} (hn : n ≤ 12) : ∀ (m k : Nat) (h : zv_H), k + m = n → zm_M h → ∃ h', L9_type_103 d 347 n k h = some (some (zv_i n), h') ∧ zm_F [361] [20] h h' ∧ zv_I h' 347 20 = n
  | 0, k, h, hk, hM => by
    rw [qL9_type_103, if_neg (by omega), zm_e (zm_pI hM 20 _)]
    exact ⟨_, rfl, zm_F_f (zm_F_r _ _ h) rfl _, by rw [zm_sgI, if_pos rfl]⟩
  | m + 1, k, h, hk, hM => by
    rw [qL9_type_103, if_pos (by omega), zm_e (zm_f18 hM), zm_e (zm_f17 hM), zm_e (zm_aI hM zm_l360 rfl (by omega) (by omega)), zm_e (zm_wI hM zm_l361 rfl (by omega) (by omega) _), zm_w (by omega)]
    generalize zv_I h 360 ((k : Int)).toNat = v0
    obtain ⟨h', i1, i2, i3⟩ := zm_type103 d hn m (k + 1) (zv_sI h 361 ((k : Int)).toNat v0) (by omega) hM
    exact ⟨h', i1, zm_F_t (zm_F_I (zm_F_r _ _ h) rfl _ _) i2, i3⟩
/-- a letter of the word told in two ints -/
def zm_tl (a b : Int) (k : Nat) : Int := zv_and (zv_ushr (if (k : Int) < 6 then a else b) (zv_w (5 * ((k : Int).tmod 6)))) 31
/-- how many letters, -1 where one is none -/
def zm_ty (a b : Int) : Nat → Nat → Int
  | 0, k => k
  | m + 1, k => if zm_tl a b k ≤ 26 then (if zm_tl a b k ≤ 0 then k else zm_ty a b m (k + 1)) else -1
theorem zm_type13 (d : Nat) (a b : Int) : ∀ (m k : Nat) (h : zv_H), k + m = 12 → zm_MI h → zm_R (L9_type_13 d 347 a b k 1 k h) (zm_I fun v h' => zm_X h h' ∧ v = zm_ty a b m k)
  | 0, k, h, hk, i => by
    obtain ⟨h', e, f, q⟩ := zm_type103 d (n := k) (by omega) k 0 h (Nat.zero_add _) i.1
    rw [qL9_type_13, if_neg (by omega), show L9_type_103 d 347 k 0 h = _ from e]
    exact zm_iI ⟨zm_X_20 i (A := [361]) (zm_F_s f rfl rfl) rfl rfl (by omega), rfl⟩
  | m + 1, k, h, hk, i => by
    have w1 : zv_w ((k : Int) + 1) = ((k + 1 : Nat) : Int) := by
      rw [zm_w (by omega)]
      rfl
    have w0 : zv_w ((k : Int) + 0) = (k : Int) := by
      rw [zm_w (by omega), Int.add_zero]
    have l37 : ∀ e : Int, e = (if (k : Int) < 6 then a else b) → zm_R (L9_type_37 d 347 a b k k e h) (zm_I fun v h' => zm_X h h' ∧ v = zm_ty a b (m + 1) k) := by
      intro e he
      have ev : zv_and (zv_ushr e (zv_w (5 * ((k : Int).tmod 6)))) 31 = zm_tl a b k := by
        rw [he]
        rfl
      have et : zm_ty a b (m + 1) k = if zm_tl a b k ≤ 26 then (if zm_tl a b k ≤ 0 then (k : Int) else zm_ty a b m (k + 1)) else -1 := rfl
      rw [qL9_type_37, ev, et]
      by_cases c1 : zm_tl a b k ≤ 26
      · rw [if_pos c1, if_pos c1]
        have wr : zm_X h (zv_sI h 360 ((k : Int)).toNat (zv_w (zm_tl a b k - 1))) := zm_X_a (A := [360]) (B := []) i (zm_F_I (zm_F_r _ _ h) rfl _ _) rfl rfl rfl
        by_cases c2 : zm_tl a b k ≤ 0
        · rw [if_pos c2, if_pos c2, qL9_type_69, zm_e (zm_f17 i.1), zm_e (zm_wI i.1 zm_l360 rfl (by omega) (by omega) _), if_pos rfl, w0, w1]
          generalize zv_sI h 360 ((k : Int)).toNat (zv_w (zm_tl a b k - 1)) = h1 at wr
          obtain ⟨h', e, f, q⟩ := zm_type103 d (n := k) (by omega) k 0 h1 (Nat.zero_add _) wr.2.1
          have fin : zm_R (L9_type_103 d 347 k 0 h1) (zm_I fun v h' => zm_X h h' ∧ v = (k : Int)) := by
            rw [show L9_type_103 d 347 k 0 h1 = _ from e]
            exact zm_iI ⟨zm_X_t wr (zm_X_20 wr.2 (A := [361]) (zm_F_s f rfl rfl) rfl rfl (by omega)), rfl⟩
          rw [qL9_type_13]
          exact zm_if (fun _ => by rw [if_pos rfl]; exact fin) (fun _ => fin)
        · rw [if_neg c2, if_neg c2, qL9_type_69, zm_e (zm_f17 i.1), zm_e (zm_wI i.1 zm_l360 rfl (by omega) (by omega) _), if_neg (by decide), w1]
          refine zm_mono (zm_type13 d a b m (k + 1) _ (by omega) wr.2) ?_
          rintro ⟨ov, h'⟩ ⟨v, ev, x, q⟩
          exact ⟨v, ev, zm_X_t wr x, q⟩
      · rw [if_neg c1, if_neg c1]
        exact zm_iI ⟨zm_X_a (A := []) (B := []) i (zm_F_r _ _ h) rfl rfl rfl, rfl⟩
    rw [qL9_type_13, if_pos (by omega), if_neg (by decide)]
    by_cases c1 : (k : Int) < 6
    · rw [if_pos c1]
      exact l37 a (by rw [if_pos c1])
    · rw [if_neg c1]
      exact l37 b (by rw [if_neg c1])
theorem zm_type {h : zv_H} (i : zm_MI h) (d : Nat) (a b : Int) : zm_R (C9_type (d + 10) 347 a b h) (fun q => zm_X h q.2 ∧ q.1 = zm_ty a b 12 0) := by
  refine zm_cI (P := fun v h' => zm_X h h' ∧ v = zm_ty a b 12 0) (lC9_type (zm_ob i.1)) ?_
  have f : zm_F [] [4] h (zv_sI h 347 4 0) := zm_F_f (zm_F_r _ _ h) rfl _
  have x := zm_X_a i f rfl rfl rfl
  rw [qE9_type, zm_e (zm_pI i.1 4 0)]
  refine zm_mono (zm_type13 (d + 9) a b 12 0 _ rfl x.2) ?_
  rintro ⟨ov, h'⟩ ⟨v, ev, y, q⟩
  exact ⟨v, ev, zm_X_t x y, q⟩
theorem zm_lays_l (d : Nat) (v : Int) : ∀ (m : Nat) (h : zv_H), m ≤ 4 → zm_M h → 0 ≤ zv_I h 347 27 → zv_I h 347 27 + m ≤ 700 → ∃ h', L9_lays_3 d 347 v (8 * (m : Int) - 8) h = some (none, h') ∧ zm_F [366] [27] h h' ∧ zv_I h' 347 27 = zv_I h 347 27 + m
  | 0, h, hm, hM, h0, h1 => ⟨h, by rw [qL9_lays_3, if_pos (by omega)], zm_F_r _ _ h, by omega⟩
  | m + 1, h, hm, hM, h0, h1 => by
    have w1 : zv_w (8 * ((m + 1 : Nat) : Int) - 8 + -8) = 8 * (m : Int) - 8 := by
      rw [zm_w (by omega)]
      omega
    rw [qL9_lays_3, if_neg (by omega), zm_e (zm_f26 hM), zm_e (zm_gI hM 27), zm_e (zm_wB4 hM zm_l366 rfl h0 (by omega) _), w1]
    generalize zv_i2b (zv_i2b (zv_shr v (8 * ((m + 1 : Nat) : Int) - 8))) = x0
    have f1 : zm_F [366] [27] h (zv_sI h 366 (zv_I h 347 27).toNat x0) := zm_F_I (zm_F_r _ _ h) rfl _ _
    have e1 : zv_I (zv_sI h 366 (zv_I h 347 27).toNat x0) 347 27 = zv_I h 347 27 := rfl
    generalize zv_sI h 366 (zv_I h 347 27).toNat x0 = h2 at f1 e1
    have hM1 := zm_F_M f1 hM
    rw [zm_e (zm_gI hM1 27), e1, zm_w (by omega), zm_e (zm_pI hM1 27 _)]
    have f2 : zm_F [366] [27] h2 (zv_sI h2 347 27 (zv_I h 347 27 + 1)) := zm_F_f (zm_F_r _ _ h2) rfl _
    have e2 : zv_I (zv_sI h2 347 27 (zv_I h 347 27 + 1)) 347 27 = zv_I h 347 27 + 1 := by rw [zm_sgI, if_pos rfl]
    obtain ⟨h', i1, i2, i3⟩ := zm_lays_l d v m (zv_sI h2 347 27 (zv_I h 347 27 + 1)) (by omega) (zm_F_M f2 hM1) (by omega) (by omega)
    exact ⟨h', i1, zm_F_t f1 (zm_F_t f2 i2), by omega⟩
theorem zm_lays {h : zv_H} (hM : zm_M h) (d : Nat) (v : Int) (h0 : 0 ≤ zv_I h 347 27) (h1 : zv_I h 347 27 ≤ 696) : ∃ h', C9_lays (d + 1) 347 v h = some h' ∧ zm_F [366] [27] h h' ∧ zv_I h' 347 27 = zv_I h 347 27 + 4 := by
  obtain ⟨h', e, f, q⟩ := zm_lays_l d v 4 h (Nat.le_refl _) hM h0 (by omega)
  refine ⟨h', lC9_lays (zm_ob hM) ?_, f, q⟩
  rw [qE9_lays]
  exact e
/-- what feed answers -/
def zm_fd (n : Int) : Int := if n + 20 ≤ 700 then n + 20 else -1
theorem zm_feed {h : zv_H} (i : zm_MI h) (d : Nat) (a b c e f : Int) : ∃ h', C9_feed (d + 10) 347 a b c e f h = some (zm_fd (zv_I h 347 27), h') ∧ zm_F [366] [4, 27] h h' ∧ zm_MI h' ∧ zv_I h' 347 27 = if zv_I h 347 27 + 20 ≤ 700 then zv_I h 347 27 + 20 else zv_I h 347 27 := by
  have f0 : zm_F [366] [4, 27] h (zv_sI h 347 4 0) := zm_F_f (zm_F_r _ _ h) rfl _
  have i4 := i.2.2.2.1
  have z0 : zv_I (zv_sI h 347 4 0) 347 27 = zv_I h 347 27 := by rw [zm_sgI, if_neg (by decide)]
  have mi : ∀ h' : zv_H, zm_F [366] [4, 27] h h' → (0 ≤ zv_I h' 347 27 ∧ zv_I h' 347 27 ≤ 700) → zm_MI h' := by
    intro h' g hb
    obtain ⟨i1, i2, i3, i4, i5, i6, i7⟩ := i
    exact ⟨zm_F_M g i1, by rw [zm_F_a g 348]; exact i2, zm_K_F i3 g, hb, by rw [zm_F_g g 35]; exact i5, by rw [zm_F_g g 20]; exact i6, by rw [zm_F_g g 47]; exact i7⟩
  have main : ∃ h', E9_feed (d + 9) 347 a b c e f h = some (some (zv_i (zm_fd (zv_I h 347 27))), h') ∧ zm_F [366] [4, 27] h h' ∧ zm_MI h' ∧ zv_I h' 347 27 = if zv_I h 347 27 + 20 ≤ 700 then zv_I h 347 27 + 20 else zv_I h 347 27 := by
    rw [qE9_feed, zm_e (zm_pI i.1 4 0)]
    generalize zv_sI h 347 4 0 = h0 at f0 z0
    have M0 := zm_F_M f0 i.1
    rw [zm_e (zm_gI M0 27), z0, zm_w (by omega)]
    unfold zm_fd
    by_cases c1 : zv_I h 347 27 + 20 ≤ 700
    · obtain ⟨h1, e1, f1, q1⟩ := zm_lays M0 (d + 8) a (by omega) (by omega)
      have M1 := zm_F_M f1 M0
      obtain ⟨h2, e2, f2, q2⟩ := zm_lays M1 (d + 8) b (by omega) (by omega)
      have M2 := zm_F_M f2 M1
      obtain ⟨h3, e3, f3, q3⟩ := zm_lays M2 (d + 8) c (by omega) (by omega)
      have M3 := zm_F_M f3 M2
      obtain ⟨h4, e4, f4, q4⟩ := zm_lays M3 (d + 8) e (by omega) (by omega)
      have M4 := zm_F_M f4 M3
      obtain ⟨h5, e5, f5, q5⟩ := zm_lays M4 (d + 8) f (by omega) (by omega)
      have M5 := zm_F_M f5 M4
      have F : zm_F [366] [4, 27] h h5 := zm_F_t f0 (zm_F_t (zm_F_s f1 rfl rfl) (zm_F_t (zm_F_s f2 rfl rfl) (zm_F_t (zm_F_s f3 rfl rfl) (zm_F_t (zm_F_s f4 rfl rfl) (zm_F_s f5 rfl rfl)))))
      rw [if_pos c1, if_pos c1, if_pos c1, zm_e e1, zm_e e2, zm_e e3, zm_e e4, zm_e e5, zm_e (zm_gI M5 27)]
      have q : zv_I h5 347 27 = zv_I h 347 27 + 20 := by omega
      exact ⟨h5, by rw [q], F, mi h5 F (by omega), q⟩
    · rw [if_neg c1, if_neg c1, if_neg c1]
      exact ⟨h0, rfl, f0, mi h0 f0 (by omega), z0⟩
  obtain ⟨h', e, q⟩ := main
  exact ⟨h', lC9_feed (zm_ob i.1) e, q⟩
