/-! ===== the class: feed, load ===== -/
theorem zc_addByte {d : Nat} {h : zv_H} (hA : zc_A h) {v : Int} (rv : zv_rg v) (t0 : 0 ≤ zv_I h 5 2) (t1 : zv_I h 5 2 < 700) : ∃ h', C3_addByte (d + 1) 5 v h = some h' ∧ zc_A h' ∧ zc_P' h h' ∧ zv_I h' 5 2 = zv_I h 5 2 + 1 := by
  have F := zc_Q_r hA
  have main : zm_R (E3_addByte d 5 v h) (zm_V fun h' => zc_A h' ∧ zc_P' h h' ∧ zv_I h' 5 2 = zv_I h 5 2 + 1) := by
    rw [qE3_addByte, zm_e (zc_gI hA zc_h3 2), if_neg (by omega), zm_e (zc_gI hA zc_h3 2), if_pos t1]
    refine zc_rF F 1 zc_h3 ?_
    rw [zm_e (zc_gI hA zc_h3 2)]
    refine zc_wA F (zc_y3_0 zc_h3).1 (zc_y3_0 zc_h3).2 t0 (by omega) rv fun g5 F u => ?_
    rw [zm_e (zc_gI F.2 zc_h3 2), u 5 2 rfl, zm_w (by omega)]
    refine zc_dI (zc_ob F.2 zc_h3) ?_
    have T := zc_tape F.2 (v := zv_I h 5 2 + 1) (by unfold zv_rg; omega)
    exact zm_iV ⟨T.1, zc_P'_t (zc_PP' (zc_qP F.1)) T.2, zc_sI2 _ _ _ _⟩
  have c := zm_cV (c := C3_addByte (d + 1) 5 v h) (fun e => lC3_addByte (zc_ob hA zc_h3) e) main
  exact c
theorem zc_feedInt {d : Nat} (x : Int) : ∀ (n : Nat) (h : zv_H), n ≤ 4 → zc_A h → 0 ≤ zv_I h 5 2 → zv_I h 5 2 + n ≤ 700 → zm_R (L8_feedInt_3 (d + 1) 1 x (8 * (n : Int) - 8) h) (zm_V fun h' => zc_A h' ∧ zc_P' h h' ∧ zv_I h' 5 2 = zv_I h 5 2 + n) := by
  intro n
  induction n with
  | zero =>
    intro h hn hA t0 t1
    rw [qL8_feedInt_3, if_pos (by omega)]
    exact zm_iV ⟨hA, zc_PP' (zc_P_r h), by omega⟩
  | succ n ih =>
    intro h hn hA t0 t1
    have F := zc_Q_r hA
    rw [qL8_feedInt_3, if_neg (by omega)]
    refine zc_rF F 4 zc_h8 ?_
    obtain ⟨g, e, A, P, t⟩ := zc_addByte (d := d) hA (zc_and (zv_ushr x (8 * ((n + 1 : Nat) : Int) - 8)) 255) t0 (by omega)
    have e' : C3_addByte (d + 1) (1 + 4) (zv_and (zv_ushr x (8 * ((n + 1 : Nat) : Int) - 8)) 255) h = some g := e
    rw [zm_e e', show zv_w (8 * ((n + 1 : Nat) : Int) - 8 + -8) = 8 * (n : Int) - 8 by rw [zm_w (by omega)]; omega]
    refine zm_mono (ih g (by omega) A (by omega) (by omega)) ?_
    rintro ⟨ov, h'⟩ ⟨e1, A', P', t'⟩
    exact ⟨e1, A', zc_P'_t P P', by have t'' : zv_I h' 5 2 = zv_I g 5 2 + n := t'; omega⟩
theorem zc_feed1 {d : Nat} {h : zv_H} (hA : zc_A h) (x : Int) (t0 : 0 ≤ zv_I h 5 2) (t1 : zv_I h 5 2 + 4 ≤ 700) : zm_R (C8_feedInt (d + 2) 1 x h) (fun h' => zc_A h' ∧ zc_P' h h' ∧ zv_I h' 5 2 = zv_I h 5 2 + 4) := by
  refine zm_cV (fun e => lC8_feedInt (zc_ob hA zc_h8) e) ?_
  rw [qE8_feedInt]
  exact zc_feedInt x 4 h (Nat.le_refl _) hA t0 t1
theorem zc_C8_feed {d : Nat} {h : zv_H} (hA : zc_A h) (a b c e f : Int) (t0 : 0 ≤ zv_I h 5 2) (t1 : zv_I h 5 2 ≤ 700) : zm_R (C8_feed (d + 3) 1 a b c e f h) (fun q => q.1 = zm_fd (zv_I h 5 2) ∧ zc_A q.2 ∧ zc_P' h q.2 ∧ zv_I q.2 5 2 = if zv_I h 5 2 + 20 ≤ 700 then zv_I h 5 2 + 20 else zv_I h 5 2) := by
  have F := zc_Q_r hA
  refine zm_cI (P := fun v h' => v = zm_fd (zv_I h 5 2) ∧ zc_A h' ∧ zc_P' h h' ∧ zv_I h' 5 2 = if zv_I h 5 2 + 20 ≤ 700 then zv_I h 5 2 + 20 else zv_I h 5 2) (fun e => lC8_feed (zc_ob hA zc_h8) e) ?_
  rw [qE8_feed]
  refine zc_rF F 4 zc_h8 ?_
  rw [zm_e (show zv_gI h (1 + 4) 3 2 = some (zv_I h 5 2) from zc_gI hA zc_h3 2), zm_w (by omega)]
  unfold zm_fd
  by_cases c0 : zv_I h 5 2 + 20 ≤ 700
  · rw [if_pos c0, if_pos c0, if_pos c0]
    obtain ⟨g1, e1, A1, P1, s1⟩ := zc_feed1 (d := d) hA a t0 (by omega)
    rw [zm_e e1]
    obtain ⟨g2, e2, A2, P2, s2⟩ := zc_feed1 (d := d) A1 b (by omega) (by omega)
    rw [zm_e e2]
    obtain ⟨g3, e3, A3, P3, s3⟩ := zc_feed1 (d := d) A2 c (by omega) (by omega)
    rw [zm_e e3]
    obtain ⟨g4, e4, A4, P4, s4⟩ := zc_feed1 (d := d) A3 e (by omega) (by omega)
    rw [zm_e e4]
    obtain ⟨g5, e5, A5, P5, s5⟩ := zc_feed1 (d := d) A4 f (by omega) (by omega)
    rw [zm_e e5]
    refine zc_rF (zc_Q_r A5) 4 zc_h8 ?_
    rw [zm_e (show zv_gI g5 (1 + 4) 3 2 = some (zv_I g5 5 2) from zc_gI A5 zc_h3 2)]
    exact zm_iI ⟨by omega, A5, zc_P'_t P1 (zc_P'_t P2 (zc_P'_t P3 (zc_P'_t P4 P5))), by omega⟩
  · rw [if_neg c0, if_neg c0, if_neg c0]
    exact zm_iI ⟨rfl, hA, zc_PP' (zc_P_r h), rfl⟩
theorem zc_within {d : Nat} (h : zv_H) (a b c : Int) : C8_within (d + 1) a b c h = some ((if b ≤ a ∧ a ≤ c then 1 else 0), h) := by
  refine lC8_within ?_
  rw [qE8_within]
  by_cases c1 : a < b
  · rw [if_pos c1, if_neg (by omega)]
  · rw [if_neg c1]
    by_cases c2 : a ≤ c
    · rw [if_pos c2, if_pos (by omega)]
    · rw [if_neg c2, if_neg (by omega)]
theorem zc_swapA {h : zv_H} (hA : zc_A h) : zc_A (zv_sR (zv_sR h 1 3 (zv_R h 1 4)) 1 4 (zv_R h 1 3)) ∧ zc_P h (zv_sR (zv_sR h 1 3 (zv_R h 1 4)) 1 4 (zv_R h 1 3)) := by
  obtain ⟨b1, b2, b3, b4, b5, b6, b7, b8⟩ := hA.1
  have o : ∀ r k, ¬ (r = 1 ∧ (k = 3 ∨ k = 4)) → zv_R (zv_sR (zv_sR h 1 3 (zv_R h 1 4)) 1 4 (zv_R h 1 3)) r k = zv_R h r k := fun r k c => by
    have e1 : ∀ g v, zv_R (zv_sR g 1 4 v) r k = zv_R g r k := fun g v => if_neg (fun q => c ⟨q.1, Or.inr q.2⟩)
    have e2 : ∀ g v, zv_R (zv_sR g 1 3 v) r k = zv_R g r k := fun g v => if_neg (fun q => c ⟨q.1, Or.inl q.2⟩)
    rw [e1, e2]
  have r3 : zv_R (zv_sR (zv_sR h 1 3 (zv_R h 1 4)) 1 4 (zv_R h 1 3)) 1 3 = zv_R h 1 4 := rfl
  have r4 : zv_R (zv_sR (zv_sR h 1 3 (zv_R h 1 4)) 1 4 (zv_R h 1 3)) 1 4 = zv_R h 1 3 := rfl
  have n1 : ∀ r x, zv_lay r = x → x ≠ (1, 8) → r ≠ 1 := fun r x e n q => n (by rw [← e, q]; rfl)
  generalize zv_R h 1 3 = x3 at *
  generalize zv_R h 1 4 = x4 at *
  have hl : ∀ a', zv_lay a' = (1, 0) → zv_lay (a' + 4) = (6, 48) := fun a' h' => by cases zc_lh h' with
    | inl e => rw [e]; rfl
    | inr e => rw [e]; rfl
  have l17 : ∀ r, zv_lay r = (1, 4) → zv_lay (r + 1) = (6, 48) := fun a' h' => by cases zc_l4 h' with
    | inl e => rw [e]; rfl
    | inr e => rw [e]; rfl
  have o5 : ∀ t, zv_lay t = (1, 5) → ∀ k, zv_R (zv_sR (zv_sR h 1 3 x4) 1 4 x3) t k = zv_R h t k := fun t ht k => o t k (fun q => n1 t _ ht (by decide) q.1)
  refine ⟨⟨⟨b1, fun r k hr hk => ?_, fun a' i h' hi => ?_, by rw [r3, r4]; exact b4.symm.imp And.symm And.symm, b5, b6, fun r k hr => ?_, b8⟩, fun t ht => ?_, fun b hb => ?_⟩, rfl, rfl, fun r hr => ⟨rfl, rfl, ?_⟩, rfl⟩
  · rw [o r k (fun q => ?_)]
    · exact b2 r k hr hk
    · rw [q.1, show zv_lay 1 = (1, 8) from rfl] at hk
      cases q.2 with
      | inl e => rw [e] at hk; exact hk rfl
      | inr e => rw [e] at hk; exact hk rfl
  · rw [o _ _ (fun q => n1 _ _ (hl a' h') (by decide) q.1)]
    exact b3 a' i h' hi
  · rw [o _ _ (fun q => n1 _ _ (l17 r hr) (by decide) q.1)]
    exact b7 r k hr
  · have tt := hA.2.1 t ht
    have ec : ∀ n, n ≤ 48 → zc_ch (zv_sR (zv_sR h 1 3 x4) 1 4 x3) t n = zc_ch h t n := by
      intro n
      induction n with
      | zero => intro _; rfl
      | succ n ih =>
        intro hn
        have l := (zc_stl (zc_hl t) (show n < 48 by omega)).1
        show zc_ch (zv_sR (zv_sR h 1 3 x4) 1 4 x3) t n + (if zv_R (zv_sR (zv_sR h 1 3 x4) 1 4 x3) (zc_stt (zc_hf t) n) 4 = t then 1 else 0) = zc_ch h t n + (if zv_R h (zc_stt (zc_hf t) n) 4 = t then 1 else 0)
        rw [ih (by omega), o5 _ l]
    unfold zc_t
    rw [ec 48 (Nat.le_refl _), o5 t ht, o5 t ht]
    cases tt with
    | inl u => exact Or.inl u
    | inr u =>
      refine Or.inr ⟨u.1, u.2.1, u.2.2.1, ?_, u.2.2.2.2⟩
      cases u.2.2.2.1 with
      | inl w => exact Or.inl w
      | inr w =>
        refine Or.inr ⟨w.1, ?_⟩
        cases u.2.2.1 with
        | inl y => exact absurd y.1 w.1
        | inr y => rw [o5 _ y.1]; exact w.2
  · rw [o b 10 (fun q => n1 b _ hb (by decide) q.1)]
    exact hA.2.2 b hb
  · rw [zc_sRo _ _ _ _ (by omega), zc_sRo _ _ _ _ (by omega)]
/-- while a TEXT is loaded -/
def zc_Lx (h0 h : zv_H) : Prop := zc_P' h0 h ∧ zc_A h ∧ zv_I h 5 2 = 0
theorem zc_Lx_X {h0 h h' : zv_H} (l : zc_Lx h0 h) (x : zc_X h h') : zc_Lx h0 h' := ⟨zc_P'_t l.1 (zc_PP' x.1), x.2, x.1.2.2.2.trans l.2.2⟩
theorem zc_load117 {d : Nat} {h0 h : zv_H} (l : zc_Lx h0 h) : zm_R (L8_load_117 (d + 1) 1 h) (zm_I fun _ h' => zc_Lx h0 h') := by
  have F := zc_Q_r l.2.1
  rw [qL8_load_117]
  refine zc_rF F 4 zc_h8 ?_
  refine zc_rI F zc_h3 fun v2 e2 r2 => ?_
  refine zm_if (fun c => ?_) (fun c => ?_)
  · refine zc_rRo F zc_h8 ?_
    refine zc_rRo F zc_h8 ?_
    have S := zc_swapA l.2.1
    refine zc_dR (zc_ob F.2 zc_h8) ?_
    refine zc_dR (zc_ob F.2 zc_h8) ?_
    generalize zv_sR (zv_sR h 1 3 (zv_R h 1 4)) 1 4 (zv_R h 1 3) = g at S
    have l2 := zc_Lx_X l ⟨S.2, S.1⟩
    have F := zc_Q_r S.1
    refine zc_rRo F zc_h8 ?_
    refine zc_rI F (zc_xH F).1 fun v8 e8 r8 => ?_
    refine zc_cI (K := fun _ => True) F (zc_C8_given F.2 zc_h8 r8) fun v2 h2 F2 r2 _ => ?_
    exact zm_iI (zc_Lx_X l2 (zc_QX F2))
  · refine zc_cI (K := fun _ => True) F (zc_C8_refused F.2 zc_h8 (by unfold zv_rg; omega)) fun v2 h2 F2 r2 _ => ?_
    exact zm_iI (zc_Lx_X l (zc_QX F2))
theorem zc_load54 {d : Nat} {h0 : zv_H} {x : Int} (rx : x ≤ 700) : ∀ (n : Nat) (i : Int) (h : zv_H), zc_Lx h0 h → 0 ≤ i → (x + 1 - i).toNat = n → zm_R (L8_load_54 (d + 7) 1 x i h) (zm_I fun _ h' => zc_Lx h0 h') := by
  intro n
  induction n with
  | zero =>
    intro i h l z hn
    rw [qL8_load_54, if_neg (by omega)]
    exact zc_load117 l
  | succ n ih =>
    intro i h l z hn
    have F := zc_Q_r l.2.1
    rw [qL8_load_54, if_pos (by omega), zm_w (show -2147483648 ≤ i + 1 ∧ i + 1 < 2147483648 by omega)]
    have nx : ∀ g, zc_Lx h0 g → zm_R (L8_load_54 (d + 7) 1 x (i + 1) g) (zm_I fun _ h' => zc_Lx h0 h') := fun g l => ih _ g l (by omega) (by omega)
    refine zc_rF F 4 zc_h8 ?_
    refine zc_pI (K := fun v => (v = 0 ∨ v = 1)) (zc_C3_more F.2 zc_h3) fun v2 r2 _ => ?_
    dsimp only
    refine zm_if (fun c => zc_load117 l) (fun c => ?_)
    refine zc_rF F 4 zc_h8 ?_
    refine zc_cI (K := fun v => (v = 0 ∨ v = 1)) F (zc_C3_line F.2 zc_h3) fun v4 g4 F4 r4 _ => ?_
    dsimp only
    have l4 := zc_Lx_X l (zc_QX F4)
    have F := zc_Q_r l4.2.1
    refine zm_if (fun c => nx g4 l4) (fun c => ?_)
    refine zc_rRo F zc_h8 ?_
    obtain ⟨⟨v6, g6⟩, e6, X6, r6⟩ := zc_C8_done (d := d) l4.2.1 (zc_xH F).2
    rw [zm_e e6]
    have l6 := zc_Lx_X l4 X6
    have F6 : zc_Q g6 g6 := zc_Q_r l6.2.1
    dsimp only
    refine zm_if (fun c => ?_) (fun c => ?_)
    · refine zc_rF F6 4 zc_h8 ?_
      refine zc_cI (K := fun v => (v = 0)) F6 (zc_C3_fail F6.2 zc_h3 (by unfold zv_rg; omega)) fun v8 g8 F8 _ _ => ?_
      exact nx g8 (zc_Lx_X l6 (zc_QX F8))
    · refine zc_rF F6 4 zc_h8 ?_
      refine zc_cI (K := fun v => (v = 0 ∨ v = 1)) F6 (zc_C3_next F6.2 zc_h3) fun v8 g8 F8 _ _ => ?_
      exact nx g8 (zc_Lx_X l6 (zc_QX F8))
theorem zc_C8_load {d : Nat} {h : zv_H} (hA : zc_A h) {n : Int} (rn : zv_rg n) (t1 : zv_I h 5 2 ≤ 700) : zm_R (C8_load (d + 28) 1 n h) (fun q => zc_A q.2 ∧ zc_P' h q.2 ∧ zv_I q.2 5 2 = if 0 ≤ n ∧ n ≤ zv_I h 5 2 then 0 else zv_I h 5 2) := by
  have F := zc_Q_r hA
  refine zm_cI (P := fun v h' => zc_A h' ∧ zc_P' h h' ∧ zv_I h' 5 2 = if 0 ≤ n ∧ n ≤ zv_I h 5 2 then 0 else zv_I h 5 2) (fun e => lC8_load (zc_ob hA zc_h8) e) ?_
  rw [qE8_load]
  refine zc_rF F 4 zc_h8 ?_
  rw [zm_e (show zv_gI h (1 + 4) 3 2 = some (zv_I h 5 2) from zc_gI hA zc_h3 2), zm_e (zc_within h n 0 (zv_I h 5 2))]
  dsimp only
  by_cases c : 0 ≤ n ∧ n ≤ zv_I h 5 2
  · rw [if_pos c, if_neg (by decide), if_pos c]
    refine zc_dZ (zc_ob hA zc_h8) (Or.inr rfl) ?_
    have Z := zc_QI hA (r := 1) (k := 7) (v := 1) (zc_frO zc_h8 (by decide) (by decide) rfl (by decide)) (by unfold zv_rg; omega)
    generalize zv_sI h 1 7 1 = g5 at Z
    refine zc_rRo Z zc_h8 ?_
    obtain ⟨g7, e7, X7⟩ := zc_C0_begin (d := d + 23) Z.2 (zc_xH Z).2
    rw [zm_e e7]
    refine zc_rF (zc_Q_r X7.2) 4 zc_h8 ?_
    obtain ⟨g9, e9, P9, A9, t9⟩ := zc_C3_begin (d := d + 24) X7.2 rn
    have e9' : C3_begin (d + 27) (1 + 4) n g7 = some g9 := e9
    rw [zm_e e9']
    have l9 : zc_Lx h g9 := ⟨zc_P'_t (zc_PP' (zc_qP Z.1)) (zc_P'_t (zc_PP' X7.1) P9), A9, t9⟩
    have F9 := zc_Q_r A9
    refine zc_rF F9 4 zc_h8 ?_
    refine zc_rRo F9 zc_h8 ?_
    refine zc_cV F9 (zc_C3_head A9 zc_h3 (zc_xH F9).2) fun g12 F12 => ?_
    refine zm_mono (zc_load54 (d := d + 20) (by omega) _ 0 g12 (zc_Lx_X l9 (zc_QX F12)) (by omega) rfl) ?_
    rintro ⟨ov, h'⟩ ⟨v, ev, l⟩
    exact ⟨v, ev, l.2.1, l.1, l.2.2⟩
  · rw [if_neg c, if_pos rfl, if_neg c]
    refine zc_cI (K := fun _ => True) F (zc_C8_refused F.2 zc_h8 (by unfold zv_rg; omega)) fun v2 h2 F2 r2 _ => ?_
    exact zm_iI ⟨F2.2, zc_PP' (zc_qP F2.1), F2.1.2.2.2.2.2⟩
