/-! 99k.load -/
section
/-! ===== the class: feed, load ===== -/
theorem zc_addByte {d : Nat} {h : zv_H} (hA : zc_A h) {v : Int} (rv : zv_rg v) (t0 : 0 ≤ zv_I h 5 2) (t1 : zv_I h 5 2 < 700) : ∃ h', C3_addByte (d + 1) 5 v h = some h' ∧ zc_A h' ∧ zc_P' h h' ∧ zv_I h' 5 2 = zv_I h 5 2 + 1 := by
  have F := zc_Q_r hA
  have main : zm_R (E3_addByte d 5 v h) (zm_V fun h' => zc_A h' ∧ zc_P' h h' ∧ zv_I h' 5 2 = zv_I h 5 2 + 1) := by
    rw [qE3_addByte, zm_e (zc_gI hA zc_h3 2), if_neg (by omega), zm_e (zc_gI hA zc_h3 2), if_pos t1]
    refine zc_rF F 1 zc_h3 ?_
    rw [zm_e (zc_gI hA zc_h3 2)]
    refine zc_wA F (zc_y3_0 zc_h3).1 (zc_y3_0 zc_h3).2 t0 (by omega) rv fun g5 F u => ?_
    rw [zm_e (zc_gI F.2 zc_h3 2), u 5 2 rfl, zm_w (by omega)]
    refine zc_dI (zc_ob F.2 zc_h3) ?_
    have T := zc_tape F.2 (v := zv_I h 5 2 + 1) (by unfold zv_rg; omega)
    exact zm_iV ⟨T.1, zc_P'_t (zc_PP' (zc_qP F.1)) T.2, zc_sI2 _ _ _ _⟩
  have c := zm_cV (c := C3_addByte (d + 1) 5 v h) (fun e => lC3_addByte (zc_ob hA zc_h3) e) main
  exact c
theorem zc_feedInt {d : Nat} (x : Int) : ∀ (n : Nat) (h : zv_H), n ≤ 4 → zc_A h → 0 ≤ zv_I h 5 2 → zv_I h 5 2 + n ≤ 700 → zm_R (L8_feedInt_3 (d + 1) 1 x (8 * (n : Int) - 8) h) (zm_V fun h' => zc_A h' ∧ zc_P' h h' ∧ zv_I h' 5 2 = zv_I h 5 2 + n) := by
  intro n
  induction n with
  | zero =>
    intro h hn hA t0 t1
    rw [qL8_feedInt_3, if_pos (by omega)]
    exact zm_iV ⟨hA, zc_PP' (zc_P_r h), by omega⟩
  | succ n ih =>
    intro h hn hA t0 t1
    have F := zc_Q_r hA
    rw [qL8_feedInt_3, if_neg (by omega)]
    refine zc_rF F 4 zc_h8 ?_
    obtain ⟨g, e, A, P, t⟩ := zc_addByte (d := d) hA (zc_and (zv_ushr x (8 * ((n + 1 : Nat) : Int) - 8)) 255) t0 (by omega)
    have e' : C3_addByte (d + 1) (1 + 4) (zv_and (zv_ushr x (8 * ((n + 1 : Nat) : Int) - 8)) 255) h = some g := e
    rw [zm_e e', show zv_w (8 * ((n + 1 : Nat) : Int) - 8 + -8) = 8 * (n : Int) - 8 by rw [zm_w (by omega)]; omega]
    refine zm_mono (ih g (by omega) A (by omega) (by omega)) ?_
    rintro ⟨ov, h'⟩ ⟨e1, A', P', t'⟩
    exact ⟨e1, A', zc_P'_t P P', by have t'' : zv_I h' 5 2 = zv_I g 5 2 + n := t'; omega⟩
theorem zc_feed1 {d : Nat} {h : zv_H} (hA : zc_A h) (x : Int) (t0 : 0 ≤ zv_I h 5 2) (t1 : zv_I h 5 2 + 4 ≤ 700) : zm_R (C8_feedInt (d + 2) 1 x h) (fun h' => zc_A h' ∧ zc_P' h h' ∧ zv_I h' 5 2 = zv_I h 5 2 + 4) := by
  refine zm_cV (fun e => lC8_feedInt (zc_ob hA zc_h8) e) ?_
  rw [qE8_feedInt]
  exact zc_feedInt x 4 h (Nat.le_refl _) hA t0 t1
theorem zc_C8_feed {d : Nat} {h : zv_H} (hA : zc_A h) (a b c e f : Int) (t0 : 0 ≤ zv_I h 5 2) (t1 : zv_I h 5 2 ≤ 700) : zm_R (C8_feed (d + 3) 1 a b c e f h) (fun q => q.1 = zm_fd (zv_I h 5 2) ∧ zc_A q.2 ∧ zc_P' h q.2 ∧ zv_I q.2 5 2 = if zv_I h 5 2 + 20 ≤ 700 then zv_I h 5 2 + 20 else zv_I h 5 2) := by
  have F := zc_Q_r hA
  refine zm_cI (P := fun v h' => v = zm_fd (zv_I h 5 2) ∧ zc_A h' ∧ zc_P' h h' ∧ zv_I h' 5 2 = if zv_I h 5 2 + 20 ≤ 700 then zv_I h 5 2 + 20 else zv_I h 5 2) (fun e => lC8_feed (zc_ob hA zc_h8) e) ?_
  rw [qE8_feed]
  refine zc_rF F 4 zc_h8 ?_
  rw [zm_e (show zv_gI h (1 + 4) 3 2 = some (zv_I h 5 2) from zc_gI hA zc_h3 2), zm_w (by omega)]
  unfold zm_fd
  by_cases c0 : zv_I h 5 2 + 20 ≤ 700
  · rw [if_pos c0, if_pos c0, if_pos c0]
    obtain ⟨g1, e1, A1, P1, s1⟩ := zc_feed1 (d := d) hA a t0 (by omega)
    rw [zm_e e1]
    obtain ⟨g2, e2, A2, P2, s2⟩ := zc_feed1 (d := d) A1 b (by omega) (by omega)
    rw [zm_e e2]
    obtain ⟨g3, e3, A3, P3, s3⟩ := zc_feed1 (d := d) A2 c (by omega) (by omega)
    rw [zm_e e3]
    obtain ⟨g4, e4, A4, P4, s4⟩ := zc_feed1 (d := d) A3 e (by omega) (by omega)
    rw [zm_e e4]
    obtain ⟨g5, e5, A5, P5, s5⟩ := zc_feed1 (d := d) A4 f (by omega) (by omega)
    rw [zm_e e5]
    refine zc_rF (zc_Q_r A5) 4 zc_h8 ?_
    rw [zm_e (show zv_gI g5 (1 + 4) 3 2 = some (zv_I g5 5 2) from zc_gI A5 zc_h3 2)]
    exact zm_iI ⟨by omega, A5, zc_P'_t P1 (zc_P'_t P2 (zc_P'_t P3 (zc_P'_t P4 P5))), by omega⟩
  · rw [if_neg c0, if_neg c0, if_neg c0]
    exact zm_iI ⟨rfl, hA, zc_PP' (zc_P_r h), rfl⟩
theorem zc_within {d : Nat} (h : zv_H) (a b c : Int) : C8_within (d + 1) a b c h = some ((if b ≤ a ∧ a ≤ c then 1 else 0), h) := by
  refine lC8_within ?_
  rw [qE8_within]
  by_cases c1 : a < b
  · rw [if_pos c1, if_neg (by omega)]
  · rw [if_neg c1]
    by_cases c2 : a ≤ c
    · rw [if_pos c2, if_pos (by omega)]
    · rw [if_neg c2, if_neg (by omega)]
theorem zc_swapA {h : zv_H} (hA : zc_A h) : zc_A (zv_sR (zv_sR h 1 3 (zv_R h 1 4)) 1 4 (zv_R h 1 3)) ∧ zc_P h (zv_sR (zv_sR h 1 3 (zv_R h 1 4)) 1 4 (zv_R h 1 3)) := by
  obtain ⟨b1, b2, b3, b4, b5, b6, b7, b8⟩ := hA.1
  have o : ∀ r k, ¬ (r = 1 ∧ (k = 3 ∨ k = 4)) → zv_R (zv_sR (zv_sR h 1 3 (zv_R h 1 4)) 1 4 (zv_R h 1 3)) r k = zv_R h r k := fun r k c => by
    have e1 : ∀ g v, zv_R (zv_sR g 1 4 v) r k = zv_R g r k := fun g v => if_neg (fun q => c ⟨q.1, Or.inr q.2⟩)
    have e2 : ∀ g v, zv_R (zv_sR g 1 3 v) r k = zv_R g r k := fun g v => if_neg (fun q => c ⟨q.1, Or.inl q.2⟩)
    rw [e1, e2]
  have r3 : zv_R (zv_sR (zv_sR h 1 3 (zv_R h 1 4)) 1 4 (zv_R h 1 3)) 1 3 = zv_R h 1 4 := rfl
  have r4 : zv_R (zv_sR (zv_sR h 1 3 (zv_R h 1 4)) 1 4 (zv_R h 1 3)) 1 4 = zv_R h 1 3 := rfl
  have n1 : ∀ r x, zv_lay r = x → x ≠ (1, 8) → r ≠ 1 := fun r x e n q => n (by rw [← e, q]; rfl)
  generalize zv_R h 1 3 = x3 at *
  generalize zv_R h 1 4 = x4 at *
  have hl : ∀ a', zv_lay a' = (1, 0) → zv_lay (a' + 4) = (6, 48) := fun a' h' => by cases zc_lh h' with
    | inl e => rw [e]; rfl
    | inr e => rw [e]; rfl
  have l17 : ∀ r, zv_lay r = (1, 4) → zv_lay (r + 1) = (6, 48) := fun a' h' => by cases zc_l4 h' with
    | inl e => rw [e]; rfl
    | inr e => rw [e]; rfl
  have o5 : ∀ t, zv_lay t = (1, 5) → ∀ k, zv_R (zv_sR (zv_sR h 1 3 x4) 1 4 x3) t k = zv_R h t k := fun t ht k => o t k (fun q => n1 t _ ht (by decide) q.1)
  refine ⟨⟨⟨b1, fun r k hr hk => ?_, fun a' i h' hi => ?_, by rw [r3, r4]; exact b4.symm.imp And.symm And.symm, b5, b6, fun r k hr => ?_, b8⟩, fun t ht => ?_, fun b hb => ?_⟩, rfl, rfl, fun r hr => ⟨rfl, rfl, ?_⟩, rfl⟩
  · rw [o r k (fun q => ?_)]
    · exact b2 r k hr hk
    · rw [q.1, show zv_lay 1 = (1, 8) from rfl] at hk
      cases q.2 with
      | inl e => rw [e] at hk; exact hk rfl
      | inr e => rw [e] at hk; exact hk rfl
  · rw [o _ _ (fun q => n1 _ _ (hl a' h') (by decide) q.1)]
    exact b3 a' i h' hi
  · rw [o _ _ (fun q => n1 _ _ (l17 r hr) (by decide) q.1)]
    exact b7 r k hr
  · have tt := hA.2.1 t ht
    have ec : ∀ n, n ≤ 48 → zc_ch (zv_sR (zv_sR h 1 3 x4) 1 4 x3) t n = zc_ch h t n := by
      intro n
      induction n with
      | zero => intro _; rfl
      | succ n ih =>
        intro hn
        have l := (zc_stl (zc_hl t) (show n < 48 by omega)).1
        show zc_ch (zv_sR (zv_sR h 1 3 x4) 1 4 x3) t n + (if zv_R (zv_sR (zv_sR h 1 3 x4) 1 4 x3) (zc_stt (zc_hf t) n) 4 = t then 1 else 0) = zc_ch h t n + (if zv_R h (zc_stt (zc_hf t) n) 4 = t then 1 else 0)
        rw [ih (by omega), o5 _ l]
    unfold zc_t
    rw [ec 48 (Nat.le_refl _), o5 t ht, o5 t ht]
    cases tt with
    | inl u => exact Or.inl u
    | inr u =>
      refine Or.inr ⟨u.1, u.2.1, u.2.2.1, ?_, u.2.2.2.2⟩
      cases u.2.2.2.1 with
      | inl w => exact Or.inl w
      | inr w =>
        refine Or.inr ⟨w.1, ?_⟩
        cases u.2.2.1 with
        | inl y => exact absurd y.1 w.1
        | inr y => rw [o5 _ y.1]; exact w.2
  · rw [o b 10 (fun q => n1 b _ hb (by decide) q.1)]
    exact hA.2.2 b hb
  · rw [zc_sRo _ _ _ _ (by omega), zc_sRo _ _ _ _ (by omega)]
/-- while a TEXT is loaded -/
def zc_Lx (h0 h : zv_H) : Prop := zc_P' h0 h ∧ zc_A h ∧ zv_I h 5 2 = 0
theorem zc_Lx_X {h0 h h' : zv_H} (l : zc_Lx h0 h) (x : zc_X h h') : zc_Lx h0 h' := ⟨zc_P'_t l.1 (zc_PP' x.1), x.2, x.1.2.2.2.trans l.2.2⟩
theorem zc_load117 {d : Nat} {h0 h : zv_H} (l : zc_Lx h0 h) : zm_R (L8_load_117 (d + 1) 1 h) (zm_I fun _ h' => zc_Lx h0 h') := by
  have F := zc_Q_r l.2.1
  rw [qL8_load_117]
  refine zc_rF F 4 zc_h8 ?_
  refine zc_rI F zc_h3 fun v2 e2 r2 => ?_
  refine zm_if (fun c => ?_) (fun c => ?_)
  · refine zc_rRo F zc_h8 ?_
    refine zc_rRo F zc_h8 ?_
    have S := zc_swapA l.2.1
    refine zc_dR (zc_ob F.2 zc_h8) ?_
    refine zc_dR (zc_ob F.2 zc_h8) ?_
    generalize zv_sR (zv_sR h 1 3 (zv_R h 1 4)) 1 4 (zv_R h 1 3) = g at S
    have l2 := zc_Lx_X l ⟨S.2, S.1⟩
    have F := zc_Q_r S.1
    refine zc_rRo F zc_h8 ?_
    refine zc_rI F (zc_xH F).1 fun v8 e8 r8 => ?_
    refine zc_cI (K := fun _ => True) F (zc_C8_given F.2 zc_h8 r8) fun v2 h2 F2 r2 _ => ?_
    exact zm_iI (zc_Lx_X l2 (zc_QX F2))
  · refine zc_cI (K := fun _ => True) F (zc_C8_refused F.2 zc_h8 (by unfold zv_rg; omega)) fun v2 h2 F2 r2 _ => ?_
    exact zm_iI (zc_Lx_X l (zc_QX F2))
theorem zc_load54 {d : Nat} {h0 : zv_H} {x : Int} (rx : x ≤ 700) : ∀ (n : Nat) (i : Int) (h : zv_H), zc_Lx h0 h → 0 ≤ i → (x + 1 - i).toNat = n → zm_R (L8_load_54 (d + 7) 1 x i h) (zm_I fun _ h' => zc_Lx h0 h') := by
  intro n
  induction n with
  | zero =>
    intro i h l z hn
    rw [qL8_load_54, if_neg (by omega)]
    exact zc_load117 l
  | succ n ih =>
    intro i h l z hn
    have F := zc_Q_r l.2.1
    rw [qL8_load_54, if_pos (by omega), zm_w (show -2147483648 ≤ i + 1 ∧ i + 1 < 2147483648 by omega)]
    have nx : ∀ g, zc_Lx h0 g → zm_R (L8_load_54 (d + 7) 1 x (i + 1) g) (zm_I fun _ h' => zc_Lx h0 h') := fun g l => ih _ g l (by omega) (by omega)
    refine zc_rF F 4 zc_h8 ?_
    refine zc_pI (K := fun v => (v = 0 ∨ v = 1)) (zc_C3_more F.2 zc_h3) fun v2 r2 _ => ?_
    dsimp only
    refine zm_if (fun c => zc_load117 l) (fun c => ?_)
    refine zc_rF F 4 zc_h8 ?_
    refine zc_cI (K := fun v => (v = 0 ∨ v = 1)) F (zc_C3_line F.2 zc_h3) fun v4 g4 F4 r4 _ => ?_
    dsimp only
    have l4 := zc_Lx_X l (zc_QX F4)
    have F := zc_Q_r l4.2.1
    refine zm_if (fun c => nx g4 l4) (fun c => ?_)
    refine zc_rRo F zc_h8 ?_
    obtain ⟨⟨v6, g6⟩, e6, X6, r6⟩ := zc_C8_done (d := d) l4.2.1 (zc_xH F).2
    rw [zm_e e6]
    have l6 := zc_Lx_X l4 X6
    have F6 : zc_Q g6 g6 := zc_Q_r l6.2.1
    dsimp only
    refine zm_if (fun c => ?_) (fun c => ?_)
    · refine zc_rF F6 4 zc_h8 ?_
      refine zc_cI (K := fun v => (v = 0)) F6 (zc_C3_fail F6.2 zc_h3 (by unfold zv_rg; omega)) fun v8 g8 F8 _ _ => ?_
      exact nx g8 (zc_Lx_X l6 (zc_QX F8))
    · refine zc_rF F6 4 zc_h8 ?_
      refine zc_cI (K := fun v => (v = 0 ∨ v = 1)) F6 (zc_C3_next F6.2 zc_h3) fun v8 g8 F8 _ _ => ?_
      exact nx g8 (zc_Lx_X l6 (zc_QX F8))
theorem zc_C8_load {d : Nat} {h : zv_H} (hA : zc_A h) {n : Int} (rn : zv_rg n) (t1 : zv_I h 5 2 ≤ 700) : zm_R (C8_load (d + 28) 1 n h) (fun q => zc_A q.2 ∧ zc_P' h q.2 ∧ zv_I q.2 5 2 = if 0 ≤ n ∧ n ≤ zv_I h 5 2 then 0 else zv_I h 5 2) := by
  have F := zc_Q_r hA
  refine zm_cI (P := fun v h' => zc_A h' ∧ zc_P' h h' ∧ zv_I h' 5 2 = if 0 ≤ n ∧ n ≤ zv_I h 5 2 then 0 else zv_I h 5 2) (fun e => lC8_load (zc_ob hA zc_h8) e) ?_
  rw [qE8_load]
  refine zc_rF F 4 zc_h8 ?_
  rw [zm_e (show zv_gI h (1 + 4) 3 2 = some (zv_I h 5 2) from zc_gI hA zc_h3 2), zm_e (zc_within h n 0 (zv_I h 5 2))]
  dsimp only
  by_cases c : 0 ≤ n ∧ n ≤ zv_I h 5 2
  · rw [if_pos c, if_neg (by decide), if_pos c]
    refine zc_dZ (zc_ob hA zc_h8) (Or.inr rfl) ?_
    have Z := zc_QI hA (r := 1) (k := 7) (v := 1) (zc_frO zc_h8 (by decide) (by decide) rfl (by decide)) (by unfold zv_rg; omega)
    generalize zv_sI h 1 7 1 = g5 at Z
    refine zc_rRo Z zc_h8 ?_
    obtain ⟨g7, e7, X7⟩ := zc_C0_begin (d := d + 23) Z.2 (zc_xH Z).2
    rw [zm_e e7]
    refine zc_rF (zc_Q_r X7.2) 4 zc_h8 ?_
    obtain ⟨g9, e9, P9, A9, t9⟩ := zc_C3_begin (d := d + 24) X7.2 rn
    have e9' : C3_begin (d + 27) (1 + 4) n g7 = some g9 := e9
    rw [zm_e e9']
    have l9 : zc_Lx h g9 := ⟨zc_P'_t (zc_PP' (zc_qP Z.1)) (zc_P'_t (zc_PP' X7.1) P9), A9, t9⟩
    have F9 := zc_Q_r A9
    refine zc_rF F9 4 zc_h8 ?_
    refine zc_rRo F9 zc_h8 ?_
    refine zc_cV F9 (zc_C3_head A9 zc_h3 (zc_xH F9).2) fun g12 F12 => ?_
    refine zm_mono (zc_load54 (d := d + 20) (by omega) _ 0 g12 (zc_Lx_X l9 (zc_QX F12)) (by omega) rfl) ?_
    rintro ⟨ov, h'⟩ ⟨v, ev, l⟩
    exact ⟨v, ev, l.2.1, l.1, l.2.2⟩
  · rw [if_neg c, if_pos rfl, if_neg c]
    refine zc_cI (K := fun _ => True) F (zc_C8_refused F.2 zc_h8 (by unfold zv_rg; omega)) fun v2 h2 F2 r2 _ => ?_
    exact zm_iI ⟨F2.2, zc_PP' (zc_qP F2.1), F2.1.2.2.2.2.2⟩
end
/-! 99l.init -/
section
/-! ===== the class: its constructors ===== -/
def zk_I (h : zv_H) : Prop := (∀ r k, r < 347 → zv_rg (zv_I h r k)) ∧ (∀ r c k m, zv_lay r = (1, c) → zc_bd c k = some m → zv_I h r k = 0) ∧ (∀ r k, zv_lay r = (1, 4) → zv_R h (r + 1) k = 0) ∧ (∀ r, zv_n h < r → ∀ k, zv_I h r k = 0 ∧ zv_R h r k = 0) ∧ ∀ r, r = 10 ∨ r = 179 → zv_I h r 0 = 0
def zk_fin (h : zv_H) (r : Nat) : Prop := (zv_lay r).1 = 1 → ∀ k, zc_off (zv_lay r).2 k ≠ 0 → zv_R h r k = r + zc_off (zv_lay r).2 k
def zk_o (h h' : zv_H) (r : Nat) : Prop := h'.2.1 r = h.2.1 r ∧ h'.2.2.1 r = h.2.2.1 r ∧ h'.2.2.2.1 r = h.2.2.2.1 r
theorem zk_o_t {h h1 h2 : zv_H} {r : Nat} (f : zk_o h h1 r) (g : zk_o h1 h2 r) : zk_o h h2 r := ⟨g.1.trans f.1, g.2.1.trans f.2.1, g.2.2.trans f.2.2⟩
theorem zk_fin_o {h h' : zv_H} {r : Nat} (f : zk_o h h' r) (g : zk_fin h r) : zk_fin h' r := fun l k hk => (congrFun f.2.2 k).trans (g l k hk)
/-- what a constructor leaves: of the cells from r to e -/
def zk_P (r e w : Nat) (h h' : zv_H) : Prop := zk_I h' ∧ zv_n h' = e ∧ zv_s h' = zv_s h + w ∧ h'.2.2.2.2 = h.2.2.2.2 ∧ (∀ r', r' < r → zk_o h h' r') ∧ ∀ r', r ≤ r' → r' ≤ e → zk_fin h' r'
/-- under way -/
def zk_B (r c : Nat) (h0 h : zv_H) (m w : Nat) (f : Nat → Nat) : Prop := zk_I h ∧ zv_n h = m ∧ zv_s h = zv_s h0 + w ∧ r ≤ m ∧ zv_lay r = (1, c) ∧ h.2.2.2.2 = h0.2.2.2.2 ∧ (∀ r', r' < r → zk_o h0 h r') ∧ h.2.1 r = h0.2.1 r ∧ (∀ k, zv_R h r k = f k) ∧ ∀ r', r < r' → r' ≤ m → zk_fin h r'
theorem zk_B0 {r c : Nat} {h : zv_H} (hI : zk_I h) (hn : zv_n h = r) (hl : zv_lay r = (1, c)) (hR : ∀ k, zv_R h r k = 0) : zk_B r c h h r 0 (fun _ => 0) := ⟨hI, hn, rfl, Nat.le_refl _, hl, rfl, fun _ _ => ⟨rfl, rfl, rfl⟩, rfl, hR, fun r' h1 h2 => absurd h1 (by omega)⟩
theorem zk_end {r c m w : Nat} {h0 h : zv_H} {f : Nat → Nat} (b : zk_B r c h0 h m w f) (hf : ∀ k, zc_off c k ≠ 0 → f k = r + zc_off c k) : zk_P r m w h0 h := by
  obtain ⟨b1, b2, b3, b4, b5, b6, b7, b8, b9, b10⟩ := b
  refine ⟨b1, b2, b3, b6, b7, fun r' h1 h2 => ?_⟩
  by_cases e : r' = r
  · subst e
    intro l k hk
    rw [b5] at hk ⊢
    exact (b9 k).trans (hf k hk)
  · exact b10 r' (by omega) h2
theorem zk_I_mk {h : zv_H} (hI : zk_I h) (w : Nat) : zk_I (zv_mk h w) := by
  obtain ⟨i1, i2, i3, i4, i5⟩ := hI
  have r0 : zv_rg 0 := by unfold zv_rg; omega
  have eI : ∀ r k, zv_I (zv_mk h w) r k = if r = zv_n h + 1 then 0 else zv_I h r k := fun _ _ => rfl
  have eR : ∀ r k, zv_R (zv_mk h w) r k = if r = zv_n h + 1 then 0 else zv_R h r k := fun _ _ => rfl
  refine ⟨fun r k hr => ?_, fun r c k m h1 h2 => ?_, fun r k h1 => ?_, fun r h1 k => ?_, fun r h1 => ?_⟩
  · rw [eI]; split
    · exact r0
    · exact i1 r k hr
  · rw [eI]; split
    · rfl
    · exact i2 r c k m h1 h2
  · rw [eR]; split
    · rfl
    · exact i3 r k h1
  · rw [eI, eR]
    have h1' : zv_n h + 1 < r := h1
    rw [if_neg (by omega), if_neg (by omega)]
    exact i4 r (by omega) k
  · rw [eI]; split
    · rfl
    · exact i5 r h1
theorem zk_mk_o (h : zv_H) (w : Nat) {r : Nat} (hr : r ≤ zv_n h) : zk_o h (zv_mk h w) r := by
  have hr' : ¬ r = h.1.1 + 1 := by
    have : zv_n h = h.1.1 := rfl
    omega
  refine ⟨?_, ?_, ?_⟩
  · funext k
    exact if_neg hr'
  · funext k
    exact if_neg hr'
  · funext k
    exact if_neg hr'
theorem zk_mk_0 (h : zv_H) (w k : Nat) : zv_R (zv_mk h w) (zv_n h + 1) k = 0 ∧ zv_I (zv_mk h w) (zv_n h + 1) k = 0 := ⟨if_pos rfl, if_pos rfl⟩
theorem zk_I_sR {h : zv_H} (hI : zk_I h) {r k v : Nat} (hr : r ≤ zv_n h) (hl : ∀ r', zv_lay r' = (1, 4) → r' + 1 ≠ r) : zk_I (zv_sR h r k v) := by
  obtain ⟨i1, i2, i3, i4, i5⟩ := hI
  refine ⟨i1, i2, fun r' k' h1 => ?_, fun r' h1 k' => ⟨(i4 r' h1 k').1, ?_⟩, i5⟩
  · exact (if_neg (fun q => hl r' h1 q.1)).trans (i3 r' k' h1)
  · exact (if_neg (fun q => by have : zv_n h < r' := h1; omega)).trans (i4 r' h1 k').2
theorem zk_I_sI {h : zv_H} (hI : zk_I h) {r k : Nat} {v : Int} (hr : r ≤ zv_n h) (hv : zv_rg v) (hb : ∀ c m, zv_lay r = (1, c) → zc_bd c k = some m → v = 0) (h5 : k = 0 → r = 10 ∨ r = 179 → v = 0) : zk_I (zv_sI h r k v) := by
  obtain ⟨i1, i2, i3, i4, i5⟩ := hI
  refine ⟨zc_rg_s i1 hv, fun r' c k' m h1 h2 => ?_, i3, fun r' h1 k' => ⟨?_, (i4 r' h1 k').2⟩, fun r' h1 => ?_⟩
  · by_cases q : r' = r ∧ k' = k
    · rw [q.1, q.2, zc_sI2]
      rw [q.1] at h1
      rw [q.2] at h2
      exact hb c m h1 h2
    · rw [zc_sI1 _ _ _ _ q]
      exact i2 r' c k' m h1 h2
  · exact (zc_sI1 _ _ _ _ (fun q => by have : zv_n h < r' := h1; omega)).trans (i4 r' h1 k').1
  · by_cases q : r' = r ∧ 0 = k
    · rw [q.1, q.2, zc_sI2]
      exact h5 q.2.symm (by rw [← q.1]; exact h1)
    · rw [zc_sI1 _ _ _ _ q]
      exact i5 r' h1
theorem zk_obn {r c : Nat} (hl : zv_lay r = (1, c)) : ∀ r', zv_lay r' = (1, 4) → r' + 1 ≠ r := fun r' h1 e => by
  have : zv_lay (r' + 1) = (6, 48) := by cases zc_l4 h1 with
    | inl q => rw [q]; rfl
    | inr q => rw [q]; rfl
  rw [e, hl] at this
  cases this
/-- a field with an array of its own -/
theorem zk_fa {α : Type} {r c : Nat} {h0 h : zv_H} {m w : Nat} {f : Nat → Nat} {P : α → Prop} {g : zv_H → Option α} (k kd n : Nat) (b : zk_B r c h0 h m w f) (hl : zv_lay (m + 1) = (kd, n)) (h2 : Nat.blt 1 kd = true) (hn : Nat.ble n 60000 = true) (nx : ∀ h', zk_B r c h0 h' (m + 1) (w + n) (fun k' => if k' = k then m + 1 else f k') → zm_R (g h') P) : zm_R ((zv_nA h kd (n : Int)).bind fun g1 => (zv_pR g1 r c k (zv_n h + 1)).bind g) P := by
  obtain ⟨b1, b2, b3, b4, b5, b6, b7, b8, b9, b10⟩ := b
  have hn' := Nat.ble_eq.mp hn
  have e1 : zv_nA h kd (n : Int) = some (zv_mk h n) := if_pos ⟨by omega, by rw [b2, hl]; rfl⟩
  have ob : zv_ob (zv_mk h n) r c := ⟨by show r ≤ h.1.1 + 1; have : zv_n h = h.1.1 := rfl; omega, b5⟩
  rw [zm_e e1, zm_e (show zv_pR (zv_mk h n) r c k (zv_n h + 1) = some _ from if_pos ob)]
  have om : ∀ r', r' ≤ m → zk_o h (zv_mk h n) r' := fun r' hr => zk_mk_o h n (by omega)
  have os : ∀ r', r' ≠ r → zk_o (zv_mk h n) (zv_sR (zv_mk h n) r k (zv_n h + 1)) r' := fun r' hr => ⟨rfl, rfl, zc_sRo _ _ _ _ hr⟩
  refine nx _ ⟨zk_I_sR (zk_I_mk b1 n) ob.1 (zk_obn b5), ?_, ?_, by omega, b5, b6, fun r' hr => zk_o_t (b7 r' hr) (zk_o_t (om r' (by omega)) (os r' (by omega))), ?_, fun k' => ?_, fun r' h1 h2' => ?_⟩
  · show h.1.1 + 1 = m + 1
    have : zv_n h = h.1.1 := rfl
    omega
  · show h.1.2 + n = _
    have : zv_s h = h.1.2 := rfl
    omega
  · exact (om r b4).1.trans b8
  · show (if r = r ∧ k' = k then zv_n h + 1 else zv_R (zv_mk h n) r k') = if k' = k then m + 1 else f k'
    by_cases q : k' = k
    · rw [if_pos ⟨rfl, q⟩, if_pos q, b2]
    · rw [if_neg (fun x => q x.2), if_neg q]
      exact (congrFun (om r b4).2.2 k').trans (b9 k')
  · by_cases q : r' = m + 1
    · intro l
      rw [q, hl] at l
      have := Nat.ble_eq.mp h2
      have l' : kd = 1 := l
      omega
    · exact zk_fin_o (zk_o_t (om r' (by omega)) (os r' (by omega))) (b10 r' h1 (by omega))
/-- a field with an object of its own -/
theorem zk_fo {α : Type} {r c : Nat} {h0 h : zv_H} {m w : Nat} {f : Nat → Nat} {P : α → Prop} {g : zv_H → Option α} (k ci e w' : Nat) {con : Nat → zv_H → Option zv_H} (b : zk_B r c h0 h m w f) (hl : zv_lay (m + 1) = (1, ci)) (he : m + 1 ≤ e) (hc : ∀ h1, zk_I h1 → zv_n h1 = m + 1 → (∀ k, zv_R h1 (m + 1) k = 0) → (∀ k, zv_I h1 (m + 1) k = 0) → zm_R (con (m + 1) h1) (fun h' => zk_P (m + 1) e w' h1 h')) (nx : ∀ h', zk_B r c h0 h' e (w + zv_nf ci + w') (fun k' => if k' = k then m + 1 else f k') → zm_R (g h') P) : zm_R ((zv_nO h ci).bind fun g1 => (con (zv_n h + 1) g1).bind fun g2 => (zv_pR g2 r c k (zv_n h + 1)).bind g) P := by
  obtain ⟨b1, b2, b3, b4, b5, b6, b7, b8, b9, b10⟩ := b
  have e1 : zv_nO h ci = some (zv_mk h (zv_nf ci)) := if_pos (by rw [b2, hl])
  have n1 : zv_n (zv_mk h (zv_nf ci)) = m + 1 := by show h.1.1 + 1 = m + 1; have : zv_n h = h.1.1 := rfl; omega
  have z := zk_mk_0 h (zv_nf ci)
  rw [b2] at z
  obtain ⟨g2, e2, p1, p2, p3, p4, p5, p6⟩ := hc (zv_mk h (zv_nf ci)) (zk_I_mk b1 _) n1 (fun k => (z k).1) (fun k => (z k).2)
  rw [zm_e e1, b2, zm_e e2]
  have ob : zv_ob g2 r c := ⟨by rw [p2]; omega, b5⟩
  rw [zm_e (show zv_pR g2 r c k (m + 1) = some _ from if_pos ob)]
  have om : ∀ r', r' ≤ m → zk_o h g2 r' := fun r' hr => zk_o_t (zk_mk_o h _ (by omega)) (p5 r' (by omega))
  have os : ∀ r', r' ≠ r → zk_o g2 (zv_sR g2 r k (m + 1)) r' := fun r' hr => ⟨rfl, rfl, zc_sRo _ _ _ _ hr⟩
  refine nx _ ⟨zk_I_sR p1 ob.1 (zk_obn b5), p2, ?_, by omega, b5, p4.trans b6, fun r' hr => zk_o_t (b7 r' hr) (zk_o_t (om r' (by omega)) (os r' (by omega))), ?_, fun k' => ?_, fun r' h1 h2' => ?_⟩
  · show zv_s g2 = _
    rw [p3]
    show h.1.2 + zv_nf ci + w' = _
    have : zv_s h = h.1.2 := rfl
    omega
  · exact (om r b4).1.trans b8
  · show (if r = r ∧ k' = k then m + 1 else zv_R g2 r k') = if k' = k then m + 1 else f k'
    by_cases q : k' = k
    · rw [if_pos ⟨rfl, q⟩, if_pos q]
    · rw [if_neg (fun x => q x.2), if_neg q]
      exact (congrFun (om r b4).2.2 k').trans (b9 k')
  · by_cases q : r' ≤ m
    · exact zk_fin_o (zk_o_t (om r' q) (os r' (by omega))) (b10 r' h1 q)
    · exact zk_fin_o (os r' (by omega)) (p6 r' (by omega) h2')
section
variable {d : Nat} {h : zv_H} {r : Nat}
theorem zk_C7 (hI : zk_I h) (hn : zv_n h = r) (hR : ∀ k, zv_R h r k = 0) (l : zv_lay r = (1, 7)) (l1 : zv_lay (r + 1) = (2, 40)) : zm_R (C7_init (d + 1) r h) (fun h' => zk_P r (r + 1) 40 h h') := by
  refine zm_cV (fun e => lC7_init ⟨by omega, l⟩ e) ?_
  rw [qE7_init, if_neg (zc_nz l)]
  refine zk_fa 0 2 40 (zk_B0 hI hn l hR) l1 rfl rfl fun h' b => ?_
  refine zm_iV (zk_end b (fun k hk => ?_))
  match k with
  | 0 => rfl
  | n + 1 => exact absurd rfl hk
theorem zk_C3 (hI : zk_I h) (hn : zv_n h = r) (hR : ∀ k, zv_R h r k = 0) (l : zv_lay r = (1, 3)) (l1 : zv_lay (r + 1) = (2, 700)) (l2 : zv_lay (r + 2) = (1, 7)) (l3 : zv_lay (r + 3) = (2, 40)) : zm_R (C3_init (d + 2) r h) (fun h' => zk_P r (r + 3) 742 h h') := by
  refine zm_cV (fun e => lC3_init ⟨by omega, l⟩ e) ?_
  rw [qE3_init, if_neg (zc_nz l)]
  refine zk_fa 0 2 700 (zk_B0 hI hn l hR) l1 rfl rfl fun h1 b => ?_
  refine zk_fo 1 7 (r + 3) 40 (con := C7_init (d + 1)) b l2 (by omega) (fun h1 i n z _ => zk_C7 i n z l2 l3) fun h' b => ?_
  refine zm_iV (zk_end b (fun k hk => ?_))
  match k with
  | 0 => rfl
  | 1 => rfl
  | n + 2 => exact absurd rfl hk
theorem zk_C4 (hI : zk_I h) (hn : zv_n h = r) (hR : ∀ k, zv_R h r k = 0) (l : zv_lay r = (1, 4)) (l1 : zv_lay (r + 1) = (6, 48)) (l2 : zv_lay (r + 2) = (2, 604)) (l3 : zv_lay (r + 3) = (3, 604)) (l4 : zv_lay (r + 4) = (3, 604)) (l5 : zv_lay (r + 5) = (2, 605)) : zm_R (C4_init (d + 1) r h) (fun h' => zk_P r (r + 5) 2465 h h') := by
  refine zm_cV (fun e => lC4_init ⟨by omega, l⟩ e) ?_
  rw [qE4_init, if_neg (zc_nz l)]
  refine zk_fa 0 6 48 (zk_B0 hI hn l hR) l1 rfl rfl fun h1 b => ?_
  refine zk_fa 1 2 604 b l2 rfl rfl fun h1 b => ?_
  refine zk_fa 2 3 604 b l3 rfl rfl fun h1 b => ?_
  refine zk_fa 3 3 604 b l4 rfl rfl fun h1 b => ?_
  refine zk_fa 4 2 605 b l5 rfl rfl fun h1 b => ?_
  refine zm_iV (zk_end b (fun k hk => ?_))
  match k with
  | 0 => rfl
  | 1 => rfl
  | 2 => rfl
  | 3 => rfl
  | 4 => rfl
  | n + 5 => exact absurd rfl hk
theorem zk_C2 (hI : zk_I h) (hn : zv_n h = r) (hR : ∀ k, zv_R h r k = 0) (l : zv_lay r = (1, 2)) (l1 : zv_lay (r + 1) = (2, 12)) (l2 : zv_lay (r + 2) = (2, 12)) : zm_R (C2_init (d + 1) r h) (fun h' => zk_P r (r + 2) 24 h h') := by
  refine zm_cV (fun e => lC2_init ⟨by omega, l⟩ e) ?_
  rw [qE2_init, if_neg (zc_nz l)]
  refine zk_fa 0 2 12 (zk_B0 hI hn l hR) l1 rfl rfl fun h1 b => ?_
  refine zk_fa 1 2 12 b l2 rfl rfl fun h1 b => ?_
  refine zm_iV (zk_end b (fun k hk => ?_))
  match k with
  | 0 => rfl
  | 1 => rfl
  | n + 2 => exact absurd rfl hk
theorem zk_C6 (hI : zk_I h) (hn : zv_n h = r) (hR : ∀ k, zv_R h r k = 0) (l : zv_lay r = (1, 6)) (l1 : zv_lay (r + 1) = (2, 40)) (l2 : zv_lay (r + 2) = (2, 40)) (l3 : zv_lay (r + 3) = (2, 40)) (l4 : zv_lay (r + 4) = (2, 40)) : zm_R (C6_init (d + 1) r h) (fun h' => zk_P r (r + 4) 160 h h') := by
  refine zm_cV (fun e => lC6_init ⟨by omega, l⟩ e) ?_
  rw [qE6_init, if_neg (zc_nz l)]
  refine zk_fa 0 2 40 (zk_B0 hI hn l hR) l1 rfl rfl fun h1 b => ?_
  refine zk_fa 1 2 40 b l2 rfl rfl fun h1 b => ?_
  refine zk_fa 2 2 40 b l3 rfl rfl fun h1 b => ?_
  refine zk_fa 3 2 40 b l4 rfl rfl fun h1 b => ?_
  refine zm_iV (zk_end b (fun k hk => ?_))
  match k with
  | 0 => rfl
  | 1 => rfl
  | 2 => rfl
  | 3 => rfl
  | n + 4 => exact absurd rfl hk
theorem zk_C1 (hI : zk_I h) (hn : zv_n h = r) (hR : ∀ k, zv_R h r k = 0) (l : zv_lay r = (1, 1)) (l1 : zv_lay (r + 1) = (2, 176)) (l2 : zv_lay (r + 2) = (2, 176)) (l3 : zv_lay (r + 3) = (2, 6)) : zm_R (C1_init (d + 1) r h) (fun h' => zk_P r (r + 3) 358 h h') := by
  refine zm_cV (fun e => lC1_init ⟨by omega, l⟩ e) ?_
  rw [qE1_init, if_neg (zc_nz l)]
  refine zk_fa 0 2 176 (zk_B0 hI hn l hR) l1 rfl rfl fun h1 b => ?_
  refine zk_fa 1 2 176 b l2 rfl rfl fun h1 b => ?_
  refine zk_fa 2 2 6 b l3 rfl rfl fun h1 b => ?_
  refine zm_iV (zk_end b (fun k hk => ?_))
  match k with
  | 0 => rfl
  | 1 => rfl
  | 2 => rfl
  | n + 3 => exact absurd rfl hk
theorem zk_C5 {i : Int} (hI : zk_I h) (hn : zv_n h = r) (hR : ∀ k, zv_R h r k = 0) (ri : zv_rg i) (hi : r = 10 ∨ r = 179 → i = 0) (l : zv_lay r = (1, 5)) (l1 : zv_lay (r + 1) = (2, 12)) (l2 : zv_lay (r + 2) = (2, 120)) : zm_R (C5_init (d + 1) r i h) (fun h' => zk_P r (r + 2) 132 h h' ∧ zv_I h' r 0 = i) := by
  refine zm_cV (fun e => lC5_init ⟨by omega, l⟩ e) ?_
  rw [qE5_init, if_neg (zc_nz l)]
  refine zk_fa 1 2 12 (zk_B0 hI hn l hR) l1 rfl rfl fun h1 b => ?_
  refine zk_fa 2 2 120 b l2 rfl rfl fun h1 b => ?_
  obtain ⟨p1, p2, p3, p4, p5, p6⟩ := zk_end b (fun k hk => by
    match k with
    | 0 => exact absurd rfl hk
    | 1 => rfl
    | 2 => rfl
    | n + 3 => exact absurd rfl hk)
  refine zc_dI ⟨by omega, l⟩ ?_
  refine zm_iV ⟨⟨zk_I_sI p1 (by omega) ri (fun c m q q1 => ?_) (fun _ q => hi q), p2, p3, p4, fun r' hr => zk_o_t (p5 r' hr) ⟨zc_sIo _ _ _ _ (by omega), rfl, rfl⟩, fun r' a1 a2 => p6 r' a1 a2⟩, zc_sI2 _ _ _ _⟩
  rw [l] at q
  cases q
  cases q1
end
end
/-! 99m.init -/
section
/-! ===== the class: a History is made; the object is made ===== -/
theorem zk_stt {a i : Nat} (ha : a = 9 ∨ a = 178) (hi : i < 48) : zv_lay (zc_stt a i) = (1, 5) ∧ zv_lay (zc_stt a i + 1) = (2, 12) ∧ zv_lay (zc_stt a i + 2) = (2, 120) := by
  have l := (zc_stl (a := a) (by cases ha with
    | inl e => rw [e]; rfl
    | inr e => rw [e]; rfl) hi).1
  exact ⟨l, (zc_l5 l).1, (zc_l5 l).2⟩
/-- a History as it is made -/
def zk_fresh (a : Nat) (h : zv_H) : Prop := zv_R h a 10 = a + 1 ∧ ∀ i, i < 48 → zv_R h (a + 4) i = zc_stt a i ∧ zv_I h (zc_stt a i) 0 = (i : Int) ∧ zv_I h (zc_stt a i) 3 = (if i = 0 then 1 else 0) ∧ zv_R h (zc_stt a i) 4 = 0 ∧ zv_R h (zc_stt a i) 5 = zc_stt a i ∧ zv_I h (zc_stt a i) 10 = 0 ∧ zv_I h (zc_stt a i) 11 = 0
/-- how it was made: all anew at the end -/
def zk_from (a : Nat) (h : zv_H) : Prop := ∃ (d : Nat) (z hb : zv_H), zc_Bh a z ∧ (∀ i, i < 48 → zv_I z (zc_stt a i) 0 = (i : Int)) ∧ C0_begin (d + 4) a z = some hb ∧ ∀ r, a ≤ r → r < a + 169 → zk_o hb h r
def zk_L (a : Nat) (h0 h : zv_H) (i W : Nat) : Prop := zk_I h ∧ zv_n h = a + 24 + 3 * i ∧ zv_s h = zv_s h0 + W + 150 * i ∧ h.2.2.2.2 = h0.2.2.2.2 ∧ (∀ r, r < a → zk_o h0 h r) ∧ (∀ r, a ≤ r → r ≤ a + 24 + 3 * i → zk_fin h r) ∧ zv_R h a 10 = a + 1 ∧ (∀ j, j < i → zv_R h (a + 4) j = zc_stt a j) ∧ ∀ j, j < i → zv_I h (zc_stt a j) 0 = (j : Int)
theorem zk_begin {d : Nat} {h0 h : zv_H} {a W : Nat} (ha : a = 9 ∨ a = 178) (l : zk_L a h0 h 48 W) : zm_R (C0_begin (d + 4) a h) (fun h' => zk_P a (a + 168) (W + 150 * 48) h0 h' ∧ zk_fresh a h' ∧ zk_from a h') := by
  obtain ⟨l1, l2, l3, l4, l5, l6, l7, l8, l9⟩ := l
  have hl : zv_lay a = (1, 0) := by cases ha with
    | inl e => rw [e]; rfl
    | inr e => rw [e]; rfl
  have B : zc_Bh a h := ⟨fun r h1 h2 => by omega, fun r k h1 h2 h3 h4 => l6 r h1 (by omega) h3 k h4, fun i hi => l8 i hi, l1.1⟩
  obtain ⟨h', e, g⟩ := zc_begin (d := d) hl B
  refine ⟨h', e, ?_⟩
  obtain ⟨h1, ⟨s1, s2, s3, s4⟩, t1, t2, t3, t4, t5, t6, t7⟩ := g
  have lo : zv_lay (a + 4) = (6, 48) ∧ zv_lay (a + 14) = (1, 2) ∧ zv_lay (a + 17) = (1, 6) ∧ zv_lay (a + 22) = (1, 1) ∧ zv_lay (a + 23) = (2, 176) ∧ zv_lay (a + 24) = (2, 176) := by cases ha with
    | inl e => rw [e]; exact ⟨rfl, rfl, rfl, rfl, rfl, rfl⟩
    | inr e => rw [e]; exact ⟨rfl, rfl, rfl, rfl, rfl, rfl⟩
  have nst : ∀ r x, zv_lay r = x → x ≠ (1, 5) → ∀ j, j < 48 → r ≠ zc_stt a j := fun r x e n j hj q => n (by rw [← e, q]; exact (zc_stl hl hj).1)
  have out : ∀ r, r < a ∨ a + 169 ≤ r → ∀ j, j < 48 → r ≠ zc_stt a j := fun r hr j hj q => by have := zc_sttb (a := a) hj; omega
  have na : ∀ r x, zv_lay r = x → x ≠ (1, 0) → r ≠ a := fun r x e n q => n (by rw [← e, q, hl])
  have rO : ∀ r, (∀ j, j < 48 → r ≠ zc_stt a j) → ∀ k, ¬ (r = a ∧ k = 10) → zv_R h' r k = zv_R h r k := fun r hr k c => (t4 r k c).trans (congrFun (s3 r hr).2.2 k)
  have rS : ∀ j, j < 48 → ∀ k, zv_R h' (zc_stt a j) k = zv_R h1 (zc_stt a j) k := fun j hj k => t4 _ k (fun q => na _ _ (zc_stl hl hj).1 (by decide) q.1)
  have i5 : ∀ r, zv_lay r = (1, 5) → h'.2.1 r = h1.2.1 r := fun r e => t6 r (na r _ e (by decide)) (fun q => by rw [q, lo.2.1] at e; cases e) (fun q => by rw [q, lo.2.2.1] at e; cases e) (fun q => by rw [q, lo.2.2.2.1] at e; cases e) (fun q => by rw [q, lo.2.2.2.2.1] at e; cases e) (fun q => by rw [q, lo.2.2.2.2.2] at e; cases e)
  have oo : ∀ r, r < a ∨ a + 169 ≤ r → zk_o h h' r := fun r hr => by
    have w := s3 r (out r hr)
    refine ⟨(t6 r (by omega) (by omega) (by omega) (by omega) (by omega) (by omega)).trans w.1, (congrFun t3 r).trans w.2.1, ?_⟩
    funext k
    exact (t4 r k (by omega)).trans (congrFun w.2.2 k)
  have num : ∀ j, j < 48 → zv_I h' (zc_stt a j) 0 = (j : Int) := fun j hj => ((congrFun (i5 _ (zc_stl hl hj).1) 0).trans (s4 j hj).1).trans (l9 j hj)
  have I' : zk_I h' := by
    obtain ⟨i1, i2, i3, i4, i5'⟩ := l1
    refine ⟨t7, fun r c k m h1' h2 => ?_, fun r k hr => ?_, fun r hr k => ?_, fun r hr => ?_⟩
    · rcases zc_bdc h2 with w | w | w
      · obtain ⟨w1, w2⟩ := w
        subst w1
        have e1 : h'.2.1 r = h1.2.1 r := t6 r (na r _ h1' (by decide)) (fun q => by rw [q, lo.2.1] at h1'; cases h1') (fun q => by rw [q, lo.2.2.1] at h1'; cases h1') (fun q => by rw [q, lo.2.2.2.1] at h1'; cases h1') (fun q => by rw [q, lo.2.2.2.2.1] at h1'; cases h1') (fun q => by rw [q, lo.2.2.2.2.2] at h1'; cases h1')
        exact ((congrFun e1 k).trans (congrFun (s3 r (nst r _ h1' (by decide))).1 k)).trans (i2 r 4 k m h1' h2)
      · obtain ⟨w1, w2, w3⟩ := w
        subst w1
        rw [show zv_I h' r = zv_I h1 r from i5 r h1']
        by_cases c : ∃ j, j < 48 ∧ r = zc_stt a j
        · obtain ⟨j, hj, e⟩ := c
          rw [e, w2]
          exact (s4 j hj).2.2.2.2.2.2.1
        · rw [show zv_I h1 r = zv_I h r from (s3 r (fun j hj e => c ⟨j, hj, e⟩)).1]
          exact i2 r 5 k m h1' h2
      · obtain ⟨w1, w2⟩ := w
        subst w1
        have e1 : h'.2.1 r = h1.2.1 r := t6 r (na r _ h1' (by decide)) (fun q => by rw [q, lo.2.1] at h1'; cases h1') (fun q => by rw [q, lo.2.2.1] at h1'; cases h1') (fun q => by rw [q, lo.2.2.2.1] at h1'; cases h1') (fun q => by rw [q, lo.2.2.2.2.1] at h1'; cases h1') (fun q => by rw [q, lo.2.2.2.2.2] at h1'; cases h1')
        exact ((congrFun e1 k).trans (congrFun (s3 r (nst r _ h1' (by decide))).1 k)).trans (i2 r 7 k m h1' h2)
    · have l17 : zv_lay (r + 1) = (6, 48) := by cases zc_l4 hr with
        | inl e => rw [e]; rfl
        | inr e => rw [e]; rfl
      rw [rO _ (nst _ _ l17 (by decide)) k (fun w => na _ _ l17 (by decide) w.1)]
      exact i3 r k hr
    · have hr' : a + 168 < r := by
        unfold zv_n at hr
        rw [t1, s1] at hr
        have : zv_n h < r := hr
        omega
      have o := oo r (by omega)
      have z := i4 r (by omega) k
      exact ⟨(congrFun o.1 k).trans z.1, (congrFun o.2.2 k).trans z.2⟩
    · have lr : zv_lay r = (1, 5) := by cases hr with
        | inl e => rw [e]; rfl
        | inr e => rw [e]; rfl
      rw [show zv_I h' r = zv_I h1 r from i5 r lr]
      by_cases c : ∃ j, j < 48 ∧ r = zc_stt a j
      · obtain ⟨j, hj, e⟩ := c
        have := (s4 j hj).1
        rw [← e] at this
        rw [this]
        exact i5' r hr
      · rw [show zv_I h1 r = zv_I h r from (s3 r (fun j hj e => c ⟨j, hj, e⟩)).1]
        exact i5' r hr
  refine ⟨⟨I', ?_, ?_, (t2.trans s2).trans l4, fun r hr => zk_o_t (l5 r hr) (oo r (Or.inl hr)), fun r h1' h2' => ?_⟩, ⟨t5, fun i hi => ?_⟩, ⟨d, h, h', B, l9, e, fun r _ _ => ⟨rfl, rfl, rfl⟩⟩⟩
  · unfold zv_n
    rw [t1, s1]
    have : zv_n h = h.1.1 := rfl
    omega
  · unfold zv_s
    rw [t1, s1]
    have e1 : zv_s h = h.1.2 := rfl
    have e2 : zv_s h0 = h0.1.2 := rfl
    omega
  · intro lr k hk
    have f := l6 r h1' (by omega) lr k hk
    by_cases c : ∃ j, j < 48 ∧ r = zc_stt a j
    · obtain ⟨j, hj, e⟩ := c
      have sl := (zc_stl hl hj).1
      have k4 : k ≠ 4 := fun q => by rw [e, sl, q] at hk; exact hk rfl
      have k5 : k ≠ 5 := fun q => by rw [e, sl, q] at hk; exact hk rfl
      have e2 : zv_R h' r k = zv_R h r k := by
        rw [e, rS j hj k]
        exact (s4 j hj).2.2.2.2.2.2.2.2 k k4 k5
      rw [e2]
      exact f
    · rw [rO r (fun j hj e => c ⟨j, hj, e⟩) k (fun q => by rw [q.1, hl, q.2] at hk; exact hk rfl)]
      exact f
  · obtain ⟨q1, q2, q3, q4, q5, q6, q7, q8, q9⟩ := s4 i hi
    have eI := fun k => congrFun (i5 _ (zc_stl hl hi).1) k
    exact ⟨(rO _ (nst _ _ lo.1 (by decide)) i (fun w => na _ _ lo.1 (by decide) w.1)).trans (l8 i hi), num i hi, (eI 3).trans q2, (rS i hi 4).trans q3, (rS i hi 5).trans q4, (eI 10).trans q5, (eI 11).trans q6⟩
theorem zk_C0 {d : Nat} {h : zv_H} {a : Nat} (hI : zk_I h) (ha : a = 9 ∨ a = 178) (hn : zv_n h = a) (hR : ∀ k, zv_R h a k = 0) : zm_R (C0_init (d + 5) a h) (fun h' => zk_P a (a + 168) 11093 h h' ∧ zk_fresh a h' ∧ zk_from a h') := by
  have hl : zv_lay a = (1, 0) := by cases ha with
    | inl e => rw [e]; rfl
    | inr e => rw [e]; rfl
  have L : ∀ k, k < 28 → zv_lay (a + k) = zv_lay (9 + k) := by
    cases ha with
    | inl e => intro k _; rw [e]
    | inr e =>
      rw [e]
      intro k hk
      have : ((List.range 28).all fun k => decide (zv_lay (178 + k) = zv_lay (9 + k))) = true := by decide +kernel
      exact of_decide_eq_true (List.all_eq_true.mp this k (List.mem_range.mpr hk))
  have g : ∀ k, k < 28 → ∀ x, zv_lay (9 + k) = x → zv_lay (a + k) = x := fun k hk x e => (L k hk).trans e
  refine zm_cV (fun e => lC0_init ⟨by omega, hl⟩ e) ?_
  rw [qE0_init, if_neg (zc_nz hl)]
  refine zk_fo 0 5 (a + 3) 132 (con := fun r h => C5_init (d + 4) r 0 h) (zk_B0 hI hn hl hR) (g 1 (by decide) _ rfl) (by omega) (fun h1 i n z _ => zm_mono (zk_C5 i n z (by unfold zv_rg; omega) (fun _ => rfl) (g 1 (by decide) _ rfl) (g 2 (by decide) _ rfl) (g 3 (by decide) _ rfl)) (fun _ q => q.1)) fun h1 b => ?_
  refine zk_fa 1 6 48 b (g 4 (by decide) _ rfl) rfl rfl fun h1 b => ?_
  refine zk_fa 2 2 604 b (g 5 (by decide) _ rfl) rfl rfl fun h1 b => ?_
  refine zk_fa 3 2 48 b (g 6 (by decide) _ rfl) rfl rfl fun h1 b => ?_
  refine zk_fa 4 2 121 b (g 7 (by decide) _ rfl) rfl rfl fun h1 b => ?_
  refine zk_fo 5 4 (a + 13) 2465 (con := C4_init (d + 4)) b (g 8 (by decide) _ rfl) (by omega) (fun h1 i n z _ => zk_C4 i n z (g 8 (by decide) _ rfl) (g 9 (by decide) _ rfl) (g 10 (by decide) _ rfl) (g 11 (by decide) _ rfl) (g 12 (by decide) _ rfl) (g 13 (by decide) _ rfl)) fun h1 b => ?_
  refine zk_fo 6 2 (a + 16) 24 (con := C2_init (d + 4)) b (g 14 (by decide) _ rfl) (by omega) (fun h1 i n z _ => zk_C2 i n z (g 14 (by decide) _ rfl) (g 15 (by decide) _ rfl) (g 16 (by decide) _ rfl)) fun h1 b => ?_
  refine zk_fo 7 6 (a + 21) 160 (con := C6_init (d + 4)) b (g 17 (by decide) _ rfl) (by omega) (fun h1 i n z _ => zk_C6 i n z (g 17 (by decide) _ rfl) (g 18 (by decide) _ rfl) (g 19 (by decide) _ rfl) (g 20 (by decide) _ rfl) (g 21 (by decide) _ rfl)) fun h1 b => ?_
  refine zk_fo 8 1 (a + 25) 358 (con := C1_init (d + 4)) b (g 22 (by decide) _ rfl) (by omega) (fun h1 i n z _ => zk_C1 i n z (g 22 (by decide) _ rfl) (g 23 (by decide) _ rfl) (g 24 (by decide) _ rfl) (g 25 (by decide) _ rfl)) fun h1 b => ?_
  refine zk_fo 9 7 (a + 27) 40 (con := C7_init (d + 4)) b (g 26 (by decide) _ rfl) (by omega) (fun h1 i n z _ => zk_C7 i n z (g 26 (by decide) _ rfl) (g 27 (by decide) _ rfl)) fun h1 b => ?_
  obtain ⟨p1, p2, p3, p4, p5, p6⟩ := zk_end b (fun k hk => by
    match k with
    | 0 => rfl
    | 1 => rfl
    | 2 => rfl
    | 3 => rfl
    | 4 => rfl
    | 5 => rfl
    | 6 => rfl
    | 7 => rfl
    | 8 => rfl
    | 9 => rfl
    | n + 10 => exact absurd rfl hk)
  have oa : zv_ob h1 a 0 := ⟨by omega, hl⟩
  have fa := p6 a (by omega) (by omega)
  have f0 : zv_R h1 a 0 = a + 1 := by
    have := fa (by rw [hl]) 0 (by rw [hl]; decide)
    rw [this, hl]
    rfl
  have f1 : zv_R h1 a 1 = a + 4 := by
    have := fa (by rw [hl]) 1 (by rw [hl]; decide)
    rw [this, hl]
    rfl
  have ne4 : a + 4 ≠ a := by omega
  have l4 : zv_lay (a + 4) = (6, 48) := g 4 (by decide) _ rfl
  refine zc_eR oa f0 ?_
  refine zc_dR oa ?_
  refine zc_eR oa (v := a + 4) ((if_neg (fun q => absurd q.2 (by decide))).trans f1) ?_
  refine zc_eR oa (v := a + 1) ((if_neg (fun q => absurd q.2 (by decide))).trans f0) ?_
  have w1 : zv_wR (zv_sR h1 a 10 (a + 1)) (a + 4) 0 (a + 1) = some (zv_sR (zv_sR h1 a 10 (a + 1)) (a + 4) 0 (a + 1)) := by
    unfold zv_wR
    rw [if_pos ⟨⟨by show a + 4 ≤ zv_n h1; omega, by rw [l4], by decide, by rw [l4]; decide⟩, Or.inr ⟨by show a + 1 ≤ zv_n h1; omega, g 1 (by decide) _ rfl⟩⟩]
    rfl
  rw [zm_e w1]
  have path : ∀ r', zv_lay r' = (1, 4) → r' + 1 ≠ a + 4 := fun r' q e => by
    cases zc_l4 q with
    | inl q => rw [q] at e; omega
    | inr q => rw [q] at e; omega
  have l0 : zk_L a h (zv_sR (zv_sR h1 a 10 (a + 1)) (a + 4) 0 (a + 1)) 1 3893 := by
    refine ⟨zk_I_sR (zk_I_sR p1 (by omega) (zk_obn hl)) (by show a + 4 ≤ zv_n h1; omega) path, ?_, ?_, p4, fun r hr => zk_o_t (p5 r hr) ⟨rfl, rfl, ?_⟩, fun r h2 h3 => ?_, ?_, fun j hj => ?_, fun j hj => ?_⟩
    · show zv_n h1 = _
      omega
    · show zv_s h1 = _
      rw [p3]
      exact congrArg (zv_s h + ·) (show _ = 4043 by decide)
    · rw [zc_sRo _ _ _ _ (by omega), zc_sRo _ _ _ _ (by omega)]
    · intro lr k hk
      have f := p6 r h2 (by omega) lr k hk
      refine Eq.trans ?_ f
      refine (if_neg (fun q => ?_)).trans (if_neg (fun q => ?_))
      · rw [q.1, l4] at lr
        cases lr
      · rw [q.1, hl, q.2] at hk
        exact hk rfl
    · exact (if_neg (fun q => by omega)).trans (if_pos ⟨rfl, rfl⟩)
    · have e : j = 0 := by omega
      subst e
      exact if_pos ⟨rfl, rfl⟩
    · have e : j = 0 := by omega
      subst e
      show zv_I h1 (a + 1) 0 = 0
      exact p1.2.2.2.2 (a + 1) (by omega)
  generalize zv_sR (zv_sR h1 a 10 (a + 1)) (a + 4) 0 (a + 1) = h2 at l0
  have loop : ∀ (n i : Nat) (g2 : zv_H), i + n = 48 → 1 ≤ i → zk_L a h g2 i 3893 → zm_R (L0_init_125 (d + 4) a (i : Int) g2) (zm_V fun h' => zk_P a (a + 168) 11093 h h' ∧ zk_fresh a h' ∧ zk_from a h') := by
    intro n
    induction n with
    | zero =>
      intro i g2 hi h1i l
      have e : i = 48 := by omega
      subst e
      rw [qL0_init_125, if_neg (by omega)]
      obtain ⟨h', e, q⟩ := zk_begin (d := d) ha l
      rw [zm_e e]
      exact zm_iV q
    | succ n ih =>
      intro i g2 hi h1i l
      obtain ⟨l1, l2, l3, l4', l5, l6, l7, l8, l9⟩ := l
      have hi48 : i < 48 := by omega
      have st := zk_stt ha hi48
      have est : zv_n g2 + 1 = zc_stt a i := by
        unfold zc_stt
        rw [if_neg (by omega)]
        omega
      have sb := zc_sttb (a := a) hi48
      have fa1 : zv_gR g2 a 0 1 = some (a + 4) := by
        have f := l6 a (Nat.le_refl _) (by omega) (by rw [hl]) 1 (by rw [hl]; decide)
        rw [show zv_gR g2 a 0 1 = some (zv_R g2 a 1) from if_pos ⟨by omega, hl⟩, f, hl]
        rfl
      have e1 : zv_nO g2 5 = some (zv_mk g2 (zv_nf 5)) := if_pos (by rw [est]; exact st.1)
      have z := zk_mk_0 g2 (zv_nf 5)
      rw [est] at z
      have n1 : zv_n (zv_mk g2 (zv_nf 5)) = zc_stt a i := by
        rw [← est]
        rfl
      obtain ⟨g3, e3, ⟨q1, q2, q3, q4, q5, q6⟩, q7⟩ := zk_C5 (d := d + 3) (i := (i : Int)) (zk_I_mk l1 _) n1 (fun k => (z k).1) (by unfold zv_rg; omega) (fun q => by
        exfalso
        have : zc_stt a i = a + 25 + 3 * i := by
          unfold zc_stt
          rw [if_neg (by omega)]
        omega) st.1 st.2.1 st.2.2
      rw [qL0_init_125, if_pos (by omega), zm_e fa1, zm_e e1, est, zm_e e3]
      have w2 : zv_wR g3 (a + 4) (i : Int) (zc_stt a i) = some (zv_sR g3 (a + 4) i (zc_stt a i)) := by
        unfold zv_wR
        rw [if_pos ⟨⟨by omega, by rw [l4], by omega, by rw [l4]; omega⟩, Or.inr ⟨by omega, st.1⟩⟩]
        rfl
      rw [zm_e w2, show zv_w ((i : Int) + 1) = ((i + 1 : Nat) : Int) by rw [zm_w (by omega)]; omega]
      have om : ∀ r, r < zc_stt a i → zk_o g2 g3 r := fun r hr => zk_o_t (zk_mk_o g2 _ (by omega)) (q5 r hr)
      have os : ∀ r, r ≠ a + 4 → zk_o g3 (zv_sR g3 (a + 4) i (zc_stt a i)) r := fun r hr => ⟨rfl, rfl, zc_sRo _ _ _ _ hr⟩
      have r4 : ∀ j, zv_R g3 (a + 4) j = zv_R g2 (a + 4) j := fun j => congrFun (om (a + 4) (by omega)).2.2 j
      have lt : ∀ j, j < i → zc_stt a j < zc_stt a i := fun j hj => by
        unfold zc_stt
        rw [if_neg (show ¬ i = 0 by omega)]
        by_cases c : j = 0
        · rw [if_pos c]; omega
        · rw [if_neg c]; omega
      have nst4 : ∀ j, j < 48 → zc_stt a j ≠ a + 4 := fun j hj e => by
        have := (zk_stt ha hj).1
        rw [e, l4] at this
        cases this
      refine ih (i + 1) _ (by omega) (by omega) ⟨zk_I_sR q1 (by omega) path, by show zv_n g3 = _; omega, ?_, q4.trans l4', fun r hr => zk_o_t (l5 r hr) (zk_o_t (om r (by omega)) (os r (by omega))), fun r h3 h4 => ?_, ?_, fun j hj => ?_, fun j hj => ?_⟩
      · show zv_s g3 = _
        rw [q3]
        show zv_s g2 + 18 + 132 = _
        omega
      · by_cases c : r = a + 4
        · intro lr
          rw [c, l4] at lr
          cases lr
        · refine zk_fin_o (os r c) ?_
          by_cases c1 : r < zc_stt a i
          · exact zk_fin_o (om r c1) (l6 r h3 (by omega))
          · exact q6 r (by omega) (by omega)
      · exact (congrFun (os a (by omega)).2.2 10).trans ((congrFun (om a (by omega)).2.2 10).trans l7)
      · by_cases c : j = i
        · rw [c]
          exact if_pos ⟨rfl, rfl⟩
        · exact (if_neg (fun q => c q.2)).trans ((r4 j).trans (l8 j (by omega)))
      · show zv_I g3 (zc_stt a j) 0 = _
        by_cases c : j = i
        · rw [c]
          exact q7
        · exact (congrFun (om _ (lt j (by omega))).1 0).trans (l9 j (by omega))
  exact loop 47 1 h2 rfl (by omega) l0
end
/-! 99n.init -/
section
/-! ===== the object and the reference are made ===== -/
/-- a field with an object of its own, of which something more is known -/
theorem zk_fo2 {α : Type} {r c : Nat} {h0 h : zv_H} {m w : Nat} {f : Nat → Nat} {P : α → Prop} {X : zv_H → Prop} {g : zv_H → Option α} (k ci e w' : Nat) {con : Nat → zv_H → Option zv_H} (b : zk_B r c h0 h m w f) (hl : zv_lay (m + 1) = (1, ci)) (he : m + 1 ≤ e) (hc : ∀ h1, zk_I h1 → zv_n h1 = m + 1 → (∀ k, zv_R h1 (m + 1) k = 0) → (∀ k, zv_I h1 (m + 1) k = 0) → zm_R (con (m + 1) h1) (fun h' => zk_P (m + 1) e w' h1 h' ∧ X h')) (nx : ∀ g2 h', X g2 → (∀ r', r' ≠ r → zk_o g2 h' r') → (∀ r', r' ≤ m → r' ≠ r → zk_o h h' r') → zk_B r c h0 h' e (w + zv_nf ci + w') (fun k' => if k' = k then m + 1 else f k') → zm_R (g h') P) : zm_R ((zv_nO h ci).bind fun g1 => (con (zv_n h + 1) g1).bind fun g2 => (zv_pR g2 r c k (zv_n h + 1)).bind g) P := by
  obtain ⟨b1, b2, b3, b4, b5, b6, b7, b8, b9, b10⟩ := b
  have e1 : zv_nO h ci = some (zv_mk h (zv_nf ci)) := if_pos (by rw [b2, hl])
  have n1 : zv_n (zv_mk h (zv_nf ci)) = m + 1 := by show h.1.1 + 1 = m + 1; have : zv_n h = h.1.1 := rfl; omega
  have z := zk_mk_0 h (zv_nf ci)
  rw [b2] at z
  obtain ⟨g2, e2, ⟨p1, p2, p3, p4, p5, p6⟩, px⟩ := hc (zv_mk h (zv_nf ci)) (zk_I_mk b1 _) n1 (fun k => (z k).1) (fun k => (z k).2)
  rw [zm_e e1, b2, zm_e e2]
  have ob : zv_ob g2 r c := ⟨by rw [p2]; omega, b5⟩
  rw [zm_e (show zv_pR g2 r c k (m + 1) = some _ from if_pos ob)]
  have om : ∀ r', r' ≤ m → zk_o h g2 r' := fun r' hr => zk_o_t (zk_mk_o h _ (by omega)) (p5 r' (by omega))
  have os : ∀ r', r' ≠ r → zk_o g2 (zv_sR g2 r k (m + 1)) r' := fun r' hr => ⟨rfl, rfl, zc_sRo _ _ _ _ hr⟩
  refine nx g2 _ px os (fun r' h1 h2 => zk_o_t (om r' h1) (os r' h2)) ⟨zk_I_sR p1 ob.1 (zk_obn b5), p2, ?_, by omega, b5, p4.trans b6, fun r' hr => zk_o_t (b7 r' hr) (zk_o_t (om r' (by omega)) (os r' (by omega))), ?_, fun k' => ?_, fun r' h1 h2' => ?_⟩
  · show zv_s g2 = _
    rw [p3]
    show h.1.2 + zv_nf ci + w' = _
    have : zv_s h = h.1.2 := rfl
    omega
  · exact (om r b4).1.trans b8
  · show (if r = r ∧ k' = k then m + 1 else zv_R g2 r k') = if k' = k then m + 1 else f k'
    by_cases q : k' = k
    · rw [if_pos ⟨rfl, q⟩, if_pos q]
    · rw [if_neg (fun x => q x.2), if_neg q]
      exact (congrFun (om r b4).2.2 k').trans (b9 k')
  · by_cases q : r' ≤ m
    · exact zk_fin_o (zk_o_t (om r' q) (os r' (by omega))) (b10 r' h1 q)
    · exact zk_fin_o (os r' (by omega)) (p6 r' (by omega) h2')
theorem zk_C3I {d : Nat} {h : zv_H} (hI : zk_I h) (hn : zv_n h = 5) (hR : ∀ k, zv_R h 5 k = 0) (h0 : ∀ k, zv_I h 5 k = 0) : zm_R (C3_init (d + 2) 5 h) (fun h' => zk_P 5 8 742 h h' ∧ zv_I h' 5 2 = 0) := by
  have l : zv_lay 5 = (1, 3) := rfl
  refine zm_cV (fun e => lC3_init ⟨by omega, l⟩ e) ?_
  rw [qE3_init, if_neg (zc_nz l)]
  refine zk_fa 0 2 700 (zk_B0 hI hn l hR) rfl rfl rfl fun h1 b => ?_
  refine zk_fo 1 7 8 40 (con := C7_init (d + 1)) b rfl (by omega) (fun h1 i n z _ => zk_C7 i n z rfl rfl) fun h' b => ?_
  refine zm_iV ⟨zk_end b (fun k hk => ?_), ?_⟩
  · match k with
    | 0 => rfl
    | 1 => rfl
    | n + 2 => exact absurd rfl hk
  · exact (congrFun b.2.2.2.2.2.2.2.1 2).trans (h0 2)
theorem zk_fresh_o {a : Nat} {h h' : zv_H} (ha : a = 9 ∨ a = 178) (f : zk_fresh a h) (o : ∀ r, a ≤ r → r < a + 169 → zk_o h h' r) : zk_fresh a h' := by
  refine ⟨(congrFun (o a (by omega) (by omega)).2.2 10).trans f.1, fun i hi => ?_⟩
  have sb := zc_sttb (a := a) hi
  have os := o (zc_stt a i) (by omega) (by omega)
  have f2 := f.2 i hi
  exact ⟨(congrFun (o (a + 4) (by omega) (by omega)).2.2 i).trans f2.1, (congrFun os.1 0).trans f2.2.1, (congrFun os.1 3).trans f2.2.2.1, (congrFun os.2.2 4).trans f2.2.2.2.1, (congrFun os.2.2 5).trans f2.2.2.2.2.1, (congrFun os.1 10).trans f2.2.2.2.2.2.1, (congrFun os.1 11).trans f2.2.2.2.2.2.2⟩
theorem zk_sI0 (g : zv_H) (r k : Nat) (v : Int) : zv_I (zv_sI g r k v) r k = v := if_pos ⟨rfl, rfl⟩
theorem zk_from_o {a : Nat} {h h' : zv_H} (f : zk_from a h) (o : ∀ r, a ≤ r → r < a + 169 → zk_o h h' r) : zk_from a h' := by
  obtain ⟨d, z, hb, x1, x2, x3, x4⟩ := f
  exact ⟨d, z, hb, x1, x2, x3, fun r h1 h2 => zk_o_t (x4 r h1 h2) (o r h1 h2)⟩
/-- what the object is, as it is made -/
def zk_ob8 (h : zv_H) : Prop := zk_I h ∧ (∀ r, 1 ≤ r → r ≤ 346 → zk_fin h r) ∧ zv_R h 1 3 = 9 ∧ zv_R h 1 4 = 178 ∧ zk_fresh 9 h ∧ zk_fresh 178 h ∧ zv_I h 5 2 = 0 ∧ zv_I h 1 7 = 0 ∧ zk_from 9 h ∧ zk_from 178 h
theorem zk_C8 {d : Nat} {h : zv_H} (hI : zk_I h) (hn : zv_n h = 1) (hR : ∀ k, zv_R h 1 k = 0) : zm_R (C8_init (d + 6) 1 h) (fun h' => zk_ob8 h' ∧ zv_n h' = 346 ∧ zv_s h' = zv_s h + 23171 ∧ h'.2.2.2.2 = h.2.2.2.2) := by
  have l : zv_lay 1 = (1, 8) := rfl
  refine zm_cV (fun e => lC8_init ⟨by omega, l⟩ e) ?_
  rw [qE8_init, if_neg (zc_nz l)]
  refine zk_fa 0 2 160 (zk_B0 hI hn l hR) rfl rfl rfl fun h1 b => ?_
  refine zk_fo 1 7 4 40 (con := C7_init (d + 5)) b rfl (by omega) (fun h1 i n z _ => zk_C7 i n z rfl rfl) fun h1 b => ?_
  refine zk_fo2 2 3 8 742 (X := fun h => zv_I h 5 2 = 0) (con := C3_init (d + 5)) b rfl (by omega) (fun h1 i n z z0 => zk_C3I i n z z0) fun g2 h2 x1 o1 _ b => ?_
  refine zk_fo2 3 0 177 11093 (X := fun h => zk_fresh 9 h ∧ zk_from 9 h) (con := C0_init (d + 5)) b rfl (by omega) (fun h1 i n z _ => zk_C0 i (Or.inl rfl) n z) fun g3 h3 x3 o3 p3 b => ?_
  refine zk_fo2 4 0 346 11093 (X := fun h => zk_fresh 178 h ∧ zk_from 178 h) (con := C0_init (d + 5)) b rfl (by omega) (fun h1 i n z _ => zk_C0 i (Or.inr rfl) n z) fun g4 h4 x4 o4 p4 b => ?_
  have t5 : zv_I h4 5 2 = 0 := (congrFun (p4 5 (by decide) (by decide)).1 2).trans ((congrFun (p3 5 (by decide) (by decide)).1 2).trans ((congrFun (o1 5 (by decide)).1 2).trans x1))
  have F9 : zk_fresh 9 h4 := zk_fresh_o (Or.inl rfl) x3.1 (fun r h1 h2 => zk_o_t (o3 r (by omega)) (p4 r (by omega) (by omega)))
  have F178 : zk_fresh 178 h4 := zk_fresh_o (Or.inr rfl) x4.1 (fun r h1 h2 => o4 r (by omega))
  have G9 : zk_from 9 h4 := zk_from_o x3.2 (fun r h1 h2 => zk_o_t (o3 r (by omega)) (p4 r (by omega) (by omega)))
  have G178 : zk_from 178 h4 := zk_from_o x4.2 (fun r h1 h2 => o4 r (by omega))
  have fk := b.2.2.2.2.2.2.2.2.1
  obtain ⟨q1, q2, q3, q4, q5, q6⟩ := zk_end b (fun k hk => by
    match k with
    | 0 => rfl
    | 1 => rfl
    | 2 => rfl
    | n + 3 => exact absurd rfl hk)
  have ob : zv_ob h4 1 8 := ⟨by omega, l⟩
  refine zc_dI ob ?_
  refine zc_dI ob ?_
  refine zc_dZ ob (Or.inl rfl) ?_
  have nb : ∀ c m, zv_lay 1 = (1, c) → ∀ k, zc_bd c k = some m → (0 : Int) = 0 := fun _ _ _ _ _ => rfl
  have r0 : zv_rg 0 := by unfold zv_rg; omega
  have oo : ∀ r, r ≠ 1 → zk_o h4 (zv_sI (zv_sI (zv_sI h4 1 5 0) 1 6 0) 1 7 0) r := fun r hr => ⟨by rw [zc_sIo _ _ _ _ hr, zc_sIo _ _ _ _ hr, zc_sIo _ _ _ _ hr], rfl, rfl⟩
  refine zm_iV ⟨⟨zk_I_sI (zk_I_sI (zk_I_sI q1 ob.1 r0 (fun _ _ _ _ => rfl) (fun _ _ => rfl)) ob.1 r0 (fun _ _ _ _ => rfl) (fun _ _ => rfl)) ob.1 r0 (fun _ _ _ _ => rfl) (fun _ _ => rfl), fun r h1 h2 => q6 r h1 h2, fk 3, fk 4, zk_fresh_o (Or.inl rfl) F9 (fun r h1 h2 => oo r (by omega)), zk_fresh_o (Or.inr rfl) F178 (fun r h1 h2 => oo r (by omega)), (congrFun (oo 5 (by decide)).1 2).trans t5, zk_sI0 _ _ _ _, zk_from_o G9 (fun r h1 h2 => oo r (by omega)), zk_from_o G178 (fun r h1 h2 => oo r (by omega))⟩, q2, ?_, q4⟩
  show zv_s h4 = _
  rw [q3]
  exact congrArg (zv_s h + ·) (show _ = 23171 by decide)
/-! the reference -/
def zk_D (h0 h : zv_H) (m w : Nat) (f : Nat → Nat) (g : Nat → Int) (j : Nat → Nat → Int64) : Prop := (∀ r, r < 347 → zk_o h0 h r) ∧ zv_n h = m ∧ zv_s h = zv_s h0 + w ∧ 347 ≤ m ∧ h.2.2.2.2 = h0.2.2.2.2 ∧ (∀ k, zv_R h 347 k = f k) ∧ (∀ k, zv_I h 347 k = g k) ∧ ∀ r k, 347 < r → r ≤ m → zv_J h r k = j r k
section
variable {α : Type} {h0 h : zv_H} {m w : Nat} {f : Nat → Nat} {g : Nat → Int} {j : Nat → Nat → Int64} {P : α → Prop} {G : zv_H → Option α}
theorem zk_dA (kd n : Nat) (b : zk_D h0 h m w f g j) (hl : zv_lay (m + 1) = (kd, n)) (hn : Nat.ble n 60000 = true) (nx : ∀ h', zk_D h0 h' (m + 1) (w + n) f g (fun a c => if a = m + 1 then 0 else j a c) → zv_n h + 1 = m + 1 → zm_R (G h') P) : zm_R ((zv_nA h kd (n : Int)).bind G) P := by
  obtain ⟨b1, b2, b3, b4, b5, b6, b7, b8⟩ := b
  have hn' := Nat.ble_eq.mp hn
  have e1 : zv_nA h kd (n : Int) = some (zv_mk h n) := if_pos ⟨by omega, by rw [b2, hl]; rfl⟩
  rw [zm_e e1]
  have om : ∀ r', r' ≤ m → zk_o h (zv_mk h n) r' := fun r' hr => zk_mk_o h n (by omega)
  refine nx _ ⟨fun r hr => zk_o_t (b1 r hr) (om r (by omega)), ?_, ?_, by omega, b5, fun k => (congrFun (om 347 b4).2.2 k).trans (b6 k), fun k => (congrFun (om 347 b4).1 k).trans (b7 k), fun r k h1 h2 => ?_⟩ (by omega)
  · show h.1.1 + 1 = m + 1
    have : zv_n h = h.1.1 := rfl
    omega
  · show h.1.2 + n = _
    have : zv_s h = h.1.2 := rfl
    omega
  · show (if r = h.1.1 + 1 then 0 else zv_J h r k) = if r = m + 1 then 0 else j r k
    have : zv_n h = h.1.1 := rfl
    by_cases c : r = m + 1
    · rw [if_pos (by omega), if_pos c]
    · rw [if_neg (by omega), if_neg c]
      exact b8 r k h1 (by omega)
theorem zk_dR (k : Nat) {v : Nat} (b : zk_D h0 h m w f g j) (nx : ∀ h', zk_D h0 h' m w (fun k' => if k' = k then v else f k') g j → zm_R (G h') P) : zm_R ((zv_pR h 347 9 k v).bind G) P := by
  obtain ⟨b1, b2, b3, b4, b5, b6, b7, b8⟩ := b
  refine zc_dR ⟨by omega, rfl⟩ (nx _ ⟨fun r hr => zk_o_t (b1 r hr) ⟨rfl, rfl, zc_sRo _ _ _ _ (by omega)⟩, b2, b3, b4, b5, fun k' => ?_, b7, b8⟩)
  show (if 347 = 347 ∧ k' = k then v else zv_R h 347 k') = if k' = k then v else f k'
  by_cases q : k' = k
  · rw [if_pos ⟨rfl, q⟩, if_pos q]
  · rw [if_neg (fun x => q x.2), if_neg q]
    exact b6 k'
theorem zk_dI {k : Nat} {v : Int} (b : zk_D h0 h m w f g j) (_ : zv_rg v) (nx : ∀ h', zk_D h0 h' m w f (fun k' => if k' = k then v else g k') j → zm_R (G h') P) : zm_R ((zv_pI h 347 9 k v).bind G) P := by
  obtain ⟨b1, b2, b3, b4, b5, b6, b7, b8⟩ := b
  refine zc_dI ⟨by omega, rfl⟩ (nx _ ⟨fun r hr => zk_o_t (b1 r hr) ⟨zc_sIo _ _ _ _ (by omega), rfl, rfl⟩, b2, b3, b4, b5, b6, fun k' => ?_, b8⟩)
  show (if 347 = 347 ∧ k' = k then v else zv_I h 347 k') = if k' = k then v else g k'
  by_cases q : k' = k
  · rw [if_pos ⟨rfl, q⟩, if_pos q]
  · rw [if_neg (fun x => q x.2), if_neg q]
    exact b7 k'
theorem zk_dW {r i : Nat} {v : Int64} (b : zk_D h0 h m w f g j) (h1 : Nat.ble 348 r = true) (h2 : Nat.ble r m = true) (h3 : (Nat.beq (zv_lay r).1 5 && Nat.blt i (zv_lay r).2) = true) (nx : ∀ h', zk_D h0 h' m w f g (fun a c => if a = r ∧ c = i then v else j a c) → zm_R (G h') P) : zm_R ((zv_wJ h r (i : Int) v).bind G) P := by
  obtain ⟨b1, b2, b3, b4, b5, b6, b7, b8⟩ := b
  have q1 := Nat.ble_eq.mp h1
  have q2 := Nat.ble_eq.mp h2
  rw [Bool.and_eq_true] at h3
  have q3 := Nat.eq_of_beq_eq_true h3.1
  have q4 := Nat.blt_eq.mp h3.2
  have e : zv_wJ h r (i : Int) v = some (zv_sJ h r i v) := if_pos ⟨by omega, q3, by omega, by omega⟩
  rw [zm_e e]
  refine nx _ ⟨fun r' hr => zk_o_t (b1 r' hr) ⟨rfl, ?_, rfl⟩, b2, b3, b4, b5, b6, b7, fun r' k' a1 a2 => ?_⟩
  · funext k
    exact if_neg (fun q => by omega)
  · show (if r' = r ∧ k' = i then v else zv_J h r' k') = if r' = r ∧ k' = i then v else j r' k'
    by_cases q : r' = r ∧ k' = i
    · rw [if_pos q, if_pos q]
    · rw [if_neg q, if_neg q]
      exact b8 r' k' a1 a2
end
theorem zm_F_a' {A B : List Nat} {h h' : zv_H} (f : zm_F A B h h') {r : Nat} (hr : r < 347) (hA : (A.all fun x => Nat.ble 347 x) = true := by decide) : h'.2.1 r = h.2.1 r := by
  refine f.2.2.2.1 r ?_ ?_
  · cases e : A.contains r with
    | false => rfl
    | true =>
      have := Nat.ble_eq.mp (List.all_eq_true.mp hA r (List.contains_iff_mem.mp e))
      omega
  · cases e : Nat.beq r 347 with
    | false => rfl
    | true =>
      have := Nat.eq_of_beq_eq_true e
      omega
set_option maxRecDepth 100000 in
theorem zk_C9 {d : Nat} {h : zv_H} (hn : zv_n h = 347) (hR : ∀ k, zv_R h 347 k = 0) (hI : ∀ k, zv_I h 347 k = 0) : zm_R (C9_init (d + 3) 347 h) (fun h' => (∀ r, r < 347 → zk_o h h' r) ∧ zm_MI h' ∧ zv_I h' 347 27 = 0 ∧ h'.2.2.2.2 = h.2.2.2.2 ∧ zv_s h' = zv_s h + 33523 ∧ ∃ z, zm_M z ∧ C9_clears (d + 2) 347 z = some h' ∧ ∀ k, zv_I z 347 k = if k = 29 then -1 else if k = 28 then -1 else 0) := by
  refine zm_cV (fun e => lC9_init ⟨by omega, rfl⟩ e) ?_
  have b : zk_D h h 347 0 (fun _ => 0) (fun _ => 0) (fun _ _ => 0) := ⟨fun _ _ => ⟨rfl, rfl, rfl⟩, hn, rfl, Nat.le_refl _, rfl, hR, hI, fun r k h1 h2 => absurd h1 (by omega)⟩
  rw [qE9_init, if_neg (by decide)]
  refine zk_dA 2 4236 b rfl rfl fun g1 b e_g1 => ?_
  rw [e_g1]
  refine zk_dR 0 b fun g2 b => ?_
  refine zk_dA 2 4236 b rfl rfl fun g3 b e_g3 => ?_
  rw [e_g3]
  refine zk_dR 1 b fun g4 b => ?_
  refine zk_dA 2 4236 b rfl rfl fun g5 b e_g5 => ?_
  rw [e_g5]
  refine zk_dR 2 b fun g6 b => ?_
  refine zk_dA 2 49 b rfl rfl fun g7 b e_g7 => ?_
  rw [e_g7]
  refine zk_dR 5 b fun g8 b => ?_
  refine zk_dA 2 640 b rfl rfl fun g9 b e_g9 => ?_
  rw [e_g9]
  refine zk_dR 6 b fun g10 b => ?_
  refine zk_dA 2 640 b rfl rfl fun g11 b e_g11 => ?_
  rw [e_g11]
  refine zk_dR 7 b fun g12 b => ?_
  refine zk_dA 3 49 b rfl rfl fun g13 b e_g13 => ?_
  rw [e_g13]
  refine zk_dR 8 b fun g14 b => ?_
  refine zk_dA 3 640 b rfl rfl fun g15 b e_g15 => ?_
  rw [e_g15]
  refine zk_dR 9 b fun g16 b => ?_
  refine zk_dA 2 640 b rfl rfl fun g17 b e_g17 => ?_
  rw [e_g17]
  refine zk_dR 13 b fun g18 b => ?_
  refine zk_dA 2 640 b rfl rfl fun g19 b e_g19 => ?_
  rw [e_g19]
  refine zk_dR 14 b fun g20 b => ?_
  refine zk_dA 2 6 b rfl rfl fun g21 b e_g21 => ?_
  rw [e_g21]
  refine zk_dR 15 b fun g22 b => ?_
  refine zk_dA 3 400 b rfl rfl fun g23 b e_g23 => ?_
  rw [e_g23]
  refine zk_dR 16 b fun g24 b => ?_
  refine zk_dA 2 700 b rfl rfl fun g25 b e_g25 => ?_
  rw [e_g25]
  refine zk_dR 17 b fun g26 b => ?_
  refine zk_dA 2 12 b rfl rfl fun g27 b e_g27 => ?_
  rw [e_g27]
  refine zk_dR 18 b fun g28 b => ?_
  refine zk_dA 2 48 b rfl rfl fun g29 b e_g29 => ?_
  rw [e_g29]
  refine zk_dR 21 b fun g30 b => ?_
  refine zk_dA 2 49 b rfl rfl fun g31 b e_g31 => ?_
  rw [e_g31]
  refine zk_dR 22 b fun g32 b => ?_
  refine zk_dA 3 49 b rfl rfl fun g33 b e_g33 => ?_
  rw [e_g33]
  refine zk_dR 23 b fun g34 b => ?_
  refine zk_dA 3 49 b rfl rfl fun g35 b e_g35 => ?_
  rw [e_g35]
  refine zk_dR 25 b fun g36 b => ?_
  refine zk_dA 4 700 b rfl rfl fun g37 b e_g37 => ?_
  rw [e_g37]
  refine zk_dR 26 b fun g38 b => ?_
  refine zk_dI b (by unfold zv_rg; omega) fun g39 b => ?_
  refine zk_dI b (by unfold zv_rg; omega) fun g40 b => ?_
  refine zk_dA 5 12 b rfl rfl fun g41 b e_g41 => ?_
  rw [e_g41]
  refine zk_dW (i := 0) b rfl rfl rfl fun g42 b => ?_
  refine zk_dW (i := 1) b rfl rfl rfl fun g43 b => ?_
  refine zk_dW (i := 2) b rfl rfl rfl fun g44 b => ?_
  refine zk_dW (i := 3) b rfl rfl rfl fun g45 b => ?_
  refine zk_dW (i := 4) b rfl rfl rfl fun g46 b => ?_
  refine zk_dW (i := 5) b rfl rfl rfl fun g47 b => ?_
  refine zk_dW (i := 6) b rfl rfl rfl fun g48 b => ?_
  refine zk_dW (i := 7) b rfl rfl rfl fun g49 b => ?_
  refine zk_dW (i := 8) b rfl rfl rfl fun g50 b => ?_
  refine zk_dW (i := 9) b rfl rfl rfl fun g51 b => ?_
  refine zk_dW (i := 10) b rfl rfl rfl fun g52 b => ?_
  refine zk_dW (i := 11) b rfl rfl rfl fun g53 b => ?_
  refine zk_dR 39 b fun g54 b => ?_
  refine zk_dA 5 5 b rfl rfl fun g55 b e_g55 => ?_
  rw [e_g55]
  refine zk_dW (i := 0) b rfl rfl rfl fun g56 b => ?_
  refine zk_dW (i := 1) b rfl rfl rfl fun g57 b => ?_
  refine zk_dW (i := 2) b rfl rfl rfl fun g58 b => ?_
  refine zk_dW (i := 3) b rfl rfl rfl fun g59 b => ?_
  refine zk_dW (i := 4) b rfl rfl rfl fun g60 b => ?_
  refine zk_dR 40 b fun g61 b => ?_
  refine zk_dA 5 6 b rfl rfl fun g62 b e_g62 => ?_
  rw [e_g62]
  refine zk_dW (i := 0) b rfl rfl rfl fun g63 b => ?_
  refine zk_dW (i := 1) b rfl rfl rfl fun g64 b => ?_
  refine zk_dW (i := 2) b rfl rfl rfl fun g65 b => ?_
  refine zk_dW (i := 3) b rfl rfl rfl fun g66 b => ?_
  refine zk_dW (i := 4) b rfl rfl rfl fun g67 b => ?_
  refine zk_dW (i := 5) b rfl rfl rfl fun g68 b => ?_
  refine zk_dR 41 b fun g69 b => ?_
  refine zk_dA 2 640 b rfl rfl fun g70 b e_g70 => ?_
  rw [e_g70]
  refine zk_dR 44 b fun g71 b => ?_
  refine zk_dA 2 14641 b rfl rfl fun g72 b e_g72 => ?_
  rw [e_g72]
  refine zk_dR 45 b fun g73 b => ?_
  refine zk_dA 2 200 b rfl rfl fun g74 b e_g74 => ?_
  rw [e_g74]
  refine zk_dR 46 b fun g75 b => ?_
  obtain ⟨b1, b2, b3, b4, b5, b6, b7, b8⟩ := b
  have hM : zm_M g75 := by
    have H : ∀ k : Nat, k < 48 → zm_fr.getD k 0 ≠ 0 → zv_R g75 347 k = zm_fr.getD k 0 := by
      intro k hk
      rw [b6 k]
      revert k hk
      decide
    refine ⟨b2, fun k hk => ?_⟩
    by_cases c : k < 48
    · exact H k c hk
    · exact absurd (show zm_fr.getD k 0 = 0 from by
        rw [List.getD_eq_getElem?_getD, List.getElem?_eq_none (show zm_fr.length ≤ k from by show 48 ≤ k; omega)]
        rfl) hk
  have g35 : zv_I g75 347 35 = 0 := b7 35
  have g27 : zv_I g75 347 27 = 0 := b7 27
  have g20 : zv_I g75 347 20 = 0 := b7 20
  have g47 : zv_I g75 347 47 = 0 := b7 47
  have K7 : ∀ j : Nat, j < 12 → zv_J g75 367 j = zm_t7.getD j 0 := fun j hj => (b8 367 j (by decide) (by decide)).trans (by
    revert j
    decide)
  have K8 : ∀ j : Nat, j < 5 → zv_J g75 368 j = zm_t8.getD j 0 := fun j hj => (b8 368 j (by decide) (by decide)).trans (by
    revert j
    decide)
  have K9 : ∀ j : Nat, j < 6 → zv_J g75 369 j = zm_t9.getD j 0 := fun j hj => (b8 369 j (by decide) (by decide)).trans (by
    revert j
    decide)
  have K : zm_K g75 := ⟨b8 368 2 (by decide) (by decide), b8 368 3 (by decide) (by decide), b8 368 4 (by decide) (by decide), K7, K8, K9⟩
  obtain ⟨h', e, f, O, c4⟩ := zm_clears hM d
  rw [zm_e e]
  have W : zm_W (zv_I h' 348) := zm_W_O O (by decide) (by rw [c4]; decide) (Or.inl c4)
  refine zm_iV ⟨fun r hr => zk_o_t (b1 r hr) ⟨zm_F_a' f hr, by funext k; exact f.2.2.2.2.2 r k (fun q => by omega), congrFun f.2.1 r⟩, ⟨zm_F_M f hM, W, zm_K_F K f, ?_, ?_, ?_, ?_⟩, (zm_F_g f 27).trans g27, f.2.2.1.trans b5, ?_, g75, hM, e, b7⟩
  · rw [zm_F_g f 27, g27]; decide
  · rw [zm_F_g f 35, g35]; decide
  · rw [zm_F_g f 20, g20]; decide
  · rw [zm_F_g f 47, g47]; decide
  · unfold zv_s
    rw [f.1]
    exact b3
end
/-! 99o.law -/
section
/-! ===== the two side by side ===== -/
/-- what holds of the class is of its cells alone -/
theorem zc_A_o {h h' : zv_H} (hA : zc_A h) (hn : h'.1 = h.1) (o : ∀ r, r < 347 → h'.2.1 r = h.2.1 r ∧ h'.2.2.2.1 r = h.2.2.2.1 r) : zc_A h' := by
  have oI : ∀ r, r < 347 → ∀ k, zv_I h' r k = zv_I h r k := fun r hr k => congrFun (o r hr).1 k
  have oR : ∀ r, r < 347 → ∀ k, zv_R h' r k = zv_R h r k := fun r hr k => congrFun (o r hr).2 k
  have l5 : ∀ t, zv_lay t = (1, 5) → t < 347 := fun t ht => zc_lt ht (by decide)
  obtain ⟨b1, b2, b3, b4, b5, b6, b7, b8⟩ := hA.1
  have ec : ∀ t n, n ≤ 48 → zc_ch h' t n = zc_ch h t n := fun t n => by
    induction n with
    | zero => intro _; rfl
    | succ n ih =>
      intro hn
      have l := (zc_stl (zc_hl t) (show n < 48 by omega)).1
      show zc_ch h' t n + (if zv_R h' (zc_stt (zc_hf t) n) 4 = t then 1 else 0) = zc_ch h t n + (if zv_R h (zc_stt (zc_hf t) n) 4 = t then 1 else 0)
      rw [ih (by omega), oR _ (l5 _ l)]
  refine ⟨⟨?_, fun r k hr hk => ?_, fun a i ha hi => ?_, ?_, fun r k hr => ?_, fun r c k m hr hm => ?_, fun r k hr => ?_, fun a i ha hi => ?_⟩, fun t ht => ?_, fun b hb => ?_⟩
  · unfold zv_n; rw [hn]; exact b1
  · have hr' : r < 347 := by
      by_cases c : (zv_lay r).2 < 9
      · exact zc_lt (c := (zv_lay r).2) (by rw [← hr]) c
      · exfalso
        refine hk ?_
        have e : zc_offL.getD (zv_lay r).2 [] = [] := by
          rw [List.getD_eq_getElem?_getD, List.getElem?_eq_none (show zc_offL.length ≤ (zv_lay r).2 from by show 9 ≤ _; omega)]
          rfl
        unfold zc_off
        rw [e]
        rfl
    rw [oR r hr']; exact b2 r k hr hk
  · rw [oR (a + 4) (by have := zc_lh ha; omega)]; exact b3 a i ha hi
  · rw [oR 1 (by decide), oR 1 (by decide)]; exact b4
  · rw [oI r hr]; exact b5 r k hr
  · have hr' : r < 347 := by
      refine zc_lt hr ?_
      rcases zc_bdc hm with w | w | w <;> omega
    rw [oI r hr']; exact b6 r c k m hr hm
  · have := zc_l4 hr
    rw [oR (r + 1) (by omega)]; exact b7 r k hr
  · rw [oI _ (l5 _ (zc_stl ha hi).1)]; exact b8 a i ha hi
  · have tt := hA.2.1 t ht
    unfold zc_t
    rw [ec t 48 (Nat.le_refl _), oI t (l5 t ht), oI t (l5 t ht), oI t (l5 t ht), oR t (l5 t ht), oR t (l5 t ht)]
    cases tt with
    | inl u => exact Or.inl u
    | inr u =>
      refine Or.inr ⟨u.1, u.2.1, ?_, ?_, u.2.2.2.2⟩
      · cases u.2.2.1 with
        | inl w => exact Or.inl w
        | inr w => exact Or.inr ⟨w.1, by rw [oI _ (l5 _ w.1)]; exact w.2.1, w.2.2.1, by rw [oI _ (l5 _ w.1)]; exact w.2.2.2⟩
      · cases u.2.2.2.1 with
        | inl w => exact Or.inl w
        | inr w =>
          refine Or.inr ⟨w.1, ?_⟩
          cases u.2.2.1 with
          | inl y => exact absurd y.1 w.1
          | inr y => rw [oR _ (l5 _ y.1)]; exact w.2
  · have u := hA.2.2 b hb
    have := zc_lh hb
    rw [oR b (by omega)]
    exact ⟨u.1, by rw [oI _ (l5 _ u.1)]; exact u.2.1, u.2.2⟩
theorem zc_A_F {A B : List Nat} {h h' : zv_H} (hA : zc_A h) (f : zm_F A B h h') (hl : (A.all fun x => Nat.ble 347 x) = true := by decide) : zc_A h' := zc_A_o hA f.1 (fun r hr => ⟨zm_F_a' f hr hl, congrFun f.2.1 r⟩)
theorem zm_MI_P {h h' : zv_H} (i : zm_MI h) (p : zc_P' h h') : zm_MI h' := by
  have o := p.2.2
  have oI : ∀ k, zv_I h' 347 k = zv_I h 347 k := fun k => congrFun (o 347 (by decide)).1 k
  obtain ⟨i1, i2, i3, i4, i5, i6, i7⟩ := i
  refine ⟨⟨?_, fun k hk => (congrFun (o 347 (by decide)).2.2 k).trans (i1.2 k hk)⟩, ?_, ⟨(congrFun (o 368 (by decide)).2.1 2).trans i3.1, (congrFun (o 368 (by decide)).2.1 3).trans i3.2.1, (congrFun (o 368 (by decide)).2.1 4).trans i3.2.2.1, fun j hj => (congrFun (o 367 (by decide)).2.1 j).trans (i3.2.2.2.1 j hj), fun j hj => (congrFun (o 368 (by decide)).2.1 j).trans (i3.2.2.2.2.1 j hj), fun j hj => (congrFun (o 369 (by decide)).2.1 j).trans (i3.2.2.2.2.2 j hj)⟩, by rw [oI]; exact i4, by rw [oI]; exact i5, by rw [oI]; exact i6, by rw [oI]; exact i7⟩
  · unfold zv_n; rw [p.1]; exact i1.1
  · rw [show zv_I h' 348 = zv_I h 348 from (o 348 (by decide)).1]; exact i2
/-- all that holds between two calls -/
def zl_S (L : Nat) (X : Nat → Int) (h : zv_H) : Prop := h.2.2.2.2 = (L, X) ∧ zv_s h ≤ 7302250 ∧ L ≤ 3072 ∧ ∀ k, zv_rg (X k)
def zl_I (L : Nat) (X : Nat → Int) (h : zv_H) : Prop := zc_A h ∧ zm_MI h ∧ zv_I h 5 2 = zv_I h 347 27 ∧ zl_S L X h
theorem zl_S_P {L : Nat} {X : Nat → Int} {h h' : zv_H} (s : zl_S L X h) (p : zc_P' h h') : zl_S L X h' := ⟨p.2.1.trans s.1, by unfold zv_s; rw [p.1]; exact s.2.1, s.2.2⟩
theorem zl_S_F {L : Nat} {X : Nat → Int} {A B : List Nat} {h h' : zv_H} (s : zl_S L X h) (f : zm_F A B h h') : zl_S L X h' := ⟨f.2.2.1.trans s.1, by unfold zv_s; rw [f.1]; exact s.2.1, s.2.2⟩
section
variable {L : Nat} {X : Nat → Int} {α : Type} {h : zv_H} {P : α → Prop}
theorem zl_rd (s : zl_S L X h) {j : Int} (h0 : 0 ≤ j) (h1 : j < L) : zv_aI h 2000000 j = some (X j.toNat) := by
  have e1 : zv_L h = L := congrArg Prod.fst s.1
  have e2 : zv_X h = X := congrArg Prod.snd s.1
  unfold zv_aI
  rw [if_pos rfl, e1, if_pos ⟨h0, h1⟩, e2]
/-- a step of the class, one of the reference -/
theorem zl_cI (i : zl_I L X h) {h1 : zv_H} (x1 : zc_X h h1) : zl_I L X h1 := by
  refine ⟨x1.2, zm_MI_P i.2.1 (zc_PP' x1.1), ?_, zl_S_P i.2.2.2 (zc_PP' x1.1)⟩
  rw [x1.1.2.2.2, show zv_I h1 347 = zv_I h 347 from (x1.1.2.2.1 347 (by decide)).1]
  exact i.2.2.1
theorem zl_rI (i : zl_I L X h) {h1 : zv_H} (x1 : zm_X h h1) : zl_I L X h1 := by
  refine ⟨zc_A_F i.1 x1.1, x1.2, ?_, zl_S_F i.2.2.2 x1.1⟩
  rw [zm_F_g x1.1 27]
  exact (congrFun (zm_F_a' x1.1 (r := 5) (by decide)) 2).trans i.2.2.1
theorem zl_c (i : zl_I L X h) {o : Option (Int × zv_H)} (e : zm_R o (fun q => zc_X h q.2)) {G : Int × zv_H → Option α} (n : ∀ v h1, zl_I L X h1 → zm_R (G (v, h1)) P) : zm_R (o.bind G) P := by
  obtain ⟨⟨v, h1⟩, rfl, x⟩ := e
  exact n v h1 (zl_cI i x)
theorem zl_r (i : zl_I L X h) {o : Option (Int × zv_H)} (e : zm_R o (fun q => zm_X h q.2)) {G : Int × zv_H → Option α} (n : ∀ v h1, zl_I L X h1 → zm_R (G (v, h1)) P) : zm_R (o.bind G) P := by
  obtain ⟨⟨v, h1⟩, rfl, x⟩ := e
  exact n v h1 (zl_rI i x)
theorem zl_p {o : Option (Int × zv_H)} (hA : zc_A h) (e : zm_R o (fun q => q.2 = h ∧ zv_rg q.1 ∧ True)) : zm_R o (zc_pX h) := zm_mono e (fun q w => ⟨by rw [w.1]; exact zc_X_r hA, w.2.1⟩)
/-- the tape: both have grown alike, or none -/
theorem zl_feed (i : zl_I L X h) {D : Nat} (hD : ∃ d, D = d + 10) (a b c e f : Int) : ∃ h1 h2, C8_feed D 1 a b c e f h = some (zm_fd (zv_I h 5 2), h1) ∧ C9_feed D 347 a b c e f h1 = some (zm_fd (zv_I h 5 2), h2) ∧ zl_S L X h1 ∧ zl_I L X h2 := by
  have i4 := i.2.1.2.2.2.1
  have ie := i.2.2.1
  obtain ⟨d, rfl⟩ := hD
  obtain ⟨⟨v, h1⟩, e1, v1, A1, P1, t1⟩ := zc_C8_feed (d := d + 7) i.1 a b c e f (by omega) (by omega)
  have e1' : C8_feed (d + 10) 1 a b c e f h = some (v, h1) := e1
  have A1' : zc_A h1 := A1
  have P1' : zc_P' h h1 := P1
  have t1' : zv_I h1 5 2 = if zv_I h 5 2 + 20 ≤ 700 then zv_I h 5 2 + 20 else zv_I h 5 2 := t1
  have M1 := zm_MI_P i.2.1 P1'
  obtain ⟨h2, e2, f2, M2, t2⟩ := zm_feed M1 d a b c e f
  have o27 : zv_I h1 347 27 = zv_I h 347 27 := congrFun (P1'.2.2 347 (by decide)).1 27
  have S1 := zl_S_P i.2.2.2 P1'
  refine ⟨h1, h2, by rw [e1']; exact congrArg (fun x => some (x, h1)) v1, by rw [e2, o27, ie], S1, zc_A_F A1' f2, M2, ?_, zl_S_F S1 f2⟩
  rw [t2, o27, ← ie, ← t1']
  exact congrFun (zm_F_a' f2 (r := 5) (by decide)) 2
theorem zl_load (i : zl_I L X h) {D : Nat} (hD : ∃ d, D = d + 28) {n : Int} (rn : zv_rg n) : ∃ v1 h1 v2 h2, C8_load D 1 n h = some (v1, h1) ∧ C9_load D 347 n h1 = some (v2, h2) ∧ zl_S L X h1 ∧ zl_I L X h2 := by
  have i4 := i.2.1.2.2.2.1
  have ie := i.2.2.1
  obtain ⟨d, rfl⟩ := hD
  obtain ⟨⟨v, h1⟩, e1, A1, P1, t1⟩ := zc_C8_load (d := d) i.1 rn (by omega)
  have A1' : zc_A h1 := A1
  have P1' : zc_P' h h1 := P1
  have t1' : zv_I h1 5 2 = if 0 ≤ n ∧ n ≤ zv_I h 5 2 then 0 else zv_I h 5 2 := t1
  have M1 := zm_MI_P i.2.1 P1'
  have o27 : zv_I h1 347 27 = zv_I h 347 27 := congrFun (P1'.2.2 347 (by decide)).1 27
  have o20 := M1.2.2.2.2.2.1
  have o47 := M1.2.2.2.2.2.2
  obtain ⟨⟨v2, h2⟩, e2, f2, W2, t2, n0, n1⟩ := zm_load M1.1 M1.2.1 M1.2.2.1 M1.2.2.2.1 M1.2.2.2.2.1 d n
  have f2' : zm_F [348, 349, 351, 352, 353, 354, 355, 358, 359, 360, 362, 363, 364, 365] [3, 4, 10, 11, 12, 19, 24, 27, 28, 29, 30, 31, 32, 33, 34, 35, 36, 37, 38, 42, 43] h1 h2 := f2
  have t2' : zv_I h2 347 27 = if 0 ≤ n ∧ n ≤ zv_I h1 347 27 then 0 else zv_I h1 347 27 := t2
  have S1 := zl_S_P i.2.2.2 P1'
  refine ⟨v, h1, v2, h2, e1, e2, S1, zc_A_F A1' f2', ⟨zm_F_M f2' M1.1, W2, zm_K_F M1.2.2.1 f2', ?_, ⟨n0, n1⟩, by rw [zm_F_g f2' 20]; exact o20, by rw [zm_F_g f2' 47]; exact o47⟩, ?_, zl_S_F S1 f2'⟩
  · have t3 : 0 ≤ zv_I h2 347 27 ∧ zv_I h2 347 27 ≤ 700 := by
      rw [t2', o27]
      split <;> omega
    exact t3
  · rw [t2', o27, ← ie, ← t1']
    exact congrFun (zm_F_a' f2' (r := 5) (by decide)) 2
end
/-- the class as it is made -/
theorem zk_A {h : zv_H} (b : zk_ob8 h) {h' : zv_H} (hn : zv_n h' = 372) (o : ∀ r, r < 347 → h'.2.1 r = h.2.1 r ∧ h'.2.2.2.1 r = h.2.2.2.1 r) : zc_A h' := by
  obtain ⟨⟨i1, i2, i3, i4, i5⟩, b2, b3, b4, b5, b6, b7⟩ := b
  have fr : ∀ a, zv_lay a = (1, 0) → zk_fresh a h := fun a ha => by
    cases zc_lh ha with
    | inl e => rw [e]; exact b5
    | inr e => rw [e]; exact b6
  have l5 : ∀ t, zv_lay t = (1, 5) → t < 347 := fun t ht => zc_lt ht (by decide)
  have oI : ∀ r, r < 347 → ∀ k, zv_I h' r k = zv_I h r k := fun r hr k => congrFun (o r hr).1 k
  have oR : ∀ r, r < 347 → ∀ k, zv_R h' r k = zv_R h r k := fun r hr k => congrFun (o r hr).2 k
  refine ⟨⟨hn, fun r k hr hk => ?_, fun a i ha hi => ?_, ?_, fun r k hr => ?_, fun r c k m hr hm => ?_, fun r k hr => ?_, fun a i ha hi => ?_⟩, fun t ht => ?_, fun a ha => ?_⟩
  · have hr' : r < 347 := by
      by_cases c : (zv_lay r).2 < 9
      · exact zc_lt (c := (zv_lay r).2) (by rw [← hr]) c
      · exfalso
        refine hk ?_
        have e : zc_offL.getD (zv_lay r).2 [] = [] := by
          rw [List.getD_eq_getElem?_getD, List.getElem?_eq_none (show zc_offL.length ≤ (zv_lay r).2 from by show 9 ≤ _; omega)]
          rfl
        unfold zc_off
        rw [e]
        rfl
    have h1 : 1 ≤ r := by
      by_cases c : r = 0
      · rw [c, zv_lay0] at hr; cases hr
      · omega
    rw [oR r hr']
    exact b2 r h1 (by omega) hr k hk
  · rw [oR (a + 4) (by have := zc_lh ha; omega)]
    exact ((fr a ha).2 i hi).1
  · rw [oR 1 (by decide), oR 1 (by decide)]
    exact Or.inl ⟨b3, b4⟩
  · rw [oI r hr]; exact i1 r k hr
  · have hr' : r < 347 := by
      refine zc_lt hr ?_
      rcases zc_bdc hm with w | w | w <;> omega
    have hm0 : 0 ≤ m := by
      unfold zc_bd at hm
      split at hm
      · cases hm; decide
      · split at hm
        · cases hm; decide
        · split at hm
          · cases hm; decide
          · cases hm
    rw [oI r hr', i2 r c k m hr hm]
    omega
  · have := zc_l4 hr
    rw [oR (r + 1) (by omega)]
    exact Or.inl (i3 r k hr)
  · rw [oI _ (l5 _ (zc_stl ha hi).1)]
    exact ((fr a ha).2 i hi).2.1
  · obtain ⟨i, hi, e⟩ := zc_l5i ht
    obtain ⟨q1, q2, q3, q4, q5, q6, q7⟩ := (fr _ (zc_hl t)).2 i hi
    rw [← e] at q2 q3 q4 q5 q6 q7
    have lt := l5 t ht
    unfold zc_t
    rw [oI t lt, oI t lt, oI t lt, oR t lt, oR t lt, q3, q4, q5, q6, q7]
    by_cases z : i = 0
    · rw [if_pos z]
      have c0 : ∀ n, n ≤ 48 → zc_ch h' t n = 0 := by
        intro n
        induction n with
        | zero => intro _; rfl
        | succ n ih =>
          intro hn
          have l := (zc_stl (zc_hl t) (show n < 48 by omega)).1
          show zc_ch h' t n + (if zv_R h' (zc_stt (zc_hf t) n) 4 = t then 1 else 0) = 0
          rw [ih (by omega), oR _ (l5 _ l), ((fr _ (zc_hl t)).2 n (by omega)).2.2.2.1, if_neg (fun q => zc_nz ht q.symm)]
          rfl
      exact Or.inr ⟨rfl, by decide, Or.inl ⟨rfl, rfl⟩, Or.inl rfl, (c0 48 (Nat.le_refl _)).symm⟩
    · rw [if_neg z]
      exact Or.inl ⟨rfl, rfl⟩
  · have f := fr a ha
    have e0 : zc_stt a 0 = a + 1 := rfl
    have sl := zc_stl ha (show 0 < 48 by decide)
    rw [e0] at sl
    have := zc_lh ha
    rw [oR a (by omega), f.1]
    refine ⟨sl.1, ?_, sl.2.1⟩
    rw [oI _ (l5 _ sl.1)]
    have := (f.2 0 (by decide)).2.2.1
    rw [e0] at this
    exact this
end
