/-! ===== each call of the law, on both (genzq.py) ===== -/
section
variable {L : Nat} {X : Nat → Int} {m : Nat} {h : zv_H}
theorem zl_J_m {m' : Nat} (J : zl_J L X m h) (hm : m ≤ m') : zl_J L X m' h := by
  obtain ⟨I, a, b, S⟩ := J
  exact ⟨I, a, b, zt_GG_m S hm⟩
theorem zl_q {h : zv_H} {o : Option (Int × zv_H)} (e : zm_R o (zc_pX h)) : zm_R o (fun q => zc_X h q.2) := zm_mono e (fun _ w => w.1)
/-- what is asked of both, and answered alike -/
theorem zl_askx (J : zl_J L X m h) {C : Option (Int × zv_H)} {C' : zv_H → Option (Int × zv_H)} (q : ∃ (v1 : Int) (h1 : zv_H) (v2 : Int) (h2 : zv_H), C = some (v1, h1) ∧ C' h1 = some (v2, h2) ∧ zl_S L X h1 ∧ zl_J L X m h2) (eC : zm_R C (fun q => zc_X h q.2)) (z : ∀ (a b : Nat) (k : zv_H), zm_MI k → zt_GG m a b h k → ∃ (v : Int) (g' k' : zv_H), C = some (v, g') ∧ C' k = some (v, k')) : ∃ (v : Int) (h1 h2 : zv_H), C = some (v, h1) ∧ C' h1 = some (v, h2) ∧ zl_S L X h1 ∧ zl_J L X m h2 := by
  obtain ⟨I, a, b, S⟩ := J
  obtain ⟨v1, h1, v2, h2, e1, e2, S1, J2⟩ := q
  obtain ⟨⟨w, g⟩, e3, x⟩ := eC
  have z3 := Prod.mk.inj (Option.some.inj (e3.symm.trans e1))
  have x' : zc_X h g := x
  rw [z3.2] at x'
  have I1 := zl_cI I x'
  obtain ⟨v, g', k', y1, y2⟩ := z a b h1 I1.2.1 (zl_J_c S (zc_PP' x'.1))
  have z1 := Prod.mk.inj (Option.some.inj (y1.symm.trans e1))
  have z2 := Prod.mk.inj (Option.some.inj (y2.symm.trans e2))
  exact ⟨v, h1, h2, by rw [e1, z1.1], by rw [e2, z2.1], S1, J2⟩
theorem zq_feed (J : zl_J L X m h) (d : Nat) (x1 x2 x3 x4 x5 : Int) : ∃ (v : Int) (h1 h2 : zv_H), C8_feed (d + 28) 1 x1 x2 x3 x4 x5 h = some (v, h1) ∧ C9_feed (d + 28) 347 x1 x2 x3 x4 x5 h1 = some (v, h2) ∧ zl_S L X h1 ∧ zl_J L X m h2 := by
  obtain ⟨I, a, b, S⟩ := J
  have i4 := I.2.1.2.2.2.1
  have ie := I.2.2.1
  obtain ⟨h1, h2, e1, e2, S1, I2⟩ := zl_feed I ⟨d + 18, rfl⟩ x1 x2 x3 x4 x5
  obtain ⟨⟨v, h3⟩, y1, _, _, P1, _⟩ := zc_C8_feed (d := d + 25) I.1 x1 x2 x3 x4 x5 (by omega) (by omega)
  have z1 := Prod.mk.inj (Option.some.inj (y1.symm.trans e1))
  have P1' : zc_P' h h3 := P1
  rw [z1.2] at P1'
  have M1 := zm_MI_P I.2.1 P1'
  have o27 : zv_I h1 347 27 = zv_I h 347 27 := congrFun (P1'.2.2 347 (by decide)).1 27
  obtain ⟨h4, y4, F4, _⟩ := zm_feed M1 (d + 18) x1 x2 x3 x4 x5
  have z4 := Prod.mk.inj (Option.some.inj (y4.symm.trans e2))
  rw [z4.2] at F4
  obtain ⟨w, g', k', w1, w2, S'⟩ := zp_feed (d := d + 18) (D := d + 18) I.1 M1 (zl_J_c S P1') (ie.trans o27.symm) x1 x2 x3 x4 x5
  have z2 := Prod.mk.inj (Option.some.inj (w1.symm.trans e1))
  have z3 := Prod.mk.inj (Option.some.inj (w2.symm.trans e2))
  rw [z2.2, z3.2] at S'
  exact ⟨_, h1, h2, e1, e2, S1, zl_J_of I2 F4 S'⟩
theorem zq_load (J : zl_J L X m h) (d : Nat) {n : Int} (rn : zv_rg n) : ∃ (v : Int) (h1 h2 : zv_H), C8_load (d + 28) 1 n h = some (v, h1) ∧ C9_load (d + 28) 347 n h1 = some (v, h2) ∧ zl_S L X h1 ∧ zl_J L X m h2 := by
  obtain ⟨I, a, b, S⟩ := J
  have i4 := I.2.1.2.2.2.1
  have ie := I.2.2.1
  obtain ⟨v1, h1, v2, h2, e1, e2, S1, I2⟩ := zl_load I ⟨d, rfl⟩ rn
  obtain ⟨⟨v, h3⟩, y1, _, P1, _⟩ := zc_C8_load (d := d) I.1 rn (by omega)
  have z1 := Prod.mk.inj (Option.some.inj (y1.symm.trans e1))
  have P1' : zc_P' h h3 := P1
  rw [z1.2] at P1'
  have M1 := zm_MI_P I.2.1 P1'
  have o27 : zv_I h1 347 27 = zv_I h 347 27 := congrFun (P1'.2.2 347 (by decide)).1 27
  obtain ⟨⟨v4, h4⟩, y4, F4, _⟩ := zm_load M1.1 M1.2.1 M1.2.2.1 M1.2.2.2.1 M1.2.2.2.2.1 d n
  have z4 := Prod.mk.inj (Option.some.inj (y4.symm.trans e2))
  have F4' : zm_F [348, 349, 351, 352, 353, 354, 355, 358, 359, 360, 362, 363, 364, 365] [3, 4, 10, 11, 12, 19, 24, 27, 28, 29, 30, 31, 32, 33, 34, 35, 36, 37, 38, 42, 43] h1 h4 := F4
  rw [z4.2] at F4'
  obtain ⟨w, g', k', a', b', w1, w2, S'⟩ := zj_load (d := d) (D := d) I.1 M1 (zl_J_c S P1') (ie.trans o27.symm) rn
  have z2 := Prod.mk.inj (Option.some.inj (w1.symm.trans e1))
  have z3 := Prod.mk.inj (Option.some.inj (w2.symm.trans e2))
  rw [z2.2, z3.2] at S'
  exact ⟨w, h1, h2, by rw [e1, z2.1], by rw [e2, z3.1], S1, zl_J_of I2 F4' S'⟩
theorem zq_type (J : zl_J L X m h) (d : Nat) (x1 x2 : Int) : ∃ (v : Int) (h1 h2 : zv_H), C8_type (d + 28) 1 x1 x2 h = some (v, h1) ∧ C9_type (d + 28) 347 x1 x2 h1 = some (v, h2) ∧ zl_S L X h1 ∧ zl_J L X m h2 := zl_act J (C' := fun h1 => C9_type (d + 28) 347 x1 x2 h1) (zm_mono (zc_C8_type J.1.1 x1 x2) (fun _ w => zc_QX w.1)) (fun h1 I1 => zm_mono (zm_type I1.2.1 _ _ _) (fun _ w => w.1)) (fun a b k I S => by
  obtain ⟨v, g', k', e1, e2, S'⟩ := zp_type (d := d + 18) (D := d + 18) J.1.1 I S x1 x2
  exact ⟨v, g', k', a, b, e1, e2, S'⟩)

theorem zq_status (J : zl_J L X m h) (d : Nat) : ∃ (v1 : Int) (h1 : zv_H) (v2 : Int) (h2 : zv_H), C8_status (d + 28) 1 h = some (v1, h1) ∧ C9_status (d + 28) 347 h1 = some (v2, h2) ∧ zl_S L X h1 ∧ zl_J L X m h2 := zl_ask J (C' := fun h1 => C9_status (d + 28) 347 h1) (zm_mono (zc_C8_status J.1.1 zc_h8 ) (fun _ w => by rw [w.1]; exact zd_Q_r J.1.1)) (fun h1 i => zn_status i _ ) (fun h1 i => zm_status i _ )
theorem zq_fault (J : zl_J L X m h) (d : Nat) {x1 : Int} (r1 : zv_rg x1) : ∃ (v1 : Int) (h1 : zv_H) (v2 : Int) (h2 : zv_H), C8_fault (d + 28) 1 x1 h = some (v1, h1) ∧ C9_fault (d + 28) 347 x1 h1 = some (v2, h2) ∧ zl_S L X h1 ∧ zl_J L X m h2 := zl_ask J (C' := fun h1 => C9_fault (d + 28) 347 x1 h1) (zm_mono (zc_C8_fault J.1.1 zc_h8 r1) (fun _ w => by rw [w.1]; exact zd_Q_r J.1.1)) (fun h1 i => zn_fault i _ _) (fun h1 i => zm_fault i _ _)
theorem zq_many (J : zl_J L X m h) (d : Nat) {x1 : Int} (r1 : zv_rg x1) : ∃ (v1 : Int) (h1 : zv_H) (v2 : Int) (h2 : zv_H), C8_many (d + 28) 1 x1 h = some (v1, h1) ∧ C9_many (d + 28) 347 x1 h1 = some (v2, h2) ∧ zl_S L X h1 ∧ zl_J L X m h2 := zl_ask J (C' := fun h1 => C9_many (d + 28) 347 x1 h1) (zm_mono (zd_C8_many J.1.1 zc_h8 r1) (fun _ w => w.1)) (fun h1 i => zn_many i _ _) (fun h1 i => zm_many i _ _)
theorem zq_letter (J : zl_J L X m h) (d : Nat) {x1 : Int} (r1 : zv_rg x1) {x2 : Int} (r2 : zv_rg x2) : ∃ (v1 : Int) (h1 : zv_H) (v2 : Int) (h2 : zv_H), C8_letter (d + 28) 1 x1 x2 h = some (v1, h1) ∧ C9_letter (d + 28) 347 x1 x2 h1 = some (v2, h2) ∧ zl_S L X h1 ∧ zl_J L X m h2 := zl_ask J (C' := fun h1 => C9_letter (d + 28) 347 x1 x2 h1) (zm_mono (zd_C8_letter J.1.1 zc_h8 r1 r2) (fun _ w => w.1)) (fun h1 i => zn_letter i _ _ _) (fun h1 i => zm_letter i _ _ _)
theorem zq_state (J : zl_J L X m h) (d : Nat) {x1 : Int} (r1 : zv_rg x1) {x2 : Int} (r2 : zv_rg x2) : ∃ (v1 : Int) (h1 : zv_H) (v2 : Int) (h2 : zv_H), C8_state (d + 28) 1 x1 x2 h = some (v1, h1) ∧ C9_state (d + 28) 347 x1 x2 h1 = some (v2, h2) ∧ zl_S L X h1 ∧ zl_J L X m h2 := zl_ask J (C' := fun h1 => C9_state (d + 28) 347 x1 x2 h1) (zm_mono (zd_C8_state J.1.1 zc_h8 r1 r2) (fun _ w => w.1)) (fun h1 i => zn_state i _ _ _) (fun h1 i => zm_state i _ _ _)
theorem zq_child (J : zl_J L X m h) (d : Nat) {x1 : Int} (r1 : zv_rg x1) {x2 : Int} (r2 : zv_rg x2) : ∃ (v1 : Int) (h1 : zv_H) (v2 : Int) (h2 : zv_H), C8_child (d + 28) 1 x1 x2 h = some (v1, h1) ∧ C9_child (d + 28) 347 x1 x2 h1 = some (v2, h2) ∧ zl_S L X h1 ∧ zl_J L X m h2 := zl_ask J (C' := fun h1 => C9_child (d + 28) 347 x1 x2 h1) (zm_mono (zd_C8_child J.1.1 zc_h8 r1 r2) (fun _ w => w.1)) (fun h1 i => zn_child i _ _ _) (fun h1 i => zm_child i _ _ _)
theorem zq_force (J : zl_J L X m h) (d : Nat) {x1 : Int} (r1 : zv_rg x1) {x2 : Int} (r2 : zv_rg x2) : ∃ (v1 : Int) (h1 : zv_H) (v2 : Int) (h2 : zv_H), C8_force (d + 28) 1 x1 x2 h = some (v1, h1) ∧ C9_force (d + 28) 347 x1 x2 h1 = some (v2, h2) ∧ zl_S L X h1 ∧ zl_J L X m h2 := zl_ask J (C' := fun h1 => C9_force (d + 28) 347 x1 x2 h1) (zm_mono (zd_C8_force J.1.1 zc_h8 r1 r2) (fun _ w => w.1)) (fun h1 i => zn_force i _ _ _) (fun h1 i => zm_force i _ _ _)
theorem zq_blame (J : zl_J L X m h) (d : Nat) {x1 : Int} (r1 : zv_rg x1) {x2 : Int} (r2 : zv_rg x2) : ∃ (v1 : Int) (h1 : zv_H) (v2 : Int) (h2 : zv_H), C8_blame (d + 28) 1 x1 x2 h = some (v1, h1) ∧ C9_blame (d + 28) 347 x1 x2 h1 = some (v2, h2) ∧ zl_S L X h1 ∧ zl_J L X m h2 := zl_ask J (C' := fun h1 => C9_blame (d + 28) 347 x1 x2 h1) (zm_mono (zd_C8_blame J.1.1 zc_h8 r1 r2) (fun _ w => w.1)) (fun h1 i => zn_blame i _ _ _) (fun h1 i => zm_blame i _ _ _)
theorem zq_row (J : zl_J L X m h) (d : Nat) {x1 : Int} (r1 : zv_rg x1) {x2 : Int} (r2 : zv_rg x2) : ∃ (v1 : Int) (h1 : zv_H) (v2 : Int) (h2 : zv_H), C8_row (d + 28) 1 x1 x2 h = some (v1, h1) ∧ C9_row (d + 28) 347 x1 x2 h1 = some (v2, h2) ∧ zl_S L X h1 ∧ zl_J L X m h2 := zl_ask J (C' := fun h1 => C9_row (d + 28) 347 x1 x2 h1) (zm_mono (zd_C8_row J.1.1 zc_h8 r1 r2) (fun _ w => w.1)) (fun h1 i => zn_row_ i _ _ _) (fun h1 i => zm_row_ i _ _ _)
theorem zq_visit (J : zl_J L X m h) (d : Nat) {x1 : Int} (r1 : zv_rg x1) {x2 : Int} (r2 : zv_rg x2) : ∃ (v1 : Int) (h1 : zv_H) (v2 : Int) (h2 : zv_H), C8_visit (d + 28) 1 x1 x2 h = some (v1, h1) ∧ C9_visit (d + 28) 347 x1 x2 h1 = some (v2, h2) ∧ zl_S L X h1 ∧ zl_J L X m h2 := zl_ask J (C' := fun h1 => C9_visit (d + 28) 347 x1 x2 h1) (zm_mono (zd_C8_visit J.1.1 zc_h8 r1 r2) (fun _ w => w.1)) (fun h1 i => zn_visit i _ _ _) (fun h1 i => zm_visit i _ _ _)
theorem zq_named (J : zl_J L X m h) (d : Nat) : ∃ (v1 : Int) (h1 : zv_H) (v2 : Int) (h2 : zv_H), C8_named (d + 28) 1 h = some (v1, h1) ∧ C9_named (d + 28) 347 h1 = some (v2, h2) ∧ zl_S L X h1 ∧ zl_J L X m h2 := zl_ask J (C' := fun h1 => C9_named (d + 28) 347 h1) (zm_mono (zd_C8_named J.1.1 zc_h8 ) (fun _ w => w.1)) (fun h1 i => zn_named i _ ) (fun h1 i => zm_named i _ )
theorem zq_leans (J : zl_J L X m h) (d : Nat) {x1 : Int} (r1 : zv_rg x1) {x2 : Int} (r2 : zv_rg x2) : ∃ (v1 : Int) (h1 : zv_H) (v2 : Int) (h2 : zv_H), C8_leans (d + 28) 1 x1 x2 h = some (v1, h1) ∧ C9_leans (d + 28) 347 x1 x2 h1 = some (v2, h2) ∧ zl_S L X h1 ∧ zl_J L X m h2 := zl_ask J (C' := fun h1 => C9_leans (d + 28) 347 x1 x2 h1) (zm_mono (zd_C8_leans J.1.1 zc_h8 r1 r2) (fun _ w => w.1)) (fun h1 i => zn_leans i _ _ _) (fun h1 i => zm_leans i _ _ _)
theorem zq_put (J : zl_J L X m h) (hm : m ≤ 600) (d : Nat) {x1 : Int} (r1 : zv_rg x1) : ∃ (v : Int) (h1 h2 : zv_H), C8_put (d + 28) 1 x1 h = some (v, h1) ∧ C9_put (d + 28) 347 x1 h1 = some (v, h2) ∧ zl_S L X h1 ∧ zl_J L X (m + 1) h2 := by
  exact zl_act J (C' := fun h1 => C9_put (d + 28) 347 x1 h1) (zl_q (zc_C8_put J.1.1 r1)) (fun h1 I1 => (zm_put I1.2.1 _ _)) (fun a b k I S => by
    obtain ⟨v, g', k', e1, e2, S'⟩ := zp_put (d := d) (D := d) J.1.1 I S (show m ≤ 100000 by omega) r1
    exact ⟨v, g', k', a, b, e1, e2, S'⟩)
theorem zq_cut (J : zl_J L X m h) (hm : m ≤ 600) (d : Nat) {x1 : Int} (r1 : zv_rg x1) {x2 : Int} (r2 : zv_rg x2) : ∃ (v : Int) (h1 h2 : zv_H), C8_cut (d + 28) 1 x1 x2 h = some (v, h1) ∧ C9_cut (d + 28) 347 x1 x2 h1 = some (v, h2) ∧ zl_S L X h1 ∧ zl_J L X (m + 1) h2 := by
  exact zl_act J (C' := fun h1 => C9_cut (d + 28) 347 x1 x2 h1) (zl_q (zc_C8_cut J.1.1 r1 r2)) (fun h1 I1 => (zm_cut I1.2.1 _ _ _ r1.2)) (fun a b k I S => by
    obtain ⟨v, g', k', e1, e2, S'⟩ := zp_cut (d := d) (D := d) J.1.1 I S (show m ≤ 100000 by omega) r1 r2
    exact ⟨v, g', k', a, b, e1, e2, S'⟩)
theorem zq_wait (J : zl_J L X m h) (hm : m ≤ 600) (d : Nat) {x1 : Int} (r1 : zv_rg x1) : ∃ (v : Int) (h1 h2 : zv_H), C8_wait (d + 28) 1 x1 h = some (v, h1) ∧ C9_wait (d + 28) 347 x1 h1 = some (v, h2) ∧ zl_S L X h1 ∧ zl_J L X (m + 1) h2 := by
  exact zl_act J (C' := fun h1 => C9_wait (d + 28) 347 x1 h1) (zl_q (zc_Qp (K := fun _ => True) (zc_C8_wait J.1.1 zc_h8 r1))) (fun h1 I1 => (zm_wait I1.2.1 _ _)) (fun a b k I S => by
    obtain ⟨v, g', k', e1, e2, S'⟩ := zp_wait (d := d) (D := d) J.1.1 I S (show m ≤ 100000 by omega)
    exact ⟨v, g', k', a, b, e1, e2, S'⟩)
theorem zq_undo (J : zl_J L X m h) (hm : m ≤ 600) (d : Nat) : ∃ (v : Int) (h1 h2 : zv_H), C8_undo (d + 28) 1 h = some (v, h1) ∧ C9_undo (d + 28) 347 h1 = some (v, h2) ∧ zl_S L X h1 ∧ zl_J L X (m + 1) h2 := by
  exact zl_act J (C' := fun h1 => C9_undo (d + 28) 347 h1) (zl_q (zc_C8_undo J.1.1 )) (fun h1 I1 => (zm_undo I1.2.1 _ )) (fun a b k I S => by
    obtain ⟨v, g', k', e1, e2, S'⟩ := zp_undo (d := d) (D := d) J.1.1 I S (show m ≤ 100000 by omega)
    exact ⟨v, g', k', a, b, e1, e2, S'⟩)
theorem zq_redo (J : zl_J L X m h) (hm : m ≤ 600) (d : Nat) : ∃ (v : Int) (h1 h2 : zv_H), C8_redo (d + 28) 1 h = some (v, h1) ∧ C9_redo (d + 28) 347 h1 = some (v, h2) ∧ zl_S L X h1 ∧ zl_J L X (m + 1) h2 := by
  exact zl_act J (C' := fun h1 => C9_redo (d + 28) 347 h1) (zl_q (zc_C8_redo J.1.1 )) (fun h1 I1 => (zm_redo I1.2.1 _ )) (fun a b k I S => by
    obtain ⟨v, g', k', e1, e2, S'⟩ := zp_redo (d := d) (D := d) J.1.1 I S (show m ≤ 100000 by omega)
    exact ⟨v, g', k', a, b, e1, e2, S'⟩)
theorem zq_go (J : zl_J L X m h) (hm : m ≤ 600) (d : Nat) {x1 : Int} (r1 : zv_rg x1) : ∃ (v : Int) (h1 h2 : zv_H), C8_go (d + 28) 1 x1 h = some (v, h1) ∧ C9_go (d + 28) 347 x1 h1 = some (v, h2) ∧ zl_S L X h1 ∧ zl_J L X (m + 1) h2 := by
  exact zl_act J (C' := fun h1 => C9_go (d + 28) 347 x1 h1) (zl_q (zc_C8_go J.1.1 r1)) (fun h1 I1 => (zm_go I1.2.1 _ _)) (fun a b k I S => by
    obtain ⟨v, g', k', e1, e2, S'⟩ := zp_go (d := d) (D := d) J.1.1 I S (show m ≤ 100000 by omega)
    exact ⟨v, g', k', a, b, e1, e2, S'⟩)
theorem zq_name (J : zl_J L X m h) (hm : m ≤ 600) (d : Nat) : ∃ (v : Int) (h1 h2 : zv_H), C8_name (d + 28) 1 h = some (v, h1) ∧ C9_name (d + 28) 347 h1 = some (v, h2) ∧ zl_S L X h1 ∧ zl_J L X (m + 1) h2 := by
  exact zl_act J (C' := fun h1 => C9_name (d + 28) 347 h1) (zl_q (zc_Qp (K := fun _ => True) (zc_C8_name J.1.1 zc_h8 ))) (fun h1 I1 => (zm_name I1.2.1 _ )) (fun a b k I S => by
    obtain ⟨v, g', k', e1, e2, S'⟩ := zp_name (d := d) (D := d) J.1.1 I S (show m ≤ 100000 by omega)
    exact ⟨v, g', k', a, b, e1, e2, S'⟩)
theorem zq_unname (J : zl_J L X m h) (hm : m ≤ 600) (d : Nat) : ∃ (v : Int) (h1 h2 : zv_H), C8_unname (d + 28) 1 h = some (v, h1) ∧ C9_unname (d + 28) 347 h1 = some (v, h2) ∧ zl_S L X h1 ∧ zl_J L X (m + 1) h2 := by
  have _ := hm
  exact zl_act J (C' := fun h1 => C9_unname (d + 28) 347 h1) (zl_q (zc_Qp (K := fun _ => True) (zc_C8_unname J.1.1 zc_h8 ))) (fun h1 I1 => (zm_unname I1.2.1 _ )) (fun a b k I S => by
    obtain ⟨v, g', k', e1, e2, S'⟩ := zp_unname (d := d) (D := d) J.1.1 I S
    exact ⟨v, g', k', a, b, e1, e2, S'⟩)
theorem zq_withdraw (J : zl_J L X m h) (hm : m ≤ 600) (d : Nat) {x1 : Int} (r1 : zv_rg x1) : ∃ (v : Int) (h1 h2 : zv_H), C8_withdraw (d + 28) 1 x1 h = some (v, h1) ∧ C9_withdraw (d + 28) 347 x1 h1 = some (v, h2) ∧ zl_S L X h1 ∧ zl_J L X (m + 1) h2 := by
  exact zl_act J (C' := fun h1 => C9_withdraw (d + 28) 347 x1 h1) (zl_q (zc_C8_withdraw J.1.1 r1)) (fun h1 I1 => (zm_withdraw I1.2.1 _ _)) (fun a b k I S => by
    obtain ⟨v, g', k', e1, e2, S'⟩ := zp_withdraw (d := d) (D := d) J.1.1 I S (show m ≤ 100000 by omega) r1
    exact ⟨v, g', k', a, b, e1, e2, S'⟩)
theorem zq_restore (J : zl_J L X m h) (hm : m ≤ 600) (d : Nat) {x1 : Int} (r1 : zv_rg x1) : ∃ (v : Int) (h1 h2 : zv_H), C8_restore (d + 28) 1 x1 h = some (v, h1) ∧ C9_restore (d + 28) 347 x1 h1 = some (v, h2) ∧ zl_S L X h1 ∧ zl_J L X (m + 1) h2 := by
  exact zl_act J (C' := fun h1 => C9_restore (d + 28) 347 x1 h1) (zl_q (zc_C8_restore J.1.1 r1)) (fun h1 I1 => (zm_restore I1.2.1 _ _)) (fun a b k I S => by
    obtain ⟨v, g', k', e1, e2, S'⟩ := zp_restore (d := d) (D := d) J.1.1 I S (show m ≤ 100000 by omega) r1
    exact ⟨v, g', k', a, b, e1, e2, S'⟩)
theorem zq_carry (J : zl_J L X m h) (hm : m ≤ 600) (d : Nat) {x1 : Int} (r1 : zv_rg x1) : ∃ (v : Int) (h1 h2 : zv_H), C8_carry (d + 28) 1 x1 h = some (v, h1) ∧ C9_carry (d + 28) 347 x1 h1 = some (v, h2) ∧ zl_S L X h1 ∧ zl_J L X (m + 1) h2 := by
  exact zl_act J (C' := fun h1 => C9_carry (d + 28) 347 x1 h1) (zl_q (zc_C8_carry J.1.1 r1)) (fun h1 I1 => (zm_carry I1.2.1 _ _)) (fun a b k I S => by
    obtain ⟨v, g', k', e1, e2, S'⟩ := zp_carry (d := d) (D := d) J.1.1 I S (show m ≤ 100000 by omega) r1
    exact ⟨v, g', k', a, b, e1, e2, S'⟩)
theorem zq_merge (J : zl_J L X m h) (hm : m ≤ 600) (d : Nat) {x1 : Int} (r1 : zv_rg x1) : ∃ (v : Int) (h1 h2 : zv_H), C8_merge (d + 28) 1 x1 h = some (v, h1) ∧ C9_merge (d + 28) 347 x1 h1 = some (v, h2) ∧ zl_S L X h1 ∧ zl_J L X (m + 1) h2 := by
  exact zl_act J (C' := fun h1 => C9_merge (d + 28) 347 x1 h1) (zl_q (zc_C8_merge J.1.1 r1)) (fun h1 I1 => (zm_merge I1.2.1 _ _)) (fun a b k I S => by
    obtain ⟨v, g', k', e1, e2, S'⟩ := zp_merge (d := d) (D := d) J.1.1 I S (show m ≤ 100000 by omega) r1
    exact ⟨v, g', k', a, b, e1, e2, S'⟩)
theorem zq_prune (J : zl_J L X m h) (hm : m ≤ 600) (d : Nat) {x1 : Int} (r1 : zv_rg x1) : ∃ (v : Int) (h1 h2 : zv_H), C8_prune (d + 28) 1 x1 h = some (v, h1) ∧ C9_prune (d + 28) 347 x1 h1 = some (v, h2) ∧ zl_S L X h1 ∧ zl_J L X (m + 1) h2 := by
  exact zl_act J (C' := fun h1 => C9_prune (d + 28) 347 x1 h1) (zl_q (zc_C8_prune J.1.1 r1)) (fun h1 I1 => (zm_prune I1.2.1 _ _)) (fun a b k I S => by
    obtain ⟨v, g', k', e1, e2, S'⟩ := zp_prune (d := d) (D := d) J.1.1 I S (show m ≤ 100000 by omega) r1
    exact ⟨v, g', k', a, b, e1, e2, S'⟩)
theorem zq_common (J : zl_J L X m h) (d : Nat) {x1 : Int} (r1 : zv_rg x1) {x2 : Int} (r2 : zv_rg x2) : ∃ (v1 : Int) (h1 : zv_H) (v2 : Int) (h2 : zv_H), C8_common (d + 28) 1 x1 x2 h = some (v1, h1) ∧ C9_common (d + 28) 347 x1 x2 h1 = some (v2, h2) ∧ zl_S L X h1 ∧ zl_J L X m h2 := zl_ask J (C' := fun h1 => C9_common (d + 28) 347 x1 x2 h1) (zm_mono (zd_C8_common J.1.1 zc_h8 r1 r2) (fun _ w => w.1)) (fun h1 i => zn_common i _ _ _) (fun h1 i => zm_common i _ _ _)
theorem zq_way (J : zl_J L X m h) (d : Nat) {x1 : Int} (r1 : zv_rg x1) {x2 : Int} (r2 : zv_rg x2) {x3 : Int} (r3 : zv_rg x3) : ∃ (v1 : Int) (h1 : zv_H) (v2 : Int) (h2 : zv_H), C8_way (d + 28) 1 x1 x2 x3 h = some (v1, h1) ∧ C9_way (d + 28) 347 x1 x2 x3 h1 = some (v2, h2) ∧ zl_S L X h1 ∧ zl_J L X m h2 := zl_ask J (C' := fun h1 => C9_way (d + 28) 347 x1 x2 x3 h1) (zm_mono (zd_C8_way J.1.1 zc_h8 r1 r2 r3) (fun _ w => w.1)) (fun h1 i => zn_way i _ _ _ _) (fun h1 i => zm_way i _ _ _ _)
theorem zq_between (J : zl_J L X m h) (d : Nat) {x1 : Int} (r1 : zv_rg x1) {x2 : Int} (r2 : zv_rg x2) {x3 : Int} (r3 : zv_rg x3) : ∃ (v1 : Int) (h1 : zv_H) (v2 : Int) (h2 : zv_H), C8_between (d + 28) 1 x1 x2 x3 h = some (v1, h1) ∧ C9_between (d + 28) 347 x1 x2 x3 h1 = some (v2, h2) ∧ zl_S L X h1 ∧ zl_J L X m h2 := zl_ask J (C' := fun h1 => C9_between (d + 28) 347 x1 x2 x3 h1) (zm_mono (zd_C8_between J.1.1 zc_h8 r1 r2 r3) (fun _ w => w.1)) (fun h1 i => zn_between i _ _ _ _) (fun h1 i => zm_between i _ _ _ _)
theorem zq_least (J : zl_J L X m h) (d : Nat) {x1 : Int} (r1 : zv_rg x1) {x2 : Int} (r2 : zv_rg x2) : ∃ (v1 : Int) (h1 : zv_H) (v2 : Int) (h2 : zv_H), C8_least (d + 28) 1 x1 x2 h = some (v1, h1) ∧ C9_least (d + 28) 347 x1 x2 h1 = some (v2, h2) ∧ zl_S L X h1 ∧ zl_J L X m h2 := zl_ask J (C' := fun h1 => C9_least (d + 28) 347 x1 x2 h1) (zm_mono (zd_C8_least J.1.1 zc_h8 r1 r2) (fun _ w => w.1)) (fun h1 i => zn_least i _ _ _) (fun h1 i => zm_least i _ _ _)
theorem zq_merges (J : zl_J L X m h) (hm : m ≤ 600) (d : Nat) {x1 : Int} (r1 : zv_rg x1) {x2 : Int} (r2 : zv_rg x2) : ∃ (v : Int) (h1 h2 : zv_H), C8_merges (d + 28) 1 x1 x2 h = some (v, h1) ∧ C9_merges (d + 28) 347 x1 x2 h1 = some (v, h2) ∧ zl_S L X h1 ∧ zl_J L X (m + 1) h2 := by
  exact zl_act J (C' := fun h1 => C9_merges (d + 28) 347 x1 x2 h1) (zl_q (zc_C8_merges J.1.1 r1 r2)) (fun h1 I1 => (zm_merges I1.2.1 _ _ _)) (fun a b k I S => by
    obtain ⟨v, g', k', e1, e2, S'⟩ := zp_merges (d := d) (D := d) J.1.1 I S (show m ≤ 100000 by omega) r1
    exact ⟨v, g', k', a, b, e1, e2, S'⟩)
theorem zq_tell (J : zl_J L X m h) (d : Nat) {x1 : Int} (r1 : zv_rg x1) : ∃ (v1 : Int) (h1 : zv_H) (v2 : Int) (h2 : zv_H), C8_tell (d + 28) 1 x1 h = some (v1, h1) ∧ C9_tell (d + 28) 347 x1 h1 = some (v2, h2) ∧ zl_S L X h1 ∧ zl_J L X m h2 := zl_ask J (C' := fun h1 => C9_tell (d + 28) 347 x1 h1) (zm_mono (zd_C8_tell J.1.1 r1) (fun _ w => w.1)) (fun h1 i => zn_tell i _ _) (fun h1 i => zm_tell i _ _)
theorem zq_out (J : zl_J L X m h) (d : Nat) {x1 : Int} (r1 : zv_rg x1) : ∃ (v1 : Int) (h1 : zv_H) (v2 : Int) (h2 : zv_H), C8_out (d + 28) 1 x1 h = some (v1, h1) ∧ C9_out (d + 28) 347 x1 h1 = some (v2, h2) ∧ zl_S L X h1 ∧ zl_J L X m h2 := zl_ask J (C' := fun h1 => C9_out (d + 28) 347 x1 h1) (zm_mono (zd_C8_out J.1.1 zc_h8 r1) (fun _ w => w.1)) (fun h1 i => zn_out i _ _) (fun h1 i => zm_out i _ _)
theorem zq_leaning (J : zl_J L X m h) (d : Nat) {x1 : Int} (r1 : zv_rg x1) {x2 : Int} (r2 : zv_rg x2) : ∃ (v1 : Int) (h1 : zv_H) (v2 : Int) (h2 : zv_H), C8_leaning (d + 28) 1 x1 x2 h = some (v1, h1) ∧ C9_leaning (d + 28) 347 x1 x2 h1 = some (v2, h2) ∧ zl_S L X h1 ∧ zl_J L X m h2 := zl_ask J (C' := fun h1 => C9_leaning (d + 28) 347 x1 x2 h1) (zm_mono (zd_C8_leaning J.1.1 zc_h8 r1 r2) (fun _ w => w.1)) (fun h1 i => zn_leaning i _ _ _) (fun h1 i => zm_leaning i _ _ _)
theorem zq_find (J : zl_J L X m h) (d : Nat) {x1 : Int} (r1 : zv_rg x1) : ∃ (v1 : Int) (h1 : zv_H) (v2 : Int) (h2 : zv_H), C8_find (d + 28) 1 x1 h = some (v1, h1) ∧ C9_find (d + 28) 347 x1 h1 = some (v2, h2) ∧ zl_S L X h1 ∧ zl_J L X m h2 := zl_ask J (C' := fun h1 => C9_find (d + 28) 347 x1 h1) (zm_mono (zd_C8_find J.1.1 zc_h8 r1) (fun _ w => w.1)) (fun h1 i => zn_find i _ _) (fun h1 i => zm_find i _ _)
theorem zq_first (J : zl_J L X m h) (d : Nat) : ∃ (v1 : Int) (h1 : zv_H) (v2 : Int) (h2 : zv_H), C8_first (d + 28) 1 h = some (v1, h1) ∧ C9_first (d + 28) 347 h1 = some (v2, h2) ∧ zl_S L X h1 ∧ zl_J L X m h2 := zl_ask J (C' := fun h1 => C9_first (d + 28) 347 h1) (zm_mono (zd_C8_first J.1.1 zc_h8 ) (fun _ w => w.1)) (fun h1 i => zn_first i _ ) (fun h1 i => zm_first i _ )
theorem zq_twin (J : zl_J L X m h) (d : Nat) {x1 : Int} (r1 : zv_rg x1) : ∃ (v1 : Int) (h1 : zv_H) (v2 : Int) (h2 : zv_H), C8_twin (d + 28) 1 x1 h = some (v1, h1) ∧ C9_twin (d + 28) 347 x1 h1 = some (v2, h2) ∧ zl_S L X h1 ∧ zl_J L X m h2 := zl_ask J (C' := fun h1 => C9_twin (d + 28) 347 x1 h1) (zm_mono (zd_C8_twin J.1.1 zc_h8 r1) (fun _ w => w.1)) (fun h1 i => zn_twin i _ _) (fun h1 i => zm_twin i _ _)
theorem zq_back (J : zl_J L X m h) (d : Nat) {x1 : Int} (r1 : zv_rg x1) : ∃ (v1 : Int) (h1 : zv_H) (v2 : Int) (h2 : zv_H), C8_back (d + 28) 1 x1 h = some (v1, h1) ∧ C9_back (d + 28) 347 x1 h1 = some (v2, h2) ∧ zl_S L X h1 ∧ zl_J L X m h2 := zl_ask J (C' := fun h1 => C9_back (d + 28) 347 x1 h1) (zm_mono (zd_C8_back J.1.1 zc_h8 r1) (fun _ w => w.1)) (fun h1 i => zn_back i _ _) (fun h1 i => zm_back i _ _)
theorem zx_fault (J : zl_J L X m h) (d : Nat) {x1 : Int} (r1 : zv_rg x1) : ∃ (v : Int) (h1 h2 : zv_H), C8_fault (d + 28) 1 x1 h = some (v, h1) ∧ C9_fault (d + 28) 347 x1 h1 = some (v, h2) ∧ zl_S L X h1 ∧ zl_J L X m h2 := zl_askx J (C' := fun h1 => C9_fault (d + 28) 347 x1 h1) (zq_fault J d r1) (zl_q (zl_p J.1.1 (zc_C8_fault J.1.1 zc_h8 r1))) (fun a b k I S => by
  obtain ⟨v, k', e1, e2, _⟩ := zp_fault (d := d + 26) (D := d + 26) J.1.1 I S x1
  exact ⟨v, h, k', e1, e2⟩)
end
