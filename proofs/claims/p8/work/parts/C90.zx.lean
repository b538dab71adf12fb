/-! ===== queries as the law asks them (genzx.py) ===== -/
section
variable {L : Nat} {X : Nat → Int} {m : Nat} {h : zv_H}
theorem zx_many (J : zl_J L X m h) (d : Nat) {x1 : Int} (r1 : zv_rg x1) : ∃ (v : Int) (h1 h2 : zv_H), C8_many (d + 28) 1 x1 h = some (v, h1) ∧ C9_many (d + 28) 347 x1 h1 = some (v, h2) ∧ zl_S L X h1 ∧ zl_J L X m h2 := zl_askx J (C' := fun h1 => C9_many (d + 28) 347 x1 h1) (zq_many J d r1) (zl_q (zc_Qp (K := fun _ => True) (zc_C8_many J.1.1 zc_h8 r1))) (fun a b k I S => by
  obtain ⟨v, g', k', e1, e2⟩ := zp_many (d := d) (D := d) J.1.1 I S x1
  exact ⟨v, g', k', e1, e2⟩)
theorem zx_letter (J : zl_J L X m h) (d : Nat) {x1 : Int} (r1 : zv_rg x1) {x2 : Int} (r2 : zv_rg x2) : ∃ (v : Int) (h1 h2 : zv_H), C8_letter (d + 28) 1 x1 x2 h = some (v, h1) ∧ C9_letter (d + 28) 347 x1 x2 h1 = some (v, h2) ∧ zl_S L X h1 ∧ zl_J L X m h2 := zl_askx J (C' := fun h1 => C9_letter (d + 28) 347 x1 x2 h1) (zq_letter J d r1 r2) (zl_q (zc_Qp (K := fun _ => True) (zc_C8_letter J.1.1 zc_h8 r1 r2))) (fun a b k I S => by
  obtain ⟨v, g', k', e1, e2⟩ := zp_letter (d := d) (D := d) J.1.1 I S x1 x2
  exact ⟨v, g', k', e1, e2⟩)
theorem zx_state (J : zl_J L X m h) (d : Nat) {x1 : Int} (r1 : zv_rg x1) {x2 : Int} (r2 : zv_rg x2) : ∃ (v : Int) (h1 h2 : zv_H), C8_state (d + 28) 1 x1 x2 h = some (v, h1) ∧ C9_state (d + 28) 347 x1 x2 h1 = some (v, h2) ∧ zl_S L X h1 ∧ zl_J L X m h2 := zl_askx J (C' := fun h1 => C9_state (d + 28) 347 x1 x2 h1) (zq_state J d r1 r2) (zl_q (zc_Qp (K := fun _ => True) (zc_C8_state J.1.1 zc_h8 r1 r2))) (fun a b k I S => by
  obtain ⟨v, g', k', e1, e2⟩ := zp_state (d := d) (D := d) J.1.1 I S x1 x2
  exact ⟨v, g', k', e1, e2⟩)
theorem zx_child (J : zl_J L X m h) (hm : m ≤ 600) (d : Nat) {x1 : Int} (r1 : zv_rg x1) {x2 : Int} (r2 : zv_rg x2) : ∃ (v : Int) (h1 h2 : zv_H), C8_child (d + 28) 1 x1 x2 h = some (v, h1) ∧ C9_child (d + 28) 347 x1 x2 h1 = some (v, h2) ∧ zl_S L X h1 ∧ zl_J L X m h2 := zl_askx J (C' := fun h1 => C9_child (d + 28) 347 x1 x2 h1) (zq_child J d r1 r2) (zl_q (zc_Qp (K := fun _ => True) (zc_C8_child J.1.1 zc_h8 r1 r2))) (fun a b k I S => by
  obtain ⟨v, g', k', e1, e2⟩ := zp_child (d := d) (D := d) J.1.1 I S (show m ≤ 100000 by omega) x1 r2
  exact ⟨v, g', k', e1, e2⟩)
theorem zx_force (J : zl_J L X m h) (d : Nat) {x1 : Int} (r1 : zv_rg x1) {x2 : Int} (r2 : zv_rg x2) : ∃ (v : Int) (h1 h2 : zv_H), C8_force (d + 28) 1 x1 x2 h = some (v, h1) ∧ C9_force (d + 28) 347 x1 x2 h1 = some (v, h2) ∧ zl_S L X h1 ∧ zl_J L X m h2 := zl_askx J (C' := fun h1 => C9_force (d + 28) 347 x1 x2 h1) (zq_force J d r1 r2) (zl_q (zc_Qp (K := fun _ => True) (zc_C8_force J.1.1 zc_h8 r1 r2))) (fun a b k I S => by
  obtain ⟨v, g', k', e1, e2⟩ := zp_force (d := d) (D := d) J.1.1 I S x1 x2
  exact ⟨v, g', k', e1, e2⟩)
theorem zx_blame (J : zl_J L X m h) (d : Nat) {x1 : Int} (r1 : zv_rg x1) {x2 : Int} (r2 : zv_rg x2) : ∃ (v : Int) (h1 h2 : zv_H), C8_blame (d + 28) 1 x1 x2 h = some (v, h1) ∧ C9_blame (d + 28) 347 x1 x2 h1 = some (v, h2) ∧ zl_S L X h1 ∧ zl_J L X m h2 := zl_askx J (C' := fun h1 => C9_blame (d + 28) 347 x1 x2 h1) (zq_blame J d r1 r2) (zl_q (zc_Qp (K := fun _ => True) (zc_C8_blame J.1.1 zc_h8 r1 r2))) (fun a b k I S => by
  obtain ⟨v, g', k', e1, e2⟩ := zp_blame (d := d) (D := d) J.1.1 I S x1 x2
  exact ⟨v, g', k', e1, e2⟩)
theorem zx_row (J : zl_J L X m h) (d : Nat) {x1 : Int} (r1 : zv_rg x1) {x2 : Int} (r2 : zv_rg x2) : ∃ (v : Int) (h1 h2 : zv_H), C8_row (d + 28) 1 x1 x2 h = some (v, h1) ∧ C9_row (d + 28) 347 x1 x2 h1 = some (v, h2) ∧ zl_S L X h1 ∧ zl_J L X m h2 := zl_askx J (C' := fun h1 => C9_row (d + 28) 347 x1 x2 h1) (zq_row J d r1 r2) (zl_q (zc_Qp (K := fun _ => True) (zc_C8_row J.1.1 zc_h8 r1 r2))) (fun a b k I S => by
  obtain ⟨v, g', k', e1, e2⟩ := zp_row (d := d) (D := d) J.1.1 I S x1 x2
  exact ⟨v, g', k', e1, e2⟩)
theorem zx_visit (J : zl_J L X m h) (hm : m ≤ 600) (d : Nat) {x1 : Int} (r1 : zv_rg x1) {x2 : Int} (r2 : zv_rg x2) : ∃ (v : Int) (h1 h2 : zv_H), C8_visit (d + 28) 1 x1 x2 h = some (v, h1) ∧ C9_visit (d + 28) 347 x1 x2 h1 = some (v, h2) ∧ zl_S L X h1 ∧ zl_J L X m h2 := zl_askx J (C' := fun h1 => C9_visit (d + 28) 347 x1 x2 h1) (zq_visit J d r1 r2) (zl_q (zc_Qp (K := fun _ => True) (zc_C8_visit J.1.1 zc_h8 r1 r2))) (fun a b k I S => by
  obtain ⟨v, g', k', e1, e2⟩ := zp_visit (d := d) (D := d) J.1.1 I S (show m ≤ 100000 by omega) x1 x2
  exact ⟨v, g', k', e1, e2⟩)
theorem zx_named (J : zl_J L X m h) (d : Nat) : ∃ (v : Int) (h1 h2 : zv_H), C8_named (d + 28) 1 h = some (v, h1) ∧ C9_named (d + 28) 347 h1 = some (v, h2) ∧ zl_S L X h1 ∧ zl_J L X m h2 := zl_askx J (C' := fun h1 => C9_named (d + 28) 347 h1) (zq_named J d ) (zl_q (zc_Qp (K := fun _ => True) (zc_C8_named J.1.1 zc_h8 ))) (fun a b k I S => by
  obtain ⟨v, g', k', e1, e2⟩ := zp_named (d := d) (D := d) J.1.1 I S
  exact ⟨v, g', k', e1, e2⟩)
theorem zx_common (J : zl_J L X m h) (d : Nat) {x1 : Int} (r1 : zv_rg x1) {x2 : Int} (r2 : zv_rg x2) : ∃ (v : Int) (h1 h2 : zv_H), C8_common (d + 28) 1 x1 x2 h = some (v, h1) ∧ C9_common (d + 28) 347 x1 x2 h1 = some (v, h2) ∧ zl_S L X h1 ∧ zl_J L X m h2 := zl_askx J (C' := fun h1 => C9_common (d + 28) 347 x1 x2 h1) (zq_common J d r1 r2) (zl_q (zc_Qp (K := fun _ => True) (zc_C8_common J.1.1 zc_h8 r1 r2))) (fun a b k I S => by
  obtain ⟨v, g', k', e1, e2⟩ := zp_common (d := d) (D := d) J.1.1 I S x1 x2
  exact ⟨v, g', k', e1, e2⟩)
theorem zx_way (J : zl_J L X m h) (d : Nat) {x1 : Int} (r1 : zv_rg x1) {x2 : Int} (r2 : zv_rg x2) {x3 : Int} (r3 : zv_rg x3) : ∃ (v : Int) (h1 h2 : zv_H), C8_way (d + 28) 1 x1 x2 x3 h = some (v, h1) ∧ C9_way (d + 28) 347 x1 x2 x3 h1 = some (v, h2) ∧ zl_S L X h1 ∧ zl_J L X m h2 := zl_askx J (C' := fun h1 => C9_way (d + 28) 347 x1 x2 x3 h1) (zq_way J d r1 r2 r3) (zl_q (zc_Qp (K := fun _ => True) (zc_C8_way J.1.1 zc_h8 r1 r2 r3))) (fun a b k I S => by
  obtain ⟨v, g', k', e1, e2⟩ := zp_way (d := d) (D := d) J.1.1 I S x1 x2 x3
  exact ⟨v, g', k', e1, e2⟩)
theorem zx_between (J : zl_J L X m h) (d : Nat) {x1 : Int} (r1 : zv_rg x1) {x2 : Int} (r2 : zv_rg x2) {x3 : Int} (r3 : zv_rg x3) : ∃ (v : Int) (h1 h2 : zv_H), C8_between (d + 28) 1 x1 x2 x3 h = some (v, h1) ∧ C9_between (d + 28) 347 x1 x2 x3 h1 = some (v, h2) ∧ zl_S L X h1 ∧ zl_J L X m h2 := zl_askx J (C' := fun h1 => C9_between (d + 28) 347 x1 x2 x3 h1) (zq_between J d r1 r2 r3) (zl_q (zc_Qp (K := fun _ => True) (zc_C8_between J.1.1 zc_h8 r1 r2 r3))) (fun a b k I S => by
  obtain ⟨v, g', k', e1, e2⟩ := zp_between (d := d) (D := d) J.1.1 I S x1 x2 x3
  exact ⟨v, g', k', e1, e2⟩)
theorem zx_least (J : zl_J L X m h) (d : Nat) {x1 : Int} (r1 : zv_rg x1) {x2 : Int} (r2 : zv_rg x2) : ∃ (v : Int) (h1 h2 : zv_H), C8_least (d + 28) 1 x1 x2 h = some (v, h1) ∧ C9_least (d + 28) 347 x1 x2 h1 = some (v, h2) ∧ zl_S L X h1 ∧ zl_J L X m h2 := zl_askx J (C' := fun h1 => C9_least (d + 28) 347 x1 x2 h1) (zq_least J d r1 r2) (zl_q (zc_Qp (K := fun _ => True) (zc_C8_least J.1.1 zc_h8 r1 r2))) (fun a b k I S => by
  obtain ⟨v, g', k', e1, e2⟩ := zp_least (d := d) (D := d) J.1.1 I S x1 x2
  exact ⟨v, g', k', e1, e2⟩)
theorem zx_tell (J : zl_J L X m h) (d : Nat) {x1 : Int} (r1 : zv_rg x1) : ∃ (v : Int) (h1 h2 : zv_H), C8_tell (d + 28) 1 x1 h = some (v, h1) ∧ C9_tell (d + 28) 347 x1 h1 = some (v, h2) ∧ zl_S L X h1 ∧ zl_J L X m h2 := zl_askx J (C' := fun h1 => C9_tell (d + 28) 347 x1 h1) (zq_tell J d r1) (zl_q (zc_C8_tell J.1.1 r1)) (fun a b k I S => by
  obtain ⟨v, g', k', e1, e2, _⟩ := zp_tell (d := d) (D := d) J.1.1 I S x1
  exact ⟨v, g', k', e1, e2⟩)
theorem zx_leaning (J : zl_J L X m h) (d : Nat) {x1 : Int} (r1 : zv_rg x1) {x2 : Int} (r2 : zv_rg x2) : ∃ (v : Int) (h1 h2 : zv_H), C8_leaning (d + 28) 1 x1 x2 h = some (v, h1) ∧ C9_leaning (d + 28) 347 x1 x2 h1 = some (v, h2) ∧ zl_S L X h1 ∧ zl_J L X m h2 := zl_askx J (C' := fun h1 => C9_leaning (d + 28) 347 x1 x2 h1) (zq_leaning J d r1 r2) (zl_q (zc_Qp (K := fun _ => True) (zc_C8_leaning J.1.1 zc_h8 r1 r2))) (fun a b k I S => by
  obtain ⟨v, g', k', e1, e2⟩ := zp_leaning (d := d) (D := d) J.1.1 I S x1 x2
  exact ⟨v, g', k', e1, e2⟩)
theorem zx_find (J : zl_J L X m h) (d : Nat) {x1 : Int} (r1 : zv_rg x1) : ∃ (v : Int) (h1 h2 : zv_H), C8_find (d + 28) 1 x1 h = some (v, h1) ∧ C9_find (d + 28) 347 x1 h1 = some (v, h2) ∧ zl_S L X h1 ∧ zl_J L X m h2 := zl_askx J (C' := fun h1 => C9_find (d + 28) 347 x1 h1) (zq_find J d r1) (zl_q (zc_Qp (K := fun _ => True) (zc_C8_find J.1.1 zc_h8 r1))) (fun a b k I S => by
  obtain ⟨v, g', k', e1, e2⟩ := zp_find (d := d) (D := d) J.1.1 I S x1
  exact ⟨v, g', k', e1, e2⟩)
theorem zx_first (J : zl_J L X m h) (d : Nat) : ∃ (v : Int) (h1 h2 : zv_H), C8_first (d + 28) 1 h = some (v, h1) ∧ C9_first (d + 28) 347 h1 = some (v, h2) ∧ zl_S L X h1 ∧ zl_J L X m h2 := zl_askx J (C' := fun h1 => C9_first (d + 28) 347 h1) (zq_first J d ) (zl_q (zc_Qp (K := fun _ => True) (zc_C8_first J.1.1 zc_h8 ))) (fun a b k I S => by
  obtain ⟨v, g', k', e1, e2⟩ := zp_first (d := d) (D := d) J.1.1 I S
  exact ⟨v, g', k', e1, e2⟩)
theorem zx_twin (J : zl_J L X m h) (d : Nat) {x1 : Int} (r1 : zv_rg x1) : ∃ (v : Int) (h1 h2 : zv_H), C8_twin (d + 28) 1 x1 h = some (v, h1) ∧ C9_twin (d + 28) 347 x1 h1 = some (v, h2) ∧ zl_S L X h1 ∧ zl_J L X m h2 := zl_askx J (C' := fun h1 => C9_twin (d + 28) 347 x1 h1) (zq_twin J d r1) (zl_q (zc_Qp (K := fun _ => True) (zc_C8_twin J.1.1 zc_h8 r1))) (fun a b k I S => by
  obtain ⟨v, g', k', e1, e2⟩ := zp_twin (d := d) (D := d) J.1.1 I S x1
  exact ⟨v, g', k', e1, e2⟩)
theorem zx_back (J : zl_J L X m h) (d : Nat) {x1 : Int} (r1 : zv_rg x1) : ∃ (v : Int) (h1 h2 : zv_H), C8_back (d + 28) 1 x1 h = some (v, h1) ∧ C9_back (d + 28) 347 x1 h1 = some (v, h2) ∧ zl_S L X h1 ∧ zl_J L X m h2 := zl_askx J (C' := fun h1 => C9_back (d + 28) 347 x1 h1) (zq_back J d r1) (zl_q (zc_Qp (K := fun _ => True) (zc_C8_back J.1.1 zc_h8 r1))) (fun a b k I S => by
  obtain ⟨v, g', k', e1, e2⟩ := zp_back (d := d) (D := d) J.1.1 I S x1
  exact ⟨v, g', k', e1, e2⟩)
end
