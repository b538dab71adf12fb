/-! ===== the tie: the class's cells over the reference's ===== -/
/-- a letter's number in the class -/
def zt_id (p : Int × Int) : Int := if p.1 = 0 then p.2 else 40 + (p.1 - 1) * 12 + p.2
def zt_ok (p : Int × Int) : Prop := (p.1 = 0 ∧ 0 ≤ p.2 ∧ p.2 < 40) ∨ ((1 ≤ p.1 ∧ p.1 ≤ 47) ∧ 0 ≤ p.2 ∧ p.2 < 12)
theorem zt_id_r {p : Int × Int} (h : zt_ok p) : 0 ≤ zt_id p ∧ zt_id p < 604 := by
  unfold zt_id
  rcases h with h | h
  · rw [if_pos h.1]; omega
  · rw [if_neg (by omega)]; omega
theorem zt_id_inj {p q : Int × Int} (hp : zt_ok p) (hq : zt_ok q) (e : zt_id p = zt_id q) : p = q := by
  obtain ⟨a, b⟩ := p
  obtain ⟨x, y⟩ := q
  unfold zt_id at e
  dsimp only at e
  rcases hp with h | h <;> rcases hq with g | g <;> dsimp only at h g
  · rw [if_pos h.1, if_pos g.1] at e
    rw [h.1, g.1, e]
  · rw [if_pos h.1, if_neg (by omega)] at e; omega
  · rw [if_neg (by omega), if_pos g.1] at e; omega
  · rw [if_neg (by omega), if_neg (by omega)] at e
    rw [show a = x by omega, show b = y by omega]
/-- a State's cell, by its number -/
def zt_r (a : Nat) (p : Int) : Nat := if p < 0 then 0 else zc_stt a p.toNat
theorem zt_r_n {a : Nat} {p : Int} (h : p < 0) : zt_r a p = 0 := if_pos h
theorem zt_r_p {a : Nat} {p : Int} (h : 0 ≤ p) : zt_r a p = zc_stt a p.toNat := if_neg (by omega)
theorem zt_r_l {a : Nat} (ha : zv_lay a = (1, 0)) {p : Int} (h : 0 ≤ p ∧ p ≤ 47) : zv_lay (zt_r a p) = (1, 5) := by
  rw [zt_r_p h.1]
  exact (zc_stl ha (show p.toNat < 48 by omega)).1
theorem zt_r_h {a : Nat} (ha : zv_lay a = (1, 0)) {p : Int} (h : 0 ≤ p ∧ p ≤ 47) : zc_hf (zt_r a p) = a := by
  rw [zt_r_p h.1]
  exact (zc_stl ha (show p.toNat < 48 by omega)).2.1
theorem zt_r_inj {a : Nat} (ha : zv_lay a = (1, 0)) {p q : Int} (hp : 0 ≤ p ∧ p ≤ 47) (hq : 0 ≤ q ∧ q ≤ 47) (e : zt_r a p = zt_r a q) : p = q := by
  rw [zt_r_p hp.1, zt_r_p hq.1] at e
  have := zc_stinj ha e
  omega
/-- what one leans on, straight -/
def zt_ln (c : Nat → Int) (s t : Int) : Prop := (zm_o c s 2 = 0 ∧ zm_o c s 8 = t) ∨ (zm_o c s 2 = 1 ∧ ∃ p ∈ zm_tk c s, p.1 = t)
/-- what names and anchors may be: of the line, ahead of it -/
def zt_cw (c : Nat → Int) (s : Int) : Prop := (∀ l, zm_Ln c (s :: l) s → ∀ t : Int, 0 ≤ t → t < 48 → zm_nm c s t → t ∈ l ∧ zm_ed c t ∧ ¬ zm_ed c s) ∧ (∀ l, zm_Ln c (s :: l) s → zm_o c s 2 = 0 → 0 ≤ zm_o c s 8 → (zm_o c s 8, zm_o c s 9) ∈ zm_row c l) ∧ (zm_o c s 2 = -1 → s = 0) ∧ (zm_o c s 2 = -1 ∨ zm_o c s 2 = 0 ∨ zm_o c s 2 = 1 ∨ zm_o c s 2 = 2 ∨ zm_o c s 2 = 3)
theorem zt_cw_nm {c : Nat → Int} {s : Int} (t : zt_cw c s) : ∀ l, zm_Ln c (s :: l) s → ∀ t : Int, 0 ≤ t → t < 48 → zm_nm c s t → t ∈ l ∧ zm_ed c t ∧ ¬ zm_ed c s := t.1
theorem zt_cw_an {c : Nat → Int} {s : Int} (t : zt_cw c s) : ∀ l, zm_Ln c (s :: l) s → zm_o c s 2 = 0 → 0 ≤ zm_o c s 8 → (zm_o c s 8, zm_o c s 9) ∈ zm_row c l := t.2.1
theorem zt_cw_s0 {c : Nat → Int} {s : Int} (t : zt_cw c s) : zm_o c s 2 = -1 → s = 0 := t.2.2.1
theorem zt_cw_ac {c : Nat → Int} {s : Int} (t : zt_cw c s) : zm_o c s 2 = -1 ∨ zm_o c s 2 = 0 ∨ zm_o c s 2 = 1 ∨ zm_o c s 2 = 2 ∨ zm_o c s 2 = 3 := t.2.2.2
/-- the letters that one sees at the end of a line -/
def zt_dc (c : Nat → Int) (L : List Int) : List (Int × Int) := (zm_row c L).filter (zm_sn c L)
/-- one State that is there -/
def zt_S (a : Nat) (c : Nat → Int) (h : zv_H) (s : Int) : Prop := (zv_R h (zt_r a s) 4 = zt_r a (zm_o c s 1)) ∧ (zv_R h (zt_r a s) 5 = zt_r a (zm_o c s 6)) ∧ (zv_I h (zt_r a s) 6 = zm_o c s 2) ∧ (zv_I h (zt_r a s) 7 = zm_o c s 3) ∧ (zv_I h (zt_r a s) 8 = zm_o c s 4) ∧ (zv_I h (zt_r a s) 9 = zm_o c s 5) ∧ (zv_I h (zt_r a s) 13 = zm_o c s 7) ∧ (zv_I h (zt_r a s) 15 = (if zm_o c s 2 = 0 ∧ 0 ≤ zm_o c s 8 then zt_id (zm_o c s 8, zm_o c s 9) else -1)) ∧ (∀ t : Nat, t < 64 → (zt_b (zv_J h (zt_r a s) 16) t = true ↔ t < 48 ∧ zm_nm c s t)) ∧ (∀ t : Nat, t < 64 → (zt_b (zv_J h (zt_r a s) 17) t = true ↔ 1 ≤ t ∧ t < 48 ∧ zt_ln c s t)) ∧ (zm_o c s 2 = 1 → ∀ (k : Nat) (x : Int × Int), (zm_tk c s)[k]? = some x → zv_I h (zt_r a s + 1) k = zt_id x) ∧ ((zm_o c s 2 = 0 ∨ s = 0) → ∀ k : Nat, (k : Int) < zm_o c s 5 → zv_I h (a + 5) (zt_id (s, (k : Int))).toNat = zm_o c s (12 + (k : Int))) ∧ (∀ l, zm_Ln c (s :: l) s → zv_I h (zt_r a s) 12 = (zt_dc c (s :: l)).length) ∧ (∀ l, zm_Ln c (s :: l) s → ∀ (n : Nat) (x : Int × Int), (zt_dc c (s :: l))[n]? = some x → zv_I h (zt_r a s + 2) n = zt_id x) ∧ (∀ l, zm_Ln c (s :: l) s → zv_I h (zt_r a s) 10 = l.length) ∧ (zv_I h (zt_r a s) 11 = zm_nch c s) ∧ (zt_cw c s)
theorem zt_S_pa {a : Nat} {c : Nat → Int} {h : zv_H} {s : Int} (t : zt_S a c h s) : zv_R h (zt_r a s) 4 = zt_r a (zm_o c s 1) := t.1
theorem zt_S_fi {a : Nat} {c : Nat → Int} {h : zv_H} {s : Int} (t : zt_S a c h s) : zv_R h (zt_r a s) 5 = zt_r a (zm_o c s 6) := t.2.1
theorem zt_S_ac {a : Nat} {c : Nat → Int} {h : zv_H} {s : Int} (t : zt_S a c h s) : zv_I h (zt_r a s) 6 = zm_o c s 2 := t.2.2.1
theorem zt_S_ti {a : Nat} {c : Nat → Int} {h : zv_H} {s : Int} (t : zt_S a c h s) : zv_I h (zt_r a s) 7 = zm_o c s 3 := t.2.2.2.1
theorem zt_S_pl {a : Nat} {c : Nat → Int} {h : zv_H} {s : Int} (t : zt_S a c h s) : zv_I h (zt_r a s) 8 = zm_o c s 4 := t.2.2.2.2.1
theorem zt_S_sz {a : Nat} {c : Nat → Int} {h : zv_H} {s : Int} (t : zt_S a c h s) : zv_I h (zt_r a s) 9 = zm_o c s 5 := t.2.2.2.2.2.1
theorem zt_S_vi {a : Nat} {c : Nat → Int} {h : zv_H} {s : Int} (t : zt_S a c h s) : zv_I h (zt_r a s) 13 = zm_o c s 7 := t.2.2.2.2.2.2.1
theorem zt_S_an {a : Nat} {c : Nat → Int} {h : zv_H} {s : Int} (t : zt_S a c h s) : zv_I h (zt_r a s) 15 = (if zm_o c s 2 = 0 ∧ 0 ≤ zm_o c s 8 then zt_id (zm_o c s 8, zm_o c s 9) else -1) := t.2.2.2.2.2.2.2.1
theorem zt_S_nm {a : Nat} {c : Nat → Int} {h : zv_H} {s : Int} (t : zt_S a c h s) : ∀ t : Nat, t < 64 → (zt_b (zv_J h (zt_r a s) 16) t = true ↔ t < 48 ∧ zm_nm c s t) := t.2.2.2.2.2.2.2.2.1
theorem zt_S_bs {a : Nat} {c : Nat → Int} {h : zv_H} {s : Int} (t : zt_S a c h s) : ∀ t : Nat, t < 64 → (zt_b (zv_J h (zt_r a s) 17) t = true ↔ 1 ≤ t ∧ t < 48 ∧ zt_ln c s t) := t.2.2.2.2.2.2.2.2.2.1
theorem zt_S_tk {a : Nat} {c : Nat → Int} {h : zv_H} {s : Int} (t : zt_S a c h s) : zm_o c s 2 = 1 → ∀ (k : Nat) (x : Int × Int), (zm_tk c s)[k]? = some x → zv_I h (zt_r a s + 1) k = zt_id x := t.2.2.2.2.2.2.2.2.2.2.1
theorem zt_S_gl {a : Nat} {c : Nat → Int} {h : zv_H} {s : Int} (t : zt_S a c h s) : (zm_o c s 2 = 0 ∨ s = 0) → ∀ k : Nat, (k : Int) < zm_o c s 5 → zv_I h (a + 5) (zt_id (s, (k : Int))).toNat = zm_o c s (12 + (k : Int)) := t.2.2.2.2.2.2.2.2.2.2.2.1
theorem zt_S_ln {a : Nat} {c : Nat → Int} {h : zv_H} {s : Int} (t : zt_S a c h s) : ∀ l, zm_Ln c (s :: l) s → zv_I h (zt_r a s) 12 = (zt_dc c (s :: l)).length := t.2.2.2.2.2.2.2.2.2.2.2.2.1
theorem zt_S_dc {a : Nat} {c : Nat → Int} {h : zv_H} {s : Int} (t : zt_S a c h s) : ∀ l, zm_Ln c (s :: l) s → ∀ (n : Nat) (x : Int × Int), (zt_dc c (s :: l))[n]? = some x → zv_I h (zt_r a s + 2) n = zt_id x := t.2.2.2.2.2.2.2.2.2.2.2.2.2.1
theorem zt_S_de {a : Nat} {c : Nat → Int} {h : zv_H} {s : Int} (t : zt_S a c h s) : ∀ l, zm_Ln c (s :: l) s → zv_I h (zt_r a s) 10 = l.length := t.2.2.2.2.2.2.2.2.2.2.2.2.2.2.1
theorem zt_S_ch {a : Nat} {c : Nat → Int} {h : zv_H} {s : Int} (t : zt_S a c h s) : zv_I h (zt_r a s) 11 = zm_nch c s := t.2.2.2.2.2.2.2.2.2.2.2.2.2.2.2.1
theorem zt_S_cw {a : Nat} {c : Nat → Int} {h : zv_H} {s : Int} (t : zt_S a c h s) : zt_cw c s := t.2.2.2.2.2.2.2.2.2.2.2.2.2.2.2.2
/-- the States, here, the letters -/
def zt_U (a : Nat) (c : Nat → Int) (h : zv_H) : Prop := (zv_lay a = (1, 0)) ∧ (zm_W c) ∧ (∀ i : Nat, i < 48 → zv_I h (zc_stt a i) 3 = zm_o c i 0) ∧ (∀ i : Nat, i < 48 → zv_I h (zc_stt a i) 0 = i) ∧ (∀ s, zm_st c s → zt_S a c h s) ∧ (zv_R h a 10 = zt_r a (c 0)) ∧ (zv_I h a 11 = c 1) ∧ (zv_I h a 12 = zm_nst c)
theorem zt_U_la {a : Nat} {c : Nat → Int} {h : zv_H} (t : zt_U a c h) : zv_lay a = (1, 0) := t.1
theorem zt_U_W {a : Nat} {c : Nat → Int} {h : zv_H} (t : zt_U a c h) : zm_W c := t.2.1
theorem zt_U_lv {a : Nat} {c : Nat → Int} {h : zv_H} (t : zt_U a c h) : ∀ i : Nat, i < 48 → zv_I h (zc_stt a i) 3 = zm_o c i 0 := t.2.2.1
theorem zt_U_nr {a : Nat} {c : Nat → Int} {h : zv_H} (t : zt_U a c h) : ∀ i : Nat, i < 48 → zv_I h (zc_stt a i) 0 = i := t.2.2.2.1
theorem zt_U_st {a : Nat} {c : Nat → Int} {h : zv_H} (t : zt_U a c h) : ∀ s, zm_st c s → zt_S a c h s := t.2.2.2.2.1
theorem zt_U_he {a : Nat} {c : Nat → Int} {h : zv_H} (t : zt_U a c h) : zv_R h a 10 = zt_r a (c 0) := t.2.2.2.2.2.1
theorem zt_U_nw {a : Nat} {c : Nat → Int} {h : zv_H} (t : zt_U a c h) : zv_I h a 11 = c 1 := t.2.2.2.2.2.2.1
theorem zt_U_ct {a : Nat} {c : Nat → Int} {h : zv_H} (t : zt_U a c h) : zv_I h a 12 = zm_nst c := t.2.2.2.2.2.2.2
def zt_T (a : Nat) (c : Nat → Int) (h : zv_H) : Prop := zc_A h ∧ zt_U a c h
/-- cells that are reckoned anew for the call that asks -/
def zt_x (r k : Nat) : Prop := (r = 1 ∧ k = 6) ∨ ((zv_lay r = (1, 4)) ∧ (k = 5 ∨ k = 6 ∨ k = 7)) ∨ (zv_lay r = (1, 5) ∧ k = 14) ∨ ∃ a, (a = 9 ∨ a = 178) ∧ (r = a + 7 ∨ r = a + 10 ∨ r = a + 11 ∨ r = a + 12 ∨ r = a + 13 ∨ r = a + 25 ∨ r = a + 27 ∨ (r = a + 26 ∧ k = 1))
/-- one half's cells -/
def zt_in (b r : Nat) : Prop := 9 ≤ r ∧ r < 347 ∧ zc_hf r = b
/-- the same but for those, and half b -/
def zt_k (b : Nat) (h h' : zv_H) : Prop := h'.1 = h.1 ∧ h'.2.2.2.2 = h.2.2.2.2 ∧ (∀ r k, ¬ zt_x r k → ¬ zt_in b r → zv_I h' r k = zv_I h r k) ∧ (∀ r, zv_lay r ≠ (1, 4) → ¬ zt_in b r → h'.2.2.1 r = h.2.2.1 r) ∧ ∀ r, r ≠ 18 → r ≠ 187 → ¬ zt_in b r → h'.2.2.2.1 r = h.2.2.2.1 r
/-- the same but for those -/
def zt_q (h h' : zv_H) : Prop := zt_k 0 h h'
theorem zt_k_r (b : Nat) (h : zv_H) : zt_k b h h := ⟨rfl, rfl, fun _ _ _ _ => rfl, fun _ _ _ => rfl, fun _ _ _ _ => rfl⟩
theorem zt_k_t {b : Nat} {h h1 h2 : zv_H} (f : zt_k b h h1) (g : zt_k b h1 h2) : zt_k b h h2 := ⟨g.1.trans f.1, g.2.1.trans f.2.1, fun r k x y => (g.2.2.1 r k x y).trans (f.2.2.1 r k x y), fun r x y => (g.2.2.2.1 r x y).trans (f.2.2.2.1 r x y), fun r x y z => (g.2.2.2.2 r x y z).trans (f.2.2.2.2 r x y z)⟩
theorem zt_in0 (r : Nat) : ¬ zt_in 0 r := fun q => by
  have := q.2.2
  unfold zc_hf at this
  split at this <;> omega
theorem zt_q_k {h h' : zv_H} (b : Nat) (f : zt_q h h') : zt_k b h h' := ⟨f.1, f.2.1, fun r k x _ => f.2.2.1 r k x (zt_in0 r), fun r x _ => f.2.2.2.1 r x (zt_in0 r), fun r x y _ => f.2.2.2.2 r x y (zt_in0 r)⟩
theorem zt_q_r (h : zv_H) : zt_q h h := zt_k_r 0 h
theorem zt_q_t {h h1 h2 : zv_H} (f : zt_q h h1) (g : zt_q h1 h2) : zt_q h h2 := zt_k_t f g
theorem zt_q_sI {h : zv_H} {r k : Nat} (v : Int) (hx : zt_x r k) : zt_q h (zv_sI h r k v) := ⟨rfl, rfl, fun r' k' n _ => zy_In _ _ (fun q => n (by rw [q.1, q.2]; exact hx)), fun _ _ _ => rfl, fun _ _ _ _ => rfl⟩
theorem zt_q_sJ {h : zv_H} {r k : Nat} (v : Int64) (hr : zv_lay r = (1, 4)) : zt_q h (zv_sJ h r k v) := by
  refine ⟨rfl, rfl, fun _ _ _ _ => rfl, fun r' n _ => ?_, fun _ _ _ _ => rfl⟩
  funext k'
  exact if_neg (fun q => n (by rw [q.1]; exact hr))
theorem zt_q_sR {h : zv_H} {r k v : Nat} (hr : r = 18 ∨ r = 187) : zt_q h (zv_sR h r k v) := by
  refine ⟨rfl, rfl, fun _ _ _ _ => rfl, fun _ _ _ => rfl, fun r' n1 n2 _ => ?_⟩
  funext k'
  exact if_neg (fun q => by rcases hr with e | e <;> omega)
theorem zt_x5 {r k : Nat} (hr : zv_lay r = (1, 5)) (hk : k ≠ 14) : ¬ zt_x r k := by
  intro q
  rcases q with q | q | q | q
  · rw [q.1] at hr; cases hr
  · rw [q.1] at hr; cases hr
  · exact hk q.2
  · obtain ⟨a, ha, q⟩ := q
    rcases ha with e | e <;> subst e <;> rcases q with q | q | q | q | q | q | q | q
    all_goals first
      | (rw [q] at hr; exact absurd hr (by decide))
      | (rw [q.1] at hr; exact absurd hr (by decide))
/-- arrays of a State -/
theorem zt_xA {r k : Nat} (hr : zv_lay r = (2, 12) ∨ zv_lay r = (2, 120)) : ¬ zt_x r k := by
  have no : ∀ x : Nat × Nat, x ≠ (2, 12) → x ≠ (2, 120) → zv_lay r ≠ x := fun x h1 h2 e => by
    rcases hr with q | q
    · exact h1 (e.symm.trans q)
    · exact h2 (e.symm.trans q)
  intro q
  rcases q with q | q | q | q
  · exact no (1, 8) (by decide) (by decide) (by rw [q.1]; rfl)
  · exact no (1, 4) (by decide) (by decide) q.1
  · exact no (1, 5) (by decide) (by decide) q.1
  · obtain ⟨a, ha, q⟩ := q
    rcases ha with e | e <;> subst e <;> rcases q with q | q | q | q | q | q | q | q
    all_goals first
      | (rw [q] at hr; exact absurd hr (by decide))
      | (rw [q.1] at hr; exact absurd hr (by decide))
theorem zt_xH {a k : Nat} (ha : zv_lay a = (1, 0)) : ¬ zt_x a k := by
  intro q
  have h9 := zc_lh ha
  rcases q with q | q | q | q
  · omega
  · rw [q.1] at ha; cases ha
  · rw [q.1] at ha; cases ha
  · obtain ⟨b, hb, q⟩ := q
    omega
theorem zt_x5a {a k : Nat} (ha : zv_lay a = (1, 0)) : ¬ zt_x (a + 5) k := by
  intro q
  have h9 := zc_lh ha
  rcases q with q | q | q | q
  · omega
  · have := zc_l4 q.1; omega
  · rcases h9 with e | e <;> rw [e] at q <;> exact absurd q.1 (by decide)
  · obtain ⟨b, hb, q⟩ := q
    omega
/-- a History, a State: of its half -/
theorem zt_inH {a b : Nat} (ha : zv_lay a = (1, 0)) (hn : a ≠ b) {x : Nat} (hx : x ≤ 27) : ¬ zt_in b (a + x) := by
  intro q
  have h9 := zc_lh ha
  have := q.2.2
  unfold zc_hf at this
  split at this <;> omega
theorem zt_inS {a b : Nat} (ha : zv_lay a = (1, 0)) (hn : a ≠ b) {i x : Nat} (hi : i < 48) (hx : x ≤ 2) : ¬ zt_in b (zc_stt a i + x) := by
  intro q
  have h9 := zc_lh ha
  have := q.2.2
  unfold zc_hf zc_stt at this
  split at this <;> split at this <;> omega
/-- what the relation reads -/
theorem zt_U_k {a b : Nat} {c : Nat → Int} {h h' : zv_H} (t : zt_U a c h) (f : zt_k b h h') (hn : a ≠ b) : zt_U a c h' := by
  obtain ⟨f1, f2, f3, f4, f5⟩ := f
  have la := zt_U_la t
  have S : ∀ s, zm_st c s → zv_lay (zt_r a s) = (1, 5) := fun s hs => zt_r_l la hs.1
  have I : ∀ s, zm_st c s → ∀ x, x ≤ 2 → ¬ zt_in b (zt_r a s + x) := fun s hs x hx => by
    rw [zt_r_p hs.1.1]
    have := hs.1
    exact zt_inS la hn (show s.toNat < 48 by omega) hx
  have n4 : ∀ r x, zv_lay r = x → x ≠ (6, 48) → r ≠ 18 ∧ r ≠ 187 := fun r x e n => ⟨fun q => n (by rw [← e, q]; rfl), fun q => n (by rw [← e, q]; rfl)⟩
  have eI : ∀ s, zm_st c s → ∀ k, k ≠ 14 → zv_I h' (zt_r a s) k = zv_I h (zt_r a s) k := fun s hs k hk => f3 _ _ (zt_x5 (S s hs) hk) (I s hs 0 (by decide))
  have eJ : ∀ s, zm_st c s → ∀ k, zv_J h' (zt_r a s) k = zv_J h (zt_r a s) k := fun s hs k => congrFun (f4 (zt_r a s) (by rw [S s hs]; decide) (I s hs 0 (by decide))) k
  have eR : ∀ s, zm_st c s → ∀ k, zv_R h' (zt_r a s) k = zv_R h (zt_r a s) k := fun s hs k => congrFun (f5 _ (n4 _ _ (S s hs) (by decide)).1 (n4 _ _ (S s hs) (by decide)).2 (I s hs 0 (by decide))) k
  have eA : ∀ s, zm_st c s → ∀ x k, x = 1 ∨ x = 2 → zv_I h' (zt_r a s + x) k = zv_I h (zt_r a s + x) k := fun s hs x k hx => by
    have l5 := zc_l5 (S s hs)
    rcases hx with q | q
    · subst q
      exact f3 _ _ (zt_xA (Or.inl l5.1)) (I s hs 1 (by decide))
    · subst q
      exact f3 _ _ (zt_xA (Or.inr l5.2)) (I s hs 2 (by decide))
  have eS : ∀ i, i < 48 → ∀ k, k ≠ 14 → zv_I h' (zc_stt a i) k = zv_I h (zc_stt a i) k := fun i hi k hk => f3 _ _ (zt_x5 (zc_stl la hi).1 hk) (zt_inS la hn hi (x := 0) (by decide))
  refine ⟨la, zt_U_W t, fun i hi => (eS i hi 3 (by decide)).trans (zt_U_lv t i hi), fun i hi => (eS i hi 0 (by decide)).trans (zt_U_nr t i hi), fun s hs => ?_, ?_, ?_, ?_⟩
  · have u := zt_U_st t s hs
    refine ⟨(eR s hs 4).trans (zt_S_pa u), (eR s hs 5).trans (zt_S_fi u), (eI s hs 6 (by decide)).trans (zt_S_ac u), (eI s hs 7 (by decide)).trans (zt_S_ti u), (eI s hs 8 (by decide)).trans (zt_S_pl u), (eI s hs 9 (by decide)).trans (zt_S_sz u), (eI s hs 13 (by decide)).trans (zt_S_vi u), (eI s hs 15 (by decide)).trans (zt_S_an u), fun k hk => by rw [eJ s hs]; exact zt_S_nm u k hk, fun k hk => by rw [eJ s hs]; exact zt_S_bs u k hk, fun q k x hx => (eA s hs 1 k (Or.inl rfl)).trans (zt_S_tk u q k x hx), fun q k hk => ?_, fun l hl => (eI s hs 12 (by decide)).trans (zt_S_ln u l hl), fun l hl n x hx => (eA s hs 2 n (Or.inr rfl)).trans (zt_S_dc u l hl n x hx), fun l hl => (eI s hs 10 (by decide)).trans (zt_S_de u l hl), (eI s hs 11 (by decide)).trans (zt_S_ch u), zt_S_cw u⟩
    rw [f3 _ _ (zt_x5a la) (zt_inH la hn (by decide))]
    exact zt_S_gl u q k hk
  · exact (congrFun (f5 _ (n4 _ _ la (by decide)).1 (n4 _ _ la (by decide)).2 (zt_inH la hn (x := 0) (by decide))) 10).trans (zt_U_he t)
  · exact (f3 _ _ (zt_xH la) (zt_inH la hn (x := 0) (by decide))).trans (zt_U_nw t)
  · exact (f3 _ _ (zt_xH la) (zt_inH la hn (x := 0) (by decide))).trans (zt_U_ct t)
theorem zt_U_q {a : Nat} {c : Nat → Int} {h h' : zv_H} (t : zt_U a c h) (f : zt_q h h') : zt_U a c h' := zt_U_k t f (fun e => by
  have := zt_U_la t
  rw [e] at this
  exact absurd this (by decide))
/-! the reckoned cells of half a -/
theorem zt_row_l {a : Nat} (ha : zv_lay a = (1, 0)) : zv_lay (a + 8) = (1, 4) ∧ zv_lay (a + 9) = (6, 48) ∧ zv_lay (a + 10) = (2, 604) ∧ zv_lay (a + 11) = (3, 604) ∧ zv_lay (a + 12) = (3, 604) ∧ zv_lay (a + 13) = (2, 605) := by cases zc_lh ha with
  | inl e => rw [e]; exact ⟨rfl, rfl, rfl, rfl, rfl, rfl⟩
  | inr e => rw [e]; exact ⟨rfl, rfl, rfl, rfl, rfl, rfl⟩
theorem zt_x4 {a k : Nat} (ha : zv_lay a = (1, 0)) (hk : k = 5 ∨ k = 6 ∨ k = 7) : zt_x (a + 8) k := Or.inr (Or.inl ⟨(zt_row_l ha).1, hk⟩)
theorem zt_xa {a r k : Nat} (ha : zv_lay a = (1, 0)) (hr : r = a + 7 ∨ r = a + 10 ∨ r = a + 11 ∨ r = a + 12 ∨ r = a + 13 ∨ r = a + 25 ∨ r = a + 27) : zt_x r k := by
  refine Or.inr (Or.inr (Or.inr ⟨a, zc_lh ha, ?_⟩))
  omega
theorem zt_sRp {g : zv_H} {a k v : Nat} (hL : zt_L g) (ha : zv_lay a = (1, 0)) : zt_L (zv_sR g (a + 9) k v) := by
  have h9 := zc_lh ha
  refine zl_sR hL (fun e => ?_) (by omega) (by omega)
  rw [(zt_row_l ha).2.1] at e
  cases e
