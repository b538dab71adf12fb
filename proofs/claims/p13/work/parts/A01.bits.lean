/-! A01.bits -/
section
/-! ===== the tie: bits of a long ===== -/
def zt_b (v : Int64) (i : Nat) : Bool := v.toBitVec.getLsbD i
theorem zt_b_ge (v : Int64) {i : Nat} (hi : 64 ≤ i) : zt_b v i = false := BitVec.getLsbD_of_ge _ _ hi
theorem zt_b_ext {v w : Int64} (h : ∀ i, i < 64 → zt_b v i = zt_b w i) : v = w := Int64.toBitVec_inj.mp (BitVec.eq_of_getLsbD_eq (fun i hi => h i hi))
theorem zt_b_and (v w : Int64) (i : Nat) : zt_b (v &&& w) i = (zt_b v i && zt_b w i) := by
  unfold zt_b
  rw [Int64.toBitVec_and, BitVec.getLsbD_and]
theorem zt_b_or (v w : Int64) (i : Nat) : zt_b (v ||| w) i = (zt_b v i || zt_b w i) := by
  unfold zt_b
  rw [Int64.toBitVec_or, BitVec.getLsbD_or]
theorem zt_b_m1 (i : Nat) (hi : i < 64) : zt_b (-1) i = true := by
  have : ∀ i, i < 64 → zt_b (-1) i = true := by decide +kernel
  exact this i hi
theorem zt_b_not (v : Int64) {i : Nat} (hi : i < 64) : zt_b (v ^^^ (-1 : Int64)) i = !zt_b v i := by
  have e := zt_b_m1 i hi
  unfold zt_b at e ⊢
  rw [Int64.toBitVec_xor, BitVec.getLsbD_xor, e, Bool.xor_true]
theorem zt_b_0 (i : Nat) : zt_b (Int64.ofNat 0) i = false := by
  unfold zt_b
  exact BitVec.getLsbD_zero
/-- the bit of a number -/
def zt_bt (n : Nat) : Int64 := zv_lshl (Int64.ofNat 1) (n : Int)
theorem zt_b_bt {n i : Nat} (hn : n < 48) (hi : i < 64) : zt_b (zt_bt n) i = decide (i = n) := by
  have : ∀ n, n < 48 → ∀ i, i < 64 → zt_b (zt_bt n) i = decide (i = n) := by decide +kernel
  exact this n hn i hi
theorem zt_lcmp (v : Int64) : zv_lcmp v (Int64.ofNat 0) = 0 ↔ ∀ i, i < 64 → zt_b v i = false := by
  unfold zv_lcmp
  constructor
  · intro h i _
    by_cases e : v = Int64.ofNat 0
    · rw [e]; exact zt_b_0 i
    · rw [if_neg e] at h
      split at h <;> exact absurd h (by decide)
  · intro h
    rw [if_pos (zt_b_ext (fun i hi => (h i hi).trans (zt_b_0 i).symm))]
theorem zt_lcmp_bt (v : Int64) {n : Nat} (hn : n < 48) : zv_lcmp (v &&& zt_bt n) (Int64.ofNat 0) = 0 ↔ zt_b v n = false := by
  rw [zt_lcmp]
  constructor
  · intro h
    have := h n (by omega)
    rw [zt_b_and, zt_b_bt hn (by omega), decide_eq_true rfl, Bool.and_true] at this
    exact this
  · intro h i hi
    rw [zt_b_and, zt_b_bt hn hi]
    by_cases e : i = n
    · rw [e, h, Bool.false_and]
    · rw [decide_eq_false e, Bool.and_false]
theorem zt_bt_lcmp (v : Int64) {n : Nat} (hn : n < 48) : zv_lcmp (zt_bt n &&& v) (Int64.ofNat 0) = 0 ↔ zt_b v n = false := by
  rw [zt_lcmp]
  constructor
  · intro h
    have := h n (by omega)
    rw [zt_b_and, zt_b_bt hn (by omega), decide_eq_true rfl, Bool.true_and] at this
    exact this
  · intro h i hi
    rw [zt_b_and, zt_b_bt hn hi]
    by_cases e : i = n
    · rw [e, h, Bool.and_false]
    · rw [decide_eq_false e, Bool.false_and]
/-- v >>> n & 1 -/
theorem zt_lushr (v : Int64) {n : Nat} (hn : n < 48) : zv_lcmp (zv_lushr v (n : Int) &&& Int64.ofNat 1) (Int64.ofNat 0) = 0 ↔ zt_b v n = false := by
  have e1 : ∀ n : Nat, n < 48 → ((Int32.ofInt (n : Int)).toInt64.toUInt64 &&& Int64.toUInt64 63).toNat = n := by decide +kernel
  have ebit : ∀ i, zt_b (zv_lushr v (n : Int)) i = zt_b v (n + i) := by
    intro i
    have e2 : (zv_lushr v (n : Int)).toBitVec = v.toBitVec >>> n := by
      unfold zv_lushr
      show (v.toUInt64 >>> ((Int32.ofInt (n : Int)).toInt64.toUInt64 &&& Int64.toUInt64 63)).toBitVec = _
      rw [UInt64.toBitVec_shiftRight]
      have e3 : (((Int32.ofInt (n : Int)).toInt64.toUInt64 &&& Int64.toUInt64 63).toBitVec % 64).toNat = n := by
        rw [BitVec.toNat_umod]
        have := e1 n hn
        have e4 : ((Int32.ofInt (n : Int)).toInt64.toUInt64 &&& Int64.toUInt64 63).toBitVec.toNat = n := this
        rw [e4]
        exact Nat.mod_eq_of_lt (by show n < 64; omega)
      rw [BitVec.ushiftRight_eq', e3]
      rfl
    unfold zt_b
    rw [e2, BitVec.getLsbD_ushiftRight]
  have b1 : ∀ i, i < 64 → zt_b (Int64.ofNat 1) i = decide (i = 0) := by decide +kernel
  rw [zt_lcmp]
  constructor
  · intro h
    have := h 0 (by omega)
    rw [zt_b_and, b1 0 (by omega), decide_eq_true rfl, Bool.and_true, ebit] at this
    exact this
  · intro h i hi
    rw [zt_b_and, b1 i hi]
    by_cases e : i = 0
    · rw [e, ebit, Nat.add_zero, h, Bool.false_and]
    · rw [decide_eq_false e, Bool.and_false]
end
/-! A02.light -/
section
/-! ===== the tie: reading and writing, lightly ===== -/
/-- what never changes: how many cells, the final refs, the States of a History -/
def zt_L (g : zv_H) : Prop := zv_n g = 372 ∧ (∀ r k, (zv_lay r).1 = 1 → zc_off (zv_lay r).2 k ≠ 0 → zv_R g r k = r + zc_off (zv_lay r).2 k) ∧ ∀ a i, zv_lay a = (1, 0) → i < 48 → zv_R g (a + 4) i = zc_stt a i
theorem zt_L_A {h : zv_H} (hA : zc_A h) : zt_L h := ⟨hA.1.1, hA.1.2.1, hA.1.2.2.1⟩
section
variable {g : zv_H} {r c k n : Nat}
theorem zl_n (hL : zt_L g) (hr : ¬ (zv_lay r).1 = 0) : r ≤ zv_n g := by
  rw [hL.1]
  exact Nat.le_of_lt_succ (zv_lay_lt hr)
theorem zl_ob (hL : zt_L g) (l : zv_lay r = (1, c)) : zv_ob g r c := ⟨zl_n hL (zc_ly l), l⟩
theorem zl_gI (hL : zt_L g) (l : zv_lay r = (1, c)) (k : Nat) : zv_gI g r c k = some (zv_I g r k) := if_pos (zl_ob hL l)
theorem zl_gJ (hL : zt_L g) (l : zv_lay r = (1, c)) (k : Nat) : zv_gJ g r c k = some (zv_J g r k) := if_pos (zl_ob hL l)
theorem zl_gR (hL : zt_L g) (l : zv_lay r = (1, c)) (k : Nat) : zv_gR g r c k = some (zv_R g r k) := if_pos (zl_ob hL l)
theorem zl_gF (hL : zt_L g) (l : zv_lay r = (1, c)) (k v : Nat) (hv : zc_off c k = v := by rfl) (h0 : v ≠ 0 := by decide) : zv_gR g r c k = some (r + v) := by
  rw [zl_gR hL l, hL.2.1 r k (by rw [l]) (by rw [l]; dsimp only; rw [hv]; exact h0), l, hv]
theorem zl_pI (hL : zt_L g) (l : zv_lay r = (1, c)) (k : Nat) (v : Int) : zv_pI g r c k v = some (zv_sI g r k v) := if_pos (zl_ob hL l)
theorem zl_pJ (hL : zt_L g) (l : zv_lay r = (1, c)) (k : Nat) (v : Int64) : zv_pJ g r c k v = some (zv_sJ g r k v) := if_pos (zl_ob hL l)
theorem zl_pR (hL : zt_L g) (l : zv_lay r = (1, c)) (k v : Nat) : zv_pR g r c k v = some (zv_sR g r k v) := if_pos (zl_ob hL l)
theorem zl_pZ (hL : zt_L g) (l : zv_lay r = (1, c)) (k : Nat) {v : Int} (hv : v = 0 ∨ v = 1) : zv_pZ g r c k v = some (zv_sI g r k v) := if_pos ⟨zl_ob hL l, hv⟩
theorem zl_aI (hL : zt_L g) (l : zv_lay r = (2, n)) {j : Int} (j0 : 0 ≤ j) (j1 : j < n) : zv_aI g r j = some (zv_I g r j.toNat) := by
  have h1 := zv_lay_lt (zc_ly l)
  unfold zv_aI
  rw [if_neg (show ¬ r = 2000000 by omega), if_pos ⟨zl_n hL (zc_ly l), by rw [l], j0, by rw [l]; exact j1⟩]
theorem zl_wI (hL : zt_L g) (l : zv_lay r = (2, n)) {j : Int} (j0 : 0 ≤ j) (j1 : j < n) (v : Int) : zv_wI g r j v = some (zv_sI g r j.toNat v) := by
  unfold zv_wI
  rw [if_pos ⟨zl_n hL (zc_ly l), by rw [l], j0, by rw [l]; exact j1⟩]
theorem zl_aB (hL : zt_L g) (l : zv_lay r = (3, n)) {j : Int} (j0 : 0 ≤ j) (j1 : j < n) : zv_aB g r j = some (zv_I g r j.toNat) := by
  have h1 := zv_lay_lt (zc_ly l)
  unfold zv_aB
  rw [if_neg (by omega), if_pos ⟨zl_n hL (zc_ly l), by rw [l]; exact Or.inl rfl, j0, by rw [l]; exact j1⟩]
theorem zl_wB (hL : zt_L g) (l : zv_lay r = (3, n)) {j : Int} (j0 : 0 ≤ j) (j1 : j < n) {v : Int} (hv : v = 0 ∨ v = 1) : zv_wB g r j v = some (zv_sI g r j.toNat v) := by
  have e : zv_nz v = v := by unfold zv_nz; omega
  unfold zv_wB
  rw [if_pos ⟨zl_n hL (zc_ly l), by rw [l]; exact Or.inl rfl, j0, by rw [l]; exact j1⟩, if_pos (by rw [l]), e]
theorem zl_al (hL : zt_L g) (l : zv_lay r = (2, n)) : zv_al g r = some (n : Int) := by
  have h1 := zv_lay_lt (zc_ly l)
  unfold zv_al
  rw [if_neg (show ¬ r = 2000000 by omega), if_neg (show ¬ (1000100 ≤ r ∧ r < 1000124) by omega), if_pos ⟨zl_n hL (zc_ly l), by rw [l]; exact Nat.le_refl 2⟩, l]
theorem zl_aR (hL : zt_L g) (l : zv_lay r = (6, n)) {j : Int} (j0 : 0 ≤ j) (j1 : j < n) : zv_aR g r j = some (zv_R g r j.toNat) := by
  unfold zv_aR
  rw [if_pos ⟨zl_n hL (zc_ly l), by rw [l], j0, by rw [l]; exact j1⟩]
theorem zl_wR (hL : zt_L g) (l : zv_lay r = (6, n)) {j : Int} (j0 : 0 ≤ j) (j1 : j < n) {v : Nat} (hv : zv_lay v = (1, 5)) : zv_wR g r j v = some (zv_sR g r j.toNat v) := by
  unfold zv_wR
  rw [if_pos ⟨⟨zl_n hL (zc_ly l), by rw [l], j0, by rw [l]; exact j1⟩, Or.inr ⟨zl_n hL (zc_ly hv), hv⟩⟩]
theorem zl_l4 {a : Nat} (ha : zv_lay a = (1, 0)) : zv_lay (a + 4) = (6, 48) := by cases zc_lh ha with
  | inl e => rw [e]; rfl
  | inr e => rw [e]; rfl
theorem zl_aS (hL : zt_L g) {a : Nat} (ha : zv_lay a = (1, 0)) {j : Int} (j0 : 0 ≤ j) (j1 : j < 48) : zv_aR g (a + 4) j = some (zc_stt a j.toNat) := by
  rw [zl_aR hL (zl_l4 ha) j0 j1, hL.2.2 a j.toNat ha (by omega)]
theorem zl_sR (hL : zt_L g) {v : Nat} (h1 : (zv_lay r).1 = 1 → zc_off (zv_lay r).2 k = 0) (h2 : r ≠ 13) (h3 : r ≠ 182) : zt_L (zv_sR g r k v) := by
  refine ⟨hL.1, fun x y hx hy => ?_, fun a i ha hi => ?_⟩
  · have e : zv_R (zv_sR g r k v) x y = zv_R g x y := if_neg (fun q => hy (by rw [q.1] at hx ⊢; rw [q.2]; exact h1 hx))
    rw [e]
    exact hL.2.1 x y hx hy
  · have e : zv_R (zv_sR g r k v) (a + 4) i = zv_R g (a + 4) i := if_neg (fun q => by have := zc_lh ha; omega)
    rw [e]
    exact hL.2.2 a i ha hi
end
theorem zy_I (g : zv_H) (r k : Nat) (v : Int) : zv_I (zv_sI g r k v) r k = v := if_pos ⟨rfl, rfl⟩
theorem zy_In (g : zv_H) {r k a b : Nat} (v : Int) (hn : ¬ (a = r ∧ b = k)) : zv_I (zv_sI g r k v) a b = zv_I g a b := if_neg hn
theorem zy_J (g : zv_H) (r k : Nat) (v : Int64) : zv_J (zv_sJ g r k v) r k = v := if_pos ⟨rfl, rfl⟩
theorem zy_Jn (g : zv_H) {r k a b : Nat} (v : Int64) (hn : ¬ (a = r ∧ b = k)) : zv_J (zv_sJ g r k v) a b = zv_J g a b := if_neg hn
theorem zy_R (g : zv_H) (r k v : Nat) : zv_R (zv_sR g r k v) r k = v := if_pos ⟨rfl, rfl⟩
theorem zy_Rn (g : zv_H) {r k a b : Nat} (v : Nat) (hn : ¬ (a = r ∧ b = k)) : zv_R (zv_sR g r k v) a b = zv_R g a b := if_neg hn
/-- what is known of one answer twice -/
theorem zt_two {α : Type} {o : Option α} {P Q : α → Prop} (p : zm_R o P) (q : zm_R o Q) : zm_R o (fun v => P v ∧ Q v) := by
  obtain ⟨v, e, hv⟩ := p
  obtain ⟨w, e2, hw⟩ := q
  rw [e] at e2
  cases e2
  exact ⟨v, e, hv, hw⟩
end
/-! A03.rel -/
section
/-! ===== the tie: the class's cells over the reference's ===== -/
/-- a letter's number in the class -/
def zt_id (p : Int × Int) : Int := if p.1 = 0 then p.2 else 40 + (p.1 - 1) * 12 + p.2
def zt_ok (p : Int × Int) : Prop := (p.1 = 0 ∧ 0 ≤ p.2 ∧ p.2 < 40) ∨ ((1 ≤ p.1 ∧ p.1 ≤ 47) ∧ 0 ≤ p.2 ∧ p.2 < 12)
theorem zt_id_r {p : Int × Int} (h : zt_ok p) : 0 ≤ zt_id p ∧ zt_id p < 604 := by
  unfold zt_id
  rcases h with h | h
  · rw [if_pos h.1]; omega
  · rw [if_neg (by omega)]; omega
theorem zt_id_inj {p q : Int × Int} (hp : zt_ok p) (hq : zt_ok q) (e : zt_id p = zt_id q) : p = q := by
  obtain ⟨a, b⟩ := p
  obtain ⟨x, y⟩ := q
  unfold zt_id at e
  dsimp only at e
  rcases hp with h | h <;> rcases hq with g | g <;> dsimp only at h g
  · rw [if_pos h.1, if_pos g.1] at e
    rw [h.1, g.1, e]
  · rw [if_pos h.1, if_neg (by omega)] at e; omega
  · rw [if_neg (by omega), if_pos g.1] at e; omega
  · rw [if_neg (by omega), if_neg (by omega)] at e
    rw [show a = x by omega, show b = y by omega]
/-- a State's cell, by its number -/
def zt_r (a : Nat) (p : Int) : Nat := if p < 0 then 0 else zc_stt a p.toNat
theorem zt_r_n {a : Nat} {p : Int} (h : p < 0) : zt_r a p = 0 := if_pos h
theorem zt_r_p {a : Nat} {p : Int} (h : 0 ≤ p) : zt_r a p = zc_stt a p.toNat := if_neg (by omega)
theorem zt_r_l {a : Nat} (ha : zv_lay a = (1, 0)) {p : Int} (h : 0 ≤ p ∧ p ≤ 47) : zv_lay (zt_r a p) = (1, 5) := by
  rw [zt_r_p h.1]
  exact (zc_stl ha (show p.toNat < 48 by omega)).1
theorem zt_r_h {a : Nat} (ha : zv_lay a = (1, 0)) {p : Int} (h : 0 ≤ p ∧ p ≤ 47) : zc_hf (zt_r a p) = a := by
  rw [zt_r_p h.1]
  exact (zc_stl ha (show p.toNat < 48 by omega)).2.1
theorem zt_r_inj {a : Nat} (ha : zv_lay a = (1, 0)) {p q : Int} (hp : 0 ≤ p ∧ p ≤ 47) (hq : 0 ≤ q ∧ q ≤ 47) (e : zt_r a p = zt_r a q) : p = q := by
  rw [zt_r_p hp.1, zt_r_p hq.1] at e
  have := zc_stinj ha e
  omega
/-- what one leans on, straight -/
def zt_ln (c : Nat → Int) (s t : Int) : Prop := (zm_o c s 2 = 0 ∧ zm_o c s 8 = t) ∨ (zm_o c s 2 = 1 ∧ ∃ p ∈ zm_tk c s, p.1 = t)
/-- what names and anchors may be: of the line, ahead of it -/
def zt_cw (c : Nat → Int) (s : Int) : Prop := (∀ l, zm_Ln c (s :: l) s → ∀ t : Int, 0 ≤ t → t < 48 → zm_nm c s t → t ∈ l ∧ zm_ed c t ∧ ¬ zm_ed c s) ∧ (∀ l, zm_Ln c (s :: l) s → zm_o c s 2 = 0 → 0 ≤ zm_o c s 8 → (zm_o c s 8, zm_o c s 9) ∈ zm_row c l) ∧ (zm_o c s 2 = -1 → s = 0) ∧ (zm_o c s 2 = -1 ∨ zm_o c s 2 = 0 ∨ zm_o c s 2 = 1 ∨ zm_o c s 2 = 2 ∨ zm_o c s 2 = 3) ∧ ((zm_o c s 2 = 0 ∨ s = 0) → ∀ k : Nat, (k : Int) < zm_o c s 5 → k < 60 → 0 ≤ zm_o c s (12 + (k : Int))) ∧ (zm_o c s 2 = 1 → zm_o c s 5 ≤ 12 → (zm_tk c s).Nodup)
theorem zt_cw_nm {c : Nat → Int} {s : Int} (t : zt_cw c s) : ∀ l, zm_Ln c (s :: l) s → ∀ t : Int, 0 ≤ t → t < 48 → zm_nm c s t → t ∈ l ∧ zm_ed c t ∧ ¬ zm_ed c s := t.1
theorem zt_cw_an {c : Nat → Int} {s : Int} (t : zt_cw c s) : ∀ l, zm_Ln c (s :: l) s → zm_o c s 2 = 0 → 0 ≤ zm_o c s 8 → (zm_o c s 8, zm_o c s 9) ∈ zm_row c l := t.2.1
theorem zt_cw_s0 {c : Nat → Int} {s : Int} (t : zt_cw c s) : zm_o c s 2 = -1 → s = 0 := t.2.2.1
theorem zt_cw_ac {c : Nat → Int} {s : Int} (t : zt_cw c s) : zm_o c s 2 = -1 ∨ zm_o c s 2 = 0 ∨ zm_o c s 2 = 1 ∨ zm_o c s 2 = 2 ∨ zm_o c s 2 = 3 := t.2.2.2.1
theorem zt_cw_lt {c : Nat → Int} {s : Int} (t : zt_cw c s) : (zm_o c s 2 = 0 ∨ s = 0) → ∀ k : Nat, (k : Int) < zm_o c s 5 → k < 60 → 0 ≤ zm_o c s (12 + (k : Int)) := t.2.2.2.2.1
theorem zt_cw_tn {c : Nat → Int} {s : Int} (t : zt_cw c s) : zm_o c s 2 = 1 → zm_o c s 5 ≤ 12 → (zm_tk c s).Nodup := t.2.2.2.2.2
/-- the letters that one sees at the end of a line -/
def zt_dc (c : Nat → Int) (L : List Int) : List (Int × Int) := (zm_row c L).filter (zm_sn c L)
/-- one State that is there -/
def zt_S (a : Nat) (c : Nat → Int) (h : zv_H) (s : Int) : Prop := (zv_R h (zt_r a s) 4 = zt_r a (zm_o c s 1)) ∧ (zv_R h (zt_r a s) 5 = zt_r a (zm_o c s 6)) ∧ (zv_I h (zt_r a s) 6 = zm_o c s 2) ∧ (zv_I h (zt_r a s) 7 = zm_o c s 3) ∧ (zv_I h (zt_r a s) 8 = zm_o c s 4) ∧ (zv_I h (zt_r a s) 9 = zm_o c s 5) ∧ (zv_I h (zt_r a s) 13 = zm_o c s 7) ∧ (zv_I h (zt_r a s) 15 = (if zm_o c s 2 = 0 ∧ 0 ≤ zm_o c s 8 then zt_id (zm_o c s 8, zm_o c s 9) else -1)) ∧ (∀ t : Nat, t < 64 → (zt_b (zv_J h (zt_r a s) 16) t = true ↔ t < 48 ∧ zm_nm c s t)) ∧ (∀ t : Nat, t < 64 → (zt_b (zv_J h (zt_r a s) 17) t = true ↔ 1 ≤ t ∧ t < 48 ∧ zt_ln c s t)) ∧ (zm_o c s 2 = 1 → ∀ (k : Nat) (x : Int × Int), (zm_tk c s)[k]? = some x → zv_I h (zt_r a s + 1) k = zt_id x) ∧ ((zm_o c s 2 = 0 ∨ s = 0) → ∀ k : Nat, (k : Int) < zm_o c s 5 → zv_I h (a + 5) (zt_id (s, (k : Int))).toNat = zm_o c s (12 + (k : Int))) ∧ (∀ l, zm_Ln c (s :: l) s → zv_I h (zt_r a s) 12 = (zt_dc c (s :: l)).length) ∧ (∀ l, zm_Ln c (s :: l) s → ∀ (n : Nat) (x : Int × Int), (zt_dc c (s :: l))[n]? = some x → zv_I h (zt_r a s + 2) n = zt_id x) ∧ (∀ l, zm_Ln c (s :: l) s → zv_I h (zt_r a s) 10 = l.length) ∧ (zv_I h (zt_r a s) 11 = zm_nch c s) ∧ (zt_cw c s)
theorem zt_S_pa {a : Nat} {c : Nat → Int} {h : zv_H} {s : Int} (t : zt_S a c h s) : zv_R h (zt_r a s) 4 = zt_r a (zm_o c s 1) := t.1
theorem zt_S_fi {a : Nat} {c : Nat → Int} {h : zv_H} {s : Int} (t : zt_S a c h s) : zv_R h (zt_r a s) 5 = zt_r a (zm_o c s 6) := t.2.1
theorem zt_S_ac {a : Nat} {c : Nat → Int} {h : zv_H} {s : Int} (t : zt_S a c h s) : zv_I h (zt_r a s) 6 = zm_o c s 2 := t.2.2.1
theorem zt_S_ti {a : Nat} {c : Nat → Int} {h : zv_H} {s : Int} (t : zt_S a c h s) : zv_I h (zt_r a s) 7 = zm_o c s 3 := t.2.2.2.1
theorem zt_S_pl {a : Nat} {c : Nat → Int} {h : zv_H} {s : Int} (t : zt_S a c h s) : zv_I h (zt_r a s) 8 = zm_o c s 4 := t.2.2.2.2.1
theorem zt_S_sz {a : Nat} {c : Nat → Int} {h : zv_H} {s : Int} (t : zt_S a c h s) : zv_I h (zt_r a s) 9 = zm_o c s 5 := t.2.2.2.2.2.1
theorem zt_S_vi {a : Nat} {c : Nat → Int} {h : zv_H} {s : Int} (t : zt_S a c h s) : zv_I h (zt_r a s) 13 = zm_o c s 7 := t.2.2.2.2.2.2.1
theorem zt_S_an {a : Nat} {c : Nat → Int} {h : zv_H} {s : Int} (t : zt_S a c h s) : zv_I h (zt_r a s) 15 = (if zm_o c s 2 = 0 ∧ 0 ≤ zm_o c s 8 then zt_id (zm_o c s 8, zm_o c s 9) else -1) := t.2.2.2.2.2.2.2.1
theorem zt_S_nm {a : Nat} {c : Nat → Int} {h : zv_H} {s : Int} (t : zt_S a c h s) : ∀ t : Nat, t < 64 → (zt_b (zv_J h (zt_r a s) 16) t = true ↔ t < 48 ∧ zm_nm c s t) := t.2.2.2.2.2.2.2.2.1
theorem zt_S_bs {a : Nat} {c : Nat → Int} {h : zv_H} {s : Int} (t : zt_S a c h s) : ∀ t : Nat, t < 64 → (zt_b (zv_J h (zt_r a s) 17) t = true ↔ 1 ≤ t ∧ t < 48 ∧ zt_ln c s t) := t.2.2.2.2.2.2.2.2.2.1
theorem zt_S_tk {a : Nat} {c : Nat → Int} {h : zv_H} {s : Int} (t : zt_S a c h s) : zm_o c s 2 = 1 → ∀ (k : Nat) (x : Int × Int), (zm_tk c s)[k]? = some x → zv_I h (zt_r a s + 1) k = zt_id x := t.2.2.2.2.2.2.2.2.2.2.1
theorem zt_S_gl {a : Nat} {c : Nat → Int} {h : zv_H} {s : Int} (t : zt_S a c h s) : (zm_o c s 2 = 0 ∨ s = 0) → ∀ k : Nat, (k : Int) < zm_o c s 5 → zv_I h (a + 5) (zt_id (s, (k : Int))).toNat = zm_o c s (12 + (k : Int)) := t.2.2.2.2.2.2.2.2.2.2.2.1
theorem zt_S_ln {a : Nat} {c : Nat → Int} {h : zv_H} {s : Int} (t : zt_S a c h s) : ∀ l, zm_Ln c (s :: l) s → zv_I h (zt_r a s) 12 = (zt_dc c (s :: l)).length := t.2.2.2.2.2.2.2.2.2.2.2.2.1
theorem zt_S_dc {a : Nat} {c : Nat → Int} {h : zv_H} {s : Int} (t : zt_S a c h s) : ∀ l, zm_Ln c (s :: l) s → ∀ (n : Nat) (x : Int × Int), (zt_dc c (s :: l))[n]? = some x → zv_I h (zt_r a s + 2) n = zt_id x := t.2.2.2.2.2.2.2.2.2.2.2.2.2.1
theorem zt_S_de {a : Nat} {c : Nat → Int} {h : zv_H} {s : Int} (t : zt_S a c h s) : ∀ l, zm_Ln c (s :: l) s → zv_I h (zt_r a s) 10 = l.length := t.2.2.2.2.2.2.2.2.2.2.2.2.2.2.1
theorem zt_S_ch {a : Nat} {c : Nat → Int} {h : zv_H} {s : Int} (t : zt_S a c h s) : zv_I h (zt_r a s) 11 = zm_nch c s := t.2.2.2.2.2.2.2.2.2.2.2.2.2.2.2.1
theorem zt_S_cw {a : Nat} {c : Nat → Int} {h : zv_H} {s : Int} (t : zt_S a c h s) : zt_cw c s := t.2.2.2.2.2.2.2.2.2.2.2.2.2.2.2.2
/-- the States, here, the letters -/
def zt_U (a : Nat) (c : Nat → Int) (h : zv_H) : Prop := (zv_lay a = (1, 0)) ∧ (zm_W c) ∧ (∀ i : Nat, i < 48 → zv_I h (zc_stt a i) 3 = zm_o c i 0) ∧ (∀ i : Nat, i < 48 → zv_I h (zc_stt a i) 0 = i) ∧ (∀ s, zm_st c s → zt_S a c h s) ∧ (zv_R h a 10 = zt_r a (c 0)) ∧ (zv_I h a 11 = c 1) ∧ (zv_I h a 12 = zm_nst c)
theorem zt_U_la {a : Nat} {c : Nat → Int} {h : zv_H} (t : zt_U a c h) : zv_lay a = (1, 0) := t.1
theorem zt_U_W {a : Nat} {c : Nat → Int} {h : zv_H} (t : zt_U a c h) : zm_W c := t.2.1
theorem zt_U_lv {a : Nat} {c : Nat → Int} {h : zv_H} (t : zt_U a c h) : ∀ i : Nat, i < 48 → zv_I h (zc_stt a i) 3 = zm_o c i 0 := t.2.2.1
theorem zt_U_nr {a : Nat} {c : Nat → Int} {h : zv_H} (t : zt_U a c h) : ∀ i : Nat, i < 48 → zv_I h (zc_stt a i) 0 = i := t.2.2.2.1
theorem zt_U_st {a : Nat} {c : Nat → Int} {h : zv_H} (t : zt_U a c h) : ∀ s, zm_st c s → zt_S a c h s := t.2.2.2.2.1
theorem zt_U_he {a : Nat} {c : Nat → Int} {h : zv_H} (t : zt_U a c h) : zv_R h a 10 = zt_r a (c 0) := t.2.2.2.2.2.1
theorem zt_U_nw {a : Nat} {c : Nat → Int} {h : zv_H} (t : zt_U a c h) : zv_I h a 11 = c 1 := t.2.2.2.2.2.2.1
theorem zt_U_ct {a : Nat} {c : Nat → Int} {h : zv_H} (t : zt_U a c h) : zv_I h a 12 = zm_nst c := t.2.2.2.2.2.2.2
def zt_T (a : Nat) (c : Nat → Int) (h : zv_H) : Prop := zc_A h ∧ zt_U a c h
/-- cells that are reckoned anew for the call that asks -/
def zt_x (r k : Nat) : Prop := (r = 1 ∧ k = 6) ∨ ((zv_lay r = (1, 4)) ∧ (k = 5 ∨ k = 6 ∨ k = 7)) ∨ (zv_lay r = (1, 5) ∧ k = 14) ∨ ∃ a, (a = 9 ∨ a = 178) ∧ (r = a + 7 ∨ r = a + 10 ∨ r = a + 11 ∨ r = a + 12 ∨ r = a + 13 ∨ r = a + 25 ∨ r = a + 27 ∨ (r = a + 26 ∧ k = 1))
/-- one half's cells -/
def zt_in (b r : Nat) : Prop := 9 ≤ r ∧ r < 347 ∧ zc_hf r = b
/-- the same but for those, and half b -/
def zt_k (b : Nat) (h h' : zv_H) : Prop := h'.1 = h.1 ∧ h'.2.2.2.2 = h.2.2.2.2 ∧ (∀ r k, ¬ zt_x r k → ¬ zt_in b r → zv_I h' r k = zv_I h r k) ∧ (∀ r, zv_lay r ≠ (1, 4) → ¬ zt_in b r → h'.2.2.1 r = h.2.2.1 r) ∧ ∀ r, r ≠ 18 → r ≠ 187 → ¬ zt_in b r → h'.2.2.2.1 r = h.2.2.2.1 r
/-- the same but for those -/
def zt_q (h h' : zv_H) : Prop := zt_k 0 h h'
theorem zt_k_r (b : Nat) (h : zv_H) : zt_k b h h := ⟨rfl, rfl, fun _ _ _ _ => rfl, fun _ _ _ => rfl, fun _ _ _ _ => rfl⟩
theorem zt_k_t {b : Nat} {h h1 h2 : zv_H} (f : zt_k b h h1) (g : zt_k b h1 h2) : zt_k b h h2 := ⟨g.1.trans f.1, g.2.1.trans f.2.1, fun r k x y => (g.2.2.1 r k x y).trans (f.2.2.1 r k x y), fun r x y => (g.2.2.2.1 r x y).trans (f.2.2.2.1 r x y), fun r x y z => (g.2.2.2.2 r x y z).trans (f.2.2.2.2 r x y z)⟩
theorem zt_in0 (r : Nat) : ¬ zt_in 0 r := fun q => by
  have := q.2.2
  unfold zc_hf at this
  split at this <;> omega
theorem zt_q_k {h h' : zv_H} (b : Nat) (f : zt_q h h') : zt_k b h h' := ⟨f.1, f.2.1, fun r k x _ => f.2.2.1 r k x (zt_in0 r), fun r x _ => f.2.2.2.1 r x (zt_in0 r), fun r x y _ => f.2.2.2.2 r x y (zt_in0 r)⟩
theorem zt_q_r (h : zv_H) : zt_q h h := zt_k_r 0 h
theorem zt_q_t {h h1 h2 : zv_H} (f : zt_q h h1) (g : zt_q h1 h2) : zt_q h h2 := zt_k_t f g
theorem zt_q_sI {h : zv_H} {r k : Nat} (v : Int) (hx : zt_x r k) : zt_q h (zv_sI h r k v) := ⟨rfl, rfl, fun r' k' n _ => zy_In _ _ (fun q => n (by rw [q.1, q.2]; exact hx)), fun _ _ _ => rfl, fun _ _ _ _ => rfl⟩
theorem zt_q_sJ {h : zv_H} {r k : Nat} (v : Int64) (hr : zv_lay r = (1, 4)) : zt_q h (zv_sJ h r k v) := by
  refine ⟨rfl, rfl, fun _ _ _ _ => rfl, fun r' n _ => ?_, fun _ _ _ _ => rfl⟩
  funext k'
  exact if_neg (fun q => n (by rw [q.1]; exact hr))
theorem zt_q_sR {h : zv_H} {r k v : Nat} (hr : r = 18 ∨ r = 187) : zt_q h (zv_sR h r k v) := by
  refine ⟨rfl, rfl, fun _ _ _ _ => rfl, fun _ _ _ => rfl, fun r' n1 n2 _ => ?_⟩
  funext k'
  exact if_neg (fun q => by rcases hr with e | e <;> omega)
theorem zt_x5 {r k : Nat} (hr : zv_lay r = (1, 5)) (hk : k ≠ 14) : ¬ zt_x r k := by
  intro q
  rcases q with q | q | q | q
  · rw [q.1] at hr; cases hr
  · rw [q.1] at hr; cases hr
  · exact hk q.2
  · obtain ⟨a, ha, q⟩ := q
    rcases ha with e | e <;> subst e <;> rcases q with q | q | q | q | q | q | q | q
    all_goals first
      | (rw [q] at hr; exact absurd hr (by decide))
      | (rw [q.1] at hr; exact absurd hr (by decide))
/-- arrays of a State -/
theorem zt_xA {r k : Nat} (hr : zv_lay r = (2, 12) ∨ zv_lay r = (2, 120)) : ¬ zt_x r k := by
  have no : ∀ x : Nat × Nat, x ≠ (2, 12) → x ≠ (2, 120) → zv_lay r ≠ x := fun x h1 h2 e => by
    rcases hr with q | q
    · exact h1 (e.symm.trans q)
    · exact h2 (e.symm.trans q)
  intro q
  rcases q with q | q | q | q
  · exact no (1, 8) (by decide) (by decide) (by rw [q.1]; rfl)
  · exact no (1, 4) (by decide) (by decide) q.1
  · exact no (1, 5) (by decide) (by decide) q.1
  · obtain ⟨a, ha, q⟩ := q
    rcases ha with e | e <;> subst e <;> rcases q with q | q | q | q | q | q | q | q
    all_goals first
      | (rw [q] at hr; exact absurd hr (by decide))
      | (rw [q.1] at hr; exact absurd hr (by decide))
theorem zt_xH {a k : Nat} (ha : zv_lay a = (1, 0)) : ¬ zt_x a k := by
  intro q
  have h9 := zc_lh ha
  rcases q with q | q | q | q
  · omega
  · rw [q.1] at ha; cases ha
  · rw [q.1] at ha; cases ha
  · obtain ⟨b, hb, q⟩ := q
    omega
theorem zt_x5a {a k : Nat} (ha : zv_lay a = (1, 0)) : ¬ zt_x (a + 5) k := by
  intro q
  have h9 := zc_lh ha
  rcases q with q | q | q | q
  · omega
  · have := zc_l4 q.1; omega
  · rcases h9 with e | e <;> rw [e] at q <;> exact absurd q.1 (by decide)
  · obtain ⟨b, hb, q⟩ := q
    omega
/-- a History, a State: of its half -/
theorem zt_inH {a b : Nat} (ha : zv_lay a = (1, 0)) (hn : a ≠ b) {x : Nat} (hx : x ≤ 27) : ¬ zt_in b (a + x) := by
  intro q
  have h9 := zc_lh ha
  have := q.2.2
  unfold zc_hf at this
  split at this <;> omega
theorem zt_inS {a b : Nat} (ha : zv_lay a = (1, 0)) (hn : a ≠ b) {i x : Nat} (hi : i < 48) (hx : x ≤ 2) : ¬ zt_in b (zc_stt a i + x) := by
  intro q
  have h9 := zc_lh ha
  have := q.2.2
  unfold zc_hf zc_stt at this
  split at this <;> split at this <;> omega
/-- what the relation reads -/
theorem zt_U_k {a b : Nat} {c : Nat → Int} {h h' : zv_H} (t : zt_U a c h) (f : zt_k b h h') (hn : a ≠ b) : zt_U a c h' := by
  obtain ⟨f1, f2, f3, f4, f5⟩ := f
  have la := zt_U_la t
  have S : ∀ s, zm_st c s → zv_lay (zt_r a s) = (1, 5) := fun s hs => zt_r_l la hs.1
  have I : ∀ s, zm_st c s → ∀ x, x ≤ 2 → ¬ zt_in b (zt_r a s + x) := fun s hs x hx => by
    rw [zt_r_p hs.1.1]
    have := hs.1
    exact zt_inS la hn (show s.toNat < 48 by omega) hx
  have n4 : ∀ r x, zv_lay r = x → x ≠ (6, 48) → r ≠ 18 ∧ r ≠ 187 := fun r x e n => ⟨fun q => n (by rw [← e, q]; rfl), fun q => n (by rw [← e, q]; rfl)⟩
  have eI : ∀ s, zm_st c s → ∀ k, k ≠ 14 → zv_I h' (zt_r a s) k = zv_I h (zt_r a s) k := fun s hs k hk => f3 _ _ (zt_x5 (S s hs) hk) (I s hs 0 (by decide))
  have eJ : ∀ s, zm_st c s → ∀ k, zv_J h' (zt_r a s) k = zv_J h (zt_r a s) k := fun s hs k => congrFun (f4 (zt_r a s) (by rw [S s hs]; decide) (I s hs 0 (by decide))) k
  have eR : ∀ s, zm_st c s → ∀ k, zv_R h' (zt_r a s) k = zv_R h (zt_r a s) k := fun s hs k => congrFun (f5 _ (n4 _ _ (S s hs) (by decide)).1 (n4 _ _ (S s hs) (by decide)).2 (I s hs 0 (by decide))) k
  have eA : ∀ s, zm_st c s → ∀ x k, x = 1 ∨ x = 2 → zv_I h' (zt_r a s + x) k = zv_I h (zt_r a s + x) k := fun s hs x k hx => by
    have l5 := zc_l5 (S s hs)
    rcases hx with q | q
    · subst q
      exact f3 _ _ (zt_xA (Or.inl l5.1)) (I s hs 1 (by decide))
    · subst q
      exact f3 _ _ (zt_xA (Or.inr l5.2)) (I s hs 2 (by decide))
  have eS : ∀ i, i < 48 → ∀ k, k ≠ 14 → zv_I h' (zc_stt a i) k = zv_I h (zc_stt a i) k := fun i hi k hk => f3 _ _ (zt_x5 (zc_stl la hi).1 hk) (zt_inS la hn hi (x := 0) (by decide))
  refine ⟨la, zt_U_W t, fun i hi => (eS i hi 3 (by decide)).trans (zt_U_lv t i hi), fun i hi => (eS i hi 0 (by decide)).trans (zt_U_nr t i hi), fun s hs => ?_, ?_, ?_, ?_⟩
  · have u := zt_U_st t s hs
    refine ⟨(eR s hs 4).trans (zt_S_pa u), (eR s hs 5).trans (zt_S_fi u), (eI s hs 6 (by decide)).trans (zt_S_ac u), (eI s hs 7 (by decide)).trans (zt_S_ti u), (eI s hs 8 (by decide)).trans (zt_S_pl u), (eI s hs 9 (by decide)).trans (zt_S_sz u), (eI s hs 13 (by decide)).trans (zt_S_vi u), (eI s hs 15 (by decide)).trans (zt_S_an u), fun k hk => by rw [eJ s hs]; exact zt_S_nm u k hk, fun k hk => by rw [eJ s hs]; exact zt_S_bs u k hk, fun q k x hx => (eA s hs 1 k (Or.inl rfl)).trans (zt_S_tk u q k x hx), fun q k hk => ?_, fun l hl => (eI s hs 12 (by decide)).trans (zt_S_ln u l hl), fun l hl n x hx => (eA s hs 2 n (Or.inr rfl)).trans (zt_S_dc u l hl n x hx), fun l hl => (eI s hs 10 (by decide)).trans (zt_S_de u l hl), (eI s hs 11 (by decide)).trans (zt_S_ch u), zt_S_cw u⟩
    rw [f3 _ _ (zt_x5a la) (zt_inH la hn (by decide))]
    exact zt_S_gl u q k hk
  · exact (congrFun (f5 _ (n4 _ _ la (by decide)).1 (n4 _ _ la (by decide)).2 (zt_inH la hn (x := 0) (by decide))) 10).trans (zt_U_he t)
  · exact (f3 _ _ (zt_xH la) (zt_inH la hn (x := 0) (by decide))).trans (zt_U_nw t)
  · exact (f3 _ _ (zt_xH la) (zt_inH la hn (x := 0) (by decide))).trans (zt_U_ct t)
theorem zt_U_q {a : Nat} {c : Nat → Int} {h h' : zv_H} (t : zt_U a c h) (f : zt_q h h') : zt_U a c h' := zt_U_k t f (fun e => by
  have := zt_U_la t
  rw [e] at this
  exact absurd this (by decide))
/-! the reckoned cells of half a -/
theorem zt_row_l {a : Nat} (ha : zv_lay a = (1, 0)) : zv_lay (a + 8) = (1, 4) ∧ zv_lay (a + 9) = (6, 48) ∧ zv_lay (a + 10) = (2, 604) ∧ zv_lay (a + 11) = (3, 604) ∧ zv_lay (a + 12) = (3, 604) ∧ zv_lay (a + 13) = (2, 605) := by cases zc_lh ha with
  | inl e => rw [e]; exact ⟨rfl, rfl, rfl, rfl, rfl, rfl⟩
  | inr e => rw [e]; exact ⟨rfl, rfl, rfl, rfl, rfl, rfl⟩
theorem zt_x4 {a k : Nat} (ha : zv_lay a = (1, 0)) (hk : k = 5 ∨ k = 6 ∨ k = 7) : zt_x (a + 8) k := Or.inr (Or.inl ⟨(zt_row_l ha).1, hk⟩)
theorem zt_xa {a r k : Nat} (ha : zv_lay a = (1, 0)) (hr : r = a + 7 ∨ r = a + 10 ∨ r = a + 11 ∨ r = a + 12 ∨ r = a + 13 ∨ r = a + 25 ∨ r = a + 27) : zt_x r k := by
  refine Or.inr (Or.inr (Or.inr ⟨a, zc_lh ha, ?_⟩))
  omega
theorem zt_sRp {g : zv_H} {a k v : Nat} (hL : zt_L g) (ha : zv_lay a = (1, 0)) : zt_L (zv_sR g (a + 9) k v) := by
  have h9 := zc_lh ha
  refine zl_sR hL (fun e => ?_) (by omega) (by omega)
  rw [(zt_row_l ha).2.1] at e
  cases e
end
/-! A04.small -/
section
/-! ===== the tie: small methods of the class, exactly ===== -/
section
variable {d : Nat} {h : zv_H}
theorem zt_C4_id {s k : Int} (hs : 0 ≤ s ∧ s ≤ 47) (hk : 0 ≤ k ∧ k < 1000) : C4_id (d + 1) s k h = some (zt_id (s, k), h) := by
  refine lC4_id ?_
  rw [qE4_id]
  unfold zt_id
  by_cases c : s = 0
  · rw [if_pos c, if_pos c]
  · rw [if_neg c, if_neg c, zm_w (x := s - 1) (by omega), zm_w (x := (s - 1) * 12) (by omega), zm_w (x := 40 + (s - 1) * 12) (by omega), zm_w (by omega)]
theorem zt_C4_putter {p : Int × Int} (hp : zt_ok p) : C4_putter (d + 1) (zt_id p) h = some (p.1, h) := by
  refine lC4_putter ?_
  rw [qE4_putter]
  unfold zt_id
  rcases hp with q | q
  · rw [if_pos q.1, if_pos (by omega), q.1]
  · rw [if_neg (show ¬ p.1 = 0 by omega), if_neg (by omega), zm_w (x := 40 + (p.1 - 1) * 12 + p.2 - 40) (by omega)]
    have e : (40 + (p.1 - 1) * 12 + p.2 - 40).tdiv 12 = p.1 - 1 := by
      rw [Int.tdiv_eq_ediv_of_nonneg (by omega)]
      omega
    rw [e, zm_w (x := p.1 - 1) (by omega), zm_w (by omega), show p.1 - 1 + 1 = p.1 by omega]
theorem zt_C4_putter1 : C4_putter (d + 1) (-1) h = some (0, h) := by
  refine lC4_putter ?_
  rw [qE4_putter, if_pos (by decide)]
theorem zt_C4_order {p : Int × Int} (hp : zt_ok p) : C4_order (d + 1) (zt_id p) h = some (p.2, h) := by
  refine lC4_order ?_
  rw [qE4_order]
  unfold zt_id
  rcases hp with q | q
  · rw [if_pos q.1, if_pos (by omega)]
  · rw [if_neg (show ¬ p.1 = 0 by omega), if_neg (by omega), zm_w (x := 40 + (p.1 - 1) * 12 + p.2 - 40) (by omega)]
    have e : (40 + (p.1 - 1) * 12 + p.2 - 40).tmod 12 = p.2 := by
      rw [Int.tmod_eq_emod_of_nonneg (by omega)]
      omega
    rw [e]
theorem zt_C4_isId (x : Int) : C4_isId (d + 1) x h = some ((if 0 ≤ x ∧ x < 604 then 1 else 0), h) := by
  refine lC4_isId ?_
  rw [qE4_isId]
  by_cases c : x < 0
  · rw [if_pos c, if_neg (by omega)]
  · rw [if_neg c]
    by_cases c1 : x < 604
    · rw [if_pos c1, if_pos (by omega)]
    · rw [if_neg c1, if_neg (by omega)]
theorem zt_C5_bit (hL : zt_L h) {a i : Nat} (ha : zv_lay a = (1, 0)) (hi : i < 48) (hn : zv_I h (zc_stt a i) 0 = i) : C5_bit (d + 1) (zc_stt a i) h = some (zt_bt i, h) := by
  have l := (zc_stl ha hi).1
  refine lC5_bit (zl_ob hL l) ?_
  rw [qE5_bit, zm_e (zl_gI hL l 0), hn]
  rfl
theorem zt_C5_edits (hL : zt_L h) {r : Nat} (l : zv_lay r = (1, 5)) : C5_edits (d + 1) r h = some ((if zv_I h r 6 = 0 ∨ zv_I h r 6 = 1 then 1 else 0), h) := by
  refine lC5_edits (zl_ob hL l) ?_
  rw [qE5_edits, zm_e (zl_gI hL l 6)]
  by_cases c : zv_I h r 6 = 0
  · rw [if_pos c, if_pos (Or.inl c)]
  · rw [if_neg c, zm_e (zl_gI hL l 6)]
    by_cases c1 : zv_I h r 6 = 1
    · rw [if_pos c1, if_pos (Or.inr c1)]
    · rw [if_neg c1, if_neg (fun q => q.elim c c1)]
theorem zt_C5_brings (hL : zt_L h) {r : Nat} (l : zv_lay r = (1, 5)) : C5_brings (d + 1) r h = some ((if zv_I h r 6 = 0 ∨ zv_I h r 6 = -1 then 1 else 0), h) := by
  refine lC5_brings (zl_ob hL l) ?_
  rw [qE5_brings, zm_e (zl_gI hL l 6)]
  by_cases c : zv_I h r 6 = 0
  · rw [if_pos c, if_pos (Or.inl c)]
  · rw [if_neg c, zm_e (zl_gI hL l 6)]
    by_cases c1 : zv_I h r 6 = -1
    · rw [if_pos c1, if_pos (Or.inr c1)]
    · rw [if_neg c1, if_neg (fun q => q.elim c c1)]
theorem zt_C5_idAt (hL : zt_L h) {r : Nat} (l : zv_lay r = (1, 5)) (b : zv_I h r 12 ≤ 120) (i : Int) : C5_idAt (d + 1) r i h = some ((if 0 ≤ i ∧ i < zv_I h r 12 then zv_I h (r + 2) i.toNat else -1), h) := by
  have l2 := (zc_l5 l).2
  refine lC5_idAt (zl_ob hL l) ?_
  rw [qE5_idAt]
  by_cases c : i < 0
  · rw [if_pos c, if_neg (by omega)]
  · rw [if_neg c, zm_e (zl_gI hL l 12)]
    by_cases c1 : i < zv_I h r 12
    · rw [if_pos c1, if_pos (by omega), zm_e (zl_gF hL l 2 2), zm_e (zl_al hL l2), if_pos (by omega), zm_e (zl_gF hL l 2 2), zm_e (zl_aI hL l2 (by omega) (by omega))]
    · rw [if_neg c1, if_neg (by omega)]
theorem zt_C5_tookAt (hL : zt_L h) {r : Nat} (l : zv_lay r = (1, 5)) (i : Int) : C5_tookAt (d + 1) r i h = some ((if zv_I h r 6 = 1 ∧ 0 ≤ i ∧ i < zv_I h r 9 ∧ i < 12 then zv_I h (r + 1) i.toNat else -1), h) := by
  have l1 := (zc_l5 l).1
  refine lC5_tookAt (zl_ob hL l) ?_
  rw [qE5_tookAt, zm_e (zl_gI hL l 6)]
  by_cases c0 : zv_I h r 6 = 1
  · rw [if_pos c0]
    by_cases c : i < 0
    · rw [if_pos c, if_neg (by omega)]
    · rw [if_neg c, zm_e (zl_gI hL l 9)]
      by_cases c1 : i < zv_I h r 9
      · rw [if_pos c1, zm_e (zl_gF hL l 1 1), zm_e (zl_al hL l1)]
        by_cases c2 : i < ((12 : Nat) : Int)
        · rw [if_pos c2, if_pos (by omega), zm_e (zl_gF hL l 1 1), zm_e (zl_aI hL l1 (by omega) (by omega))]
        · rw [if_neg c2, if_neg (by omega)]
      · rw [if_neg c1, if_neg (by omega)]
  · rw [if_neg c0, if_neg (fun q => c0 q.1)]
end
end
/-! A05.force -/
section
/-! ===== the tie: in force ===== -/
/-! what is in force: the last act that names one decides -/
def zt_off (c : Nat → Int) : List Int → Int → Prop
  | [], _ => False
  | u :: l, x => (zm_nm c u x ∧ zm_o c u 2 = 2) ∨ (¬ zm_nm c u x ∧ zt_off c l x)
theorem zt_off_nm {c : Nat → Int} {x : Int} : ∀ {l : List Int}, zt_off c l x → ∃ v ∈ l, zm_nm c v x := by
  intro l
  induction l with
  | nil => intro h; exact False.elim h
  | cons u l ih =>
    intro h
    rcases h with h | h
    · exact ⟨u, List.mem_cons_self, h.1⟩
    · obtain ⟨v, hv, n⟩ := ih h.2
      exact ⟨v, List.mem_cons_of_mem _ hv, n⟩
theorem zt_off_a {c : Nat → Int} {x u : Int} : ∀ {p : List Int}, zt_off c (p ++ [u]) x ↔ zt_off c p x ∨ ((¬ ∃ v ∈ p, zm_nm c v x) ∧ zm_nm c u x ∧ zm_o c u 2 = 2) := by
  intro p
  induction p with
  | nil =>
    constructor
    · intro h
      rcases h with h | h
      · exact Or.inr ⟨fun q => (by obtain ⟨v, hv, _⟩ := q; cases hv), h⟩
      · exact False.elim h.2
    · intro h
      rcases h with h | h
      · exact False.elim h
      · exact Or.inl h.2
  | cons w p ih =>
    show ((zm_nm c w x ∧ zm_o c w 2 = 2) ∨ (¬ zm_nm c w x ∧ zt_off c (p ++ [u]) x)) ↔ ((zm_nm c w x ∧ zm_o c w 2 = 2) ∨ (¬ zm_nm c w x ∧ zt_off c p x)) ∨ _
    rw [ih]
    constructor
    · intro h
      rcases h with h | h
      · exact Or.inl (Or.inl h)
      · rcases h.2 with g | g
        · exact Or.inl (Or.inr ⟨h.1, g⟩)
        · refine Or.inr ⟨fun q => ?_, g.2⟩
          obtain ⟨v, hv, n⟩ := q
          rcases List.mem_cons.mp hv with e | e
          · rw [e] at n; exact h.1 n
          · exact g.1 ⟨v, e, n⟩
    · intro h
      rcases h with h | h
      · rcases h with h | h
        · exact Or.inl h
        · exact Or.inr ⟨h.1, Or.inl h.2⟩
      · exact Or.inr ⟨fun q => h.1 ⟨w, List.mem_cons_self, q⟩, Or.inr ⟨fun q => (by obtain ⟨v, hv, n⟩ := q; exact h.1 ⟨v, List.mem_cons_of_mem _ hv, n⟩), h.2⟩⟩
/-- a suffix of a line is a line -/
theorem zt_Ln_suf {c : Nat → Int} : ∀ {l : List Int} {s v : Int}, zm_Ln c l s → v ∈ l → ∃ q, zm_Ln c (v :: q) v ∧ ∀ t ∈ q, t ∈ l.tail := by
  intro l
  induction l with
  | nil => intro s v _ h; cases h
  | cons u l ih =>
    intro s v hl h
    rcases List.mem_cons.mp h with e | e
    · subst e
      have hl' : (s = v ∧ 0 ≤ v ∧ v ≤ 48) ∧ zm_Ln c l (zm_o c v 1) := hl
      exact ⟨l, ⟨⟨rfl, hl'.1.2⟩, hl'.2⟩, fun t ht => ht⟩
    · have hl' : (s = u ∧ 0 ≤ u ∧ u ≤ 48) ∧ zm_Ln c l (zm_o c u 1) := hl
      obtain ⟨q, q1, q2⟩ := ih hl'.2 e
      exact ⟨q, q1, fun t ht => List.mem_of_mem_tail (q2 t ht)⟩
theorem zt_fc_off {c : Nat → Int} {x : Int} (hx : 0 ≤ x ∧ x < 48) (he : zm_ed c x) : ∀ {l : List Int} {s : Int}, zm_Ln c l s → l.Nodup → (∀ t ∈ l, zt_cw c t) → zm_o c 0 2 = -1 → l.getLast? = some 0 → x ∈ l → (zm_fc c l x = 1 ↔ ¬ zt_off c l x) := by
  intro l
  induction l with
  | nil => intro s _ _ _ _ _ h; cases h
  | cons u l ih =>
    intro s hl hd hw h0 hlast hm
    have hl' : (s = u ∧ 0 ≤ u ∧ u ≤ 48) ∧ zm_Ln c l (zm_o c u 1) := hl
    cases l with
    | nil =>
      exfalso
      have e : u = 0 := by
        have := hlast
        simp at this
        exact this
      have e2 : x = u := by simpa using hm
      rw [e2, e] at he
      unfold zm_ed at he
      omega
    | cons v l =>
      have hwu := hw u List.mem_cons_self
      have hnd := List.nodup_cons.mp hd
      have ef : zm_fc c (u :: v :: l) x = if ¬ zm_ed c u ∧ zm_nm c u x then (if zm_o c u 2 = 3 then 1 else 0) else if x = u then (if zm_ed c u then 1 else 0) else zm_fc c (v :: l) x := rfl
      have eo : zt_off c (u :: v :: l) x ↔ (zm_nm c u x ∧ zm_o c u 2 = 2) ∨ (¬ zm_nm c u x ∧ zt_off c (v :: l) x) := Iff.rfl
      rw [ef, eo]
      by_cases n : zm_nm c u x
      · have g := zt_cw_nm hwu (v :: l) ⟨⟨rfl, hl'.1.2⟩, hl'.2⟩ x hx.1 hx.2 n
        rw [if_pos ⟨g.2.2, n⟩]
        have act : zm_o c u 2 = 2 ∨ zm_o c u 2 = 3 := by
          rcases zt_cw_ac hwu with q | q | q | q | q
          · have e : u = 0 := zt_cw_s0 hwu q
            have e3 : (v :: l).getLast? = some 0 := by rw [← hlast]; rfl
            exact absurd (List.mem_of_getLast? e3) (by rw [← e]; exact hnd.1)
          · exact absurd (show zm_ed c u from Or.inl q) g.2.2
          · exact absurd (show zm_ed c u from Or.inr q) g.2.2
          · exact Or.inl q
          · exact Or.inr q
        rcases act with q | q
        · rw [if_neg (by omega)]
          constructor
          · intro z; cases z
          · intro z; exact absurd (Or.inl ⟨n, q⟩) z
        · rw [if_pos q]
          constructor
          · intro _ z
            rcases z with z | z
            · omega
            · exact z.1 n
          · intro _; rfl
      · rw [if_neg (fun q => n q.2)]
        by_cases e : x = u
        · rw [if_pos e, if_pos (by rw [← e]; exact he)]
          constructor
          · intro _ z
            rcases z with z | z
            · exact n z.1
            · obtain ⟨w, hw1, hw2⟩ := zt_off_nm z.2
              obtain ⟨q, q1, q2⟩ := zt_Ln_suf hl'.2 hw1
              have := zt_cw_nm (hw w (List.mem_cons_of_mem _ hw1)) q q1 x hx.1 hx.2 hw2
              exact hnd.1 (by rw [← e]; exact List.mem_of_mem_tail (q2 x this.1))
          · intro _; rfl
        · rw [if_neg e]
          have hm' : x ∈ v :: l := (List.mem_cons.mp hm).resolve_left e
          have i := ih hl'.2 hnd.2 (fun t ht => hw t (List.mem_cons_of_mem _ ht)) h0 (by rw [← hlast]; rfl) hm'
          rw [i]
          constructor
          · intro z q
            rcases q with q | q
            · exact n q.1
            · exact z q.2
          · intro z q
            exact z (Or.inr ⟨n, q⟩)
end
/-! A06.walk -/
section
/-! ===== the tie: the line ===== -/
def zt_ln_ok (c : Nat → Int) (L : List Int) : Prop := L.Nodup ∧ L.getLast? = some 0 ∧ (∀ t ∈ L, zm_st c t) ∧ L.length ≤ 48
theorem zt_line {c : Nat → Int} (w : zm_W c) {s : Int} (hs : zm_st c s) : ∃ l, zm_Ln c (s :: l) s ∧ zt_ln_ok c (s :: l) ∧ zm_G0 c (s :: l) ∧ (∀ t ∈ s :: l, zm_o c t 2 = 1 → ∀ p ∈ zm_tk c t, p ∈ zm_row c (s :: l)) ∧ zm_W1 c s l := by
  obtain ⟨l, h1, h2, h3, h4⟩ := zm_W_l w.1 hs
  exact ⟨l, h1.1, ⟨h1.2.1.1, h1.2.1.2.1, h1.2.1.2.2, by rw [List.length_cons]; omega⟩, h3, h4, h1⟩
theorem zt_line_u {c : Nat → Int} (w : zm_W c) {s : Int} (hs : zm_st c s) {l : List Int} (hl : zm_Ln c (s :: l) s) : zt_ln_ok c (s :: l) ∧ zm_G0 c (s :: l) ∧ (∀ t ∈ s :: l, zm_o c t 2 = 1 → ∀ p ∈ zm_tk c t, p ∈ zm_row c (s :: l)) ∧ zm_W1 c s l := by
  obtain ⟨l', e1, e2, e3, e4, e5⟩ := zt_line w hs
  have e := zm_Ln_u hl e1
  have e' : l = l' := (List.cons.inj e).2
  subst e'
  exact ⟨e2, e3, e4, e5⟩
/-- the line is laid -/
def zt_wk (a : Nat) (c : Nat → Int) (L : List Int) (h : zv_H) : Prop := (zv_I h (a + 8) 5 = L.length) ∧ (∀ (k : Nat) (x : Int), L.reverse[k]? = some x → zv_R h (a + 9) k = zt_r a x) ∧ (∀ t : Nat, t < 64 → (zt_b (zv_J h (a + 8) 8) t = true ↔ t < 48 ∧ (t : Int) ∈ L ∧ zm_ed c t)) ∧ (∀ t : Nat, t < 64 → (zt_b (zv_J h (a + 8) 9) t = true ↔ t < 48 ∧ (t : Int) ∈ L ∧ zm_ed c t ∧ zm_fc c L t = 1))
theorem zt_wk_ln {a : Nat} {c : Nat → Int} {L : List Int} {h : zv_H} (t : zt_wk a c L h) : zv_I h (a + 8) 5 = L.length := t.1
theorem zt_wk_pa {a : Nat} {c : Nat → Int} {L : List Int} {h : zv_H} (t : zt_wk a c L h) : ∀ (k : Nat) (x : Int), L.reverse[k]? = some x → zv_R h (a + 9) k = zt_r a x := t.2.1
theorem zt_wk_ac {a : Nat} {c : Nat → Int} {L : List Int} {h : zv_H} (t : zt_wk a c L h) : ∀ t : Nat, t < 64 → (zt_b (zv_J h (a + 8) 8) t = true ↔ t < 48 ∧ (t : Int) ∈ L ∧ zm_ed c t) := t.2.2.1
theorem zt_wk_fo {a : Nat} {c : Nat → Int} {L : List Int} {h : zv_H} (t : zt_wk a c L h) : ∀ t : Nat, t < 64 → (zt_b (zv_J h (a + 8) 9) t = true ↔ t < 48 ∧ (t : Int) ∈ L ∧ zm_ed c t ∧ zm_fc c L t = 1) := t.2.2.2
theorem zt_walk28 {d : Nat} {h : zv_H} {a : Nat} {c : Nat → Int} {L : List Int} {s0 : Int} (hL : zm_Ln c L s0) (ok : zt_ln_ok c L) : ∀ (b ap : List Int) (s : Int) (g : zv_H) (kn off : Int64), ap.reverse ++ b = L → zm_Ln c b s → zt_L g → zt_U a c g → zt_q h g → zv_I g (a + 8) 5 = L.length → (∀ (k : Nat) (x : Int), b.length ≤ k → L.reverse[k]? = some x → zv_R g (a + 9) k = zt_r a x) → (∀ t : Nat, t < 64 → (zt_b (zv_J g (a + 8) 8) t = true ↔ t < 48 ∧ (t : Int) ∈ ap ∧ zm_ed c t)) → (∀ t : Nat, t < 64 → (zt_b kn t = true ↔ t < 48 ∧ ∃ v ∈ ap, zm_nm c v t)) → (∀ t : Nat, t < 64 → (zt_b off t = true ↔ t < 48 ∧ zt_off c ap.reverse t)) → zm_R (L4_walk_28 (d + 1) (a + 8) kn off (zt_r a s) g) (zm_V fun h' => zt_L h' ∧ zt_q h h' ∧ zt_wk a c L h') := by
  intro b
  induction b with
  | nil =>
    intro ap s g kn off e hb gL U q i5 ip ia ik io
    have la := zt_U_la U
    have lr := zt_row_l la
    have w := zt_U_W U
    have cw : ∀ u ∈ L, zt_cw c u := fun u hu => zt_S_cw (zt_U_st U u (ok.2.2.1 u hu))
    have hs : s < 0 := hb
    rw [zt_r_n hs, qL4_walk_28, if_pos rfl, zm_e (zl_gJ gL lr.1 8), zm_e (zl_pJ gL lr.1 9 _)]
    have e' : ap.reverse = L := by rw [← e, List.append_nil]
    have mem : ∀ x, x ∈ ap ↔ x ∈ L := fun x => by rw [← e', List.mem_reverse]
    refine zm_iV ⟨gL, zt_q_t q (zt_q_sJ _ lr.1), i5, fun k x hx => ip k x (Nat.zero_le _) hx, fun t ht => ?_, fun t ht => ?_⟩
    · rw [zy_Jn _ _ (fun q => absurd q.2 (by decide)), ia t ht, mem]
    · rw [zy_J, zt_b_and, zt_b_not _ ht, Bool.and_eq_true, Bool.not_eq_true', ia t ht, mem]
      have o := io t ht
      rw [e'] at o
      constructor
      · intro z
        have z1 := z.1
        refine ⟨z1.1, z1.2.1, z1.2.2, ?_⟩
        rw [zt_fc_off ⟨by omega, by omega⟩ z1.2.2 hL ok.1 cw w.1.2.1.2.2.1 ok.2.1 z1.2.1]
        intro q
        have := o.mpr ⟨z1.1, q⟩
        rw [this] at z
        exact absurd z.2 (by decide)
      · intro z
        refine ⟨⟨z.1, z.2.1, z.2.2.1⟩, ?_⟩
        cases hb : zt_b off t with
        | false => rfl
        | true =>
          have := (o.mp hb).2
          exact absurd this ((zt_fc_off ⟨by omega, by omega⟩ z.2.2.1 hL ok.1 cw w.1.2.1.2.2.1 ok.2.1 z.2.1).mp z.2.2.2)
  | cons u b ih =>
    intro ap s g kn off e hb gL U q i5 ip ia ik io
    have la := zt_U_la U
    have lr := zt_row_l la
    have h18 : a + 9 = 18 ∨ a + 9 = 187 := by have := zc_lh la; omega
    have hb' : (s = u ∧ 0 ≤ u ∧ u ≤ 48) ∧ zm_Ln c b (zm_o c u 1) := hb
    have es : s = u := hb'.1.1
    subst es
    have mu : s ∈ L := by rw [← e]; exact List.mem_append_right _ List.mem_cons_self
    have su := ok.2.2.1 s mu
    have lu := zt_r_l la su.1
    have dep : zv_I g (zt_r a s) 10 = (b.length : Int) := zt_S_de (zt_U_st U s su) b ⟨⟨rfl, hb'.1.2⟩, hb'.2⟩
    have blen : b.length < 48 := by
      have := ok.2.2.2
      rw [← e, List.length_append, List.length_cons] at this
      omega
    have su1 := su.1
    have su48 : s.toNat < 48 := by omega
    rw [qL4_walk_28, if_neg (zc_nz lu), zm_e (zl_gI gL lu 10), dep, if_neg (by omega), zm_e (zl_gI gL lu 10), dep, if_pos (by omega), zm_e (zl_gF gL lr.1 0 1), zm_e (zl_gI gL lu 10), dep, zm_e (zl_wR gL lr.2.1 (by omega) (by omega) lu), show ((b.length : Int)).toNat = b.length by omega]
    have gL1 := zt_sRp (k := b.length) (v := zt_r a s) gL la
    have q1 := zt_q_sR (h := g) (k := b.length) (v := zt_r a s) h18
    have U1 := zt_U_q U q1
    have q1 := zt_q_t q q1
    have p1 : ∀ (k : Nat) (x : Int), b.length ≤ k → L.reverse[k]? = some x → zv_R (zv_sR g (a + 9) b.length (zt_r a s)) (a + 9) k = zt_r a x := fun k x hk hx => by
      by_cases z : k = b.length
      · have hx2 : L.reverse[b.length]? = some s := zm_rev_at (ap := ap) (by rw [List.reverse_cons, List.append_assoc]; exact e)
        rw [z] at hx ⊢
        rw [hx2] at hx
        cases hx
        exact zy_R _ _ _ _
      · exact (zy_Rn _ _ (fun w => z w.2)).trans (ip k x (by rw [List.length_cons]; omega) hx)
    have i51 : zv_I (zv_sR g (a + 9) b.length (zt_r a s)) (a + 8) 5 = L.length := i5
    have j81 : ∀ t : Nat, t < 64 → (zt_b (zv_J (zv_sR g (a + 9) b.length (zt_r a s)) (a + 8) 8) t = true ↔ t < 48 ∧ (t : Int) ∈ ap ∧ zm_ed c t) := ia
    generalize zv_sR g (a + 9) b.length (zt_r a s) = g1 at gL1 q1 U1 p1 i51 j81
    have S1 := zt_U_st U1 s su
    have kn' : ∀ x : Nat, x < 64 → (zt_b (kn ||| zv_J g1 (zt_r a s) 16) x = true ↔ x < 48 ∧ ∃ v ∈ s :: ap, zm_nm c v x) := fun x hx => by
      rw [zt_b_or, Bool.or_eq_true, ik x hx, zt_S_nm S1 x hx]
      constructor
      · intro z
        rcases z with z | z
        · obtain ⟨z1, v, z2, z3⟩ := z
          exact ⟨z1, v, List.mem_cons_of_mem _ z2, z3⟩
        · exact ⟨z.1, s, List.mem_cons_self, z.2⟩
      · intro z
        obtain ⟨z1, v, z2, z3⟩ := z
        rcases List.mem_cons.mp z2 with y | y
        · exact Or.inr ⟨z1, by rw [← y]; exact z3⟩
        · exact Or.inl ⟨z1, v, y, z3⟩
    have L85 : ∀ g2, zt_L g2 → zt_U a c g2 → zt_q h g2 → zv_J g2 (zt_r a s) 16 = zv_J g1 (zt_r a s) 16 → zv_I g2 (a + 8) 5 = L.length → (∀ (k : Nat) (x : Int), b.length ≤ k → L.reverse[k]? = some x → zv_R g2 (a + 9) k = zt_r a x) → (∀ t : Nat, t < 64 → (zt_b (zv_J g2 (a + 8) 8) t = true ↔ t < 48 ∧ (t : Int) ∈ s :: ap ∧ zm_ed c t)) → zm_R (L4_walk_85 (d + 1) (a + 8) kn off (zt_r a s) g2) (zm_V fun h' => zt_L h' ∧ zt_q h h' ∧ zt_wk a c L h') := by
      intro g2 gL2 U2 q2 ej y5 yp ya
      have S2 := zt_U_st U2 s su
      have e2 : (s :: ap).reverse ++ b = L := by rw [List.reverse_cons, List.append_assoc]; exact e
      rw [qL4_walk_85, zm_e (zl_gI gL2 lu 6), zt_S_ac S2]
      by_cases c2 : zm_o c s 2 = 2
      · rw [if_pos c2, zm_e (zl_gJ gL2 lu 16), zm_e (zl_gJ gL2 lu 16), ej, zm_e (zl_gR gL2 lu 4), zt_S_pa S2]
        refine ih (s :: ap) _ g2 _ _ e2 hb'.2 gL2 U2 q2 y5 yp ya kn' (fun x hx => ?_)
        rw [zt_b_or, zt_b_and, zt_b_not _ hx, Bool.or_eq_true, Bool.and_eq_true, Bool.not_eq_true', io x hx, zt_S_nm S1 x hx, List.reverse_cons, zt_off_a]
        have k0 := ik x hx
        constructor
        · intro z
          rcases z with z | z
          · exact ⟨z.1, Or.inl z.2⟩
          · refine ⟨z.1.1, Or.inr ⟨fun y => ?_, z.1.2, c2⟩⟩
            obtain ⟨v, y1, y2⟩ := y
            have := k0.mpr ⟨z.1.1, v, List.mem_reverse.mp y1, y2⟩
            rw [this] at z
            exact absurd z.2 (by decide)
        · intro z
          rcases z.2 with y | y
          · exact Or.inl ⟨z.1, y⟩
          · refine Or.inr ⟨⟨z.1, y.2.1⟩, ?_⟩
            cases hk : zt_b kn x with
            | false => rfl
            | true =>
              obtain ⟨v, y1, y2⟩ := (k0.mp hk).2
              exact absurd ⟨v, List.mem_reverse.mpr y1, y2⟩ y.1
      · rw [if_neg c2, zm_e (zl_gJ gL2 lu 16), ej, zm_e (zl_gR gL2 lu 4), zt_S_pa S2]
        refine ih (s :: ap) _ g2 _ _ e2 hb'.2 gL2 U2 q2 y5 yp ya kn' (fun x hx => ?_)
        rw [io x hx, List.reverse_cons, zt_off_a]
        constructor
        · intro z; exact ⟨z.1, Or.inl z.2⟩
        · intro z
          rcases z.2 with y | y
          · exact ⟨z.1, y⟩
          · exact absurd y.2.2 c2
    rw [qL4_walk_63, zm_e (zt_C5_edits gL1 lu), zt_S_ac S1]
    dsimp only
    have mem2 : ∀ x : Nat, (x : Int) ∈ s :: ap ↔ (x : Int) = s ∨ (x : Int) ∈ ap := fun x => List.mem_cons
    by_cases ce : zm_ed c s
    · rw [if_pos (show zm_o c s 2 = 0 ∨ zm_o c s 2 = 1 from ce), if_neg (by decide), zm_e (zl_gJ gL1 lr.1 8)]
      have eb : C5_bit (d + 1) (zt_r a s) g1 = some (zt_bt s.toNat, g1) := by
        rw [zt_r_p su.1.1]
        exact zt_C5_bit gL1 la su48 (zt_U_nr U1 _ su48)
      rw [zm_e eb]
      dsimp only
      rw [zm_e (zl_pJ gL1 lr.1 8 _)]
      have q2 := zt_q_sJ (h := g1) (k := 8) (zv_J g1 (a + 8) 8 ||| zt_bt s.toNat) lr.1
      refine L85 _ gL1 (zt_U_q U1 q2) (zt_q_t q1 q2) (zy_Jn _ _ (fun q => by rw [q.1, lr.1] at lu; cases lu)) i51 p1 (fun x hx => ?_)
      rw [zy_J, zt_b_or, Bool.or_eq_true, j81 x hx, zt_b_bt su48 hx, decide_eq_true_eq, mem2]
      constructor
      · intro z
        rcases z with z | z
        · exact ⟨z.1, Or.inr z.2.1, z.2.2⟩
        · have ex : (x : Int) = s := by omega
          exact ⟨by omega, Or.inl ex, by rw [ex]; exact ce⟩
      · intro z
        rcases z.2.1 with y | y
        · exact Or.inr (by omega)
        · exact Or.inl ⟨z.1, y, z.2.2⟩
    · rw [if_neg (show ¬ (zm_o c s 2 = 0 ∨ zm_o c s 2 = 1) from ce), if_pos rfl]
      refine L85 g1 gL1 U1 q1 rfl i51 p1 (fun x hx => ?_)
      rw [j81 x hx, mem2]
      constructor
      · intro z; exact ⟨z.1, Or.inr z.2.1, z.2.2⟩
      · intro z
        rcases z.2.1 with y | y
        · exact absurd (by rw [← y]; exact z.2.2) ce
        · exact ⟨z.1, y, z.2.2⟩
theorem zt_walk {d : Nat} {h : zv_H} {a : Nat} {c : Nat → Int} {s : Int} {l : List Int} (gL : zt_L h) (U : zt_U a c h) (hs : zm_st c s) (hl : zm_Ln c (s :: l) s) : zm_R (C4_walk (d + 2) (a + 8) (zt_r a s) h) (fun h' => zt_L h' ∧ zt_q h h' ∧ zt_wk a c (s :: l) h') := by
  have la := zt_U_la U
  have lr := zt_row_l la
  have lu := zt_r_l la hs.1
  have ok := (zt_line_u (zt_U_W U) hs hl).1
  have dep := zt_S_de (zt_U_st U s hs) l hl
  have len := ok.2.2.2
  rw [List.length_cons] at len
  refine zm_cV (fun e => lC4_walk (zl_ob gL lr.1) e) ?_
  have e10 : zv_I (zv_sJ h (a + 8) 8 (Int64.ofNat 0)) (zt_r a s) 10 = l.length := dep
  have em : min ((l.length : Int) + 1) 48 = ((s :: l).length : Int) := by rw [List.length_cons]; omega
  rw [qE4_walk, zm_e (zl_pJ gL lr.1 8 _), zm_e (zl_gI (g := zv_sJ h (a + 8) 8 (Int64.ofNat 0)) gL lu 10), e10, zm_w (by omega), em, zm_e (zl_pI (g := zv_sJ h (a + 8) 8 (Int64.ofNat 0)) gL lr.1 5 _)]
  have q2 : zt_q h (zv_sI (zv_sJ h (a + 8) 8 (Int64.ofNat 0)) (a + 8) 5 ((s :: l).length : Int)) := zt_q_t (zt_q_sJ _ lr.1) (zt_q_sI _ (zt_x4 la (k := 5) (Or.inl rfl)))
  have j8 : zv_J (zv_sI (zv_sJ h (a + 8) 8 (Int64.ofNat 0)) (a + 8) 5 ((s :: l).length : Int)) (a + 8) 8 = Int64.ofNat 0 := zy_J _ _ _ _
  refine zt_walk28 hl ok (s :: l) [] s _ _ _ rfl hl gL (zt_U_q U q2) q2 (zy_I _ _ _ _) (fun k x hk hx => ?_) (fun x hx => ?_) (fun x hx => ?_) (fun x hx => ?_)
  · have := zm_lt_of_get hx
    rw [List.length_reverse] at this
    omega
  · rw [j8, zt_b_0]
    constructor
    · intro z; cases z
    · intro z; exact absurd z.2.1 List.not_mem_nil
  · rw [zt_b_0]
    constructor
    · intro z; cases z
    · intro z; obtain ⟨_, v, hv, _⟩ := z; exact absurd hv List.not_mem_nil
  · rw [zt_b_0]
    constructor
    · intro z; cases z
    · intro z; exact False.elim z.2
end
/-! A07.link -/
section
/-! ===== the tie: the row as a chain ===== -/
/-- only these int cells may have changed -/
def zt_o (A : List Nat) (h g : zv_H) : Prop := g.1 = h.1 ∧ g.2.2 = h.2.2 ∧ ∀ r, A.contains r = false → g.2.1 r = h.2.1 r
theorem zt_o_r (A : List Nat) (h : zv_H) : zt_o A h h := ⟨rfl, rfl, fun _ _ => rfl⟩
theorem zt_o_t {A : List Nat} {h h1 h2 : zv_H} (f : zt_o A h h1) (g : zt_o A h1 h2) : zt_o A h h2 := ⟨g.1.trans f.1, g.2.1.trans f.2.1, fun r x => (g.2.2 r x).trans (f.2.2 r x)⟩
theorem zt_o_I {A : List Nat} {h g : zv_H} (f : zt_o A h g) {r : Nat} (hr : A.contains r = true) (k : Nat) (v : Int) : zt_o A h (zv_sI g r k v) := by
  refine ⟨f.1, f.2.1, fun x hx => ?_⟩
  rw [← f.2.2 x hx]
  funext k'
  exact if_neg (fun q => by rw [q.1, hr] at hx; cases hx)
theorem zt_o_L {A : List Nat} {h g : zv_H} (f : zt_o A h g) (hL : zt_L h) : zt_L g := by
  refine ⟨?_, fun r k x y => ?_, fun a i x y => ?_⟩
  · show g.1.1 = 372
    rw [f.1]; exact hL.1
  · show g.2.2.2.1 r k = _
    rw [f.2.1]; exact hL.2.1 r k x y
  · show g.2.2.2.1 (a + 4) i = _
    rw [f.2.1]; exact hL.2.2 a i x y
theorem zt_o_i {A : List Nat} {h g : zv_H} (f : zt_o A h g) {r : Nat} (hr : A.contains r = false) (k : Nat) : zv_I g r k = zv_I h r k := congrFun (f.2.2 r hr) k
theorem zt_o_q {A : List Nat} {h g : zv_H} (f : zt_o A h g) (hx : ∀ r ∈ A, ∀ k, zt_x r k) : zt_q h g := by
  refine ⟨f.1, ?_, fun r k n _ => ?_, fun r _ _ => ?_, fun r _ _ _ => ?_⟩
  · show g.2.2.2.2 = h.2.2.2.2
    rw [f.2.1]
  · refine zt_o_i f ?_ k
    cases e : A.contains r with
    | false => rfl
    | true => exact absurd (hx r (List.contains_iff_mem.mp e) k) n
  · show g.2.2.1 r = h.2.2.1 r
    rw [f.2.1]
  · show g.2.2.2.1 r = h.2.2.2.1 r
    rw [f.2.1]
theorem zt_o_s {A B : List Nat} {h g : zv_H} (f : zt_o A h g) (hs : ∀ r ∈ A, r ∈ B) : zt_o B h g := ⟨f.1, f.2.1, fun r hr => f.2.2 r (by
  cases e : A.contains r with
  | false => rfl
  | true =>
    have := List.contains_iff_mem.mpr (hs r (List.contains_iff_mem.mp e))
    rw [hr] at this
    cases this)⟩
theorem zt_c1 {r x : Nat} (h : x ≠ r) : ([r] : List Nat).contains x = false := by
  cases e : ([r] : List Nat).contains x with
  | false => rfl
  | true => exact absurd (List.mem_singleton.mp (List.contains_iff_mem.mp e)) h
theorem zt_c2 (r : Nat) : ([r] : List Nat).contains r = true := List.contains_iff_mem.mpr (List.mem_singleton.mpr rfl)
/-! a chain: each names the next one -/
def zt_lk (F : Int → Int) : Int → List Int → Prop
  | b, [] => F b = -1
  | b, x :: r => F b = x ∧ zt_lk F x r
def zt_pt (F : Int → Int) : Int → List Int → Int → Prop
  | b, [], e => b = e
  | b, x :: r, e => F b = x ∧ zt_pt F x r e
theorem zt_pt_m {F : Int → Int} {e : Int} : ∀ {A : List Int} {b : Int}, zt_pt F b A e → e ∈ b :: A := by
  intro A
  induction A with
  | nil => intro b h; rw [show b = e from h]; exact List.mem_cons_self
  | cons x r ih => intro b h; exact List.mem_cons_of_mem _ (ih h.2)
theorem zt_pt_fr {F G : Int → Int} {e : Int} : ∀ {A : List Int} {b : Int}, zt_pt F b A e → (b :: A).Nodup → (∀ x ∈ b :: A, x ≠ e → G x = F x) → zt_pt G b A e := by
  intro A
  induction A with
  | nil => intro b h _ _; exact h
  | cons x r ih =>
    intro b h hd hx
    have hd' := List.nodup_cons.mp hd
    have ne : b ≠ e := fun q => hd'.1 (by rw [q]; exact zt_pt_m h.2)
    exact ⟨(hx b List.mem_cons_self ne).trans h.1, ih h.2 hd'.2 (fun y hy => hx y (List.mem_cons_of_mem _ hy))⟩
theorem zt_pt_a {F : Int → Int} {x : Int} : ∀ {A : List Int} {b m : Int}, zt_pt F b A m → F m = x → zt_pt F b (A ++ [x]) x := by
  intro A
  induction A with
  | nil => intro b m h hx; exact ⟨by rw [show b = m from h]; exact hx, rfl⟩
  | cons y r ih => intro b m h hx; exact ⟨h.1, ih h.2 hx⟩
theorem zt_lk_fr {F G : Int → Int} : ∀ {L : List Int} {b : Int}, zt_lk F b L → (∀ x ∈ b :: L, G x = F x) → zt_lk G b L := by
  intro L
  induction L with
  | nil => intro b h hx; exact (hx b List.mem_cons_self).trans h
  | cons x r ih => intro b h hx; exact ⟨(hx b List.mem_cons_self).trans h.1, ih h.2 (fun y hy => hx y (List.mem_cons_of_mem _ hy))⟩
theorem zt_lk_pt {F : Int → Int} {B : List Int} {e : Int} : ∀ {S : List Int} {b : Int}, zt_pt F b S e → zt_lk F e B → zt_lk F b (S ++ B) := by
  intro S
  induction S with
  | nil => intro b h hB; rw [show b = e from h]; exact hB
  | cons x r ih => intro b h hB; exact ⟨h.1, ih h.2 hB⟩
theorem zt_lk_ins {F G : Int → Int} {b e : Int} {S B : List Int} (hp : zt_pt G b S e) (he : G e = F b) : ∀ {A : List Int} {b0 : Int}, zt_lk F b0 (A ++ B) → zt_pt F b0 A b → (b0 :: (A ++ B)).Nodup → (∀ x ∈ b0 :: (A ++ B), x ≠ b → G x = F x) → zt_lk G b0 (A ++ (S ++ B)) := by
  intro A
  induction A with
  | nil =>
    intro b0 h hb hd hx
    have e0 : b0 = b := hb
    subst e0
    show zt_lk G b0 (S ++ B)
    refine zt_lk_pt hp ?_
    cases B with
    | nil => exact he.trans h
    | cons y r =>
      have hd' := List.nodup_cons.mp hd
      exact ⟨he.trans h.1, zt_lk_fr h.2 (fun z hz => hx z (List.mem_cons_of_mem _ hz) (fun q => hd'.1 (by rw [← q]; exact hz)))⟩
  | cons x r ih =>
    intro b0 h hb hd hx
    have hd' := List.nodup_cons.mp hd
    have ne : b0 ≠ b := fun q => hd'.1 (by
      have := zt_pt_m hb.2
      rw [q]
      exact List.mem_append_left _ this)
    exact ⟨(hx b0 List.mem_cons_self ne).trans h.1, ih h.2 hb.2 hd'.2 (fun y hy => hx y (List.mem_cons_of_mem _ hy))⟩
/-- the chain along a list's start ends at one of it -/
theorem zt_lk_at {F : Int → Int} {B : List Int} : ∀ {A : List Int} {b : Int}, zt_lk F b (A ++ B) → zt_pt F b A ((b :: A).getLast (List.cons_ne_nil _ _)) := by
  intro A
  induction A with
  | nil => intro b _; rfl
  | cons x r ih =>
    intro b h
    refine ⟨h.1, ?_⟩
    rw [List.getLast_cons_cons]
    exact ih h.2
/-- the links of half a -/
def zt_nx (a : Nat) (h : zv_H) : Int → Int := fun x => zv_I h (a + 13) x.toNat
/-- a word's letters' numbers -/
def zt_sg (s m : Int) : List Int := (zm_rs s m).map zt_id
theorem zt_sg_len (s : Int) (m : Nat) : (zt_sg s m).length = m := by
  unfold zt_sg
  rw [List.length_map, zm_rs_len]
  omega
theorem zt_sg_get (s : Int) (m : Nat) {k : Nat} (hk : k < m) : (zt_sg s m)[k]? = some (zt_id (s, (k : Int))) := by
  unfold zt_sg
  rw [List.getElem?_map, zm_rs_get _ _ (by omega)]
  rfl
theorem zt_sg_t (s : Int) (m : Nat) {k : Nat} (hk : k < m) : (zt_sg s m).take (k + 1) = (zt_sg s m).take k ++ [zt_id (s, (k : Int))] := by
  rw [List.take_add_one, zt_sg_get s m hk]
  rfl
theorem zt_link31 {d : Nat} {a : Nat} {c : Nat → Int} {s : Int} {m : Nat} (hs : zm_st c s) (hm : zm_o c s 5 = m) (okl : ∀ k : Nat, k < m → zt_ok (s, (k : Int))) {h : zv_H} (b v : Int) (hb : 0 ≤ b ∧ b ≤ 604) (hd : (b :: zt_sg s m).Nodup) (F0 : Int → Int) : ∀ (n k : Nat) (x : Int) (g : zv_H), k + n = m → zt_L g → zt_U a c g → zt_o [a + 13] h g → (0 ≤ x ∧ x ≤ 604) → zt_pt (zt_nx a g) b ((zt_sg s m).take k) x → (∀ y : Int, 0 ≤ y → ¬ y ∈ b :: (zt_sg s m).take k → zt_nx a g y = F0 y) → zm_R (L4_link_31 (d + 1) (a + 8) (zt_r a s) x v k g) (zm_V fun h' => zt_o [a + 13] h h' ∧ ∃ e, zt_pt (zt_nx a h') b (zt_sg s m) e ∧ zt_nx a h' e = v ∧ ∀ y : Int, 0 ≤ y → ¬ y ∈ b :: zt_sg s m → zt_nx a h' y = F0 y) := by
  intro n
  induction n with
  | zero =>
    intro k x g hk gL U o hx hp hf
    have la := zt_U_la U
    have lr := zt_row_l la
    have lu := zt_r_l la hs.1
    have ek : k = m := by omega
    have et : (zt_sg s m).take k = zt_sg s m := List.take_of_length_le (by rw [zt_sg_len]; omega)
    rw [et] at hp hf
    rw [qL4_link_31, zm_e (zl_gI gL lu 9), zt_S_sz (zt_U_st U s hs), hm, if_neg (by omega), zm_e (zl_gF gL lr.1 4 5), show a + 8 + 5 = a + 13 from rfl, zm_e (zl_wI gL lr.2.2.2.2.2 hx.1 (by omega) v)]
    have gx : ∀ y : Int, 0 ≤ y → y ≠ x → zt_nx a (zv_sI g (a + 13) x.toNat v) y = zt_nx a g y := fun y hy hn => zy_In _ _ (fun q => hn (by omega))
    have hin : ∀ y ∈ b :: zt_sg s m, 0 ≤ y := fun y hy => by
      rcases List.mem_cons.mp hy with q | q
      · omega
      · unfold zt_sg at q
        obtain ⟨p, p1, p2⟩ := List.mem_map.mp q
        obtain ⟨p3, p4, p5⟩ := zm_rs_mem.mp p1
        have := (zt_id_r (okl p.2.toNat (by omega))).1
        rw [← p2, show p = (s, ((p.2.toNat : Nat) : Int)) from Prod.ext p3 (by dsimp only; omega)]
        exact this
    refine zm_iV ⟨zt_o_I o (zt_c2 _) _ _, x, zt_pt_fr hp hd (fun y hy hn => gx y (hin y hy) hn), zy_I _ _ _ _, fun y hy hn => ?_⟩
    have yx : y ≠ x := fun q => hn (by rw [q]; exact zt_pt_m hp)
    exact (gx y hy yx).trans (hf y hy hn)
  | succ n ih =>
    intro k x g hk gL U o hx hp hf
    have la := zt_U_la U
    have lr := zt_row_l la
    have lu := zt_r_l la hs.1
    have hs1 := hs.1
    have hnr : zv_I g (zt_r a s) 0 = s := by
      rw [zt_r_p hs.1.1, zt_U_nr U _ (by omega)]
      omega
    have ok := okl k (by omega)
    have idr := zt_id_r ok
    have hl13 : zv_lay (a + 13) = (2, 605) := lr.2.2.2.2.2
    have k1000 : (0 : Int) ≤ k ∧ (k : Int) < 1000 := by
      rcases ok with q | q
      · dsimp only at q; omega
      · dsimp only at q; omega
    rw [qL4_link_31, zm_e (zl_gI gL lu 9), zt_S_sz (zt_U_st U s hs), hm, if_pos (by omega), zm_e (zl_gI gL lu 0), hnr, zm_e (zt_C4_id hs.1 k1000)]
    dsimp only
    rw [zm_e (zt_C4_isId _)]
    dsimp only
    rw [if_pos idr, if_neg (by decide), zm_e (zl_gF gL lr.1 4 5), show a + 8 + 5 = a + 13 from rfl, zm_e (zl_wI gL hl13 hx.1 (by omega) _), zm_w (by omega), show (k : Int) + 1 = ((k + 1 : Nat) : Int) by omega]
    have gx : ∀ y : Int, 0 ≤ y → y ≠ x → zt_nx a (zv_sI g (a + 13) x.toNat (zt_id (s, (k : Int)))) y = zt_nx a g y := fun y hy hn => zy_In _ _ (fun q => hn (by omega))
    have hsub : ∀ y ∈ b :: (zt_sg s m).take k, y ∈ b :: zt_sg s m := fun y hy => by
      rcases List.mem_cons.mp hy with q | q
      · rw [q]; exact List.mem_cons_self
      · exact List.mem_cons_of_mem _ (List.mem_of_mem_take q)
    have hin : ∀ y ∈ b :: zt_sg s m, 0 ≤ y := fun y hy => by
      rcases List.mem_cons.mp hy with q | q
      · omega
      · unfold zt_sg at q
        obtain ⟨p, p1, p2⟩ := List.mem_map.mp q
        obtain ⟨p3, p4, p5⟩ := zm_rs_mem.mp p1
        have := (zt_id_r (okl p.2.toNat (by omega))).1
        rw [← p2, show p = (s, ((p.2.toNat : Nat) : Int)) from Prod.ext p3 (by dsimp only; omega)]
        exact this
    have hdk : (b :: (zt_sg s m).take k).Nodup := by
      have := List.nodup_cons.mp hd
      refine List.nodup_cons.mpr ⟨fun q => this.1 (List.mem_of_mem_take q), this.2.sublist (List.take_sublist _ _)⟩
    have oq : zt_q g (zv_sI g (a + 13) x.toNat (zt_id (s, (k : Int)))) := zt_q_sI _ (zt_xa la (by omega))
    refine ih (k + 1) _ _ (by omega) gL (zt_U_q U oq) (zt_o_I o (zt_c2 _) _ _) (by omega) ?_ (fun y hy hn => ?_)
    · rw [zt_sg_t s m (by omega)]
      exact zt_pt_a (zt_pt_fr hp hdk (fun y hy hn => gx y (hin y (hsub y hy)) hn)) (zy_I _ _ _ _)
    · rw [zt_sg_t s m (by omega)] at hn
      have hn1 : ¬ y ∈ b :: (zt_sg s m).take k := fun q => hn (by
        rcases List.mem_cons.mp q with z | z
        · rw [z]; exact List.mem_cons_self
        · exact List.mem_cons_of_mem _ (List.mem_append_left _ z))
      exact (gx y hy (fun q => hn1 (by rw [q]; exact zt_pt_m hp))).trans (hf y hy hn1)
/-- at work on the row of a line -/
def zt_B (a : Nat) (c : Nat → Int) (L : List Int) (h : zv_H) (g : zv_H) : Prop := (zt_L g) ∧ (zt_U a c g) ∧ (zt_q h g) ∧ (zt_wk a c L g)
theorem zt_B_L {a : Nat} {c : Nat → Int} {L : List Int} {h : zv_H} {g : zv_H} (t : zt_B a c L h g) : zt_L g := t.1
theorem zt_B_U {a : Nat} {c : Nat → Int} {L : List Int} {h : zv_H} {g : zv_H} (t : zt_B a c L h g) : zt_U a c g := t.2.1
theorem zt_B_q {a : Nat} {c : Nat → Int} {L : List Int} {h : zv_H} {g : zv_H} (t : zt_B a c L h g) : zt_q h g := t.2.2.1
theorem zt_B_wk {a : Nat} {c : Nat → Int} {L : List Int} {h : zv_H} {g : zv_H} (t : zt_B a c L h g) : zt_wk a c L g := t.2.2.2
theorem zt_B_I {a : Nat} {c : Nat → Int} {L : List Int} {h g : zv_H} (B : zt_B a c L h g) {r k : Nat} (v : Int) (hx : zt_x r k) (hn : ¬ (r = a + 8 ∧ k = 5)) : zt_B a c L h (zv_sI g r k v) := by
  have q := zt_q_sI (h := g) v hx
  have gL := zt_B_L B
  have p1 := zt_wk_pa (zt_B_wk B)
  have p2 := zt_wk_ac (zt_B_wk B)
  have p3 := zt_wk_fo (zt_B_wk B)
  refine ⟨gL, zt_U_q (zt_B_U B) q, zt_q_t (zt_B_q B) q, ?_, p1, p2, p3⟩
  rw [zy_In _ _ (fun q => hn ⟨q.1.symm, q.2.symm⟩)]
  exact zt_wk_ln (zt_B_wk B)
theorem zt_B_o {a : Nat} {c : Nat → Int} {L : List Int} {h g g2 : zv_H} (B : zt_B a c L h g) {r : Nat} (o : zt_o [r] g g2) (hx : ∀ k, zt_x r k) (hn : r ≠ a + 8) : zt_B a c L h g2 := by
  have q : zt_q g g2 := zt_o_q o (fun x hr k => by rw [List.mem_singleton.mp hr]; exact hx k)
  have e : g2.2.2 = g.2.2 := o.2.1
  refine ⟨zt_o_L o (zt_B_L B), zt_U_q (zt_B_U B) q, zt_q_t (zt_B_q B) q, ?_, fun k x hx => ?_, fun k hk => ?_, fun k hk => ?_⟩
  · rw [zt_o_i o (zt_c1 (fun q => hn q.symm))]
    exact zt_wk_ln (zt_B_wk B)
  · show g2.2.2.2.1 (a + 9) k = _
    rw [e]; exact zt_wk_pa (zt_B_wk B) k x hx
  · have : zv_J g2 (a + 8) 8 = zv_J g (a + 8) 8 := by
      show g2.2.2.1 (a + 8) 8 = _
      rw [e]; rfl
    rw [this]; exact zt_wk_ac (zt_B_wk B) k hk
  · have : zv_J g2 (a + 8) 9 = zv_J g (a + 8) 9 := by
      show g2.2.2.1 (a + 8) 9 = _
      rw [e]; rfl
    rw [this]; exact zt_wk_fo (zt_B_wk B) k hk
end
/-! A08.lay -/
section
/-! ===== the tie: the row is laid ===== -/
theorem zt_link {d : Nat} {a : Nat} {c : Nat → Int} {s : Int} {m : Nat} (hs : zm_st c s) (hm : zm_o c s 5 = m) (okl : ∀ k : Nat, k < m → zt_ok (s, (k : Int))) {g : zv_H} (gL : zt_L g) (U : zt_U a c g) {A B : List Int} (hl : zt_lk (zt_nx a g) 604 (A ++ B)) (hd : (604 :: (A ++ (zt_sg s m ++ B))).Nodup) (hr : ∀ x ∈ A ++ B, 0 ≤ x) {b : Int} (hb : ((604 : Int) :: A).getLast (List.cons_ne_nil _ _) = b) (hv : (zv_I g (zt_r a s) 15 = b ∧ 0 ≤ b ∧ b < 604) ∨ (zv_I g (zt_r a s) 15 = -1 ∧ b = 604)) : zm_R (C4_link (d + 2) (a + 8) (zt_r a s) g) (fun h' => zt_o [a + 13] g h' ∧ zt_lk (zt_nx a h') 604 (A ++ (zt_sg s m ++ B))) := by
  have la := zt_U_la U
  have lr := zt_row_l la
  have lu := zt_r_l la hs.1
  have hb0 : 0 ≤ b ∧ b ≤ 604 := by rcases hv with q | q <;> omega
  have hpt := zt_lk_at hl
  rw [hb] at hpt
  have hbm : b ∈ 604 :: A := zt_pt_m hpt
  have hperm : (604 :: (A ++ B)).Nodup ∧ (b :: zt_sg s m).Nodup ∧ ∀ x ∈ 604 :: (A ++ B), ¬ x ∈ zt_sg s m := by
    have h1 := List.nodup_cons.mp hd
    have h2 := List.nodup_append.mp h1.2
    have h3 := List.nodup_append.mp h2.2.1
    have h4 : ∀ x ∈ 604 :: (A ++ B), ¬ x ∈ zt_sg s m := fun x hx q => by
      rcases List.mem_cons.mp hx with z | z
      · rw [z] at q
        exact h1.1 (List.mem_append_right _ (List.mem_append_left _ q))
      · rcases List.mem_append.mp z with z | z
        · exact h2.2.2 x z x (List.mem_append_left _ q) rfl
        · exact h3.2.2 x q x z rfl
    refine ⟨List.nodup_cons.mpr ⟨fun q => h1.1 ?_, List.nodup_append.mpr ⟨h2.1, h3.2.1, fun x hx y hy => h2.2.2 x hx y (List.mem_append_right _ hy)⟩⟩, List.nodup_cons.mpr ⟨h4 b ?_, h3.1⟩, h4⟩
    · rcases List.mem_append.mp q with z | z
      · exact List.mem_append_left _ z
      · exact List.mem_append_right _ (List.mem_append_right _ z)
    · rcases List.mem_cons.mp hbm with z | z
      · rw [z]; exact List.mem_cons_self
      · exact List.mem_cons_of_mem _ (List.mem_append_left _ z)
  have run : zm_R (L4_link_31 (d + 1) (a + 8) (zt_r a s) b (zt_nx a g b) 0 g) (zm_V fun h' => zt_o [a + 13] g h' ∧ zt_lk (zt_nx a h') 604 (A ++ (zt_sg s m ++ B))) := by
    refine zm_mono (zt_link31 (d := d) hs hm okl b (zt_nx a g b) hb0 hperm.2.1 (zt_nx a g) m 0 b g (Nat.zero_add _) gL U (zt_o_r _ _) hb0 rfl (fun _ _ _ => rfl)) ?_
    rintro ⟨ov, h'⟩ ⟨e0, o, e, p1, p2, p3⟩
    refine ⟨e0, o, zt_lk_ins p1 p2 hl hpt hperm.1 (fun x hx hn => p3 x ?_ (fun q => ?_))⟩
    · rcases List.mem_cons.mp hx with z | z
      · rw [z]; decide
      · exact hr x z
    · rcases List.mem_cons.mp q with z | z
      · exact hn z
      · exact hperm.2.2 x hx z
  refine zm_cV (fun e => lC4_link ⟨zl_n gL (zc_ly lr.1), lr.1⟩ e) ?_
  rw [qE4_link, zm_e (zl_gI gL lu 15), zm_e (zt_C4_isId _)]
  dsimp only
  rcases hv with q | q
  · rw [q.1, if_pos q.2, if_neg (by decide), zm_e (zl_gI gL lu 15), q.1, zm_e (zl_gF gL lr.1 4 5), show a + 8 + 5 = a + 13 from rfl, zm_e (zl_aI gL lr.2.2.2.2.2 hb0.1 (by omega))]
    exact run
  · rw [q.1, if_neg (show ¬ ((0 : Int) ≤ -1 ∧ (-1 : Int) < 604) by decide), if_pos rfl, zm_e (zl_gF gL lr.1 4 5), show a + 8 + 5 = a + 13 from rfl, zm_e (zl_aI gL lr.2.2.2.2.2 (by decide) (by decide))]
    rw [q.2] at run
    exact run
/-- letters of a row have numbers -/
theorem zt_row_ok {c : Nat → Int} {L : List Int} (ok : ∀ t ∈ L, zm_st c t) (g : zm_G0 c L) : ∀ p ∈ zm_row c L, zt_ok p := by
  intro p hp
  have h1 := zm_row_mem hp
  have h2 := (ok p.1 h1.1).1
  by_cases e : p.1 = 0
  · refine Or.inl ⟨e, h1.2.1, ?_⟩
    have := g.2.2.1
    rw [e] at h1
    omega
  · refine Or.inr ⟨by omega, h1.2.1, ?_⟩
    by_cases he : zm_ed c p.1
    · have := g.2.2.2.2 p.1 h1.1 e he
      omega
    · exfalso
      have key : ∀ L : List Int, p ∈ zm_row c L → p.1 ≠ 0 → L.getLast? = some 0 → zm_ed c p.1 := by
        intro L
        induction L with
        | nil => intro h; cases h
        | cons t b ih =>
          intro h h0 hl
          by_cases hb : b = []
          · subst hb
            have et : t = 0 := Option.some.inj hl
            rw [zm_row_1, zm_rs_mem, et] at h
            exact absurd h.1 h0
          · rw [zm_row_c c t hb] at h
            have hl' : b.getLast? = some 0 := by
              cases b with
              | nil => exact absurd rfl hb
              | cons u b => rw [List.getLast?_cons_cons] at hl; exact hl
            by_cases c1 : zm_o c t 2 = 0
            · rw [if_pos c1, zm_ins_mem] at h
              rcases h with h | h
              · exact ih h h0 hl'
              · rw [(zm_rs_mem.mp h).1]
                exact Or.inl c1
            · rw [if_neg c1] at h
              exact ih h h0 hl'
      exact he (key L hp e g.2.1)
theorem zt_map_nd {row : List (Int × Int)} (ok : ∀ p ∈ row, zt_ok p) (hd : row.Nodup) : (row.map zt_id).Nodup := by
  rw [List.Nodup, List.pairwise_map]
  have h2 : List.Pairwise (fun a b => a ≠ b ∧ zt_ok a ∧ zt_ok b) row := by
    induction row with
    | nil => exact List.Pairwise.nil
    | cons x r ih =>
      have h3 := List.nodup_cons.mp hd
      refine List.pairwise_cons.mpr ⟨fun y hy => ⟨fun e => h3.1 (by rw [e]; exact hy), ok x List.mem_cons_self, ok y (List.mem_cons_of_mem _ hy)⟩, ih (fun p hp => ok p (List.mem_cons_of_mem _ hp)) h3.2⟩
  exact h2.imp (fun h e => h.1 (zt_id_inj h.2.1 h.2.2 e))
/-- the row without what comes later -/
theorem zt_G0_suf {c : Nat → Int} {ap b : List Int} (hb : b ≠ []) (g : zm_G0 c (ap ++ b)) : zm_G0 c b := by
  obtain ⟨g1, g2, g3, g4, g5⟩ := g
  refine ⟨(List.nodup_append.mp g1).2.1, ?_, g3, g4, fun u hu => g5 u (List.mem_append_right _ hu)⟩
  rw [List.getLast?_append] at g2
  cases e9 : b.getLast? with
  | none => exact absurd (List.getLast?_eq_none_iff.mp e9) hb
  | some y => rw [e9] at g2; exact g2
/-- ids of the row of what is laid so far; nothing of nothing -/
def zt_rid (c : Nat → Int) (b : List Int) : List Int := (zm_row c b).map zt_id
theorem zt_sg_c (c : Nat → Int) (t : Int) {m : Nat} (hm : zm_o c t 5 = m) : (zm_rs t (zm_o c t 5)).map zt_id = zt_sg t m := by rw [hm]; rfl
theorem zt_lay16 {d : Nat} {h : zv_H} {a : Nat} {c : Nat → Int} {L : List Int} {s0 : Int} (hLn : zm_Ln c L s0) (ok : zt_ln_ok c L) (g0 : zm_G0 c L) {P : Option zv_V × zv_H → Prop} (fin : ∀ g, zt_B a c L h g → zt_lk (zt_nx a g) 604 (zt_rid c L) → zm_R (L4_lay_16 (d + 2) (a + 8) L.length g) P) : ∀ (ap b : List Int), ap.reverse ++ b = L → ∀ g, zt_B a c L h g → zt_lk (zt_nx a g) 604 (zt_rid c b) → zm_R (L4_lay_16 (d + 2) (a + 8) b.length g) P := by
  intro ap
  induction ap with
  | nil =>
    intro b e g B lk
    have e' : b = L := e
    subst e'
    exact fin g B lk
  | cons t ap ih =>
    intro b e g B lk
    have gL := zt_B_L B
    have U := zt_B_U B
    have wk := zt_B_wk B
    have e' : ap.reverse ++ (t :: b) = L := by rw [← e, List.reverse_cons, List.append_assoc]; rfl
    have mt : t ∈ L := by rw [← e']; exact List.mem_append_right _ List.mem_cons_self
    have st := ok.2.2.1 t mt
    have la := zt_U_la U
    have lr := zt_row_l la
    have lu := zt_r_l la st.1
    have len : b.length < L.length := by rw [← e', List.length_append, List.length_cons]; omega
    have l48 := ok.2.2.2
    have rd : zv_aR g (a + 9) (b.length : Int) = some (zt_r a t) := by
      rw [zl_aR gL lr.2.1 (by omega) (by omega), show ((b.length : Int)).toNat = b.length by omega, zt_wk_pa wk _ _ (zm_rev_at e)]
    have w1 : zv_w ((b.length : Int) + 1) = (((t :: b).length : Nat) : Int) := by rw [zm_w (by omega), List.length_cons]; rfl
    have gtb : zm_G0 c (t :: b) := zt_G0_suf (List.cons_ne_nil _ _) (by rw [e']; exact g0)
    have S := zt_U_st U t st
    have okb : ∀ u ∈ t :: b, zm_st c u := fun u hu => ok.2.2.1 u (by rw [← e']; exact List.mem_append_right _ hu)
    rw [qL4_lay_16, zm_e (zl_gI gL lr.1 5), zt_wk_ln wk, if_pos (by omega), zm_e (zl_gF gL lr.1 0 1), show a + 8 + 1 = a + 9 from rfl, zm_e rd, if_neg (zc_nz lu), zm_e (zl_gF gL lr.1 0 1), show a + 8 + 1 = a + 9 from rfl, zm_e rd, zm_e (zt_C5_brings gL lu), zt_S_ac S]
    dsimp only
    have keep : ∀ g2, zt_o [a + 13] g g2 → zt_B a c L h g2 := fun g2 o2 => zt_B_o B o2 (fun k => zt_xa la (by omega)) (by omega)
    by_cases hbr : zm_o c t 2 = 0 ∨ zm_o c t 2 = -1
    · rw [if_pos hbr, if_neg (by decide), zm_e (zl_gF gL lr.1 0 1), show a + 8 + 1 = a + 9 from rfl, zm_e rd]
      -- its size, its letters
      have sz : (0 ≤ zm_o c t 5) ∧ ∀ k : Nat, (k : Int) < zm_o c t 5 → zt_ok (t, (k : Int)) := by
        by_cases t0 : t = 0
        · have := gtb.2.2.1
          rw [t0]
          exact ⟨this.1, fun k hk => Or.inl ⟨rfl, by dsimp only; omega, by dsimp only; omega⟩⟩
        · have he : zm_ed c t := by
            rcases hbr with q | q
            · exact Or.inl q
            · exact absurd (zt_cw_s0 (zt_S_cw S) q) t0
          have := gtb.2.2.2.2 t List.mem_cons_self t0 he
          have h47 := st.1
          exact ⟨this.1, fun k hk => Or.inr ⟨by dsimp only; omega, by dsimp only; omega, by dsimp only; omega⟩⟩
      obtain ⟨m, hm⟩ : ∃ m : Nat, zm_o c t 5 = m := ⟨(zm_o c t 5).toNat, by omega⟩
      have okl : ∀ k : Nat, k < m → zt_ok (t, (k : Int)) := fun k hk => sz.2 k (by omega)
      have go : ∀ (A B : List Int) (b' : Int), zt_rid c b = A ++ B → zt_rid c (t :: b) = A ++ (zt_sg t m ++ B) → ((604 : Int) :: A).getLast (List.cons_ne_nil _ _) = b' → ((zv_I g (zt_r a t) 15 = b' ∧ 0 ≤ b' ∧ b' < 604) ∨ (zv_I g (zt_r a t) 15 = -1 ∧ b' = 604)) → zm_R ((C4_link (d + 2) (a + 8) (zt_r a t) g).bind fun g9 => L4_lay_16 (d + 2) (a + 8) (zv_w ((b.length : Int) + 1)) g9) P := by
        intro A B b' e1 e2 e3 hv
        have okr := zt_row_ok okb gtb
        have nd : (zt_rid c (t :: b)).Nodup := zt_map_nd okr (zm_row_nd gtb.1)
        have rg : ∀ x ∈ zt_rid c (t :: b), 0 ≤ x ∧ x < 604 := fun x hx => by
          obtain ⟨p, p1, p2⟩ := List.mem_map.mp hx
          rw [← p2]
          exact zt_id_r (okr p p1)
        rw [e1] at lk
        rw [e2] at nd rg
        obtain ⟨g2, f1, f2, f3⟩ := zt_link (d := d) st hm okl gL U lk (List.nodup_cons.mpr ⟨fun q => by have := (rg 604 q).2; omega, nd⟩) (fun x hx => (rg x (by
          rcases List.mem_append.mp hx with z | z
          · exact List.mem_append_left _ z
          · exact List.mem_append_right _ (List.mem_append_right _ z))).1) e3 hv
        rw [zm_e f1, w1]
        exact ih (t :: b) e' g2 (keep g2 f2) (by rw [e2]; exact f3)
      by_cases hb : b = []
      · subst hb
        have t0 : t = 0 := Option.some.inj gtb.2.1
        refine go [] [] 604 rfl ?_ rfl (Or.inr ⟨?_, rfl⟩)
        · show (zm_row c [t]).map zt_id = _
          rw [zm_row_1, zt_sg_c c t hm, List.nil_append, List.append_nil]
        · rw [zt_S_an S, if_neg (fun q => ?_)]
          have := gtb.2.2.2.1
          rw [t0] at q
          omega
      · have t0 := (zm_G0_t hb gtb).2.1
        have c1 : zm_o c t 2 = 0 := by
          rcases hbr with q | q
          · exact q
          · exact absurd (zt_cw_s0 (zt_S_cw S) q) t0
        have er : zt_rid c (t :: b) = (zt_rid c b).take (zm_ps c t (zm_row c b)).toNat ++ (zt_sg t m ++ (zt_rid c b).drop (zm_ps c t (zm_row c b)).toNat) := by
          unfold zt_rid
          rw [zm_row_c c t hb, if_pos c1, zm_ins_e, List.map_append, List.map_append, zt_sg_c c t hm, List.map_take, List.map_drop]
        by_cases c2 : zm_o c t 8 < 0
        · have ep : zm_ps c t (zm_row c b) = 0 := if_pos c2
          rw [ep] at er
          refine go [] (zt_rid c b) 604 rfl er rfl (Or.inr ⟨?_, rfl⟩)
          rw [zt_S_an S, if_neg (fun q => by omega)]
        · have ep : zm_ps c t (zm_row c b) = zm_at (zm_row c b) (zm_o c t 8, zm_o c t 9) + 1 := if_neg c2
          have hLt : zm_Ln c (t :: b) t := by
            obtain ⟨x, y, x1, x2⟩ := zm_Ln_s hLn t mt
            have : x ++ t :: y = ap.reverse ++ (t :: b) := x1.symm.trans e'.symm
            have nd := ok.1
            have hy : y = b := by
              rw [x1] at nd
              have h1 : (x ++ t :: y).dropWhile (fun z => z != t) = t :: y := by
                have nx : ∀ z ∈ x, (z != t) = true := fun z hz => by
                  have := (List.nodup_append.mp nd).2.2 z hz t List.mem_cons_self
                  simpa using this
                rw [List.dropWhile_append_of_pos nx]
                simp
              have nd2 := ok.1
              rw [← e'] at nd2
              have h2 : (ap.reverse ++ t :: b).dropWhile (fun z => z != t) = t :: b := by
                have nx : ∀ z ∈ ap.reverse, (z != t) = true := fun z hz => by
                  have := (List.nodup_append.mp nd2).2.2 z hz t List.mem_cons_self
                  simpa using this
                rw [List.dropWhile_append_of_pos nx]
                simp
              rw [this, h2] at h1
              exact ((List.cons.inj h1).2).symm
            rw [← hy]
            exact x2
          have han := zt_cw_an (zt_S_cw S) b hLt c1 (by omega)
          have hat := zm_at_mem han
          have hge := zm_at_ge (zm_o c t 8, zm_o c t 9) (zm_row c b)
          generalize hq : (zm_at (zm_row c b) (zm_o c t 8, zm_o c t 9)).toNat = n at hat
          have en : (zm_ps c t (zm_row c b)).toNat = n + 1 := by omega
          rw [en] at er
          have okb2 : zt_ok (zm_o c t 8, zm_o c t 9) := zt_row_ok (fun u hu => okb u (List.mem_cons_of_mem _ hu)) (zm_G0_t hb gtb).1 _ han
          have et : (zt_rid c b).take (n + 1) = (zt_rid c b).take n ++ [zt_id (zm_o c t 8, zm_o c t 9)] := by
            rw [List.take_add_one]
            unfold zt_rid
            rw [List.getElem?_map, hat.2]
            rfl
          refine go _ _ (zt_id (zm_o c t 8, zm_o c t 9)) (List.take_append_drop _ _).symm er ?_ (Or.inl ⟨?_, zt_id_r okb2⟩)
          · have gl : ∀ (l : List Int) (x y : Int) (h : x :: (l ++ [y]) ≠ []), (x :: (l ++ [y])).getLast h = y := fun l x y h => List.getLast_concat (l := x :: l)
            have : ∀ (l : List Int) (h : (604 : Int) :: l ≠ []), l = (zt_rid c b).take n ++ [zt_id (zm_o c t 8, zm_o c t 9)] → ((604 : Int) :: l).getLast h = zt_id (zm_o c t 8, zm_o c t 9) := fun l h el => by
              subst el
              exact gl _ _ _ _
            exact this _ _ et
          · rw [zt_S_an S, if_pos ⟨c1, by omega⟩]
    · rw [if_neg hbr, if_pos rfl, w1]
      refine ih (t :: b) e' g B ?_
      have hb : b ≠ [] := fun hb => by
        subst hb
        have t0 : t = 0 := Option.some.inj gtb.2.1
        exact hbr (Or.inr (by rw [t0]; exact gtb.2.2.2.1))
      have er : zt_rid c (t :: b) = zt_rid c b := by
        unfold zt_rid
        rw [zm_row_c c t hb, if_neg (fun q => hbr (Or.inl q))]
      rw [er]
      exact lk
end
