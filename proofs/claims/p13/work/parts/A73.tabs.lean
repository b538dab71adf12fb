/-! A73.tabs -/
section
/-! ===== the tie: the tables' words, both sides ===== -/
def zt_wq (r : Nat) : List Int := (zm_tx r).reverse.map fun x => x - 96
theorem zt_wq_len (r : Nat) : (zt_wq r).length = (zm_tx r).length := by
  unfold zt_wq
  rw [List.length_map, List.length_reverse]
def zt_w7 (j : Nat) : Nat := 1000011 + j
def zt_w8 (j : Nat) : Nat := [1000000, 1000001, 1000010, 1000009, 1000002].getD j 0
def zt_w9 (j : Nat) : Nat := 1000003 + j
/-- a table that holds these words -/
def zt_tbl (w : Nat → Nat) (t : List Int64) (L : Nat) : Prop := ∀ j, j < L → (t.getD j 0 = Int64.ofInt (zt_v27 (zt_wq (w j))) ∧ (∀ x ∈ zt_wq (w j), 1 ≤ x ∧ x ≤ 26) ∧ (zm_tx (w j)).length ≤ 8) ∧ ∀ i, i < L → zm_tx (w i) = zm_tx (w j) → i = j
theorem zt_tbl7 : zt_tbl zt_w7 zm_t7 12 := by
  unfold zt_tbl
  decide +kernel
theorem zt_tbl8 : zt_tbl zt_w8 zm_t8 5 := by
  unfold zt_tbl
  decide +kernel
theorem zt_tbl9 : zt_tbl zt_w9 zm_t9 6 := by
  unfold zt_tbl
  decide +kernel
theorem zt_isw_u {T : Nat → Int} {f t E : Nat} {l l' : List Int} (h : zt_isw T f t E l) (h' : zt_isw T f t E l') : l = l' := by
  obtain ⟨_, a2, a3⟩ := h
  obtain ⟨_, b2, b3⟩ := h'
  have len : l.length = l'.length := by omega
  refine List.ext_getElem len fun i h1 h2 => ?_
  have a := a3 i h1
  have b := b3 i h2
  rw [List.getD_eq_getElem?_getD, List.getElem?_eq_getElem h1] at a
  rw [List.getD_eq_getElem?_getD, List.getElem?_eq_getElem h2] at b
  exact a.symm.trans b
section
variable {T : Nat → Int} {n : Nat} {g k : zv_H} {f t E : Nat}
theorem zt_gd_fE (G : zt_gd T n g k f t E) (t1 : t = 1) : f ≤ E := by
  obtain ⟨e0, hk⟩ := zt_gd_k G
  rcases hk.2 with ⟨a1, _⟩ | ⟨an, ⟨a1, a2, a3⟩ | ⟨a1, _⟩ | ⟨a1, _⟩ | ⟨a1, _⟩⟩
  · rw [t1] at a1; exact absurd a1 (by decide)
  · exact a3.1
  · rw [t1] at a1; exact absurd a1 (by decide)
  · rw [t1] at a1; exact absurd a1 (by decide)
  · rw [t1] at a1; exact absurd a1 (by decide)
/-- which word of a table it is -/
theorem zt_which {d r L : Nat} (G : zt_gd T n g k f t E) (hl : zv_lay r = (5, L)) (hr : Nat.ble r 372 = true) (hL : L ≤ 100) {w : Nat → Nat} {tl : List Int64} (tb : zt_tbl w tl L) (hT : ∀ j, j < L → zv_J k r j = tl.getD j 0) : ∃ v : Int, C9_which (d + 1) 347 r k = some (v, k) ∧ ((v = -1 ∧ ∀ j : Nat, j < L → ¬ zt_isw T f t E (zm_tx (w j))) ∨ ∃ j : Nat, v = (j : Int) ∧ j < L ∧ zt_isw T f t E (zm_tx (w j))) ∧ ∀ j : Nat, j < L → (v = (j : Int) ↔ zt_isw T f t E (zm_tx (w j))) := by
  have hM := zt_ty_M (zt_gd_Y G)
  obtain ⟨v, e, q⟩ := zt_which_l (d := d) (W := fun j => zt_wq (w j)) G hl hr hL (fun j hj => ⟨(hT j hj).trans (tb j hj).1.1, (tb j hj).1.2.1, Nat.le_trans (Nat.le_of_eq (zt_wq_len (w j))) (tb j hj).1.2.2⟩) L 0 (Nat.zero_add L)
  have iff : ∀ j, j < L → (zt_isw T f t E (zm_tx (w j)) ↔ zt_isC T f t E (zt_wq (w j))) := fun j hj => zt_isw_C (tb j hj).1.2.2 (zt_gd_fE G)
  have q' : (v = -1 ∧ ∀ j : Nat, j < L → ¬ zt_isw T f t E (zm_tx (w j))) ∨ ∃ j : Nat, v = (j : Int) ∧ j < L ∧ zt_isw T f t E (zm_tx (w j)) := by
    rcases q with ⟨q1, q2⟩ | ⟨j, q1, q2, q3, q4, q5⟩
    · exact Or.inl ⟨q1, fun j hj z => q2 j (Nat.zero_le _) hj ((iff j hj).mp z)⟩
    · exact Or.inr ⟨j, q1, q3, (iff j q3).mpr q4⟩
  refine ⟨v, lC9_which (zm_ob hM) (by rw [qE9_which]; exact e), q', fun j hj => ?_⟩
  rcases q' with ⟨q1, q2⟩ | ⟨i, q1, q2, q3⟩
  · constructor
    · intro z
      rw [q1] at z
      exact absurd z (by omega)
    · intro z
      exact absurd z (q2 j hj)
  · constructor
    · intro z
      have : i = j := Int.ofNat.inj (q1.symm.trans z)
      rw [← this]
      exact q3
    · intro z
      rw [q1, (tb j hj).2 i q2 (zt_isw_u q3 z)]
/-- behind a fault it is none -/
theorem zt_which_b {d r L : Nat} (B : zt_bd T n g k) (hl : zv_lay r = (5, L)) (hr : Nat.ble r 372 = true) : C9_which (d + 1) 347 r k = some (-1, k) := by
  have hM := zt_ty_M (zt_bd_Y B)
  refine lC9_which (zm_ob hM) ?_
  rw [qE9_which, qL9_which_2, zm_e (zm_al hM hl rfl hr)]
  by_cases c : (0 : Int) < (L : Int)
  · rw [if_pos c, zm_e (zm_gI hM 34)]
    by_cases c1 : zv_I k 347 34 = 1
    · rw [if_pos c1, zm_e (zm_gI hM 30)]
      by_cases c2 : zv_I k 347 30 = 0
      · rcases zt_bd_f B with ⟨_, _, z, _⟩ | ⟨z, _⟩
        · rw [c1] at z; exact absurd z (by decide)
        · have := zt_bd_f0 B
          rw [← z, c2] at this
          exact absurd this (Int.lt_irrefl _)
      · rw [if_neg c2]
    · rw [if_neg c1]
  · rw [if_neg c]
theorem zt_isSign_b {d : Nat} (B : zt_bd T n g k) (x : Int) : C9_isSign (d + 1) 347 x k = some (0, k) := by
  have hM := zt_ty_M (zt_bd_Y B)
  refine lC9_isSign (zm_ob hM) ?_
  rw [qE9_isSign, zm_e (zm_gI hM 30)]
  by_cases c2 : zv_I k 347 30 = 0
  · rw [if_pos c2, zm_e (zm_gI hM 34)]
    rcases zt_bd_f B with ⟨_, _, z, _⟩ | ⟨z, _⟩
    · rw [if_neg (by rw [z]; decide)]
    · have := zt_bd_f0 B
      rw [← z, c2] at this
      exact absurd this (Int.lt_irrefl _)
  · rw [if_neg c2]
/-- what is asked: both alike -/
theorem zt_asked {d : Nat} (G : zt_gd T n g k f t E) : ∃ v : Int, C3_asked (d + 5) 5 g = some (v, g) ∧ ((v = -1 ∧ ∀ j : Nat, j < 6 → ¬ zt_isw T f t E (zm_tx (zt_w9 j))) ∨ ∃ j : Nat, v = (j : Int) ∧ j < 6 ∧ zt_isw T f t E (zm_tx (zt_w9 j))) := by
  have gL := zt_tx_L (zt_gd_X G)
  suffices h : ∃ v : Int, E3_asked (d + 4) 5 g = some (some (zv_i v), g) ∧ ((v = -1 ∧ ∀ j : Nat, j < 6 → ¬ zt_isw T f t E (zm_tx (zt_w9 j))) ∨ ∃ j : Nat, v = (j : Int) ∧ j < 6 ∧ zt_isw T f t E (zm_tx (zt_w9 j))) by
    obtain ⟨v, e, q⟩ := h
    exact ⟨v, lC3_asked (zl_ob gL zt_lay5) e, q⟩
  rw [qE3_asked]
  have no0 : ∀ i : Nat, i < 0 → ¬ zt_isw T f t E (zm_tx (zt_w9 i)) := fun i hi => absurd hi (Nat.not_lt_zero _)
  obtain ⟨b0, e0, q0⟩ := zt_is (d := d) (r := 1000003) G (by decide)
  rw [zm_e e0]
  dsimp only
  rcases q0 with ⟨p0, w0⟩ | ⟨p0, w0⟩
  · rw [p0, if_neg (by decide)]
    exact ⟨0, rfl, Or.inr ⟨0, rfl, by decide, w0⟩⟩
  rw [p0, if_pos rfl]
  have no1 : ∀ i : Nat, i < 1 → ¬ zt_isw T f t E (zm_tx (zt_w9 i)) := fun i hi => (Nat.lt_succ_iff_lt_or_eq.mp hi).elim (no0 i) (fun z => by rw [z]; exact w0)
  obtain ⟨b1, e1, q1⟩ := zt_is (d := d) (r := 1000004) G (by decide)
  rw [zm_e e1]
  dsimp only
  rcases q1 with ⟨p1, w1⟩ | ⟨p1, w1⟩
  · rw [p1, if_neg (by decide)]
    exact ⟨1, rfl, Or.inr ⟨1, rfl, by decide, w1⟩⟩
  rw [p1, if_pos rfl]
  have no2 : ∀ i : Nat, i < 2 → ¬ zt_isw T f t E (zm_tx (zt_w9 i)) := fun i hi => (Nat.lt_succ_iff_lt_or_eq.mp hi).elim (no1 i) (fun z => by rw [z]; exact w1)
  obtain ⟨b2, e2, q2⟩ := zt_is (d := d) (r := 1000005) G (by decide)
  rw [zm_e e2]
  dsimp only
  rcases q2 with ⟨p2, w2⟩ | ⟨p2, w2⟩
  · rw [p2, if_neg (by decide)]
    exact ⟨2, rfl, Or.inr ⟨2, rfl, by decide, w2⟩⟩
  rw [p2, if_pos rfl]
  have no3 : ∀ i : Nat, i < 3 → ¬ zt_isw T f t E (zm_tx (zt_w9 i)) := fun i hi => (Nat.lt_succ_iff_lt_or_eq.mp hi).elim (no2 i) (fun z => by rw [z]; exact w2)
  obtain ⟨b3, e3, q3⟩ := zt_is (d := d) (r := 1000006) G (by decide)
  rw [zm_e e3]
  dsimp only
  rcases q3 with ⟨p3, w3⟩ | ⟨p3, w3⟩
  · rw [p3, if_neg (by decide)]
    exact ⟨3, rfl, Or.inr ⟨3, rfl, by decide, w3⟩⟩
  rw [p3, if_pos rfl]
  have no4 : ∀ i : Nat, i < 4 → ¬ zt_isw T f t E (zm_tx (zt_w9 i)) := fun i hi => (Nat.lt_succ_iff_lt_or_eq.mp hi).elim (no3 i) (fun z => by rw [z]; exact w3)
  obtain ⟨b4, e4, q4⟩ := zt_is (d := d) (r := 1000007) G (by decide)
  rw [zm_e e4]
  dsimp only
  rcases q4 with ⟨p4, w4⟩ | ⟨p4, w4⟩
  · rw [p4, if_neg (by decide)]
    exact ⟨4, rfl, Or.inr ⟨4, rfl, by decide, w4⟩⟩
  rw [p4, if_pos rfl]
  have no5 : ∀ i : Nat, i < 5 → ¬ zt_isw T f t E (zm_tx (zt_w9 i)) := fun i hi => (Nat.lt_succ_iff_lt_or_eq.mp hi).elim (no4 i) (fun z => by rw [z]; exact w4)
  obtain ⟨b5, e5, q5⟩ := zt_is (d := d) (r := 1000008) G (by decide)
  rw [zm_e e5]
  dsimp only
  rcases q5 with ⟨p5, w5⟩ | ⟨p5, w5⟩
  · rw [p5, if_neg (by decide)]
    exact ⟨5, rfl, Or.inr ⟨5, rfl, by decide, w5⟩⟩
  rw [p5, if_pos rfl]
  have no6 : ∀ i : Nat, i < 6 → ¬ zt_isw T f t E (zm_tx (zt_w9 i)) := fun i hi => (Nat.lt_succ_iff_lt_or_eq.mp hi).elim (no5 i) (fun z => by rw [z]; exact w5)
  exact ⟨-1, rfl, Or.inl ⟨rfl, no6⟩⟩
/-- both see the same verb -/
theorem zt_verb {d D : Nat} (G : zt_gd T n g k f t E) (K : zm_K k) : ∃ v : Int, C3_verbHere (d + 5) 5 g = some (v, g) ∧ C9_which (D + 1) 347 367 k = some (v, k) ∧ (v = -1 ∨ ∃ j : Nat, v = (j : Int) ∧ j < 12 ∧ zt_isw T f t E (zm_tx (zt_w7 j))) := by
  obtain ⟨v, e, q⟩ := zt_verbHere (d := d) G
  obtain ⟨v', e', q', iff⟩ := zt_which (d := D) (r := 367) (L := 12) G rfl rfl (by decide) zt_tbl7 K.2.2.2.1
  have : v' = v := by
    rcases q with ⟨q1, q2⟩ | ⟨j, q1, q2, q3, _⟩
    · rcases q' with ⟨z, _⟩ | ⟨i, z1, z2, z3⟩
      · exact z.trans q1.symm
      · exact absurd z3 (q2 i z2)
    · exact ((iff j q2).mpr q3).trans q1.symm
  rw [this] at e'
  refine ⟨v, e, e', ?_⟩
  rcases q with ⟨q1, q2⟩ | ⟨j, q1, q2, q3, _⟩
  · exact Or.inl q1
  · exact Or.inr ⟨j, q1, q2, q3⟩
/-- one of the other words, for both -/
theorem zt_oth {d D : Nat} (G : zt_gd T n g k f t E) (K : zm_K k) : ∃ v : Int, C9_which (D + 1) 347 368 k = some (v, k) ∧ ∀ j : Nat, j < 5 → (v = (j : Int) ∧ zt_isw T f t E (zm_tx (zt_w8 j)) ∧ C3_is (d + 4) 5 (zt_w8 j) g = some (1, g)) ∨ (v ≠ (j : Int) ∧ ¬ zt_isw T f t E (zm_tx (zt_w8 j)) ∧ C3_is (d + 4) 5 (zt_w8 j) g = some (0, g)) := by
  obtain ⟨v, e, q, iff⟩ := zt_which (d := D) (r := 368) (L := 5) G rfl rfl (by decide) zt_tbl8 K.2.2.2.2.1
  have hr : ∀ j, j < 5 → 1000000 ≤ zt_w8 j ∧ zt_w8 j < 1000024 := by decide +kernel
  refine ⟨v, e, fun j hj => ?_⟩
  obtain ⟨b, e2, q2⟩ := zt_is (d := d) (r := zt_w8 j) G (hr j hj)
  rcases q2 with ⟨p, w⟩ | ⟨p, w⟩
  · rw [p] at e2
    exact Or.inl ⟨(iff j hj).mpr w, w, e2⟩
  · rw [p] at e2
    exact Or.inr ⟨fun z => w ((iff j hj).mp z), w, e2⟩
/-- the six values, for both -/
theorem zt_val {d D : Nat} (G : zt_gd T n g k f t E) (K : zm_K k) : ∃ v : Int, C3_asked (d + 5) 5 g = some (v, g) ∧ C9_which (D + 1) 347 369 k = some (v, k) ∧ (v = -1 ∨ ∃ j : Nat, v = (j : Int) ∧ j < 6 ∧ zt_isw T f t E (zm_tx (zt_w9 j))) := by
  obtain ⟨v, e, q⟩ := zt_asked (d := d) G
  obtain ⟨v', e', q', iff⟩ := zt_which (d := D) (r := 369) (L := 6) G rfl rfl (by decide) zt_tbl9 K.2.2.2.2.2
  have : v' = v := by
    rcases q with ⟨q1, q2⟩ | ⟨j, q1, q2, q3⟩
    · rcases q' with ⟨z, _⟩ | ⟨i, z1, z2, z3⟩
      · exact z.trans q1.symm
      · exact absurd z3 (q2 i z2)
    · exact ((iff j q2).mpr q3).trans q1.symm
  rw [this] at e'
  refine ⟨v, e, e', ?_⟩
  rcases q with ⟨q1, q2⟩ | ⟨j, q1, q2, q3⟩
  · exact Or.inl q1
  · exact Or.inr ⟨j, q1, q2, q3⟩
end
end
/-! A74.jtest -/
section
/-! ===== the tie: a TEST is read: what stands so far ===== -/
/-- the steps so far are these codes -/
def zt_T0 (b : Nat) (cs : List Int) (h : zv_H) : Prop := (zv_I h (b + 22) 3 = cs.length) ∧ (∀ (k : Nat) (v : Int), cs[k]? = some v → zv_I h (b + 23) k = (zt_sp v).1 ∧ zv_I h (b + 24) k = (zt_sp v).2) ∧ (∀ v ∈ cs, -3 ≤ v ∧ v < 100000)
theorem zt_T0_sz {b : Nat} {cs : List Int} {h : zv_H} (t : zt_T0 b cs h) : zv_I h (b + 22) 3 = cs.length := t.1
theorem zt_T0_st {b : Nat} {cs : List Int} {h : zv_H} (t : zt_T0 b cs h) : ∀ (k : Nat) (v : Int), cs[k]? = some v → zv_I h (b + 23) k = (zt_sp v).1 ∧ zv_I h (b + 24) k = (zt_sp v).2 := t.2.1
theorem zt_T0_rg {b : Nat} {cs : List Int} {h : zv_H} (t : zt_T0 b cs h) : ∀ v ∈ cs, -3 ≤ v ∧ v < 100000 := t.2.2
/-- what a step changes in the class -/
def zt_ja (b : Nat) (g g' : zv_H) : Prop := g'.1 = g.1 ∧ g'.2.2 = g.2.2 ∧ ∀ r k, r ≠ b + 22 → r ≠ b + 23 → r ≠ b + 24 → zv_I g' r k = zv_I g r k
/-- what reading a TEST changes in the class -/
def zt_tj (b : Nat) (g g' : zv_H) : Prop := g'.1 = g.1 ∧ g'.2.2 = g.2.2 ∧ ∀ r k, ¬ (r = 5 ∧ 4 ≤ k ∧ k ≤ 9) → r ≠ b + 22 → r ≠ b + 23 → r ≠ b + 24 → zv_I g' r k = zv_I g r k
theorem zt_tj_r (b : Nat) (g : zv_H) : zt_tj b g g := ⟨rfl, rfl, fun _ _ _ _ _ _ => rfl⟩
theorem zt_tj_t {b : Nat} {g g1 g2 : zv_H} (f : zt_tj b g g1) (h : zt_tj b g1 g2) : zt_tj b g g2 := ⟨h.1.trans f.1, h.2.1.trans f.2.1, fun r k q1 q2 q3 q4 => (h.2.2 r k q1 q2 q3 q4).trans (f.2.2 r k q1 q2 q3 q4)⟩
theorem zt_tj_rf {b : Nat} {g g1 : zv_H} (f : zt_rf g g1) : zt_tj b g g1 := ⟨f.1, f.2.1, fun r k q1 _ _ _ => f.2.2 r k q1⟩
theorem zt_tj_ja {b : Nat} {g g1 : zv_H} (f : zt_ja b g g1) : zt_tj b g g1 := ⟨f.1, f.2.1, fun r k _ q2 q3 q4 => f.2.2 r k q2 q3 q4⟩
theorem zt_L_12 {g g' : zv_H} (gL : zt_L g) (h1 : g'.1 = g.1) (h2 : g'.2.2 = g.2.2) : zt_L g' := by
  refine ⟨?_, fun r k q1 q2 => ?_, fun a i q1 q2 => ?_⟩
  · have := gL.1
    unfold zv_n at *
    rw [h1]
    exact this
  · unfold zv_R
    rw [h2]
    exact gL.2.1 r k q1 q2
  · unfold zv_R
    rw [h2]
    exact gL.2.2 a i q1 q2
section
variable {T : Nat → Int} {n : Nat} {g k : zv_H} {f t E b : Nat}
theorem zt_tx_x0 (X : zt_tx T n g) {g' : zv_H} (gL' : zt_L g') (h5 : zv_I g' 5 3 = zv_I g 5 3) (h6 : ∀ j, zv_I g' 6 j = zv_I g 6 j) : zt_tx T n g' := ⟨gL', zt_tx_n X, h5.trans (zt_tx_l X), fun i hi => (h6 i).trans (zt_tx_t X i hi), zt_tx_b X⟩
theorem zt_ty_x (Y : zt_ty T n k) {A B : List Nat} {k' : zv_H} (F : zm_F A B k k') (hA : A.contains 366 = false := by rfl) (hB : B.contains 36 = false := by rfl) : zt_ty T n k' := ⟨zm_F_M F (zt_ty_M Y), zt_ty_n Y, (zm_F_g F 36 hB).trans (zt_ty_l Y), fun i hi => by rw [zm_F_a F 366 hA]; exact zt_ty_t Y i hi, zt_ty_b Y⟩
/-- the TOKEN stands where other cells change -/
theorem zt_gd_x0 (G : zt_gd T n g k f t E) {g' k' : zv_H} (gL' : zt_L g') (h5 : ∀ j, j < 10 → zv_I g' 5 j = zv_I g 5 j) (h6 : ∀ j, zv_I g' 6 j = zv_I g 6 j) {A B : List Nat} (F : zm_F A B k k') (hA : A.contains 366 = false := by rfl) (b0 : B.contains 30 = false := by rfl) (b2 : B.contains 32 = false := by rfl) (b3 : B.contains 33 = false := by rfl) (b4 : B.contains 34 = false := by rfl) (b5 : B.contains 35 = false := by rfl) (b6 : B.contains 36 = false := by rfl) (b8 : B.contains 38 = false := by rfl) : zt_gd T n g' k' f t E := by
  have r := zt_gd_r G
  refine ⟨zt_tx_x0 (zt_gd_X G) gL' (h5 3 (by decide)) h6, zt_ty_x (zt_gd_Y G) F hA b6, zt_gd_k G, zt_gd_t4 G, (h5 5 (by decide)).trans (zt_gd_c5 G), (h5 4 (by decide)).trans (zt_gd_c4 G), (h5 6 (by decide)).trans (zt_gd_c6 G), fun q => (h5 7 (by decide)).trans (zt_gd_c2 G q), fun q => (h5 7 (by decide)).trans (zt_gd_c3 G q), ⟨(zm_F_g F 32 b2).trans r.1, (zm_F_g F 34 b4).trans r.2.1, fun q => (zm_F_g F 33 b3).trans (r.2.2.1 q), fun q => (zm_F_g F 35 b5).trans (r.2.2.2.1 q), fun q => ?_⟩, (h5 8 (by decide)).trans (zt_gd_f1 G), (zm_F_g F 30 b0).trans (zt_gd_f2 G), (h5 9 (by decide)).trans (zt_gd_f9 G)⟩
  rw [zt_F_J38 F b8]
  exact r.2.2.2.2 q
theorem zt_gd_x (G : zt_gd T n g k f t E) {g' k' : zv_H} (h1 : g'.1 = g.1) (h2 : g'.2.2 = g.2.2) (h5 : ∀ j, j < 10 → zv_I g' 5 j = zv_I g 5 j) (h6 : ∀ j, zv_I g' 6 j = zv_I g 6 j) {A B : List Nat} (F : zm_F A B k k') (hA : A.contains 366 = false := by rfl) (b0 : B.contains 30 = false := by rfl) (b2 : B.contains 32 = false := by rfl) (b3 : B.contains 33 = false := by rfl) (b4 : B.contains 34 = false := by rfl) (b5 : B.contains 35 = false := by rfl) (b6 : B.contains 36 = false := by rfl) (b8 : B.contains 38 = false := by rfl) : zt_gd T n g' k' f t E := zt_gd_x0 G (zt_L_12 (zt_tx_L (zt_gd_X G)) h1 h2) h5 h6 F hA b0 b2 b3 b4 b5 b6 b8
theorem zt_bd_x0 (B : zt_bd T n g k) {g' k' : zv_H} (gL' : zt_L g') (h5 : ∀ j, j < 10 → zv_I g' 5 j = zv_I g 5 j) (h6 : ∀ j, zv_I g' 6 j = zv_I g 6 j) {A C : List Nat} (F : zm_F A C k k') (hA : A.contains 366 = false := by rfl) (b0 : C.contains 30 = false := by rfl) (b1 : C.contains 31 = false := by rfl) (b2 : C.contains 32 = false := by rfl) (b4 : C.contains 34 = false := by rfl) (b6 : C.contains 36 = false := by rfl) : zt_bd T n g' k' := by
  refine ⟨zt_tx_x0 (zt_bd_X B) gL' (h5 3 (by decide)) h6, zt_ty_x (zt_bd_Y B) F hA b6, by rw [h5 8 (by decide)]; exact zt_bd_f0 B, ?_⟩
  rw [h5 8 (by decide), h5 9 (by decide), zm_F_g F 30 b0, zm_F_g F 31 b1, zm_F_g F 32 b2, zm_F_g F 34 b4]
  exact zt_bd_f B
theorem zt_bd_x (B : zt_bd T n g k) {g' k' : zv_H} (h1 : g'.1 = g.1) (h2 : g'.2.2 = g.2.2) (h5 : ∀ j, j < 10 → zv_I g' 5 j = zv_I g 5 j) (h6 : ∀ j, zv_I g' 6 j = zv_I g 6 j) {A C : List Nat} (F : zm_F A C k k') (hA : A.contains 366 = false := by rfl) (b0 : C.contains 30 = false := by rfl) (b1 : C.contains 31 = false := by rfl) (b2 : C.contains 32 = false := by rfl) (b4 : C.contains 34 = false := by rfl) (b6 : C.contains 36 = false := by rfl) : zt_bd T n g' k' := zt_bd_x0 B (zt_L_12 (zt_tx_L (zt_bd_X B)) h1 h2) h5 h6 F hA b0 b1 b2 b4 b6
theorem zt_ja_5 (hb : zv_lay b = (1, 0)) {g' : zv_H} (j : zt_ja b g g') : (∀ i, zv_I g' 5 i = zv_I g 5 i) ∧ ∀ i, zv_I g' 6 i = zv_I g 6 i := by
  have := zc_lh hb
  exact ⟨fun i => j.2.2 5 i (by omega) (by omega) (by omega), fun i => j.2.2 6 i (by omega) (by omega) (by omega)⟩
theorem zt_gd_ja (hb : zv_lay b = (1, 0)) (G : zt_gd T n g k f t E) {g' : zv_H} (j : zt_ja b g g') : zt_gd T n g' k f t E := zt_gd_x G j.1 j.2.1 (fun i _ => (zt_ja_5 hb j).1 i) (zt_ja_5 hb j).2 (zm_F_r [] [] k)
theorem zt_bd_ja (hb : zv_lay b = (1, 0)) (B : zt_bd T n g k) {g' : zv_H} (j : zt_ja b g g') : zt_bd T n g' k := zt_bd_x B j.1 j.2.1 (fun i _ => (zt_ja_5 hb j).1 i) (zt_ja_5 hb j).2 (zm_F_r [] [] k)
/-- the next one, and that it is the next one -/
theorem zj_nx2 {d D : Nat} (G : zt_gd T n g k f t E) (t0 : t ≠ 0) : ∃ (v : Int) (g' k' : zv_H), C3_next (d + 2) 5 g = some (v, g') ∧ C9_reads (D + 5) 347 k = some k' ∧ zt_rf g g' ∧ zm_rF k k' ∧ ((v = 1 ∧ ∃ f' t' E', zt_gd T n g' k' f' t' E' ∧ zt_tkn T n E f' t' E') ∨ (v = 0 ∧ zt_bd T n g' k')) := by
  obtain ⟨e0, hk⟩ := zt_gd_k G
  obtain ⟨f', t', E', g', k', a1, a2, a3, a4, a5, a6, a7⟩ := zj_next (d := d) (D := D) (zt_tkn_E hk) (zt_gd_X G) (zt_gd_Y G) (zt_gd_c6 G) ((zt_gd_r G).2.2.1 t0)
  have X' := zt_tx_r (zt_gd_X G) a4
  have Y' := zt_ty_r (zt_gd_Y G) a5
  have f30 : zv_I k' 347 30 = 0 := (zm_F_g a5 30).trans (zt_gd_f2 G)
  refine ⟨_, g', k', a2, a3, a4, a5, ?_⟩
  rcases a6.2 with ⟨q1, q2, q3⟩ | ⟨q1, q2, q3, q4, q5, q6, q7⟩
  · rw [if_pos q1]
    exact Or.inr ⟨rfl, X', Y', by rw [q2]; decide, Or.inl ⟨q2, f30, by rw [a7.2.1, q1]; rfl, q3.trans a7.1.symm⟩⟩
  · rw [if_neg q1]
    exact Or.inl ⟨rfl, f', t', E', ⟨X', Y', ⟨_, a1⟩, q1, a6.1, q2, q3, q4, q5, a7, q6.trans (zt_gd_f1 G), f30, q7.trans (zt_gd_f9 G)⟩, a1⟩
/-- where the next one begins -/
theorem zt_tkn_f {e f' t' E' : Nat} (h : zt_tkn T n e f' t' E') : e ≤ f' ∧ f' ≤ E' ∧ (t' ≠ 0 → f' < E' ∧ f' < n) := by
  refine ⟨h.1.1, ?_, fun q => ?_⟩
  · rcases h.2 with ⟨a1, a2, a3⟩ | ⟨an, ⟨a1, a2, a3⟩ | ⟨a1, a2, a3, a4⟩ | ⟨a1, a2, a3, a4, a5⟩ | ⟨a1, ⟨a2, a3, a4⟩ | ⟨a2, a3, a4, a5⟩⟩⟩ <;> first | omega | exact a3.1
  · have key : ∀ {P : Int → Prop}, P (T f') → zt_up P T n f' E' → f' < n → f' < E' := fun {P} p u fn => by
      rcases Nat.lt_or_ge f' E' with z | z
      · exact z
      · have : E' = f' := Nat.le_antisymm z u.1
        have u4 := u.2.2.2
        rw [this] at u4
        exact absurd p (u4 fn)
    rcases h.2 with ⟨a1, a2, a3⟩ | ⟨an, ⟨a1, a2, a3⟩ | ⟨a1, a2, a3, a4⟩ | ⟨a1, a2, a3, a4, a5⟩ | ⟨a1, ⟨a2, a3, a4⟩ | ⟨a2, a3, a4, a5⟩⟩⟩
    · exact absurd a1 q
    · exact ⟨key a2 a3 an, an⟩
    · exact ⟨key a2 a3 an, an⟩
    · exact ⟨by omega, an⟩
    · exact ⟨key a2 a3 an, an⟩
    · exact ⟨by omega, an⟩
/-- two words don't touch -/
theorem zt_gap (G : zt_gd T n g k f t E) (t1 : t = 1) {f' t' E' : Nat} (h : zt_tkn T n E f' t' E') (t1' : t' = 1) : E + 1 ≤ f' := by
  obtain ⟨e0, hk⟩ := zt_gd_k G
  have h1 := (zt_tkn_f h).1
  rcases Nat.lt_or_ge E f' with z | z
  · exact z
  · have e : f' = E := Nat.le_antisymm z h1
    have fn := (zt_tkn_f h).2.2 (by rw [t1']; decide)
    have sm : zt_sm (T f') := by
      rcases h.2 with ⟨a1, _⟩ | ⟨_, ⟨_, a2, _⟩ | ⟨a1, _⟩ | ⟨a1, _⟩ | ⟨a1, _⟩⟩
      · rw [t1'] at a1; exact absurd a1 (by decide)
      · exact a2
      · rw [t1'] at a1; exact absurd a1 (by decide)
      · rw [t1'] at a1; exact absurd a1 (by decide)
      · rw [t1'] at a1; exact absurd a1 (by decide)
    have up : zt_up zt_sm T n f E := by
      rcases hk.2 with ⟨a1, _⟩ | ⟨_, ⟨_, _, a3⟩ | ⟨a1, _⟩ | ⟨a1, _⟩ | ⟨a1, _⟩⟩
      · rw [t1] at a1; exact absurd a1 (by decide)
      · exact a3
      · rw [t1] at a1; exact absurd a1 (by decide)
      · rw [t1] at a1; exact absurd a1 (by decide)
      · rw [t1] at a1; exact absurd a1 (by decide)
    rw [e] at sm fn
    exact absurd sm (up.2.2.2 fn.2)
theorem zt_gd_f (G : zt_gd T n g k f t E) : f ≤ E ∧ E ≤ n ∧ n ≤ 700 ∧ (t ≠ 0 → f < E ∧ f < n) := by
  obtain ⟨e0, hk⟩ := zt_gd_k G
  have := zt_tkn_f hk
  exact ⟨this.2.1, zt_tkn_E hk, zt_tx_n (zt_gd_X G), this.2.2⟩
end
/-- the three cells of a step -/
theorem zt_w3 (g : zv_H) (b i : Nat) (x y z : Int) (k : Nat) : zv_I (zv_sI (zv_sI (zv_sI g (b + 23) i x) (b + 24) i y) (b + 22) 3 z) (b + 23) k = (if k = i then x else zv_I g (b + 23) k) ∧ zv_I (zv_sI (zv_sI (zv_sI g (b + 23) i x) (b + 24) i y) (b + 22) 3 z) (b + 24) k = if k = i then y else zv_I g (b + 24) k := by
  constructor
  · rw [zy_In _ _ (fun q => absurd q.1 (by omega)), zy_In _ _ (fun q => absurd q.1 (by omega))]
    by_cases c : k = i
    · rw [c, zy_I, if_pos rfl]
    · rw [zy_In _ _ (fun q => c q.2), if_neg c]
  · rw [zy_In _ _ (fun q => absurd q.1 (by omega))]
    by_cases c : k = i
    · rw [c, zy_I, if_pos rfl]
    · rw [zy_In _ _ (fun q => c q.2), if_neg c, zy_In _ _ (fun q => absurd q.1 (by omega))]
/-- a step more, whatever stands -/
theorem zt_jadd0 {d b : Nat} {g : zv_H} (hb : zv_lay b = (1, 0)) (gL : zt_L g) (x y : Int) : ∃ g', C1_add (d + 1) (b + 22) x y g = some g' ∧ zt_ja b g g' := by
  obtain ⟨l1, l2, l3, l4⟩ := zt_jn_l hb
  suffices h : ∃ g', E1_add d (b + 22) x y g = some (none, g') ∧ zt_ja b g g' by
    obtain ⟨g', e, j⟩ := h
    exact ⟨g', lC1_add (zl_ob gL l1) e, j⟩
  have rf : zt_ja b g g := ⟨rfl, rfl, fun _ _ _ _ _ => rfl⟩
  rw [qE1_add, zm_e (zl_gI gL l1 3)]
  by_cases c1 : zv_I g (b + 22) 3 < 0
  · rw [if_pos c1]
    exact ⟨g, rfl, rf⟩
  rw [if_neg c1, zm_e (zl_gI gL l1 3)]
  by_cases c2 : zv_I g (b + 22) 3 < 176
  · rw [if_pos c2, zm_e (zl_gF gL l1 0 1), zm_e (zl_gI gL l1 3), show b + 22 + 1 = b + 23 from rfl, zm_e (zl_wI gL l2 (by omega) (by omega) x)]
    generalize hi : (zv_I g (b + 22) 3).toNat = i
    have L1 : zt_L (zv_sI g (b + 23) i x) := gL
    rw [zm_e (zl_gF L1 l1 1 2), zm_e (zl_gI L1 l1 3), zy_In _ _ (fun q => absurd q.1 (by omega)), show b + 22 + 2 = b + 24 from rfl, zm_e (zl_wI L1 l3 (by omega) (by omega) y), hi]
    have L2 : zt_L (zv_sI (zv_sI g (b + 23) i x) (b + 24) i y) := gL
    rw [zm_e (zl_gI L2 l1 3), zm_e (zl_pI L2 l1 3 _)]
    exact ⟨_, rfl, rfl, rfl, fun r k q1 q2 q3 => by rw [zy_In _ _ (fun q => q1 q.1), zy_In _ _ (fun q => q3 q.1), zy_In _ _ (fun q => q2 q.1)]⟩
  · rw [if_neg c2]
    exact ⟨g, rfl, rf⟩
/-- a step more -/
theorem zt_jadd {d b : Nat} {g : zv_H} (hb : zv_lay b = (1, 0)) (gL : zt_L g) {cs : List Int} (S : zt_T0 b cs g) (hl : cs.length < 176) {v : Int} (hv : -3 ≤ v ∧ v < 100000) {x y : Int} (ex : (zt_sp v).1 = x) (ey : (zt_sp v).2 = y) : ∃ g', C1_add (d + 1) (b + 22) x y g = some g' ∧ zt_ja b g g' ∧ zt_T0 b (cs ++ [v]) g' := by
  obtain ⟨l1, l2, l3, l4⟩ := zt_jn_l hb
  suffices h : ∃ g', E1_add d (b + 22) x y g = some (none, g') ∧ zt_ja b g g' ∧ zt_T0 b (cs ++ [v]) g' by
    obtain ⟨g', e, j⟩ := h
    exact ⟨g', lC1_add (zl_ob gL l1) e, j⟩
  have sz := zt_T0_sz S
  have i0 : ¬ ((cs.length : Nat) : Int) < 0 := Int.not_lt.mpr (Int.natCast_nonneg _)
  have i1 : ((cs.length : Nat) : Int) < 176 := Int.ofNat_lt.mpr hl
  rw [qE1_add, zm_e (zl_gI gL l1 3), sz, if_neg i0, zm_e (zl_gI gL l1 3), sz, if_pos i1, zm_e (zl_gF gL l1 0 1), zm_e (zl_gI gL l1 3), sz, show b + 22 + 1 = b + 23 from rfl, zm_e (zl_wI gL l2 (Int.not_lt.mp i0) i1 x), Int.toNat_natCast]
  have L1 : zt_L (zv_sI g (b + 23) cs.length x) := gL
  rw [zm_e (zl_gF L1 l1 1 2), zm_e (zl_gI L1 l1 3), zy_In _ _ (fun q => absurd q.1 (by omega)), sz, show b + 22 + 2 = b + 24 from rfl, zm_e (zl_wI L1 l3 (Int.not_lt.mp i0) i1 y), Int.toNat_natCast]
  have L2 : zt_L (zv_sI (zv_sI g (b + 23) cs.length x) (b + 24) cs.length y) := gL
  have e3 : zv_I (zv_sI (zv_sI g (b + 23) cs.length x) (b + 24) cs.length y) (b + 22) 3 = cs.length := by rw [zy_In _ _ (fun q => absurd q.1 (by omega)), zy_In _ _ (fun q => absurd q.1 (by omega)), sz]
  rw [zm_e (zl_gI L2 l1 3), e3, zt_tkw (show cs.length ≤ 700 by omega), zm_e (zl_pI L2 l1 3 _)]
  refine ⟨_, rfl, ⟨rfl, rfl, fun r k q1 q2 q3 => by rw [zy_In _ _ (fun q => q1 q.1), zy_In _ _ (fun q => q3 q.1), zy_In _ _ (fun q => q2 q.1)]⟩, ?_, fun k w hk => ?_, fun w hw => ?_⟩
  · rw [zy_I, List.length_append]
    rfl
  · have w3 := zt_w3 g b cs.length x y ((cs.length + 1 : Nat) : Int) k
    rw [w3.1, w3.2]
    by_cases c : k = cs.length
    · have ew : v = w := by
        rw [c, List.getElem?_append_right (Nat.le_refl _), Nat.sub_self] at hk
        exact Option.some.inj hk
      rw [if_pos c, if_pos c, ← ew]
      exact ⟨ex.symm, ey.symm⟩
    · have kl : k < cs.length := by
        have := zm_lt_of_get hk
        rw [List.length_append, List.length_singleton] at this
        omega
      rw [List.getElem?_append_left kl] at hk
      rw [if_neg c, if_neg c]
      exact zt_T0_st S k w hk
  · rcases List.mem_append.mp hw with z | z
    · exact zt_T0_rg S w z
    · rw [List.mem_singleton.mp z]
      exact hv
end
/-! A75.bad -/
section
/-! ===== the tie: the reference behind a fault ===== -/
section
variable {T : Nat → Int} {n : Nat} {g k : zv_H}
theorem zt_bd_30 (B : zt_bd T n g k) : ¬ zv_I (zt_ms 0 2 k) 347 30 = 0 ∧ ¬ zv_I (zt_ms 0 2 k) 347 30 ≤ 0 := by
  have := (zt_bd_ms B).2
  exact ⟨by omega, by omega⟩
theorem zt_takes_b {D : Nat} (B : zt_bd T n g k) (x : Int) : C9_takes (D + 6) 347 x k = some (zt_ms 0 2 k) := by
  have hM := zt_ty_M (zt_bd_Y B)
  have hM2 := zm_F_M (zt_ms_F 0 2 k) hM
  refine lC9_takes (zm_ob hM) ?_
  rw [qE9_takes, zm_e (zt_isSign_b (d := D + 4) B x)]
  dsimp only
  rw [zm_e (zt_must hM 0 2), zm_e (zm_gI hM2 30), if_neg (zt_bd_30 B).1]
/-- a must that fails, or one that is told already -/
theorem zt_must_b {d : Nat} (B : zt_bd T n g k) {v : Int} (hv : zv_I k 347 34 = 4 → v = 0) : ∃ k', C9_must (d + 1) 347 v 2 k = some k' ∧ zm_F [] [30, 31] k k' ∧ zt_bd T n g k' ∧ 0 < zv_I k' 347 30 := by
  have hM := zt_ty_M (zt_bd_Y B)
  refine ⟨_, zt_must hM v 2, zt_ms_F v 2 k, ?_⟩
  rcases zt_bd_f B with ⟨q1, q2, q3, q4⟩ | ⟨q1, q2⟩
  · rw [hv q3]
    exact zt_bd_ms B
  · have p : 0 < zv_I k 347 30 := by rw [q1]; exact zt_bd_f0 B
    rw [zt_ms_f p]
    exact ⟨B, p⟩
theorem zt_number_b {D : Nat} (B : zt_bd T n g k) : ∃ (v : Int) (k' : zv_H), C9_takesNumber (D + 6) 347 k = some (v, k') ∧ zm_F [] [30, 31] k k' ∧ zt_bd T n g k' ∧ 0 < zv_I k' 347 30 := by
  have hM := zt_ty_M (zt_bd_Y B)
  have l14 : ∀ b : Int, (zv_I k 347 34 = 4 → b = 0) → ∃ (v : Int) (k' : zv_H), L9_takesNumber_14 (D + 5) 347 347 b k = some (some (zv_i v), k') ∧ zm_F [] [30, 31] k k' ∧ zt_bd T n g k' ∧ 0 < zv_I k' 347 30 := fun b hb => by
    obtain ⟨k', e, F, B', p⟩ := zt_must_b (d := D + 4) B hb
    have hM' := zm_F_M F hM
    refine ⟨zv_I k' 347 35, k', ?_, F, B', p⟩
    rw [qL9_takesNumber_14, zm_e e, zm_e (zm_gI hM' 35), zm_e (zm_gI hM' 30), if_neg (by omega)]
  suffices h : ∃ (v : Int) (k' : zv_H), E9_takesNumber (D + 5) 347 k = some (some (zv_i v), k') ∧ zm_F [] [30, 31] k k' ∧ zt_bd T n g k' ∧ 0 < zv_I k' 347 30 by
    obtain ⟨v, k', e, q⟩ := h
    exact ⟨v, k', lC9_takesNumber (zm_ob hM) e, q⟩
  rw [qE9_takesNumber, zm_e (zm_gI hM 34)]
  by_cases c : zv_I k 347 34 = 2
  · rw [if_pos c]
    exact l14 1 (fun q => absurd (c.symm.trans q) (by decide))
  · rw [if_neg c]
    exact l14 0 (fun _ => rfl)
theorem zt_word_b {D : Nat} (B : zt_bd T n g k) (most : Int) : ∃ k' : zv_H, C9_takesWord (D + 6) 347 most k = some k' ∧ zm_F [] [30, 31] k k' ∧ zt_bd T n g k' ∧ 0 < zv_I k' 347 30 := by
  have hM := zt_ty_M (zt_bd_Y B)
  have l14 : ∀ b : Int, (zv_I k 347 34 = 4 → b = 0) → ∃ k' : zv_H, L9_takesWord_14 (D + 5) 347 most 347 b k = some (none, k') ∧ zm_F [] [30, 31] k k' ∧ zt_bd T n g k' ∧ 0 < zv_I k' 347 30 := fun b hb => by
    obtain ⟨k', e, F, B', p⟩ := zt_must_b (d := D + 4) B hb
    have hM' := zm_F_M F hM
    refine ⟨k', ?_, F, B', p⟩
    have l37 : ∀ x : Int, L9_takesWord_37 (D + 5) 347 347 x k' = some (none, k') := fun x => by
      rw [qL9_takesWord_37, zm_e (zt_must hM' x 4), zt_ms_f p, zm_e (zm_gI hM' 30), if_neg (by omega)]
    rw [qL9_takesWord_14, zm_e e, zm_e (zm_gI hM' 33), zm_e (zm_gI hM' 32)]
    split
    · exact l37 1
    · exact l37 0
  suffices h : ∃ k' : zv_H, E9_takesWord (D + 5) 347 most k = some (none, k') ∧ zm_F [] [30, 31] k k' ∧ zt_bd T n g k' ∧ 0 < zv_I k' 347 30 by
    obtain ⟨k', e, q⟩ := h
    exact ⟨k', lC9_takesWord (zm_ob hM) e, q⟩
  rw [qE9_takesWord, zm_e (zm_gI hM 34)]
  by_cases c : zv_I k 347 34 = 1
  · rw [if_pos c]
    exact l14 1 (fun q => absurd (c.symm.trans q) (by decide))
  · rw [if_neg c]
    exact l14 0 (fun _ => rfl)
theorem zt_fact117_b {D : Nat} (B : zt_bd T n g k) : L9_fact_117 (D + 6) 347 k = some (none, zt_ms 0 2 k) := by
  have hM := zt_ty_M (zt_bd_Y B)
  have hM2 := zm_F_M (zt_ms_F 0 2 k) hM
  rw [qL9_fact_117, zm_e (zm_f41 hM), zm_e (zt_which_b (d := D + 5) B zm_l369 rfl)]
  dsimp only
  rw [if_pos (by decide), qL9_fact_136, zm_e (zt_must hM 0 2), zm_e (zm_gI hM2 30), if_neg (zt_bd_30 B).2]
theorem zt_fact_b {D : Nat} (B : zt_bd T n g k) : C9_fact (D + 7) 347 k = some (zt_ms 0 2 k) := by
  have hM := zt_ty_M (zt_bd_Y B)
  refine lC9_fact (zm_ob hM) ?_
  rw [qE9_fact, zm_e (zm_f40 hM), zm_e (zt_which_b (d := D + 5) B zm_l368 rfl)]
  dsimp only
  rw [if_neg (by decide), qL9_fact_17, zm_e (zm_gI hM 30)]
  by_cases c : zv_I k 347 30 = 0
  · rw [if_pos c, if_pos rfl, zm_e (zt_isSign_b (d := D + 5) B 91)]
    dsimp only
    rw [if_pos rfl]
    exact zt_fact117_b B
  · rw [if_neg c]
    exact zt_fact117_b B
theorem zt_side_b {D : Nat} (B : zt_bd T n g k) : C9_side (D + 8) 347 k = some (zt_ms 0 2 k) := by
  have hM := zt_ty_M (zt_bd_Y B)
  have hM2 := zm_F_M (zt_ms_F 0 2 k) hM
  refine lC9_side (zm_ob hM) ?_
  rw [qE9_side, zm_e (zt_fact_b (D := D) B), qL9_side_4, zm_e (zm_f40 hM2), zm_e (zt_which_b (d := D + 6) (zt_bd_ms B).1 zm_l368 rfl)]
  dsimp only
  rw [if_neg (by decide)]
theorem zt_test_b {D : Nat} (B : zt_bd T n g k) : C9_test (D + 9) 347 k = some (zt_ms 0 2 k) := by
  have hM := zt_ty_M (zt_bd_Y B)
  have hM2 := zm_F_M (zt_ms_F 0 2 k) hM
  refine lC9_test (zm_ob hM) ?_
  rw [qE9_test, zm_e (zt_side_b (D := D) B), qL9_test_4, zm_e (zm_f40 hM2), zm_e (zt_which_b (d := D + 7) (zt_bd_ms B).1 zm_l368 rfl)]
  dsimp only
  rw [if_neg (by decide)]
theorem zt_readsLine_b {D : Nat} (B : zt_bd T n g k) : C9_readsLine (D + 3) 347 k = some (zt_ms 0 2 k) := by
  have hM := zt_ty_M (zt_bd_Y B)
  have hM2 := zm_F_M (zt_ms_F 0 2 k) hM
  refine lC9_readsLine (zm_ob hM) ?_
  rw [qE9_readsLine, zm_e (zm_f39 hM), zm_e (zt_which_b (d := D + 1) B (show zv_lay 367 = (5, 12) from rfl) rfl)]
  dsimp only
  rw [if_pos (by decide), qL9_readsLine_19, zm_e (zt_must hM 0 2), zm_e (zm_gI hM2 30), if_neg (zt_bd_30 B).2]
/-- behind a fault, told or not, codes may be written yet -/
def zt_bq (T : Nat → Int) (n : Nat) (x : Int) (g : zv_H) (k : zv_H) : Prop := (zt_bd T n g k) ∧ (zv_I k 347 30 = 0 → 0 ≤ zv_I k 348 4 ∧ zv_I k 348 4 ≤ x)
theorem zt_bq_B {T : Nat → Int} {n : Nat} {x : Int} {g : zv_H} {k : zv_H} (t : zt_bq T n x g k) : zt_bd T n g k := t.1
theorem zt_bq_c {T : Nat → Int} {n : Nat} {x : Int} {g : zv_H} {k : zv_H} (t : zt_bq T n x g k) : zv_I k 347 30 = 0 → 0 ≤ zv_I k 348 4 ∧ zv_I k 348 4 ≤ x := t.2
theorem zt_bq_told {x : Int} (B : zt_bd T n g k) (p : 0 < zv_I k 347 30) : zt_bq T n x g k := ⟨B, fun q => absurd q (by omega)⟩
theorem zt_emits_b {d : Nat} {x : Int} (B : zt_bq T n x g k) (hx : x ≤ 390) (v : Int) : ∃ k', C9_emits (d + 1) 347 v k = some k' ∧ zm_F [348] [] k k' ∧ zt_bq T n (x + 1) g k' := by
  have w0 : 0 ≤ zv_I k 347 30 := by
    rcases zt_bd_f (zt_bq_B B) with q | q
    · rw [q.2.1]
      exact Int.le_refl _
    · rw [q.1]
      exact Int.le_of_lt (zt_bd_f0 (zt_bq_B B))
  obtain ⟨k', e, F, _, q⟩ := zm_emits (zt_ty_M (zt_bd_Y (zt_bq_B B))) d v w0 (fun z => by
    have := zt_bq_c B z
    exact ⟨this.1, by omega⟩)
  refine ⟨k', e, F, zt_bd_x (zt_bq_B B) rfl rfl (fun _ _ => rfl) (fun _ => rfl) F, fun z => ?_⟩
  rw [zm_F_g F 30] at z
  have := zt_bq_c B z
  have := (q z).2
  omega
end
end
/-! A76.cmp -/
section
/-! ===== the tie: a comparison is read ===== -/
/-- codes that leave one truth more, the heap never deeper than m beyond where it was -/
def zt_pz (m : Nat) (e : List Int) : Prop := ∀ (r : List Int) (p : Nat), p + m ≤ 60 → zt_ph r (p + 1) → zt_ph (e ++ r) p
theorem zt_pz_m {m m' : Nat} {e : List Int} (h : zt_pz m e) (hm : m ≤ m') : zt_pz m' e := fun r p q => h r p (by omega)
theorem zt_pz_1 {m : Nat} {v : Int} (hv : 0 ≤ v) : zt_pz m [v] := fun r p q h => by
  show p ≤ 60 ∧ (if 0 ≤ v then zt_ph r (p + 1) else if v = -1 then 1 ≤ p ∧ zt_ph r p else 2 ≤ p ∧ zt_ph r (p - 1))
  rw [if_pos hv]
  exact ⟨by omega, h⟩
theorem zt_pz_n {m : Nat} {e : List Int} (he : zt_pz m e) (hm : 1 ≤ m) : zt_pz m (e ++ [-1]) := fun r p q h => by
  rw [List.append_assoc]
  refine he _ p q ?_
  show p + 1 ≤ 60 ∧ (if (0 : Int) ≤ -1 then zt_ph r (p + 1 + 1) else if (-1 : Int) = -1 then 1 ≤ p + 1 ∧ zt_ph r (p + 1) else 2 ≤ p + 1 ∧ zt_ph r (p + 1 - 1))
  rw [if_neg (by decide), if_pos rfl]
  exact ⟨by omega, by omega, h⟩
theorem zt_pz_b {m : Nat} {e1 e2 : List Int} (h1 : zt_pz (m + 1) e1) (h2 : zt_pz m e2) (hm : 1 ≤ m) {v : Int} (hv : v < -1) : zt_pz (m + 1) (e1 ++ (e2 ++ [v])) := fun r p q h => by
  rw [List.append_assoc, List.append_assoc]
  refine h1 _ p q (h2 _ (p + 1) (by omega) ?_)
  show p + 1 + 1 ≤ 60 ∧ (if (0 : Int) ≤ v then zt_ph r (p + 1 + 1 + 1) else if v = -1 then 1 ≤ p + 1 + 1 ∧ zt_ph r (p + 1 + 1) else 2 ≤ p + 1 + 1 ∧ zt_ph r (p + 1 + 1 - 1))
  rw [if_neg (by omega), if_neg (by omega)]
  exact ⟨by omega, by omega, h⟩
theorem zt_sp_c {j how x : Int} (hj : 0 ≤ j ∧ j < 6) (hh : 0 ≤ how ∧ how ≤ 2) (hx : 0 ≤ x) : zt_sp (j + 6 * how + 18 * x) = (j * 3 + how, x) := by
  have h0 : 0 ≤ j + 6 * how + 18 * x := by omega
  have m6 : (j + 6 * how + 18 * x).tmod 6 = j := by rw [Int.tmod_eq_emod_of_nonneg h0]; omega
  have d6 : (j + 6 * how + 18 * x).tdiv 6 = how + 3 * x := by rw [Int.tdiv_eq_ediv_of_nonneg h0]; omega
  have d18 : (j + 6 * how + 18 * x).tdiv 18 = x := by rw [Int.tdiv_eq_ediv_of_nonneg h0]; omega
  have m3 : (how + 3 * x).tmod 3 = how := by rw [Int.tmod_eq_emod_of_nonneg (by omega)]; omega
  unfold zt_sp
  rw [if_pos h0, m6, d6, m3, d18]
/-- a TEST is being read, all is well -/
def zt_tg (b : Nat) (T : Nat → Int) (n : Nat) (g : zv_H) (k : zv_H) (f : Nat) (y : Nat) (E : Nat) : Prop := (zt_gd T n g k f y E) ∧ (zm_K k) ∧ (zt_T0 b (zm_cd (zv_I k 348)) g) ∧ (0 ≤ zv_I k 348 4) ∧ (4 * zv_I k 348 4 ≤ f)
theorem zt_tg_G {b : Nat} {T : Nat → Int} {n : Nat} {g : zv_H} {k : zv_H} {f : Nat} {y : Nat} {E : Nat} (t : zt_tg b T n g k f y E) : zt_gd T n g k f y E := t.1
theorem zt_tg_K {b : Nat} {T : Nat → Int} {n : Nat} {g : zv_H} {k : zv_H} {f : Nat} {y : Nat} {E : Nat} (t : zt_tg b T n g k f y E) : zm_K k := t.2.1
theorem zt_tg_S {b : Nat} {T : Nat → Int} {n : Nat} {g : zv_H} {k : zv_H} {f : Nat} {y : Nat} {E : Nat} (t : zt_tg b T n g k f y E) : zt_T0 b (zm_cd (zv_I k 348)) g := t.2.2.1
theorem zt_tg_c0 {b : Nat} {T : Nat → Int} {n : Nat} {g : zv_H} {k : zv_H} {f : Nat} {y : Nat} {E : Nat} (t : zt_tg b T n g k f y E) : 0 ≤ zv_I k 348 4 := t.2.2.2.1
theorem zt_tg_c4 {b : Nat} {T : Nat → Int} {n : Nat} {g : zv_H} {k : zv_H} {f : Nat} {y : Nat} {E : Nat} (t : zt_tg b T n g k f y E) : 4 * zv_I k 348 4 ≤ f := t.2.2.2.2
/-- behind a piece of it: fine -/
def zt_gk (b : Nat) (T : Nat → Int) (n : Nat) (k : zv_H) (f : Nat) (y : Nat) (m : Nat) (g' : zv_H) (k' : zv_H) (e : List Int) (f' : Nat) (y' : Nat) (E' : Nat) : Prop := (zt_tg b T n g' k' f' y' E') ∧ (zv_I k' 347 37 = zv_I k 347 37) ∧ (zm_cd (zv_I k' 348) = zm_cd (zv_I k 348) ++ e) ∧ (zt_pz m e) ∧ (f + 4 * e.length + (if y = 3 then 3 else 1) ≤ f') ∧ (1 ≤ e.length) ∧ (∀ i : Nat, i ≠ 4 → ¬ (8 ≤ i ∧ i < 408) → zv_I k' 348 i = zv_I k 348 i) ∧ (y = 1 ∨ y = 3)
theorem zt_gk_t {b : Nat} {T : Nat → Int} {n : Nat} {k : zv_H} {f : Nat} {y : Nat} {m : Nat} {g' : zv_H} {k' : zv_H} {e : List Int} {f' : Nat} {y' : Nat} {E' : Nat} (t : zt_gk b T n k f y m g' k' e f' y' E') : zt_tg b T n g' k' f' y' E' := t.1
theorem zt_gk_d {b : Nat} {T : Nat → Int} {n : Nat} {k : zv_H} {f : Nat} {y : Nat} {m : Nat} {g' : zv_H} {k' : zv_H} {e : List Int} {f' : Nat} {y' : Nat} {E' : Nat} (t : zt_gk b T n k f y m g' k' e f' y' E') : zv_I k' 347 37 = zv_I k 347 37 := t.2.1
theorem zt_gk_e {b : Nat} {T : Nat → Int} {n : Nat} {k : zv_H} {f : Nat} {y : Nat} {m : Nat} {g' : zv_H} {k' : zv_H} {e : List Int} {f' : Nat} {y' : Nat} {E' : Nat} (t : zt_gk b T n k f y m g' k' e f' y' E') : zm_cd (zv_I k' 348) = zm_cd (zv_I k 348) ++ e := t.2.2.1
theorem zt_gk_p {b : Nat} {T : Nat → Int} {n : Nat} {k : zv_H} {f : Nat} {y : Nat} {m : Nat} {g' : zv_H} {k' : zv_H} {e : List Int} {f' : Nat} {y' : Nat} {E' : Nat} (t : zt_gk b T n k f y m g' k' e f' y' E') : zt_pz m e := t.2.2.2.1
theorem zt_gk_w {b : Nat} {T : Nat → Int} {n : Nat} {k : zv_H} {f : Nat} {y : Nat} {m : Nat} {g' : zv_H} {k' : zv_H} {e : List Int} {f' : Nat} {y' : Nat} {E' : Nat} (t : zt_gk b T n k f y m g' k' e f' y' E') : f + 4 * e.length + (if y = 3 then 3 else 1) ≤ f' := t.2.2.2.2.1
theorem zt_gk_l {b : Nat} {T : Nat → Int} {n : Nat} {k : zv_H} {f : Nat} {y : Nat} {m : Nat} {g' : zv_H} {k' : zv_H} {e : List Int} {f' : Nat} {y' : Nat} {E' : Nat} (t : zt_gk b T n k f y m g' k' e f' y' E') : 1 ≤ e.length := t.2.2.2.2.2.1
theorem zt_gk_k {b : Nat} {T : Nat → Int} {n : Nat} {k : zv_H} {f : Nat} {y : Nat} {m : Nat} {g' : zv_H} {k' : zv_H} {e : List Int} {f' : Nat} {y' : Nat} {E' : Nat} (t : zt_gk b T n k f y m g' k' e f' y' E') : ∀ i : Nat, i ≠ 4 → ¬ (8 ≤ i ∧ i < 408) → zv_I k' 348 i = zv_I k 348 i := t.2.2.2.2.2.2.1
theorem zt_gk_s {b : Nat} {T : Nat → Int} {n : Nat} {k : zv_H} {f : Nat} {y : Nat} {m : Nat} {g' : zv_H} {k' : zv_H} {e : List Int} {f' : Nat} {y' : Nat} {E' : Nat} (t : zt_gk b T n k f y m g' k' e f' y' E') : y = 1 ∨ y = 3 := t.2.2.2.2.2.2.2
/-- behind a piece of it -/
def zt_to (b : Nat) (T : Nat → Int) (n : Nat) (g : zv_H) (k : zv_H) (f : Nat) (y : Nat) (m : Nat) (x : Int) (v : Int) (g' : zv_H) (k' : zv_H) : Prop := (zt_tj b g g') ∧ (zm_F [348] [30, 31, 32, 33, 34, 35, 37, 38] k k') ∧ ((v = 1 ∧ ∃ e f' y' E', zt_gk b T n k f y m g' k' e f' y' E') ∨ (v = 0 ∧ zt_bq T n x g' k'))
theorem zt_to_g {b : Nat} {T : Nat → Int} {n : Nat} {g : zv_H} {k : zv_H} {f : Nat} {y : Nat} {m : Nat} {x : Int} {v : Int} {g' : zv_H} {k' : zv_H} (t : zt_to b T n g k f y m x v g' k') : zt_tj b g g' := t.1
theorem zt_to_k {b : Nat} {T : Nat → Int} {n : Nat} {g : zv_H} {k : zv_H} {f : Nat} {y : Nat} {m : Nat} {x : Int} {v : Int} {g' : zv_H} {k' : zv_H} (t : zt_to b T n g k f y m x v g' k') : zm_F [348] [30, 31, 32, 33, 34, 35, 37, 38] k k' := t.2.1
theorem zt_to_o {b : Nat} {T : Nat → Int} {n : Nat} {g : zv_H} {k : zv_H} {f : Nat} {y : Nat} {m : Nat} {x : Int} {v : Int} {g' : zv_H} {k' : zv_H} (t : zt_to b T n g k f y m x v g' k') : (v = 1 ∧ ∃ e f' y' E', zt_gk b T n k f y m g' k' e f' y' E') ∨ (v = 0 ∧ zt_bq T n x g' k') := t.2.2
theorem zt_w9_3 : ∀ j, j < 6 → 3 ≤ (zm_tx (zt_w9 j)).length := by decide +kernel
theorem zt_cd_len {c : Nat → Int} : (zm_cd c).length = (c 4).toNat := by
  unfold zm_cd
  rw [List.length_map, List.length_range]
theorem zt_nv3 {T : Nat → Int} {n : Nat} {g k : zv_H} {f E : Nat} (G : zt_gd T n g k f 2 E) : 0 ≤ zt_nv T f (E - f) ∧ zt_nv T f (E - f) ≤ 999 := by
  obtain ⟨e0, hk⟩ := zt_gd_k G
  rcases hk.2 with ⟨a1, _⟩ | ⟨_, ⟨a1, _⟩ | ⟨_, a2, a3, a4⟩ | ⟨a1, _⟩ | ⟨a1, _⟩⟩
  · exact absurd a1 (by decide)
  · exact absurd a1 (by decide)
  · have fE := a3.1
    have h := zt_nv_b (T := T) (f := f) (E - f) (fun i h1 h2 => a3.2.2.1 i h1 (by omega))
    have := zt_nb3 (E - f) (by omega)
    omega
  · exact absurd a1 (by decide)
  · exact absurd a1 (by decide)
section
variable {b : Nat} {T : Nat → Int} {n : Nat} {g k : zv_H} {f t E : Nat}
theorem zt_numR {D : Nat} (G : zt_gd T n g k f 2 E) {k' : zv_H} (e : C9_reads (D + 5) 347 k = some k') : C9_takesNumber (D + 6) 347 k = some (zt_nv T f (E - f), k') := by
  have hM := zt_ty_M (zt_gd_Y G)
  have r := zt_gd_r G
  refine lC9_takesNumber (zm_ob hM) ?_
  rw [qE9_takesNumber, zm_e (zm_gI hM 34), r.2.1, if_pos (show ((2 : Nat) : Int) = 2 from rfl), qL9_takesNumber_14, zm_e (zt_must hM 1 2), zt_ms_1 (by decide), zm_e (zm_gI hM 35), r.2.2.2.1 rfl, zm_e (zm_gI hM 30), zt_gd_f2 G, if_pos rfl, zm_e e]
/-- behind a fault: the number and the code -/
theorem zt_f218_b {D : Nat} (B : zt_bd T n g k) (a h : Int) : ∃ k', L9_fact_218 (D + 6) 347 a h k = some (none, k') ∧ zm_F [348] [30, 31] k k' ∧ zt_bd T n g k' ∧ 0 < zv_I k' 347 30 := by
  obtain ⟨v, k1, e1, F1, B1, p1⟩ := zt_number_b (D := D) B
  obtain ⟨k2, e2, F2, B2⟩ := zt_emits_b (d := D + 5) (zt_bq_told (x := 0) B1 p1) (by decide) (zv_w (zv_w (a + zv_w (6 * h)) + zv_w (18 * v)))
  refine ⟨k2, ?_, zm_F_t (zm_F_s F1 rfl rfl) (zm_F_s F2 rfl rfl), zt_bq_B B2, by rw [zm_F_g F2 30]; exact p1⟩
  rw [qL9_fact_218, zm_e e1]
  dsimp only
  rw [zm_e e2]
/-- the relation isn't one -/
theorem zt_f192_b {D : Nat} (hM : zm_M k) (B : zt_bd T n g (zt_ms 0 2 k)) (p : 0 < zv_I (zt_ms 0 2 k) 347 30) (a : Int) : ∃ k', L9_fact_192 (D + 6) 347 a (-1) k = some (none, k') ∧ zm_F [348] [30, 31] k k' ∧ zt_bd T n g k' ∧ 0 < zv_I k' 347 30 := by
  have hM2 := zm_F_M (zt_ms_F 0 2 k) hM
  obtain ⟨k2, e2, F2, B2, p2⟩ := zt_f218_b (D := D) B a (-1)
  refine ⟨k2, ?_, zm_F_t (zm_F_s (zt_ms_F 0 2 k) rfl rfl) F2, B2, p2⟩
  rw [qL9_fact_192, if_pos (by decide), qL9_fact_203, zm_e (zt_must hM 0 2), zm_e (zm_gI hM2 30), if_neg (by omega), e2]
/-- the relation, or none -/
theorem zt_how {D : Nat} (G : zt_gd T n g k f t E) (a : Int) : ∃ how : Int, ((C9_isSign (D + 1) 347 60 k).bind fun q4 => if q4.1 = 0 then (C9_isSign (D + 1) 347 61 q4.2).bind fun q5 => if q5.1 = 0 then (C9_isSign (D + 1) 347 62 q5.2).bind fun q6 => if q6.1 = 0 then L9_fact_192 (D + 1) 347 a (-1) q6.2 else L9_fact_192 (D + 1) 347 a 2 q6.2 else L9_fact_192 (D + 1) 347 a 1 q5.2 else L9_fact_192 (D + 1) 347 a 0 q4.2) = L9_fact_192 (D + 1) 347 a how k ∧ ((how = -1 ∧ ¬ (t = 3 ∧ 60 ≤ T f ∧ T f ≤ 62)) ∨ (t = 3 ∧ (0 ≤ how ∧ how ≤ 2) ∧ T f = 60 + how)) := by
  have e0 := zt_isSignR (d := D) G (x := 60) (by decide)
  have e1 := zt_isSignR (d := D) G (x := 61) (by decide)
  have e2 := zt_isSignR (d := D) G (x := 62) (by decide)
  rw [zm_e e0]
  dsimp only
  by_cases c0 : t = 3 ∧ T f = 60
  · rw [if_pos c0, if_neg (by decide)]
    exact ⟨0, rfl, Or.inr ⟨c0.1, by decide, c0.2⟩⟩
  rw [if_neg c0, if_pos rfl, zm_e e1]
  dsimp only
  by_cases c1 : t = 3 ∧ T f = 61
  · rw [if_pos c1, if_neg (by decide)]
    exact ⟨1, rfl, Or.inr ⟨c1.1, by decide, c1.2⟩⟩
  rw [if_neg c1, if_pos rfl, zm_e e2]
  dsimp only
  by_cases c2 : t = 3 ∧ T f = 62
  · rw [if_pos c2, if_neg (by decide)]
    exact ⟨2, rfl, Or.inr ⟨c2.1, by decide, c2.2⟩⟩
  rw [if_neg c2, if_pos rfl]
  refine ⟨-1, rfl, Or.inl ⟨rfl, fun q => ?_⟩⟩
  obtain ⟨q1, q2, q3⟩ := q
  have n0 : T f ≠ 60 := fun z => c0 ⟨q1, z⟩
  have n1 : T f ≠ 61 := fun z => c1 ⟨q1, z⟩
  have n2 : T f ≠ 62 := fun z => c2 ⟨q1, z⟩
  omega
theorem zt_how_b {D : Nat} (B : zt_bd T n g k) (a : Int) : ((C9_isSign (D + 1) 347 60 k).bind fun q4 => if q4.1 = 0 then (C9_isSign (D + 1) 347 61 q4.2).bind fun q5 => if q5.1 = 0 then (C9_isSign (D + 1) 347 62 q5.2).bind fun q6 => if q6.1 = 0 then L9_fact_192 (D + 1) 347 a (-1) q6.2 else L9_fact_192 (D + 1) 347 a 2 q6.2 else L9_fact_192 (D + 1) 347 a 1 q5.2 else L9_fact_192 (D + 1) 347 a 0 q4.2) = L9_fact_192 (D + 1) 347 a (-1) k := by
  rw [zm_e (zt_isSign_b (d := D) B 60)]
  dsimp only
  rw [if_pos rfl, zm_e (zt_isSign_b (d := D) B 61)]
  dsimp only
  rw [if_pos rfl, zm_e (zt_isSign_b (d := D) B 62)]
  dsimp only
  rw [if_pos rfl]
theorem zj_cmp {d D : Nat} (hb : zv_lay b = (1, 0)) (t0 : zt_tg b T n g k f t E) (m : Nat) : ∃ (a v : Int) (g' k' : zv_H), C3_asked (d + 5) 5 g = some (a, g) ∧ C3_comparison (d + 5) 5 (b + 22) a g = some (v, g') ∧ L9_fact_117 (D + 6) 347 k = some (none, k') ∧ zt_to b T n g k f t m 176 v g' k' := by
  have G := zt_tg_G t0
  have K := zt_tg_K t0
  have gL := zt_tx_L (zt_gd_X G)
  have hM := zt_ty_M (zt_gd_Y G)
  have gf := zt_gd_f G
  obtain ⟨a, ea, er, q⟩ := zt_val (d := d) (D := D + 5) G K
  rcases q with q | ⟨j, q1, q2, q3⟩
  · -- none of the six
    have bd := zj_fail G (w := 2) (by decide)
    have e4 : ¬ ((2 : Int) = 2 ∧ zv_I k 347 34 = 4) := fun q => zt_gd_t4 G (Int.ofNat.inj ((zt_gd_r G).2.1.symm.trans q.2))
    have p30 : zv_I (zt_ms 0 2 k) 347 30 = 2 := by
      rw [zt_ms_0 (zt_gd_f2 G), if_neg e4, zy_In _ _ (fun q => absurd q.2 (by decide)), zy_I]
    have hM2 := zm_F_M (zt_ms_F 0 2 k) hM
    refine ⟨a, 0, _, zt_ms 0 2 k, ea, lC3_comparison (zl_ob gL zt_lay5) ?_, ?_, zt_tj_rf (zt_rf_fail g 2), zm_F_s (zt_ms_F 0 2 k) rfl rfl, Or.inr ⟨rfl, zt_bq_told bd (by rw [p30]; decide)⟩⟩
    · rw [qE3_comparison, if_pos q, zm_e (zt_fail gL 2)]
      exact if_pos (Or.inl rfl)
    · rw [qL9_fact_117, zm_e (zm_f41 hM), zm_e er]
      dsimp only
      rw [if_pos (by rw [q]; decide), qL9_fact_136, zm_e (zt_must hM 0 2), zm_e (zm_gI hM2 30), p30, if_neg (by decide)]
  have a6 : 0 ≤ a ∧ a < 6 := by omega
  have t1 : t = 1 := q3.1
  have E3 : f + 3 ≤ E := by
    have := zt_w9_3 j q2
    have := q3.2.1
    omega
  obtain ⟨v1, g1, k1, n1, r1, f1, F1, o1⟩ := zj_nx2 (d := d + 2) (D := D + 1) G (by rw [t1]; decide)
  have hM1 := zm_F_M F1 hM
  have gL1 := zt_L_12 gL f1.1 f1.2.1
  -- the reference, up to the relation
  have topR : ∀ {R : zv_O}, ((C9_isSign (D + 6) 347 60 k1).bind fun q4 => if q4.1 = 0 then (C9_isSign (D + 6) 347 61 q4.2).bind fun q5 => if q5.1 = 0 then (C9_isSign (D + 6) 347 62 q5.2).bind fun q6 => if q6.1 = 0 then L9_fact_192 (D + 6) 347 a (-1) q6.2 else L9_fact_192 (D + 6) 347 a 2 q6.2 else L9_fact_192 (D + 6) 347 a 1 q5.2 else L9_fact_192 (D + 6) 347 a 0 q4.2) = R → L9_fact_117 (D + 6) 347 k = R := fun {R} hR => by
    rw [qL9_fact_117, zm_e (zm_f41 hM), zm_e er]
    dsimp only
    rw [if_neg (by omega), qL9_fact_136, zm_e (zt_must hM 1 2), zt_ms_1 (by decide), zm_e (zm_gI hM 30), zt_gd_f2 G, if_pos (by decide), zm_e r1]
    exact hR
  have topC : ∀ {R : zv_O}, (if v1 = 0 then some (some (zv_i 0), g1) else (zv_gI g1 5 3 4).bind fun v3 => if v3 = 3 then (zv_gI g1 5 3 7).bind fun v4 => if v4 < 60 then L3_comparison_46 (d + 4) 5 g1 else (zv_gI g1 5 3 7).bind fun v5 => if v5 ≤ 62 then (zv_gI g1 5 3 7).bind fun v6 => (C3_next (d + 4) 5 g1).bind fun q7 => if q7.1 = 0 then some (some (zv_i 0), q7.2) else (zv_gI q7.2 5 3 4).bind fun v8 => if v8 = 2 then (zv_gI q7.2 5 3 7).bind fun v9 => (C1_compare (d + 4) (b + 22) a (zv_w (v6 - 60)) v9 q7.2).bind fun g10 => (C3_next (d + 4) 5 g10).bind fun q11 => if q11.1 = 0 ∨ q11.1 = 1 then some (some (zv_i q11.1), q11.2) else none else (C3_fail (d + 4) 5 2 q7.2).bind fun q12 => if q12.1 = 0 ∨ q12.1 = 1 then some (some (zv_i q12.1), q12.2) else none else L3_comparison_46 (d + 4) 5 g1 else L3_comparison_46 (d + 4) 5 g1) = R → E3_comparison (d + 4) 5 (b + 22) a g = R := fun {R} hR => by
    rw [qE3_comparison, if_neg (by omega), zm_e n1]
    exact hR
  have badC : ∀ {g2 : zv_H}, zt_L g2 → L3_comparison_46 (d + 4) 5 g2 = some (some (zv_i 0), zv_sI (zv_sI g2 5 8 2) 5 9 (zv_I g2 5 5)) := fun {g2} L2 => by
    rw [qL3_comparison_46, zm_e (zt_fail L2 2)]
    exact if_pos (Or.inl rfl)
  rcases o1 with ⟨w1, f1', t1', E1', G1, l1⟩ | ⟨w1, B1⟩
  rotate_left
  · -- no TOKEN where the relation should be
    rw [if_pos w1] at topC
    have B1' := zt_bd_ms B1
    obtain ⟨k2, e2, F2, B2, p2⟩ := zt_f192_b (D := D) hM1 B1'.1 B1'.2 a
    exact ⟨a, 0, g1, k2, ea, lC3_comparison (zl_ob gL zt_lay5) (topC rfl), topR ((zt_how_b (D := D + 5) B1 a).trans e2), zt_tj_rf f1, zm_F_t (zm_F_s F1 rfl rfl) (zm_F_s F2 rfl rfl), Or.inr ⟨rfl, zt_bq_told B2 p2⟩⟩
  rw [if_neg (by omega), zm_e (zl_gI gL1 zt_lay5 4), zt_gd_c4 G1] at topC
  obtain ⟨how, eh, qh⟩ := zt_how (D := D + 5) G1 a
  rcases qh with ⟨qh1, qh2⟩ | ⟨qh1, qh2, qh3⟩
  · -- no relation
    have bd := zj_fail G1 (w := 2) (by decide)
    have e4 : ¬ ((2 : Int) = 2 ∧ zv_I k1 347 34 = 4) := fun q => zt_gd_t4 G1 (Int.ofNat.inj ((zt_gd_r G1).2.1.symm.trans q.2))
    have p30 : zv_I (zt_ms 0 2 k1) 347 30 = 2 := by
      rw [zt_ms_0 (zt_gd_f2 G1), if_neg e4, zy_In _ _ (fun q => absurd q.2 (by decide)), zy_I]
    obtain ⟨k2, e2, F2, B2, p2⟩ := zt_f192_b (D := D) hM1 bd (by rw [p30]; decide) a
    rw [qh1] at eh
    refine ⟨a, 0, _, k2, ea, lC3_comparison (zl_ob gL zt_lay5) (topC ?_), topR (eh.trans e2), zt_tj_t (zt_tj_rf f1) (zt_tj_rf (zt_rf_fail g1 2)), zm_F_t (zm_F_s F1 rfl rfl) (zm_F_s F2 rfl rfl), Or.inr ⟨rfl, zt_bq_told B2 p2⟩⟩
    by_cases c3 : t1' = 3
    · rw [if_pos (show (t1' : Int) = 3 by rw [c3]; rfl), zm_e (zl_gI gL1 zt_lay5 7), zt_gd_c3 G1 c3]
      by_cases c4 : T f1' < 60
      · rw [if_pos c4, badC gL1]
      · rw [if_neg c4, zm_e (zl_gI gL1 zt_lay5 7), zt_gd_c3 G1 c3, if_neg (fun q => qh2 ⟨c3, Int.not_lt.mp c4, q⟩), badC gL1]
    · rw [if_neg (show ¬ (t1' : Int) = 3 from fun q => c3 (Int.ofNat.inj q)), badC gL1]
  rw [if_pos (show (t1' : Int) = 3 by rw [qh1]; rfl), zm_e (zl_gI gL1 zt_lay5 7), zt_gd_c3 G1 qh1, if_neg (by omega), zm_e (zl_gI gL1 zt_lay5 7), zt_gd_c3 G1 qh1, if_pos (by omega), zm_e (zl_gI gL1 zt_lay5 7), zt_gd_c3 G1 qh1, show zv_w (T f1' - 60) = how by rw [zm_w (by omega)]; omega] at topC
  obtain ⟨v2, g2, k2, n2, r2, f2, F2, o2⟩ := zj_nx2 (d := d + 2) (D := D + 1) G1 (by rw [qh1]; decide)
  have hM2 := zm_F_M F2 hM1
  have gL2 := zt_L_12 gL1 f2.1 f2.2.1
  have J2 : zt_tj b g g2 := zt_tj_t (zt_tj_rf f1) (zt_tj_rf f2)
  have F12 : zm_F [348] [30, 31, 32, 33, 34, 35, 37, 38] k k2 := zm_F_t (zm_F_s F1 rfl rfl) (zm_F_s F2 rfl rfl)
  rw [zm_e n2] at topC
  dsimp only at topC
  have topR2 : ∀ {R : zv_O}, L9_fact_218 (D + 6) 347 a how k2 = R → L9_fact_117 (D + 6) 347 k = R := fun {R} hR => topR (eh.trans (by
    rw [qL9_fact_192, if_neg (by omega), qL9_fact_203, zm_e (zt_must hM1 1 2), zt_ms_1 (by decide), zm_e (zm_gI hM1 30), zt_gd_f2 G1, if_pos rfl, zm_e r2]
    exact hR))
  rcases o2 with ⟨w2, f2', t2', E2', G2, l2⟩ | ⟨w2, B2⟩
  rotate_left
  · rw [if_pos w2] at topC
    obtain ⟨k3, e3, F3, B3, p3⟩ := zt_f218_b (D := D) B2 a how
    exact ⟨a, 0, g2, k3, ea, lC3_comparison (zl_ob gL zt_lay5) (topC rfl), topR2 e3, J2, zm_F_t F12 (zm_F_s F3 rfl rfl), Or.inr ⟨rfl, zt_bq_told B3 p3⟩⟩
  rw [if_neg (by omega), zm_e (zl_gI gL2 zt_lay5 4), zt_gd_c4 G2] at topC
  by_cases c2 : t2' = 2
  rotate_left
  · -- no number
    rw [if_neg (show ¬ (t2' : Int) = 2 from fun q => c2 (Int.ofNat.inj q)), zm_e (zt_fail gL2 2)] at topC
    dsimp only at topC
    rw [if_pos (Or.inl rfl)] at topC
    rcases zj_number (d := d) (D := D) G2 with ⟨z, _⟩ | ⟨_, nv, g3, k3, y1, y2, y3, y4, y5⟩
    · exact absurd z c2
    have eg : zv_sI (zv_sI g2 5 8 2) 5 9 (zv_I g2 5 5) = g3 := by
      have := (zt_fail (d := d) gL2 2).symm.trans y1
      exact (Prod.mk.inj (Option.some.inj this)).2
    have p3 : 0 < zv_I k3 347 30 := by
      rcases zt_bd_f y5 with z | z
      · exfalso
        have h8 : zv_I g3 5 8 = 2 := by rw [← eg, zy_In _ _ (fun q => absurd q.2 (by decide)), zy_I]
        rw [h8] at z
        exact absurd z.1 (by decide)
      · rw [z.1]
        exact zt_bd_f0 y5
    obtain ⟨k4, e4, F4, B4⟩ := zt_emits_b (d := D + 5) (zt_bq_told (x := 0) y5 p3) (by decide) (zv_w (zv_w (a + zv_w (6 * how)) + zv_w (18 * nv)))
    refine ⟨a, 0, g3, k4, ea, lC3_comparison (zl_ob gL zt_lay5) (topC (by rw [eg])), topR2 ?_, zt_tj_t J2 (zt_tj_rf y3), zm_F_t F12 (zm_F_t (zm_F_s y4 rfl rfl) (zm_F_s F4 rfl rfl)), Or.inr ⟨rfl, zt_bq_told (zt_bq_B B4) (by rw [zm_F_g F4 30]; exact p3)⟩⟩
    rw [qL9_fact_218, zm_e y2]
    dsimp only
    rw [zm_e e4]
  subst c2
  rw [if_pos (show ((2 : Nat) : Int) = 2 from rfl), zm_e (zl_gI gL2 zt_lay5 7), zt_gd_c2 G2 rfl] at topC
  -- the code and the step
  have nv := zt_nv3 G2
  have numR : ∀ {k3 : zv_H}, C9_reads (D + 5) 347 k2 = some k3 → C9_takesNumber (D + 6) 347 k2 = some (zt_nv T f2' (E2' - f2'), k3) := fun {k3} e => zt_numR G2 e
  generalize zt_nv T f2' (E2' - f2') = x at nv numR topC
  have c348 : zv_I k2 348 = zv_I k 348 := (zm_F_a F2 348).trans (zm_F_a F1 348)
  have S2 : zt_T0 b (zm_cd (zv_I k 348)) g2 := by
    have S := zt_tg_S t0
    have hb' := zc_lh hb
    have e : ∀ r i, 9 ≤ r → zv_I g2 r i = zv_I g r i := fun r i hr => (f2.2.2 r i (fun q => by omega)).trans (f1.2.2 r i (fun q => by omega))
    exact ⟨(e _ _ (by omega)).trans (zt_T0_sz S), fun i v hi => by rw [e _ _ (by omega), e _ _ (by omega)]; exact zt_T0_st S i v hi, zt_T0_rg S⟩
  have c0 := zt_tg_c0 t0
  have c4 := zt_tg_c4 t0
  have len : (zm_cd (zv_I k 348)).length < 176 := by
    rw [zt_cd_len]
    omega
  have spc := zt_sp_c a6 qh2 nv.1
  have wa : zv_w (zv_w (a * 3) + how) = a * 3 + how := by rw [zm_w (x := a * 3) (by omega), zm_w (by omega)]
  have wc : zv_w (zv_w (a + zv_w (6 * how)) + zv_w (18 * x)) = a + 6 * how + 18 * x := by rw [zm_w (x := 6 * how) (by omega), zm_w (x := a + 6 * how) (by omega), zm_w (x := 18 * x) (by omega), zm_w (by omega)]
  obtain ⟨g3, e3, J3, S3⟩ := zt_jadd (d := d + 2) hb gL2 S2 len (v := a + 6 * how + 18 * x) (by omega) (congrArg Prod.fst spc) (congrArg Prod.snd spc)
  have l22 := (zt_jn_l hb).1
  have e3' : C1_compare (d + 4) (b + 22) a how x g2 = some g3 := by
    refine lC1_compare (zl_ob gL2 l22) ?_
    rw [qE1_compare, wa, zm_e e3]
  have G3 := zt_gd_ja hb G2 J3
  obtain ⟨v4, g4, k3, n4, r4, f4, F4, o4⟩ := zj_nx2 (d := d + 2) (D := D) G3 (by decide)
  have hM3 := zm_F_M F4 hM2
  rw [zm_e e3', zm_e n4] at topC
  dsimp only at topC
  have v01 : v4 = 0 ∨ v4 = 1 := by
    rcases o4 with q | q
    · exact Or.inr q.1
    · exact Or.inl q.1
  rw [if_pos v01] at topC
  have J4 : zt_tj b g g4 := zt_tj_t J2 (zt_tj_t (zt_tj_ja J3) (zt_tj_rf f4))
  have F13 : zm_F [348] [30, 31, 32, 33, 34, 35, 37, 38] k k3 := zm_F_t F12 (zm_F_s F4 rfl rfl)
  have c348' : zv_I k3 348 = zv_I k 348 := (zm_F_a F4 348).trans c348
  have e218 : ∀ {k4 : zv_H}, C9_emits (D + 6) 347 (a + 6 * how + 18 * x) k3 = some k4 → L9_fact_218 (D + 6) 347 a how k2 = some (none, k4) := fun {k4} e => by
    rw [qL9_fact_218, zm_e (numR r4)]
    dsimp only
    rw [wc, zm_e e]
  rcases o4 with ⟨w4, f4', t4', E4', G4, l4⟩ | ⟨w4, B4⟩
  rotate_left
  · have bq : zt_bq T n 175 g4 k3 := ⟨B4, fun _ => by rw [c348']; omega⟩
    obtain ⟨k4, e4, F5, B5⟩ := zt_emits_b (d := D + 5) bq (by decide) (a + 6 * how + 18 * x)
    exact ⟨a, v4, g4, k4, ea, lC3_comparison (zl_ob gL zt_lay5) (topC rfl), topR2 (e218 e4), J4, zm_F_t F13 (zm_F_s F5 rfl rfl), Or.inr ⟨w4, B5⟩⟩
  have z30 : zv_I k3 347 30 = 0 := zt_gd_f2 G4
  obtain ⟨k4, e4, F5, ko, q5⟩ := zm_emits hM3 (D + 5) (a + 6 * how + 18 * x) (by rw [z30]; exact Int.le_refl _) (fun _ => by rw [c348']; omega)
  obtain ⟨q5a, q5b⟩ := q5 z30
  rw [c348'] at q5a q5b ko
  have p1 := (zt_tkn_f l1).1
  have p2 := (zt_tkn_f l2).1
  have p3 := (zt_tkn_f l4).1
  have p1' := (zt_gd_f G1).2.2.2 (by rw [qh1]; decide)
  have p2' := (zt_gd_f G2).2.2.2 (by decide)
  refine ⟨a, v4, g4, k4, ea, lC3_comparison (zl_ob gL zt_lay5) (topC rfl), topR2 (e218 e4), J4, zm_F_t F13 (zm_F_s F5 rfl rfl), Or.inl ⟨w4, [a + 6 * how + 18 * x], f4', t4', E4', ⟨zt_gd_x G4 rfl rfl (fun _ _ => rfl) (fun _ => rfl) F5, ?_, ?_, ?_, ?_⟩, ?_, q5a, zt_pz_1 (by omega), ?_, Nat.le_refl 1, ko, Or.inl t1⟩⟩
  · exact zm_K_F (zm_K_F (zm_K_F (zm_K_F K F1) F2) F4) F5
  · rw [q5a]
    have hb' := zc_lh hb
    have e : ∀ r i, 9 ≤ r → zv_I g4 r i = zv_I g3 r i := fun r i hr => f4.2.2 r i (fun q => by omega)
    exact ⟨(e _ _ (by omega)).trans (zt_T0_sz S3), fun i v hi => by rw [e _ _ (by omega), e _ _ (by omega)]; exact zt_T0_st S3 i v hi, zt_T0_rg S3⟩
  · rw [q5b]
    omega
  · rw [q5b]
    omega
  · rw [zm_F_g F5 37, zm_F_g F4 37, zm_F_g F2 37, zm_F_g F1 37]
  · show f + 4 * 1 + (if t = 3 then 3 else 1) ≤ f4'
    rw [if_neg (by omega)]
    omega
end
end
/-! A77.loop -/
section
/-! ===== the tie: operands joined by and, by or ===== -/
theorem zt_T0_k {b : Nat} {cs : List Int} {g g' : zv_H} (S : zt_T0 b cs g) (e : ∀ r i, 9 ≤ r → zv_I g' r i = zv_I g r i) (hb : zv_lay b = (1, 0)) : zt_T0 b cs g' := by
  have hb' := zc_lh hb
  exact ⟨(e _ _ (by omega)).trans (zt_T0_sz S), fun i v hi => by rw [e _ _ (by omega), e _ _ (by omega)]; exact zt_T0_st S i v hi, zt_T0_rg S⟩
theorem zt_T0_rf {b : Nat} {cs : List Int} {g g' : zv_H} (S : zt_T0 b cs g) (f : zt_rf g g') (hb : zv_lay b = (1, 0)) : zt_T0 b cs g' := zt_T0_k S (fun r i hr => f.2.2 r i (fun q => by omega)) hb
section
variable {b : Nat} {T : Nat → Int} {n : Nat}
theorem zt_tg_rd (hb : zv_lay b = (1, 0)) {g k g1 k1 : zv_H} {f t E f1 t1 E1 : Nat} (x : zt_tg b T n g k f t E) (G1 : zt_gd T n g1 k1 f1 t1 E1) (l1 : zt_tkn T n E f1 t1 E1) (r : zt_rf g g1) {B : List Nat} (F : zm_F [] B k k1) : zt_tg b T n g1 k1 f1 t1 E1 := by
  have e : zv_I k1 348 = zv_I k 348 := zm_F_a F 348
  have p1 := (zt_tkn_f l1).1
  have p0 := (zt_gd_f (zt_tg_G x)).1
  refine ⟨G1, zm_K_F (zt_tg_K x) F, ?_, ?_, ?_⟩
  · rw [e]
    exact zt_T0_rf (zt_tg_S x) r hb
  · rw [e]
    exact zt_tg_c0 x
  · rw [e]
    have := zt_tg_c4 x
    omega
theorem zt_cd_c4 {c c' : Nat → Int} {e : List Int} (h : zm_cd c' = zm_cd c ++ e) (h0 : 0 ≤ c 4) (h1 : 0 ≤ c' 4) : c' 4 = c 4 + e.length := by
  have := congrArg List.length h
  rw [List.length_append, zt_cd_len, zt_cd_len] at this
  omega
theorem zt_c175 {g k : zv_H} {f t E : Nat} (x : zt_tg b T n g k f t E) : zv_I k 348 4 ≤ 175 ∧ (zm_cd (zv_I k 348)).length < 176 := by
  have h := zt_gd_f (zt_tg_G x)
  have h0 := zt_tg_c0 x
  have h4 := zt_tg_c4 x
  rw [zt_cd_len]
  generalize zv_I k 348 4 = y at h0 h4 ⊢
  omega
/-- places: an operand more -/
theorem zt_pl1 {f0 le W0 f E f1 le2 f2 y1 : Nat} (h1 : f0 + 4 * le + W0 ≤ f) (h2 : f + 2 ≤ E) (h3 : E ≤ f1) (h4 : y1 = 1 → E + 1 ≤ f1) (h5 : y1 = 1 ∨ y1 = 3) (h6 : f1 + 4 * le2 + (if y1 = 3 then 3 else 1) ≤ f2) : f0 + 4 * (le + (le2 + 1)) + W0 ≤ f2 ∧ f + 4 * (le2 + 1) ≤ f2 ∧ f < f2 := by
  rcases h5 with z | z
  · have := h4 z
    rw [if_neg (by omega)] at h6
    omega
  · rw [if_pos z] at h6
    omega
section
variable {c D w : Nat} {op st : Int} {SC : zv_H → Option (Int × zv_H)} {SR : zv_H → Option zv_H} {LC : Int → Int → zv_H → zv_O} {LR : zv_H → zv_O}
theorem zj_loop (hb : zv_lay b = (1, 0)) (hw5 : w < 5) (hwl : 2 ≤ (zm_tx (zt_w8 w)).length) (hop : op < -1 ∧ -3 ≤ op) (hsp : zt_sp op = (st, 0))
  (hLC : ∀ (a : Int) (h : zv_H), a < 700 → LC 1 a h = (C3_is (c + 6) 5 (zt_w8 w) h).bind fun q1 => if q1.1 = 0 then some (some (zv_i 1), q1.2) else (C3_next (c + 6) 5 q1.2).bind fun q2 => if q2.1 = 0 then (C1_add (c + 6) (b + 22) st 0 q2.2).bind fun g1 => LC 0 (zv_w (a + 1)) g1 else (SC q2.2).bind fun q3 => if q3.1 = 0 then (C1_add (c + 6) (b + 22) st 0 q3.2).bind fun g1 => LC 0 (zv_w (a + 1)) g1 else (C1_add (c + 6) (b + 22) st 0 q3.2).bind fun g1 => LC 1 (zv_w (a + 1)) g1)
  (hLC0 : ∀ (a : Int) (h : zv_H), LC 0 a h = some (some (zv_i 0), h)) (hLCe : ∀ (a : Int) (h : zv_H), ¬ a < 700 → LC 1 a h = some (some (zv_i 1), h))
  (hLR : ∀ h : zv_H, LR h = (zv_gR h 347 9 40).bind fun v1 => (C9_which (D + 6) 347 v1 h).bind fun q2 => if q2.1 = (w : Int) then (C9_reads (D + 6) 347 q2.2).bind fun g3 => (SR g3).bind fun g4 => (C9_emits (D + 6) 347 op g4).bind fun g5 => LR g5 else some (none, q2.2))
  {M : Nat} {x deep : Int} (hM1 : 1 ≤ M) (hx : x ≤ 389)
  (hS : ∀ (g k : zv_H) (f t E : Nat), zt_tg b T n g k f t E → zv_I k 347 37 = deep → ∃ (v : Int) (g' k' : zv_H), SC g = some (v, g') ∧ SR k = some k' ∧ zt_to b T n g k f t M x v g' k')
  (hSb : ∀ g k : zv_H, zt_bd T n g k → SR k = some (zt_ms 0 2 k))
  {g0 k0 : zv_H} {f0 y0 : Nat} (c00 : 0 ≤ zv_I k0 348 4) (hd : zv_I k0 347 37 = deep) : ∀ (N : Nat) (g k : zv_H) (e : List Int) (f y E i : Nat), n - f ≤ N → zt_tj b g0 g → zm_F [348] [30, 31, 32, 33, 34, 35, 37, 38] k0 k → zt_gk b T n k0 f0 y0 (M + 1) g k e f y E → i ≤ f → ∃ (v : Int) (g' k' : zv_H), LC 1 i g = some (some (zv_i v), g') ∧ LR k = some (none, k') ∧ zt_to b T n g0 k0 f0 y0 (M + 1) (x + 1) v g' k' := by
  have LRb : ∀ g k : zv_H, zt_bd T n g k → LR k = some (none, k) := fun g k B => by
    rw [hLR, zm_e (zm_f40 (zt_ty_M (zt_bd_Y B))), zm_e (zt_which_b (d := D + 5) B zm_l368 rfl)]
    dsimp only
    rw [if_neg (by omega)]
  intro N
  induction N with
  | zero =>
    intro g k e f y E i hN J F ok hi
    have tg := zt_gk_t ok
    have G := zt_tg_G tg
    have hM := zt_ty_M (zt_gd_Y G)
    obtain ⟨v, ew, hw⟩ := zt_oth (d := c + 2) (D := D + 5) G (zt_tg_K tg)
    rcases hw w hw5 with ⟨p1, p2, p3⟩ | ⟨p1, p2, p3⟩
    · have := (zt_gd_f G).2.2.2 (by rw [p2.1]; decide)
      omega
    · refine ⟨1, g, k, ?_, ?_, J, F, Or.inl ⟨rfl, e, f, y, E, ok⟩⟩
      · by_cases z : (i : Int) < 700
        · rw [hLC _ _ z, zm_e p3]
          dsimp only
          rw [if_pos rfl]
        · exact hLCe _ _ z
      · rw [hLR, zm_e (zm_f40 hM), zm_e ew]
        dsimp only
        rw [if_neg p1]
  | succ N ih =>
    intro g k e f y E i hN J F ok hi
    have tg := zt_gk_t ok
    have G := zt_tg_G tg
    have hM := zt_ty_M (zt_gd_Y G)
    have gL := zt_tx_L (zt_gd_X G)
    obtain ⟨v, ew, hw⟩ := zt_oth (d := c + 2) (D := D + 5) G (zt_tg_K tg)
    rcases hw w hw5 with ⟨p1, p2, p3⟩ | ⟨p1, p2, p3⟩
    rotate_left
    · refine ⟨1, g, k, ?_, ?_, J, F, Or.inl ⟨rfl, e, f, y, E, ok⟩⟩
      · by_cases z : (i : Int) < 700
        · rw [hLC _ _ z, zm_e p3]
          dsimp only
          rw [if_pos rfl]
        · exact hLCe _ _ z
      · rw [hLR, zm_e (zm_f40 hM), zm_e ew]
        dsimp only
        rw [if_neg p1]
    have y1 : y = 1 := p2.1
    have gf := zt_gd_f G
    have gf2 := gf.2.2.2 (by rw [y1]; decide)
    have i7 : i < 700 := by omega
    have fE : f + 2 ≤ E := by
      have := p2.2.1
      omega
    obtain ⟨v1, g1, k1, n1, r1, f1, F1, o1⟩ := zj_nx2 (d := c + 4) (D := D + 1) G (by rw [y1]; decide)
    have gL1 := zt_L_12 gL f1.1 f1.2.1
    have J1 : zt_tj b g0 g1 := zt_tj_t J (zt_tj_rf f1)
    have F01 : zm_F [348] [30, 31, 32, 33, 34, 35, 37, 38] k0 k1 := zm_F_t F (zm_F_s F1 rfl rfl)
    have hLC' := hLC i g (Int.ofNat_lt.mpr i7)
    rw [zm_e p3] at hLC'
    dsimp only at hLC'
    rw [if_neg (by decide), zm_e n1, zt_tkw (Nat.le_of_lt i7)] at hLC'
    dsimp only at hLC'
    have hLR' := hLR k
    rw [zm_e (zm_f40 hM), zm_e ew] at hLR'
    dsimp only at hLR'
    rw [if_pos p1, zm_e r1] at hLR'
    rcases o1 with ⟨w1, f1', t1', E1', G1, l1⟩ | ⟨w1, B1⟩
    rotate_left
    · -- no TOKEN
      obtain ⟨g2, e2, J2⟩ := zt_jadd0 (d := c + 5) hb gL1 st 0
      rw [if_pos w1, zm_e e2, hLC0] at hLC'
      have B1' := zt_bd_ms B1
      obtain ⟨k3, e3, F3, B3⟩ := zt_emits_b (d := D + 5) (zt_bq_told (x := 0) B1'.1 B1'.2) (by decide) op
      rw [zm_e (hSb _ _ B1), zm_e e3, LRb _ _ (zt_bq_B B3)] at hLR'
      exact ⟨0, g2, k3, hLC', hLR', zt_tj_t J1 (zt_tj_ja J2), zm_F_t F01 (zm_F_t (zm_F_s (zt_ms_F 0 2 k1) rfl rfl) (zm_F_s F3 rfl rfl)), Or.inr ⟨rfl, zt_bq_told (zt_bd_ja hb (zt_bq_B B3) J2) (by rw [zm_F_g F3 30]; exact B1'.2)⟩⟩
    rw [if_neg (by omega)] at hLC'
    have tg1 := zt_tg_rd hb tg G1 l1 f1 F1
    have e348 : zv_I k1 348 = zv_I k 348 := zm_F_a F1 348
    have d1 : zv_I k1 347 37 = deep := by rw [zm_F_g F1 37, zt_gk_d ok, hd]
    obtain ⟨v2, g2, k2, s2, t2, to2⟩ := hS g1 k1 f1' t1' E1' tg1 d1
    have gL2 := zt_L_12 gL1 (zt_to_g to2).1 (zt_to_g to2).2.1
    rw [zm_e s2] at hLC'
    dsimp only at hLC'
    rw [zm_e t2] at hLR'
    have J2 := zt_tj_t J1 (zt_to_g to2)
    have F02 := zm_F_t F01 (zt_to_k to2)
    rcases zt_to_o to2 with ⟨w2, e2, f2', y2', E2', ok2⟩ | ⟨w2, B2⟩
    rotate_left
    · obtain ⟨g3, e3, J3⟩ := zt_jadd0 (d := c + 5) hb gL2 st 0
      rw [if_pos w2, zm_e e3, hLC0] at hLC'
      obtain ⟨k3, e4, F3, B3⟩ := zt_emits_b (d := D + 5) B2 (by omega) op
      rw [zm_e e4, LRb _ _ (zt_bq_B B3)] at hLR'
      exact ⟨0, g3, k3, hLC', hLR', zt_tj_t J2 (zt_tj_ja J3), zm_F_t F02 (zm_F_s F3 rfl rfl), Or.inr ⟨rfl, zt_bd_ja hb (zt_bq_B B3) J3, zt_bq_c B3⟩⟩
    rw [if_neg (by omega)] at hLC'
    have tg2 := zt_gk_t ok2
    have c2 := zt_c175 tg2
    have c20 := zt_tg_c0 tg2
    have z30 := zt_gd_f2 (zt_tg_G tg2)
    obtain ⟨g3, e3, J3, S3⟩ := zt_jadd (d := c + 5) hb gL2 (zt_tg_S tg2) c2.2 (v := op) (by omega) (congrArg Prod.fst hsp) (congrArg Prod.snd hsp)
    obtain ⟨k3, e4, F3, ko, q5⟩ := zm_emits (zt_ty_M (zt_gd_Y (zt_tg_G tg2))) (D + 5) op (by rw [z30]; exact Int.le_refl _) (fun _ => by omega)
    obtain ⟨q5a, q5b⟩ := q5 z30
    rw [zm_e e3] at hLC'
    rw [zm_e e4] at hLR'
    have pl := zt_pl1 (zt_gk_w ok) fE (zt_tkn_f l1).1 (fun z => zt_gap G y1 l1 z) (zt_gk_s ok2) (zt_gk_w ok2)
    have E2 := zt_gk_e ok2
    rw [e348] at E2
    have len2 := zt_cd_c4 E2 (zt_tg_c0 tg) c20
    have c4 := zt_tg_c4 tg
    have ok3 : zt_gk b T n k0 f0 y0 (M + 1) g3 k3 (e ++ (e2 ++ [op])) f2' y2' E2' := by
      refine ⟨⟨zt_gd_x (zt_gd_ja hb (zt_tg_G tg2) J3) rfl rfl (fun _ _ => rfl) (fun _ => rfl) F3, zm_K_F (zt_tg_K tg2) F3, by rw [q5a]; exact S3, by rw [q5b]; omega, ?_⟩, ?_, ?_, zt_pz_b (zt_gk_p ok) (zt_gk_p ok2) hM1 hop.1, ?_, ?_, fun i i1 i2 => ?_, zt_gk_s ok⟩
      · rw [q5b, len2]
        have := pl.2.1
        omega
      · rw [zm_F_g F3 37, zt_gk_d ok2, d1, hd]
      · rw [q5a, E2, zt_gk_e ok, List.append_assoc, List.append_assoc]
      · rw [List.length_append, List.length_append]
        exact pl.1
      · rw [List.length_append]
        have := zt_gk_l ok
        omega
      · rw [ko i i1 i2, zt_gk_k ok2 i i1 i2, e348, zt_gk_k ok i i1 i2]
    obtain ⟨v4, g4, k4, a1, a2, a3⟩ := ih g3 k3 (e ++ (e2 ++ [op])) f2' y2' E2' (i + 1) (by have := pl.2.2; omega) (zt_tj_t J2 (zt_tj_ja J3)) (zm_F_t F02 (zm_F_s F3 rfl rfl)) ok3 (by have := pl.2.2; omega)
    exact ⟨v4, g4, k4, hLC'.trans a1, hLR'.trans a2, a3⟩
end
/-- more room -/
theorem zt_gk_m {k : zv_H} {f y m m' : Nat} {g' k' : zv_H} {e : List Int} {f' y' E' : Nat} (h : zt_gk b T n k f y m g' k' e f' y' E') (hm : m ≤ m') : zt_gk b T n k f y m' g' k' e f' y' E' := ⟨zt_gk_t h, zt_gk_d h, zt_gk_e h, zt_pz_m (zt_gk_p h) hm, zt_gk_w h, zt_gk_l h, zt_gk_k h, zt_gk_s h⟩
/-- a piece that begins so, in so many levels -/
def zt_Pf (b : Nat) (T : Nat → Int) (n m : Nat) : Prop := ∀ (d D : Nat) (g k : zv_H) (f t E : Nat), zt_tg b T n g k f t E → zv_I k 347 37 = 6 - (m : Int) → ∃ (v : Int) (g' k' : zv_H), C3_fact (3 * m + d + 6) 5 (b + 22) (6 - (m : Int)) g = some (v, g') ∧ C9_fact (3 * m + D + 7) 347 k = some k' ∧ zt_to b T n g k f t (2 + 2 * m) (176 + m) v g' k'
def zt_Ps (b : Nat) (T : Nat → Int) (n m : Nat) : Prop := ∀ (d D : Nat) (g k : zv_H) (f t E : Nat), zt_tg b T n g k f t E → zv_I k 347 37 = 6 - (m : Int) → ∃ (v : Int) (g' k' : zv_H), C3_side (3 * m + d + 7) 5 (b + 22) (6 - (m : Int)) g = some (v, g') ∧ C9_side (3 * m + D + 8) 347 k = some k' ∧ zt_to b T n g k f t (3 + 2 * m) (177 + m) v g' k'
def zt_Pt (b : Nat) (T : Nat → Int) (n m : Nat) : Prop := ∀ (d D : Nat) (g k : zv_H) (f t E : Nat), zt_tg b T n g k f t E → zv_I k 347 37 = 6 - (m : Int) → ∃ (v : Int) (g' k' : zv_H), C3_test (3 * m + d + 8) 5 (b + 22) (6 - (m : Int)) g = some (v, g') ∧ C9_test (3 * m + D + 9) 347 k = some k' ∧ zt_to b T n g k f t (4 + 2 * m) (178 + m) v g' k'
theorem zj_side (hb : zv_lay b = (1, 0)) {m : Nat} (m6 : m ≤ 6) (hf : zt_Pf b T n m) : zt_Ps b T n m := by
  intro d D g k f t E tg hd
  have gL := zt_tx_L (zt_gd_X (zt_tg_G tg))
  have hM := zt_ty_M (zt_gd_Y (zt_tg_G tg))
  obtain ⟨v, g1, k1, e1, r1, to1⟩ := hf d D g k f t E tg hd
  have qC := qE3_side (3 * m + d + 6) 5 (b + 22) (6 - (m : Int)) g
  rw [zm_e e1] at qC
  dsimp only at qC
  have qR := qE9_side (3 * m + D + 7) 347 k
  rw [zm_e r1] at qR
  have hLC0 : ∀ (a : Int) (h : zv_H), L3_side_10 (3 * m + d + 6) 5 (b + 22) (6 - (m : Int)) 0 a h = some (some (zv_i 0), h) := fun a h => by
    rw [qL3_side_10]
    by_cases z : a < 700
    · rw [if_pos z, if_pos rfl, if_pos (Or.inl rfl)]
    · rw [if_neg z, if_pos (Or.inl rfl)]
  have end1 : ∀ {v' : Int} {g' k' : zv_H}, L3_side_10 (3 * m + d + 6) 5 (b + 22) (6 - (m : Int)) v 0 g1 = some (some (zv_i v'), g') → L9_side_4 (3 * m + D + 7) 347 k1 = some (none, k') → C3_side (3 * m + d + 7) 5 (b + 22) (6 - (m : Int)) g = some (v', g') ∧ C9_side (3 * m + D + 8) 347 k = some k' := fun {v' g' k'} h1 h2 => ⟨lC3_side (zl_ob gL zt_lay5) (qC.trans h1), lC9_side (zm_ob hM) (qR.trans h2)⟩
  rcases zt_to_o to1 with ⟨w1, e, f', y', E', ok⟩ | ⟨w1, B1⟩
  rotate_left
  · have hMk := zt_ty_M (zt_bd_Y (zt_bq_B B1))
    have eR : L9_side_4 (3 * m + D + 7) 347 k1 = some (none, k1) := by
      rw [qL9_side_4, zm_e (zm_f40 hMk), zm_e (zt_which_b (d := 3 * m + D + 6) (zt_bq_B B1) zm_l368 rfl)]
      dsimp only
      rw [if_neg (by decide)]
    have := end1 (by rw [w1]; exact hLC0 0 g1) eR
    refine ⟨0, g1, k1, this.1, this.2, zt_to_g to1, zt_to_k to1, Or.inr ⟨rfl, zt_bq_B B1, fun z => ?_⟩⟩
    have := zt_bq_c B1 z
    omega
  · have lp := zj_loop (b := b) (T := T) (n := n) (c := 3 * m + d) (D := 3 * m + D + 1) (w := 3) (op := -2) (st := 19) (SC := fun h => C3_fact (3 * m + d + 6) 5 (b + 22) (6 - (m : Int)) h) (SR := fun h => C9_fact (3 * m + D + 7) 347 h) (LC := fun x a h => L3_side_10 (3 * m + d + 6) 5 (b + 22) (6 - (m : Int)) x a h) (LR := fun h => L9_side_4 (3 * m + D + 7) 347 h) hb (by decide) (by decide +kernel) (by decide) rfl (fun a h ha => by
      show L3_side_10 (3 * m + d + 6) 5 (b + 22) (6 - (m : Int)) 1 a h = _
      rw [qL3_side_10, if_pos ha, if_neg (by decide)]
      simp only [qL3_side_51, qL3_side_52]
      try rfl) (fun a h => hLC0 a h) (fun a h ha => by
      show L3_side_10 (3 * m + d + 6) 5 (b + 22) (6 - (m : Int)) 1 a h = _
      rw [qL3_side_10, if_neg ha, if_pos (Or.inr rfl)]) (fun h => qL9_side_4 (3 * m + D + 7) 347 h) (M := 2 + 2 * m) (x := 176 + m) (deep := 6 - (m : Int)) (by omega) (by omega) (fun g k f t E x y => hf d D g k f t E x y) (fun g k B => zt_fact_b B) (g0 := g) (k0 := k) (f0 := f) (y0 := t) (zt_tg_c0 tg) hd n g1 k1 e f' y' E' 0 (Nat.sub_le _ _) (zt_to_g to1) (zt_to_k to1) (zt_gk_m ok (by omega)) (Nat.zero_le _)
    obtain ⟨v2, g2, k2, a1, a2, a3⟩ := lp
    have := end1 (by rw [w1]; exact a1) a2
    refine ⟨v2, g2, k2, this.1, this.2, ?_⟩
    rw [show 3 + 2 * m = 2 + 2 * m + 1 by omega, show (177 : Int) + m = 176 + m + 1 by omega]
    exact a3
theorem zj_test (hb : zv_lay b = (1, 0)) {m : Nat} (m6 : m ≤ 6) (hf : zt_Ps b T n m) : zt_Pt b T n m := by
  intro d D g k f t E tg hd
  have gL := zt_tx_L (zt_gd_X (zt_tg_G tg))
  have hM := zt_ty_M (zt_gd_Y (zt_tg_G tg))
  obtain ⟨v, g1, k1, e1, r1, to1⟩ := hf d D g k f t E tg hd
  have qC := qE3_test (3 * m + d + 7) 5 (b + 22) (6 - (m : Int)) g
  rw [zm_e e1] at qC
  dsimp only at qC
  have qR := qE9_test (3 * m + D + 8) 347 k
  rw [zm_e r1] at qR
  have hLC0 : ∀ (a : Int) (h : zv_H), L3_test_10 (3 * m + d + 7) 5 (b + 22) (6 - (m : Int)) 0 a h = some (some (zv_i 0), h) := fun a h => by
    rw [qL3_test_10]
    by_cases z : a < 700
    · rw [if_pos z, if_pos rfl, if_pos (Or.inl rfl)]
    · rw [if_neg z, if_pos (Or.inl rfl)]
  have end1 : ∀ {v' : Int} {g' k' : zv_H}, L3_test_10 (3 * m + d + 7) 5 (b + 22) (6 - (m : Int)) v 0 g1 = some (some (zv_i v'), g') → L9_test_4 (3 * m + D + 8) 347 k1 = some (none, k') → C3_test (3 * m + d + 8) 5 (b + 22) (6 - (m : Int)) g = some (v', g') ∧ C9_test (3 * m + D + 9) 347 k = some k' := fun {v' g' k'} h1 h2 => ⟨lC3_test (zl_ob gL zt_lay5) (qC.trans h1), lC9_test (zm_ob hM) (qR.trans h2)⟩
  rcases zt_to_o to1 with ⟨w1, e, f', y', E', ok⟩ | ⟨w1, B1⟩
  rotate_left
  · have hMk := zt_ty_M (zt_bd_Y (zt_bq_B B1))
    have eR : L9_test_4 (3 * m + D + 8) 347 k1 = some (none, k1) := by
      rw [qL9_test_4, zm_e (zm_f40 hMk), zm_e (zt_which_b (d := 3 * m + D + 7) (zt_bq_B B1) zm_l368 rfl)]
      dsimp only
      rw [if_neg (by decide)]
    have := end1 (by rw [w1]; exact hLC0 0 g1) eR
    refine ⟨0, g1, k1, this.1, this.2, zt_to_g to1, zt_to_k to1, Or.inr ⟨rfl, zt_bq_B B1, fun z => ?_⟩⟩
    have := zt_bq_c B1 z
    omega
  · have lp := zj_loop (b := b) (T := T) (n := n) (c := 3 * m + d + 1) (D := 3 * m + D + 2) (w := 2) (op := -3) (st := 20) (SC := fun h => C3_side (3 * m + d + 7) 5 (b + 22) (6 - (m : Int)) h) (SR := fun h => C9_side (3 * m + D + 8) 347 h) (LC := fun x a h => L3_test_10 (3 * m + d + 7) 5 (b + 22) (6 - (m : Int)) x a h) (LR := fun h => L9_test_4 (3 * m + D + 8) 347 h) hb (by decide) (by decide +kernel) (by decide) rfl (fun a h ha => by
      show L3_test_10 (3 * m + d + 7) 5 (b + 22) (6 - (m : Int)) 1 a h = _
      rw [qL3_test_10, if_pos ha, if_neg (by decide)]
      simp only [qL3_test_51, qL3_test_52]
      try rfl) (fun a h => hLC0 a h) (fun a h ha => by
      show L3_test_10 (3 * m + d + 7) 5 (b + 22) (6 - (m : Int)) 1 a h = _
      rw [qL3_test_10, if_neg ha, if_pos (Or.inr rfl)]) (fun h => qL9_test_4 (3 * m + D + 8) 347 h) (M := 3 + 2 * m) (x := 177 + m) (deep := 6 - (m : Int)) (by omega) (by omega) (fun g k f t E x y => hf d D g k f t E x y) (fun g k B => zt_side_b B) (g0 := g) (k0 := k) (f0 := f) (y0 := t) (zt_tg_c0 tg) hd n g1 k1 e f' y' E' 0 (Nat.sub_le _ _) (zt_to_g to1) (zt_to_k to1) (zt_gk_m ok (by omega)) (Nat.zero_le _)
    obtain ⟨v2, g2, k2, a1, a2, a3⟩ := lp
    have := end1 (by rw [w1]; exact a1) a2
    refine ⟨v2, g2, k2, this.1, this.2, ?_⟩
    rw [show 4 + 2 * m = 3 + 2 * m + 1 by omega, show (178 : Int) + m = 177 + m + 1 by omega]
    exact a3
end
end
/-! A78.fact -/
section
/-! ===== the tie: a fact is read: not, brackets, comparisons; the whole TEST ===== -/
section
variable {b : Nat} {T : Nat → Int} {n : Nat} {g k : zv_H} {f t E : Nat}
/-- places: not, and a fact -/
theorem zt_pl2 {f E f1 le2 f2 y1 : Nat} (h2 : f + 3 ≤ E) (h3 : E ≤ f1) (h4 : y1 = 1 → E + 1 ≤ f1) (h5 : y1 = 1 ∨ y1 = 3) (h6 : f1 + 4 * le2 + (if y1 = 3 then 3 else 1) ≤ f2) : f + 4 * (le2 + 1) + 1 ≤ f2 := by
  rcases h5 with z | z
  · have := h4 z
    rw [if_neg (by omega)] at h6
    omega
  · rw [if_pos z] at h6
    omega
/-- places: a TEST in brackets -/
theorem zt_pl3 {f E f1 le2 f2 y1 f3 E2 : Nat} (h2 : f < E) (h3 : E ≤ f1) (h6 : f1 + 4 * le2 + (if y1 = 3 then 3 else 1) ≤ f2) (h7 : f2 < E2) (h8 : E2 ≤ f3) : f + 4 * le2 + 3 ≤ f3 := by
  split at h6 <;> omega
theorem zt_37 {j : Nat} {v : Int} (h : v = 6 - ((j + 1 : Nat) : Int)) (hj : j ≤ 5) : zv_w (v + 1) = 6 - (j : Int) ∧ zv_w (6 - (j : Int) - 1) = v ∧ v < 6 := by
  rw [zm_w (by omega), zm_w (by omega)]
  omega
theorem zt_lvl {j : Nat} (hj : j ≤ 5) : zv_w ((6 - ((j + 1 : Nat) : Int)) + 1) = 6 - (j : Int) := by
  rw [zm_w (by omega)]
  omega
/-- the level is left -/
theorem zt_up37 {k : zv_H} (hM : zm_M k) (v : Int) : ∃ k', (zv_gI k 347 9 37).bind (fun v8 => (zv_pI k 347 9 37 (zv_w (v8 - 1))).bind fun g9 => (some (none, g9) : zv_O)) = some (none, k') ∧ zm_F [] [37] k k' ∧ zv_I k' 347 37 = zv_w (zv_I k 347 37 - 1) := by
  refine ⟨zv_sI k 347 37 (zv_w (zv_I k 347 37 - 1)), ?_, zm_F_f (zm_F_r _ _ k) rfl _, zy_I _ _ _ _⟩
  rw [zm_e (zm_gI hM 37), zm_e (zm_pI hM 37 _)]
theorem zt_bq_37 {x : Int} {k' : zv_H} (B : zt_bq T n x g k) (F : zm_F [] [37] k k') : zt_bq T n x g k' := ⟨zt_bd_x (zt_bq_B B) rfl rfl (fun _ _ => rfl) (fun _ => rfl) F, fun z => by
  rw [zm_F_g F 30] at z
  rw [zm_F_a F 348]
  exact zt_bq_c B z⟩
/-- one level down: not, or a bracket -/
theorem zj_deep {m d D : Nat} (hb : zv_lay b = (1, 0)) (m6 : m ≤ 6) (hf : ∀ j, m = j + 1 → zt_Pf b T n j) (ht : ∀ j, m = j + 1 → zt_Pt b T n j) (tg : zt_tg b T n g k f t E) (hd : zv_I k 347 37 = 6 - (m : Int)) {a : Int} (ha : (a = 1 ∧ t = 1 ∧ f + 3 ≤ E) ∨ (a = 0 ∧ t = 3)) : ∃ (v : Int) (g' k' : zv_H), L3_fact_30 (3 * m + d + 5) 5 (b + 22) (6 - (m : Int)) a g = some (some (zv_i v), g') ∧ L9_fact_38 (3 * m + D + 6) 347 a k = some (none, k') ∧ zt_to b T n g k f t (2 + 2 * m) (176 + m) v g' k' := by
  have G := zt_tg_G tg
  have gL := zt_tx_L (zt_gd_X G)
  have hM := zt_ty_M (zt_gd_Y G)
  have t0 : t ≠ 0 := by rcases ha with q | q <;> omega
  have ts : t = 1 ∨ t = 3 := by rcases ha with q | q <;> omega
  cases m with
  | zero =>
    have bd := zj_fail G (w := 6) (by decide)
    have e4 : ¬ ((6 : Int) = 2 ∧ zv_I k 347 34 = 4) := fun q => absurd q.1 (by decide)
    have p30 : zv_I (zt_ms 0 6 k) 347 30 = 6 := by
      rw [zt_ms_0 (zt_gd_f2 G), if_neg e4, zy_In _ _ (fun q => absurd q.2 (by decide)), zy_I]
    have hM2 := zm_F_M (zt_ms_F 0 6 k) hM
    refine ⟨0, _, zt_ms 0 6 k, ?_, ?_, zt_tj_rf (zt_rf_fail g 6), zm_F_s (zt_ms_F 0 6 k) rfl rfl, Or.inr ⟨rfl, zt_bq_told bd (by rw [p30]; decide)⟩⟩
    · rw [qL3_fact_30, if_neg (by decide), zm_e (zt_fail gL 6)]
      exact if_pos (Or.inl rfl)
    · rw [qL9_fact_38, zm_e (zm_gI hM 37), hd, if_neg (by decide), qL9_fact_53, zm_e (zt_must hM 0 6), zm_e (zm_gI hM2 30), p30, if_neg (by decide)]
  | succ j =>
    have j5 : j ≤ 5 := by omega
    have h37 := zt_37 hd j5
    -- the reference goes down
    have F0 : zm_F [] [37] k (zv_sI k 347 37 (6 - (j : Int))) := zm_F_f (zm_F_r _ _ k) rfl _
    have d0 : zv_I (zv_sI k 347 37 (6 - (j : Int))) 347 37 = 6 - (j : Int) := zy_I _ _ _ _
    have topR : ∀ {R : zv_O}, ((C9_reads (3 * (j + 1) + D + 6) 347 (zv_sI k 347 37 (6 - (j : Int)))).bind fun g5 => if a = 0 then (C9_test (3 * (j + 1) + D + 6) 347 g5).bind fun g6 => (C9_takes (3 * (j + 1) + D + 6) 347 93 g6).bind fun g7 => (zv_gI g7 347 9 37).bind fun v8 => (zv_pI g7 347 9 37 (zv_w (v8 - 1))).bind fun g9 => (some (none, g9) : zv_O) else (C9_fact (3 * (j + 1) + D + 6) 347 g5).bind fun g10 => (C9_emits (3 * (j + 1) + D + 6) 347 (-1) g10).bind fun g11 => (zv_gI g11 347 9 37).bind fun v12 => (zv_pI g11 347 9 37 (zv_w (v12 - 1))).bind fun g13 => some (none, g13)) = R → L9_fact_38 (3 * (j + 1) + D + 6) 347 a k = R := fun {R} hR => by
      rw [qL9_fact_38, zm_e (zm_gI hM 37), if_pos h37.2.2, qL9_fact_53, zm_e (zt_must hM 1 6), zt_ms_1 (by decide), zm_e (zm_gI hM 30), zt_gd_f2 G, if_pos (by decide), zm_e (zm_gI hM 37), h37.1, zm_e (zm_pI hM 37 _)]
      exact hR
    have G0 : zt_gd T n g (zv_sI k 347 37 (6 - (j : Int))) f t E := zt_gd_x G rfl rfl (fun _ _ => rfl) (fun _ => rfl) F0
    have tg0 : zt_tg b T n g (zv_sI k 347 37 (6 - (j : Int))) f t E := ⟨G0, zm_K_F (zt_tg_K tg) F0, zt_tg_S tg, zt_tg_c0 tg, zt_tg_c4 tg⟩
    have F0' : zm_F [348] [30, 31, 32, 33, 34, 35, 37, 38] k (zv_sI k 347 37 (6 - (j : Int))) := zm_F_s F0 rfl rfl
    have c348 : zv_I (zv_sI k 347 37 (6 - (j : Int))) 348 = zv_I k 348 := zm_F_a F0 348
    generalize zv_sI k 347 37 (6 - (j : Int)) = k0 at F0 F0' d0 topR G0 tg0 c348
    have hM0 := zm_F_M F0 hM
    obtain ⟨v1, g1, k1, n1, r1, f1, F1, o1⟩ := zj_nx2 (d := 3 * (j + 1) + d + 3) (D := 3 * (j + 1) + D + 1) G0 t0
    have gL1 := zt_L_12 gL f1.1 f1.2.1
    have hM1 := zm_F_M F1 hM0
    have J1 : zt_tj b g g1 := zt_tj_rf f1
    have F01 : zm_F [348] [30, 31, 32, 33, 34, 35, 37, 38] k k1 := zm_F_t F0' (zm_F_s F1 rfl rfl)
    rw [zm_e r1] at topR
    have topC : ∀ {R : zv_O}, (if v1 = 0 then some (some (zv_i 0), g1) else if a = 0 then (C3_test (3 * (j + 1) + d + 5) 5 (b + 22) (6 - (j : Int)) g1).bind fun q2 => if q2.1 = 0 then some (some (zv_i 0), q2.2) else (C3_isSign (3 * (j + 1) + d + 5) 5 93 q2.2).bind fun q3 => if q3.1 = 0 then (C3_fail (3 * (j + 1) + d + 5) 5 2 q3.2).bind fun q4 => if q4.1 = 0 ∨ q4.1 = 1 then some (some (zv_i q4.1), q4.2) else none else (C3_next (3 * (j + 1) + d + 5) 5 q3.2).bind fun q5 => if q5.1 = 0 ∨ q5.1 = 1 then some (some (zv_i q5.1), q5.2) else none else (C3_fact (3 * (j + 1) + d + 5) 5 (b + 22) (6 - (j : Int)) g1).bind fun q6 => (C1_add (3 * (j + 1) + d + 5) (b + 22) 18 0 q6.2).bind fun g7 => if q6.1 = 0 ∨ q6.1 = 1 then some (some (zv_i q6.1), g7) else none) = R → L3_fact_30 (3 * (j + 1) + d + 5) 5 (b + 22) (6 - ((j + 1 : Nat) : Int)) a g = R := fun {R} hR => by
      rw [qL3_fact_30, if_pos (by omega), zm_e n1, zt_lvl j5]
      exact hR
    rcases o1 with ⟨w1, f1', t1', E1', G1, l1⟩ | ⟨w1, B1⟩
    rotate_left
    · -- no TOKEN
      rw [if_pos w1] at topC
      have B1' := zt_bd_ms B1
      have hM2 := zm_F_M (zt_ms_F 0 2 k1) hM1
      have Fm : zm_F [348] [30, 31, 32, 33, 34, 35, 37, 38] k (zt_ms 0 2 k1) := zm_F_t F01 (zm_F_s (zt_ms_F 0 2 k1) rfl rfl)
      have tb := zt_test_b (D := 3 * j + D) B1
      have fb := zt_fact_b (D := 3 * j + D + 2) B1
      rw [show 3 * j + D + 9 = 3 * (j + 1) + D + 6 by omega] at tb
      rw [show 3 * j + D + 2 + 7 = 3 * (j + 1) + D + 6 by omega] at fb
      by_cases c : a = 0
      · rw [if_pos c, zm_e tb, zm_e (zt_takes_b (D := 3 * (j + 1) + D) B1'.1 93), zt_ms_f B1'.2] at topR
        obtain ⟨k3, e3, F3, _⟩ := zt_up37 hM2 0
        exact ⟨0, g1, k3, topC rfl, topR e3, J1, zm_F_t Fm (zm_F_s F3 rfl rfl), Or.inr ⟨rfl, zt_bq_37 (zt_bq_told B1'.1 B1'.2) F3⟩⟩
      · rw [if_neg c, zm_e fb] at topR
        obtain ⟨k3, e3, F3, B3⟩ := zt_emits_b (d := 3 * (j + 1) + D + 5) (zt_bq_told (x := 0) B1'.1 B1'.2) (by decide) (-1)
        rw [zm_e e3] at topR
        obtain ⟨k4, e4, F4, _⟩ := zt_up37 (zm_F_M F3 hM2) 0
        exact ⟨0, g1, k4, topC rfl, topR e4, J1, zm_F_t Fm (zm_F_t (zm_F_s F3 rfl rfl) (zm_F_s F4 rfl rfl)), Or.inr ⟨rfl, zt_bq_37 (zt_bq_told (zt_bq_B B3) (by rw [zm_F_g F3 30]; exact B1'.2)) F4⟩⟩
    rw [if_neg (by omega)] at topC
    have tg1 := zt_tg_rd hb tg0 G1 l1 f1 F1
    have d1 : zv_I k1 347 37 = 6 - (j : Int) := by rw [zm_F_g F1 37, d0]
    have e348 : zv_I k1 348 = zv_I k 348 := (zm_F_a F1 348).trans c348
    have gf := (zt_gd_f G).2.2.2 t0
    rcases ha with ⟨a1, t1, fE⟩ | ⟨a0, t3⟩
    · -- not
      rw [if_neg (by omega)] at topC topR
      obtain ⟨v2, g2, k2, s2, u2, to2⟩ := hf j rfl (d + 2) (D + 2) g1 k1 f1' t1' E1' tg1 d1
      have gL2 := zt_L_12 gL1 (zt_to_g to2).1 (zt_to_g to2).2.1
      have J2 := zt_tj_t J1 (zt_to_g to2)
      have F02 := zm_F_t F01 (zt_to_k to2)
      rw [show 3 * j + (d + 2) + 6 = 3 * (j + 1) + d + 5 by omega] at s2
      rw [show 3 * j + (D + 2) + 7 = 3 * (j + 1) + D + 6 by omega] at u2
      rw [zm_e s2] at topC
      dsimp only at topC
      rw [zm_e u2] at topR
      rcases zt_to_o to2 with ⟨w2, e2, f2', y2', E2', ok2⟩ | ⟨w2, B2⟩
      · have tg2 := zt_gk_t ok2
        have c2 := zt_c175 tg2
        have c20 := zt_tg_c0 tg2
        have z30 := zt_gd_f2 (zt_tg_G tg2)
        obtain ⟨g3, e3, J3, S3⟩ := zt_jadd (d := 3 * (j + 1) + d + 4) hb gL2 (zt_tg_S tg2) c2.2 (v := -1) (by decide) (x := 18) (y := 0) rfl rfl
        obtain ⟨k3, e4, F3, ko, q5⟩ := zm_emits (zt_ty_M (zt_gd_Y (zt_tg_G tg2))) (3 * (j + 1) + D + 5) (-1) (by rw [z30]; exact Int.le_refl _) (fun _ => by omega)
        obtain ⟨q5a, q5b⟩ := q5 z30
        obtain ⟨k4, e5, F4, d4⟩ := zt_up37 (zm_F_M F3 (zt_ty_M (zt_gd_Y (zt_tg_G tg2)))) 0
        rw [zm_e e3, if_pos (Or.inr w2)] at topC
        rw [zm_e e4] at topR
        have pl := zt_pl2 fE (zt_tkn_f l1).1 (fun z => zt_gap G0 t1 l1 z) (zt_gk_s ok2) (zt_gk_w ok2)
        have E2 := zt_gk_e ok2
        rw [e348] at E2
        have len2 := zt_cd_c4 E2 (zt_tg_c0 tg) c20
        have c4 := zt_tg_c4 tg
        have c48 : zv_I k4 348 = zv_I k3 348 := zm_F_a F4 348
        have d37 : zv_I k3 347 37 = 6 - (j : Int) := by rw [zm_F_g F3 37, zt_gk_d ok2, d1]
        refine ⟨v2, g3, k4, topC rfl, topR e5, zt_tj_t J2 (zt_tj_ja J3), zm_F_t F02 (zm_F_t (zm_F_s F3 rfl rfl) (zm_F_s F4 rfl rfl)), Or.inl ⟨w2, e2 ++ [-1], f2', y2', E2', ⟨zt_gd_x (zt_gd_x (zt_gd_ja hb (zt_tg_G tg2) J3) rfl rfl (fun _ _ => rfl) (fun _ => rfl) F3) rfl rfl (fun _ _ => rfl) (fun _ => rfl) F4, zm_K_F (zm_K_F (zt_tg_K tg2) F3) F4, by rw [c48, q5a]; exact S3, by rw [c48, q5b]; omega, ?_⟩, ?_, ?_, zt_pz_m (zt_pz_n (zt_gk_p ok2) (by omega)) (by omega), ?_, ?_, fun i i1 i2 => ?_, ts⟩⟩
        · rw [c48, q5b, len2]
          omega
        · rw [d4, d37, h37.2.1, hd]
        · rw [c48, q5a, E2, List.append_assoc]
        · rw [List.length_append, if_neg (by omega)]
          exact pl
        · rw [List.length_append]
          exact Nat.le_add_left _ _
        · rw [c48, ko i i1 i2, zt_gk_k ok2 i i1 i2, e348]
      · obtain ⟨g3, e3, J3⟩ := zt_jadd0 (d := 3 * (j + 1) + d + 4) hb gL2 18 0
        obtain ⟨k3, e4, F3, B3⟩ := zt_emits_b (d := 3 * (j + 1) + D + 5) B2 (by omega) (-1)
        obtain ⟨k4, e5, F4, _⟩ := zt_up37 (zt_ty_M (zt_bd_Y (zt_bq_B B3))) 0
        rw [zm_e e3, if_pos (Or.inl w2)] at topC
        rw [zm_e e4] at topR
        have B4 := zt_bq_37 B3 F4
        refine ⟨v2, g3, k4, topC rfl, topR e5, zt_tj_t J2 (zt_tj_ja J3), zm_F_t F02 (zm_F_t (zm_F_s F3 rfl rfl) (zm_F_s F4 rfl rfl)), Or.inr ⟨w2, zt_bd_ja hb (zt_bq_B B4) J3, fun z => ?_⟩⟩
        have := zt_bq_c B4 z
        omega
    · -- a bracket
      rw [if_pos a0] at topC topR
      obtain ⟨v2, g2, k2, s2, u2, to2⟩ := ht j rfl d D g1 k1 f1' t1' E1' tg1 d1
      have gL2 := zt_L_12 gL1 (zt_to_g to2).1 (zt_to_g to2).2.1
      have J2 := zt_tj_t J1 (zt_to_g to2)
      have F02 := zm_F_t F01 (zt_to_k to2)
      rw [show 3 * j + d + 8 = 3 * (j + 1) + d + 5 by omega] at s2
      rw [show 3 * j + D + 9 = 3 * (j + 1) + D + 6 by omega] at u2
      rw [zm_e s2] at topC
      dsimp only at topC
      rw [zm_e u2] at topR
      rcases zt_to_o to2 with ⟨w2, e2, f2', y2', E2', ok2⟩ | ⟨w2, B2⟩
      rotate_left
      · rw [if_pos w2] at topC
        have B2' := zt_bd_ms (zt_bq_B B2)
        rw [zm_e (zt_takes_b (D := 3 * (j + 1) + D) (zt_bq_B B2) 93)] at topR
        obtain ⟨k4, e5, F4, _⟩ := zt_up37 (zt_ty_M (zt_bd_Y B2'.1)) 0
        exact ⟨0, g2, k4, topC rfl, topR e5, J2, zm_F_t F02 (zm_F_t (zm_F_s (zt_ms_F 0 2 k2) rfl rfl) (zm_F_s F4 rfl rfl)), Or.inr ⟨rfl, zt_bq_37 (zt_bq_told B2'.1 B2'.2) F4⟩⟩
      rw [if_neg (by omega)] at topC
      have tg2 := zt_gk_t ok2
      have G2 := zt_tg_G tg2
      have es := zt_isSignC (d := 3 * (j + 1) + d + 4) G2 93
      by_cases c : y2' = 3 ∧ T f2' = 93
      rotate_left
      · rw [if_neg c] at es
        rw [zm_e es] at topC
        dsimp only at topC
        rw [if_pos rfl, zm_e (zt_fail (d := 3 * (j + 1) + d + 4) gL2 2)] at topC
        dsimp only at topC
        rw [if_pos (Or.inl rfl)] at topC
        rw [zm_e (zt_takesR0 (D := 3 * (j + 1) + D) G2 (x := 93) (by decide) c)] at topR
        have bd := zj_fail G2 (w := 2) (by decide)
        have e4 : ¬ ((2 : Int) = 2 ∧ zv_I k2 347 34 = 4) := fun q => zt_gd_t4 G2 (Int.ofNat.inj ((zt_gd_r G2).2.1.symm.trans q.2))
        have p30 : zv_I (zt_ms 0 2 k2) 347 30 = 2 := by
          rw [zt_ms_0 (zt_gd_f2 G2), if_neg e4, zy_In _ _ (fun q => absurd q.2 (by decide)), zy_I]
        obtain ⟨k4, e5, F4, _⟩ := zt_up37 (zt_ty_M (zt_bd_Y bd)) 0
        exact ⟨0, _, k4, topC rfl, topR e5, zt_tj_t J2 (zt_tj_rf (zt_rf_fail g2 2)), zm_F_t F02 (zm_F_t (zm_F_s (zt_ms_F 0 2 k2) rfl rfl) (zm_F_s F4 rfl rfl)), Or.inr ⟨rfl, zt_bq_37 (zt_bq_told bd (by rw [p30]; decide)) F4⟩⟩
      rw [if_pos c] at es
      rw [zm_e es] at topC
      dsimp only at topC
      obtain ⟨v3, g3, k3, n3, r3, f3, F3, o3⟩ := zj_nx2 (d := 3 * (j + 1) + d + 3) (D := 3 * (j + 1) + D) G2 (by rw [c.1]; decide)
      have v01 : v3 = 0 ∨ v3 = 1 := by
        rcases o3 with q | q
        · exact Or.inr q.1
        · exact Or.inl q.1
      rw [if_neg (by decide), zm_e n3] at topC
      dsimp only at topC
      rw [if_pos v01] at topC
      rw [zm_e (zt_takesR1 (D := 3 * (j + 1) + D) G2 (x := 93) (by decide) c r3)] at topR
      obtain ⟨k4, e5, F4, d4⟩ := zt_up37 (zm_F_M F3 (zt_ty_M (zt_gd_Y G2))) 0
      have J3 := zt_tj_t J2 (zt_tj_rf f3)
      have F04 : zm_F [348] [30, 31, 32, 33, 34, 35, 37, 38] k k4 := zm_F_t F02 (zm_F_t (zm_F_s F3 rfl rfl) (zm_F_s F4 rfl rfl))
      have c2 := zt_c175 tg2
      have c20 := zt_tg_c0 tg2
      have c38 : zv_I k3 348 = zv_I k2 348 := zm_F_a F3 348
      have c48 : zv_I k4 348 = zv_I k2 348 := (zm_F_a F4 348).trans c38
      rcases o3 with ⟨w3, f3', t3', E3', G3, l3⟩ | ⟨w3, B3⟩
      rotate_left
      · refine ⟨v3, g3, k4, topC rfl, topR e5, J3, F04, Or.inr ⟨w3, zt_bq_37 (⟨B3, fun _ => ?_⟩ : zt_bq T n _ g3 k3) F4⟩⟩
        rw [c38]
        omega
      have pl := zt_pl3 gf.1 (zt_tkn_f l1).1 (zt_gk_w ok2) ((zt_gd_f G2).2.2.2 (by rw [c.1]; decide)).1 (zt_tkn_f l3).1
      have tg3 := zt_tg_rd hb tg2 G3 l3 f3 F3
      have E2 := zt_gk_e ok2
      rw [e348] at E2
      have d37 : zv_I k3 347 37 = 6 - (j : Int) := by rw [zm_F_g F3 37, zt_gk_d ok2, d1]
      refine ⟨v3, g3, k4, topC rfl, topR e5, J3, F04, Or.inl ⟨w3, e2, f3', t3', E3', ⟨zt_gd_x G3 rfl rfl (fun _ _ => rfl) (fun _ => rfl) F4, zm_K_F (zt_tg_K tg3) F4, by rw [c48, ← c38]; exact zt_tg_S tg3, by rw [c48]; exact c20, by rw [c48, ← c38]; exact zt_tg_c4 tg3⟩, ?_, by rw [c48]; exact E2, zt_pz_m (zt_gk_p ok2) (by omega), ?_, zt_gk_l ok2, fun i i1 i2 => by rw [c48, zt_gk_k ok2 i i1 i2, e348], ts⟩⟩
      · rw [d4, d37, h37.2.1, hd]
      · rw [if_pos t3]
        exact pl
theorem zj_fact (hb : zv_lay b = (1, 0)) {m : Nat} (m6 : m ≤ 6) (hf : ∀ j, m = j + 1 → zt_Pf b T n j) (ht : ∀ j, m = j + 1 → zt_Pt b T n j) : zt_Pf b T n m := by
  intro d D g k f t E tg hd
  have G := zt_tg_G tg
  have gL := zt_tx_L (zt_gd_X G)
  have hM := zt_ty_M (zt_gd_Y G)
  obtain ⟨v, ew, hw⟩ := zt_oth (d := 3 * m + d + 1) (D := 3 * m + D + 5) G (zt_tg_K tg)
  have fin : ∀ {v : Int} {g' k' : zv_H} {x : Int}, E3_fact (3 * m + d + 5) 5 (b + 22) (6 - (m : Int)) g = some (some (zv_i v), g') → E9_fact (3 * m + D + 6) 347 k = some (none, k') → C3_fact (3 * m + d + 6) 5 (b + 22) (6 - (m : Int)) g = some (v, g') ∧ C9_fact (3 * m + D + 7) 347 k = some k' := fun {v g' k' x} h1 h2 => ⟨lC3_fact (zl_ob gL zt_lay5) h1, lC9_fact (zm_ob hM) h2⟩
  rcases hw 4 (by decide) with ⟨p1, p2, p3⟩ | ⟨p1, p2, p3⟩
  · -- not
    have fE : f + 3 ≤ E := by
      have e : (zm_tx (zt_w8 4)).length = 3 := by decide +kernel
      have := p2.2.1
      omega
    obtain ⟨v', g', k', a1, a2, a3⟩ := zj_deep (d := d) (D := D) hb m6 hf ht tg hd (a := 1) (Or.inl ⟨rfl, p2.1, fE⟩)
    have := fin (x := 0) (by
      rw [qE3_fact, zm_e (show C3_is (3 * m + d + 5) 5 1000002 g = some (1, g) from p3)]
      dsimp only
      rw [if_neg (by decide)]
      exact a1) (by
      rw [qE9_fact, zm_e (zm_f40 hM), zm_e ew]
      dsimp only
      rw [if_pos (show v = 4 from p1), qL9_fact_17, zm_e (zm_gI hM 30), zt_gd_f2 G, if_pos rfl, if_neg (by decide)]
      exact a2)
    exact ⟨v', g', k', this.1, this.2, a3⟩
  have eC : ∀ {R : zv_O}, ((C3_isSign (3 * m + d + 5) 5 91 g).bind fun q2 => if q2.1 = 0 then (C3_asked (3 * m + d + 5) 5 q2.2).bind fun q3 => (C3_comparison (3 * m + d + 5) 5 (b + 22) q3.1 q3.2).bind fun q4 => if q4.1 = 0 ∨ q4.1 = 1 then some (some (zv_i q4.1), q4.2) else none else L3_fact_30 (3 * m + d + 5) 5 (b + 22) (6 - (m : Int)) 0 q2.2) = R → E3_fact (3 * m + d + 5) 5 (b + 22) (6 - (m : Int)) g = R := fun {R} hR => by
    rw [qE3_fact, zm_e (show C3_is (3 * m + d + 5) 5 1000002 g = some (0, g) from p3)]
    dsimp only
    rw [if_pos rfl]
    exact hR
  have eR : ∀ {R : zv_O}, ((C9_isSign (3 * m + D + 6) 347 91 k).bind fun q2 => if q2.1 = 0 then L9_fact_117 (3 * m + D + 6) 347 q2.2 else L9_fact_38 (3 * m + D + 6) 347 0 q2.2) = R → E9_fact (3 * m + D + 6) 347 k = R := fun {R} hR => by
    rw [qE9_fact, zm_e (zm_f40 hM), zm_e ew]
    dsimp only
    rw [if_neg (show ¬ v = 4 from p1), qL9_fact_17, zm_e (zm_gI hM 30), zt_gd_f2 G, if_pos rfl, if_pos rfl]
    exact hR
  have sC := zt_isSignC (d := 3 * m + d + 4) G 91
  have sR := zt_isSignR (d := 3 * m + D + 5) G (x := 91) (by decide)
  rw [zm_e sC] at eC
  rw [zm_e sR] at eR
  dsimp only at eC eR
  by_cases c : t = 3 ∧ T f = 91
  · rw [if_pos c, if_neg (by decide)] at eC eR
    obtain ⟨v', g', k', a1, a2, a3⟩ := zj_deep (d := d) (D := D) hb m6 hf ht tg hd (a := 0) (Or.inr ⟨rfl, c.1⟩)
    have := fin (x := 0) (eC a1) (eR a2)
    exact ⟨v', g', k', this.1, this.2, a3⟩
  · rw [if_neg c, if_pos rfl] at eC eR
    obtain ⟨a, v', g', k', a1, a2, a3, a4⟩ := zj_cmp (d := 3 * m + d) (D := 3 * m + D) hb tg (2 + 2 * m)
    have w01 : v' = 0 ∨ v' = 1 := by
      rcases zt_to_o a4 with q | q
      · exact Or.inr q.1
      · exact Or.inl q.1
    rw [zm_e a1] at eC
    dsimp only at eC
    rw [zm_e a2] at eC
    dsimp only at eC
    rw [if_pos w01] at eC
    have := fin (x := 0) (eC rfl) (eR a3)
    refine ⟨v', g', k', this.1, this.2, zt_to_g a4, zt_to_k a4, ?_⟩
    rcases zt_to_o a4 with ⟨q1, e, f', y', E', ok⟩ | ⟨q1, B⟩
    · exact Or.inl ⟨q1, e, f', y', E', ok⟩
    · refine Or.inr ⟨q1, zt_bq_B B, fun z => ?_⟩
      have := zt_bq_c B z
      omega
/-- all levels -/
theorem zj_levels (hb : zv_lay b = (1, 0)) : ∀ m : Nat, m ≤ 6 → zt_Pf b T n m ∧ zt_Pt b T n m := by
  intro m
  induction m with
  | zero =>
    intro m6
    have h := zj_fact (b := b) (T := T) (n := n) hb (m := 0) m6 (fun j q => absurd q (by omega)) (fun j q => absurd q (by omega))
    exact ⟨h, zj_test hb m6 (zj_side hb m6 h)⟩
  | succ m ih =>
    intro m6
    obtain ⟨i1, i2⟩ := ih (by omega)
    have h := zj_fact (b := b) (T := T) (n := n) hb (m := m + 1) m6 (fun j q => by
      have : m = j := by omega
      rw [← this]; exact i1) (fun j q => by
      have : m = j := by omega
      rw [← this]; exact i2)
    exact ⟨h, zj_test hb m6 (zj_side hb m6 h)⟩
/-- a TEST, for both -/
theorem zj_tst {d D : Nat} (hb : zv_lay b = (1, 0)) (tg : zt_tg b T n g k f t E) (hd : zv_I k 347 37 = 0) : ∃ (v : Int) (g' k' : zv_H), C3_test (d + 26) 5 (b + 22) 0 g = some (v, g') ∧ C9_test (D + 27) 347 k = some k' ∧ zt_to b T n g k f t 16 184 v g' k' := by
  obtain ⟨v, g', k', a1, a2, a3⟩ := (zj_levels hb 6 (Nat.le_refl _)).2 d D g k f t E tg (by rw [hd]; rfl)
  refine ⟨v, g', k', ?_, ?_, a3⟩
  · have e : 3 * 6 + d + 8 = d + 26 := by omega
    rw [e] at a1
    exact a1
  · have e : 3 * 6 + D + 9 = D + 27 := by omega
    rw [e] at a2
    exact a2
end
end
/-! A79.num -/
section
/-! ===== the tie: a LINE is read: a number, a word ===== -/
/-- what a number read changes in the class -/
def zt_l5 (fld : Nat) (g g' : zv_H) : Prop := g'.1 = g.1 ∧ g'.2.2 = g.2.2 ∧ ∀ r k, ¬ (r = 5 ∧ ((4 ≤ k ∧ k ≤ 9) ∨ k = fld)) → zv_I g' r k = zv_I g r k
/-- what a word read changes in the class -/
def zt_w5 (g g' : zv_H) : Prop := g'.1 = g.1 ∧ g'.2.2 = g.2.2 ∧ ∀ r k, ¬ (r = 5 ∧ 4 ≤ k ∧ k ≤ 9) → ¬ (r = 7 ∧ k = 1) → r ≠ 8 → zv_I g' r k = zv_I g r k
theorem zt_w5_rf {g g' : zv_H} (h : zt_rf g g') : zt_w5 g g' := ⟨h.1, h.2.1, fun r k q _ _ => h.2.2 r k q⟩
theorem zt_w5_w {g g' : zv_H} (h : zt_wf8 g g') : zt_w5 g g' := ⟨h.1, h.2.1, fun r k _ q1 q2 => h.2.2 r k q1 q2⟩
theorem zt_w5_t {g g1 g2 : zv_H} (f : zt_w5 g g1) (h : zt_w5 g1 g2) : zt_w5 g g2 := ⟨h.1.trans f.1, h.2.1.trans f.2.1, fun r k q q1 q2 => (h.2.2 r k q q1 q2).trans (f.2.2 r k q q1 q2)⟩
/-- what reading a LINE changes in the class -/
def zt_ln5 (g g' : zv_H) : Prop := g'.1 = g.1 ∧ g'.2.2 = g.2.2 ∧ ∀ r k, ¬ (r = 5 ∧ 4 ≤ k) → ¬ (r = 7 ∧ k = 1) → r ≠ 8 → zv_I g' r k = zv_I g r k
theorem zt_ln5_t {g g1 g2 : zv_H} (f : zt_ln5 g g1) (h : zt_ln5 g1 g2) : zt_ln5 g g2 := ⟨h.1.trans f.1, h.2.1.trans f.2.1, fun r k q q1 q2 => (h.2.2 r k q q1 q2).trans (f.2.2 r k q q1 q2)⟩
theorem zt_ln5_w {g g' : zv_H} (h : zt_w5 g g') : zt_ln5 g g' := ⟨h.1, h.2.1, fun r k q q1 q2 => h.2.2 r k (fun z => q ⟨z.1, z.2.1⟩) q1 q2⟩
theorem zt_ln5_rf {g g' : zv_H} (h : zt_rf g g') : zt_ln5 g g' := zt_ln5_w (zt_w5_rf h)
theorem zt_ln5_l {g g' : zv_H} {fld : Nat} (hf : 4 ≤ fld) (h : zt_l5 fld g g') : zt_ln5 g g' := ⟨h.1, h.2.1, fun r k q _ _ => h.2.2 r k (fun z => q ⟨z.1, by omega⟩)⟩
theorem zt_ln5_lo {g g' : zv_H} (h : zt_ln5 g g') : zt_lo9 g g' := ⟨h.1, h.2.1, fun r k hr => h.2.2 r k (fun q => absurd q.1 (by omega)) (fun q => absurd q.1 (by omega)) (by omega)⟩
section
variable {T : Nat → Int} {n : Nat} {g k : zv_H} {f t E : Nat}
theorem zj_word2 {d D most : Nat} (G : zt_gd T n g k f t E) (hm : most ≤ 40) : ∃ (b : Int) (g' k' : zv_H), C3_spelled (d + 3) 5 (most : Int) g = some (b, g') ∧ C9_takesWord (D + 6) 347 (most : Int) k = some k' ∧ zt_w5 g g' ∧ zm_F [360] [19, 30, 31, 32, 33, 34, 35, 38] k k' ∧ ((b = 1 ∧ zt_wd 7 (E - f) (zv_I k' 360) g' ∧ zv_I k' 347 19 = ((E - f : Nat) : Int) ∧ t = 1 ∧ E ≤ f + most ∧ (f < E ∧ ∀ i : Nat, i < E - f → 0 ≤ zv_I k' 360 i ∧ zv_I k' 360 i < 26) ∧ ∃ f' t' E', zt_gd T n g' k' f' t' E' ∧ zt_tkn T n E f' t' E') ∨ (b = 0 ∧ zt_bd T n g' k')) := by
  have X := zt_gd_X G
  have Y := zt_gd_Y G
  have gL := zt_tx_L X
  have hM := zt_ty_M Y
  have n7 := zt_tx_n X
  have r := zt_gd_r G
  by_cases h1 : t = 1
  · obtain ⟨e0, hk⟩ := zt_gd_k G
    have En := zt_tkn_E hk
    have up : zt_up zt_sm T n f E := by
      rcases hk.2 with ⟨a1, _⟩ | ⟨an, ⟨a1, a2, a3⟩ | ⟨a1, _⟩ | ⟨a1, _⟩ | ⟨a1, _⟩⟩
      · rw [h1] at a1; exact absurd a1 (by decide)
      · exact a3
      · rw [h1] at a1; exact absurd a1 (by decide)
      · rw [h1] at a1; exact absurd a1 (by decide)
      · rw [h1] at a1; exact absurd a1 (by decide)
    have wd := zt_tkd up.1 (Nat.le_trans En (Nat.le_succ_of_le n7))
    have k1 : (t : Int) = 1 := by rw [h1]; rfl
    have e33 := r.2.2.1 (by rw [h1]; decide)
    by_cases c : E ≤ f + most
    · have cI : ((E - f : Nat) : Int) ≤ (most : Int) := Int.ofNat_le.mpr (Nat.sub_le_iff_le_add'.mpr c)
      -- the class
      have ec := zt_C7_clear (d := d + 1) gL zt_lay7
      have w0 : zt_wf8 g (zv_sI g 7 1 0) := ⟨rfl, rfl, fun r k q1 q2 => zy_In _ _ q1⟩
      have X0 := zt_tx_w X w0
      obtain ⟨g1, y1, w1, y3, y4⟩ := zt_sp45 (d := d + 1) (T := T) (f := f) (E := E) up.2.2.1 En (Nat.le_trans c (Nat.add_le_add_left hm f)) (E - f) 0 (zv_sI g 7 1 0) (Nat.add_sub_cancel' up.1) X0 ((w0.2.2 _ _ (fun q => absurd q.1 (by decide)) (by decide)).trans (zt_gd_c6 G)) (zy_I _ _ _ _) (fun i hi => absurd hi (Nat.not_lt_zero _))
      have w01 : zt_wf8 g g1 := ⟨w1.1.trans w0.1, w1.2.1.trans w0.2.1, fun r k q1 q2 => (w1.2.2 r k q1 q2).trans (w0.2.2 r k q1 q2)⟩
      -- the reference
      have F1 : zm_F [] [19] k (zv_sI k 347 19 ((E - f : Nat) : Int)) := zm_F_f (zm_F_r _ _ k) rfl _
      have Y1 : zt_ty T n (zv_sI k 347 19 ((E - f : Nat) : Int)) := ⟨zm_F_M F1 hM, n7, (zm_F_g F1 36).trans (zt_ty_l Y), fun i hi => by rw [zm_F_a F1 366]; exact zt_ty_t Y i hi, zt_ty_b Y⟩
      obtain ⟨k2, z1, F2, z3⟩ := zt_tw64 (D := D + 5) (T := T) (f := f) (E := E) up.2.2.1 En (m0 := E - f) (Nat.add_sub_cancel' up.1) (Nat.le_trans (Nat.sub_le_iff_le_add'.mpr c) hm) (E - f) 0 (zv_sI k 347 19 ((E - f : Nat) : Int)) (Nat.zero_add _) Y1 ((zm_F_g F1 32).trans r.1) (zy_I _ _ _ _) (fun i hi => absurd hi (Nat.not_lt_zero _))
      have F12 : zm_F [360] [19] k k2 := zm_F_t (zm_F_s F1 rfl rfl) (zm_F_s F2 rfl rfl)
      have G2 := zt_gd_w G w01 F12
      obtain ⟨b, g', k', a1, a2, a3, a4, a5⟩ := zj_nx2 (d := d) (D := D) G2 (by rw [h1]; decide)
      have b01 : b = 0 ∨ b = 1 := by
        rcases a5 with q | q
        · exact Or.inr q.1
        · exact Or.inl q.1
      refine ⟨b, g', k', lC3_spelled (zl_ob gL zt_lay5) ?_, lC9_takesWord (zm_ob hM) ?_, zt_w5_t (zt_w5_w w01) (zt_w5_rf a3), zm_F_t (zm_F_s F12 rfl rfl) (zm_F_s a4 rfl rfl), ?_⟩
      · rw [qE3_spelled, zm_e (zl_gI gL zt_lay5 4), zt_gd_c4 G, if_pos k1, zm_e (zl_gI gL zt_lay5 6), zt_gd_c6 G, zm_e (zl_gI gL zt_lay5 5), zt_gd_c5 G, wd, if_pos cI, zm_e (zl_gF gL zt_lay5 1 2), zm_e ec, zm_e (zl_gI (g := zv_sI g 7 1 0) gL zt_lay5 5), zy_In _ _ (fun q => absurd q.1 (by decide)), zt_gd_c5 G]
        refine (show L3_spelled_45 (d + 2) 5 (f : Int) (zv_sI g 7 1 0) = _ from y1).trans ?_
        rw [zm_e a1]
        exact if_pos b01
      · rw [qE9_takesWord, zm_e (zm_gI hM 34), r.2.1, if_pos k1, qL9_takesWord_14, zm_e (zt_must hM 1 2), zt_ms_1 (by decide), zm_e (zm_gI hM 33), e33, zm_e (zm_gI hM 32), r.1, wd, if_pos cI, qL9_takesWord_37, zm_e (zt_must hM 1 4), zt_ms_1 (by decide), zm_e (zm_gI hM 30), zt_gd_f2 G, if_pos (by decide), zm_e (zm_gI hM 33), e33, zm_e (zm_gI hM 32), r.1, wd, zm_e (zm_pI hM 19 _)]
        refine (show L9_takesWord_64 (D + 5) 347 0 (zv_sI k 347 19 ((E - f : Nat) : Int)) = _ from z1).trans ?_
        rw [zm_e a2]
      · rcases a5 with ⟨q1, q2⟩ | q
        · refine Or.inl ⟨q1, ⟨zt_lay7, zt_lay8, Nat.le_trans (Nat.sub_le_iff_le_add'.mpr c) hm, ?_, fun i hi => ?_⟩, ?_, h1, c, ⟨((zt_gd_f G).2.2.2 (by rw [h1]; decide)).1, fun i hi => ?_⟩, q2⟩
          · rw [zt_rf_i a3 _ _ (fun q => absurd q.1 (by decide))]; exact y3
          · rw [zt_rf_i a3 _ _ (fun q => absurd q.1 (by decide)), zm_F_a a4 360, z3 i hi]
            exact y4 i hi
          · rw [zm_F_g a4 19, zm_F_g F2 19]
            exact zy_I _ _ _ _
          · rw [zm_F_a a4 360, z3 i hi]
            have hs := up.2.2.1 (f + i) (Nat.le_add_right _ _) (by omega)
            unfold zt_sm at hs
            omega
        · exact Or.inr q
    · have cI : ¬ ((E - f : Nat) : Int) ≤ (most : Int) := fun q => c (Nat.sub_le_iff_le_add'.mp (Int.ofNat_le.mp q))
      have bd := zj_fail G (w := 4) (by decide)
      have hM2 := zm_F_M (zt_ms_F 0 4 k) hM
      have e30 : ¬ zv_I (zt_ms 0 4 k) 347 30 ≤ 0 := by
        rw [zt_ms_0 (zt_gd_f2 G), if_neg (fun q => absurd q.1 (by decide)), zy_In _ _ (fun q => absurd q.2 (by decide)), zy_I]
        decide
      refine ⟨0, _, _, lC3_spelled (zl_ob gL zt_lay5) ?_, lC9_takesWord (zm_ob hM) ?_, zt_w5_rf (zt_rf_fail g 4), zm_F_s (zt_ms_F 0 4 k) rfl rfl, Or.inr ⟨rfl, bd⟩⟩
      · rw [qE3_spelled, zm_e (zl_gI gL zt_lay5 4), zt_gd_c4 G, if_pos k1, zm_e (zl_gI gL zt_lay5 6), zt_gd_c6 G, zm_e (zl_gI gL zt_lay5 5), zt_gd_c5 G, wd, if_neg cI, zm_e (zt_fail gL 4), zt_gd_c5 G]
        exact if_pos (Or.inl rfl)
      · rw [qE9_takesWord, zm_e (zm_gI hM 34), r.2.1, if_pos k1, qL9_takesWord_14, zm_e (zt_must hM 1 2), zt_ms_1 (by decide), zm_e (zm_gI hM 33), e33, zm_e (zm_gI hM 32), r.1, wd, if_neg cI, qL9_takesWord_37, zm_e (zt_must hM 0 4), zm_e (zm_gI hM2 30), if_neg e30]
  · have k1 : ¬ (t : Int) = 1 := fun q => h1 (Int.ofNat.inj q)
    have bd := zj_fail G (w := 2) (by decide)
    have hM2 := zm_F_M (zt_ms_F 0 2 k) hM
    have e4 : ¬ ((2 : Int) = 2 ∧ zv_I k 347 34 = 4) := fun q => zt_gd_t4 G (Int.ofNat.inj (r.2.1.symm.trans q.2))
    have e30 : 0 < zv_I (zt_ms 0 2 k) 347 30 := by
      rw [zt_ms_0 (zt_gd_f2 G), if_neg e4, zy_In _ _ (fun q => absurd q.2 (by decide)), zy_I]
      decide
    refine ⟨0, _, zt_ms 0 2 k, lC3_spelled (zl_ob gL zt_lay5) ?_, lC9_takesWord (zm_ob hM) ?_, zt_w5_rf (zt_rf_fail g 2), zm_F_s (zt_ms_F 0 2 k) rfl rfl, Or.inr ⟨rfl, bd⟩⟩
    · rw [qE3_spelled, zm_e (zl_gI gL zt_lay5 4), zt_gd_c4 G, if_neg k1, zm_e (zt_fail gL 2)]
      exact if_pos (Or.inl rfl)
    · have tail : ∀ v : Int, L9_takesWord_37 (D + 5) 347 347 v (zt_ms 0 2 k) = some (none, zt_ms 0 2 k) := fun v => by
        rw [qL9_takesWord_37, zm_e (zt_must hM2 v 4), zt_ms_f e30, zm_e (zm_gI hM2 30), if_neg (Int.not_le.mpr e30)]
      rw [qE9_takesWord, zm_e (zm_gI hM 34), r.2.1, if_neg k1, qL9_takesWord_14, zm_e (zt_must hM 0 2), zm_e (zm_gI hM2 33), zm_e (zm_gI hM2 32), tail, tail]
      split <;> rfl
/-- a number for the class's field, for the reference; or both fail -/
theorem zj_num {d D fld : Nat} (hf : fld = 11 ∨ fld = 12) (G : zt_gd T n g k f t E) (R : zm_RI k) : ∃ (v : Int) (g' k' : zv_H) (x : Int), (∀ X : Int → zv_H → zv_O, ((zv_gI g 5 3 7).bind fun v9 => (zv_pI g 5 3 fld v9).bind fun g10 => (zv_gI g10 5 3 4).bind fun v11 => if v11 = 2 then (C3_next (d + 2) 5 g10).bind fun q12 => X q12.1 q12.2 else (C3_fail (d + 2) 5 2 g10).bind fun q13 => X q13.1 q13.2) = X v g') ∧ C9_takesNumber (D + 6) 347 k = some (x, k') ∧ zt_l5 fld g g' ∧ zm_F [] [30, 31, 32, 33, 34, 35, 38] k k' ∧ zm_RI k' ∧ ((v = 1 ∧ x = zv_I g' 5 fld ∧ (0 ≤ x ∧ x ≤ 999) ∧ ∃ f' t' E', zt_gd T n g' k' f' t' E' ∧ zt_tkn T n E f' t' E') ∨ (v = 0 ∧ zt_bd T n g' k')) := by
  have gL := zt_tx_L (zt_gd_X G)
  have hM := zt_ty_M (zt_gd_Y G)
  have f30 := zt_gd_f2 G
  obtain ⟨x0, k0, e0, F0, ok0, _⟩ := zm_takesNumber hM D R (by rw [f30]; exact Int.le_refl _)
  have w0 : zt_l5 fld g (zv_sI g 5 fld (zv_I g 5 7)) := ⟨rfl, rfl, fun r k q => zy_In _ _ (fun z => q ⟨z.1, Or.inr z.2⟩)⟩
  have G1 : zt_gd T n (zv_sI g 5 fld (zv_I g 5 7)) k f t E := zt_gd_x G rfl rfl (fun j hj => zy_In _ _ (fun z => by omega)) (fun j => zy_In _ _ (fun z => by omega)) (zm_F_r [] [] k)
  have vf : zv_I (zv_sI g 5 fld (zv_I g 5 7)) 5 fld = zv_I g 5 7 := zy_I _ _ _ _
  have top : ∀ X : Int → zv_H → zv_O, ((zv_gI g 5 3 7).bind fun v9 => (zv_pI g 5 3 fld v9).bind fun g10 => (zv_gI g10 5 3 4).bind fun v11 => if v11 = 2 then (C3_next (d + 2) 5 g10).bind fun q12 => X q12.1 q12.2 else (C3_fail (d + 2) 5 2 g10).bind fun q13 => X q13.1 q13.2) = if t = 2 then (C3_next (d + 2) 5 (zv_sI g 5 fld (zv_I g 5 7))).bind fun q12 => X q12.1 q12.2 else (C3_fail (d + 2) 5 2 (zv_sI g 5 fld (zv_I g 5 7))).bind fun q13 => X q13.1 q13.2 := fun X => by
    rw [zm_e (zl_gI gL zt_lay5 7), zm_e (zl_pI gL zt_lay5 fld _), zm_e (zl_gI (g := zv_sI g 5 fld (zv_I g 5 7)) gL zt_lay5 4), zt_gd_c4 G1]
    by_cases c : t = 2
    · rw [if_pos c, if_pos (show (t : Int) = 2 by rw [c]; rfl)]
    · rw [if_neg c, if_neg (show ¬ (t : Int) = 2 from fun q => c (Int.ofNat.inj q))]
  generalize zv_sI g 5 fld (zv_I g 5 7) = g1 at w0 G1 vf top
  have gL1 := zt_tx_L (zt_gd_X G1)
  by_cases c : t = 2
  · subst c
    obtain ⟨v, g', k', a1, a2, a3, a4, a5⟩ := zj_nx2 (d := d) (D := D) G1 (by decide)
    have e1 := zt_numR (D := D) G1 a2
    have ek : k0 = k' := (Prod.mk.inj (Option.some.inj (e0.symm.trans e1))).2
    subst ek
    refine ⟨v, g', k0, _, fun X => by rw [top X, if_pos rfl, zm_e a1], e1, ⟨a3.1.trans w0.1, a3.2.1.trans w0.2.1, fun r i q => (a3.2.2 r i (fun z => q ⟨z.1, Or.inl z.2⟩)).trans (w0.2.2 r i q)⟩, F0, ok0.1, ?_⟩
    rcases a5 with ⟨q1, q2⟩ | q
    · refine Or.inl ⟨q1, ?_, zt_nv3 G1, q2⟩
      rw [a3.2.2 5 fld (fun z => by omega), vf]
      exact (zt_gd_c2 G rfl).symm
    · exact Or.inr q
  · rcases zj_number (d := d) (D := D) G1 with ⟨z, _⟩ | ⟨_, nv, g', k', y1, y2, y3, y4, y5⟩
    · exact absurd z c
    have ek : k0 = k' := (Prod.mk.inj (Option.some.inj (e0.symm.trans y2))).2
    subst ek
    have eg : C3_fail (d + 2) 5 2 g1 = some (0, g') := (zt_fail (d := d + 1) gL1 2).trans ((zt_fail (d := d) gL1 2).symm.trans y1)
    exact ⟨0, g', k0, nv, fun X => by rw [top X, if_neg c, zm_e eg], y2, ⟨y3.1.trans w0.1, y3.2.1.trans w0.2.1, fun r i q => (y3.2.2 r i (fun z => q ⟨z.1, Or.inl z.2⟩)).trans (w0.2.2 r i q)⟩, F0, ok0.1, Or.inr ⟨rfl, y5⟩⟩
/-- the next one, the reference's numbers in order -/
theorem zj_nx3 {d D : Nat} (G : zt_gd T n g k f t E) (R : zm_RI k) (t0 : t ≠ 0) : ∃ (v : Int) (g' k' : zv_H), C3_next (d + 2) 5 g = some (v, g') ∧ C9_reads (D + 5) 347 k = some k' ∧ zt_rf g g' ∧ zm_rF k k' ∧ zm_RI k' ∧ ((v = 1 ∧ ∃ f' t' E', zt_gd T n g' k' f' t' E' ∧ zt_tkn T n E f' t' E') ∨ (v = 0 ∧ zt_bd T n g' k')) := by
  obtain ⟨v, g', k', a1, a2, a3, a4, a5⟩ := zj_nx2 (d := d) (D := D) G t0
  obtain ⟨k0, e0, F0, R0, _⟩ := zm_rd D (zt_ty_M (zt_gd_Y G)) R (by rw [(zt_gd_r G).2.1]; exact fun q => t0 (Int.ofNat.inj q))
  have ek : k0 = k' := Option.some.inj (e0.symm.trans a2)
  subst ek
  exact ⟨v, g', k0, a1, a2, a3, a4, R0, a5⟩
end
end
