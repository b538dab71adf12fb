/-! ===== the tie: the tables' words, both sides ===== -/
def zt_wq (r : Nat) : List Int := (zm_tx r).reverse.map fun x => x - 96
theorem zt_wq_len (r : Nat) : (zt_wq r).length = (zm_tx r).length := by
  unfold zt_wq
  rw [List.length_map, List.length_reverse]
def zt_w7 (j : Nat) : Nat := 1000011 + j
def zt_w8 (j : Nat) : Nat := [1000000, 1000001, 1000010, 1000009, 1000002].getD j 0
def zt_w9 (j : Nat) : Nat := 1000003 + j
/-- a table that holds these words -/
def zt_tbl (w : Nat → Nat) (t : List Int64) (L : Nat) : Prop := ∀ j, j < L → (t.getD j 0 = Int64.ofInt (zt_v27 (zt_wq (w j))) ∧ (∀ x ∈ zt_wq (w j), 1 ≤ x ∧ x ≤ 26) ∧ (zm_tx (w j)).length ≤ 8) ∧ ∀ i, i < L → zm_tx (w i) = zm_tx (w j) → i = j
theorem zt_tbl7 : zt_tbl zt_w7 zm_t7 12 := by
  unfold zt_tbl
  decide +kernel
theorem zt_tbl8 : zt_tbl zt_w8 zm_t8 5 := by
  unfold zt_tbl
  decide +kernel
theorem zt_tbl9 : zt_tbl zt_w9 zm_t9 6 := by
  unfold zt_tbl
  decide +kernel
theorem zt_isw_u {T : Nat → Int} {f t E : Nat} {l l' : List Int} (h : zt_isw T f t E l) (h' : zt_isw T f t E l') : l = l' := by
  obtain ⟨_, a2, a3⟩ := h
  obtain ⟨_, b2, b3⟩ := h'
  have len : l.length = l'.length := by omega
  refine List.ext_getElem len fun i h1 h2 => ?_
  have a := a3 i h1
  have b := b3 i h2
  rw [List.getD_eq_getElem?_getD, List.getElem?_eq_getElem h1] at a
  rw [List.getD_eq_getElem?_getD, List.getElem?_eq_getElem h2] at b
  exact a.symm.trans b
section
variable {T : Nat → Int} {n : Nat} {g k : zv_H} {f t E : Nat}
theorem zt_gd_fE (G : zt_gd T n g k f t E) (t1 : t = 1) : f ≤ E := by
  obtain ⟨e0, hk⟩ := zt_gd_k G
  rcases hk.2 with ⟨a1, _⟩ | ⟨an, ⟨a1, a2, a3⟩ | ⟨a1, _⟩ | ⟨a1, _⟩ | ⟨a1, _⟩⟩
  · rw [t1] at a1; exact absurd a1 (by decide)
  · exact a3.1
  · rw [t1] at a1; exact absurd a1 (by decide)
  · rw [t1] at a1; exact absurd a1 (by decide)
  · rw [t1] at a1; exact absurd a1 (by decide)
/-- which word of a table it is -/
theorem zt_which {d r L : Nat} (G : zt_gd T n g k f t E) (hl : zv_lay r = (5, L)) (hr : Nat.ble r 372 = true) (hL : L ≤ 100) {w : Nat → Nat} {tl : List Int64} (tb : zt_tbl w tl L) (hT : ∀ j, j < L → zv_J k r j = tl.getD j 0) : ∃ v : Int, C9_which (d + 1) 347 r k = some (v, k) ∧ ((v = -1 ∧ ∀ j : Nat, j < L → ¬ zt_isw T f t E (zm_tx (w j))) ∨ ∃ j : Nat, v = (j : Int) ∧ j < L ∧ zt_isw T f t E (zm_tx (w j))) ∧ ∀ j : Nat, j < L → (v = (j : Int) ↔ zt_isw T f t E (zm_tx (w j))) := by
  have hM := zt_ty_M (zt_gd_Y G)
  obtain ⟨v, e, q⟩ := zt_which_l (d := d) (W := fun j => zt_wq (w j)) G hl hr hL (fun j hj => ⟨(hT j hj).trans (tb j hj).1.1, (tb j hj).1.2.1, Nat.le_trans (Nat.le_of_eq (zt_wq_len (w j))) (tb j hj).1.2.2⟩) L 0 (Nat.zero_add L)
  have iff : ∀ j, j < L → (zt_isw T f t E (zm_tx (w j)) ↔ zt_isC T f t E (zt_wq (w j))) := fun j hj => zt_isw_C (tb j hj).1.2.2 (zt_gd_fE G)
  have q' : (v = -1 ∧ ∀ j : Nat, j < L → ¬ zt_isw T f t E (zm_tx (w j))) ∨ ∃ j : Nat, v = (j : Int) ∧ j < L ∧ zt_isw T f t E (zm_tx (w j)) := by
    rcases q with ⟨q1, q2⟩ | ⟨j, q1, q2, q3, q4, q5⟩
    · exact Or.inl ⟨q1, fun j hj z => q2 j (Nat.zero_le _) hj ((iff j hj).mp z)⟩
    · exact Or.inr ⟨j, q1, q3, (iff j q3).mpr q4⟩
  refine ⟨v, lC9_which (zm_ob hM) (by rw [qE9_which]; exact e), q', fun j hj => ?_⟩
  rcases q' with ⟨q1, q2⟩ | ⟨i, q1, q2, q3⟩
  · constructor
    · intro z
      rw [q1] at z
      exact absurd z (by omega)
    · intro z
      exact absurd z (q2 j hj)
  · constructor
    · intro z
      have : i = j := Int.ofNat.inj (q1.symm.trans z)
      rw [← this]
      exact q3
    · intro z
      rw [q1, (tb j hj).2 i q2 (zt_isw_u q3 z)]
/-- behind a fault it is none -/
theorem zt_which_b {d r L : Nat} (B : zt_bd T n g k) (hl : zv_lay r = (5, L)) (hr : Nat.ble r 372 = true) : C9_which (d + 1) 347 r k = some (-1, k) := by
  have hM := zt_ty_M (zt_bd_Y B)
  refine lC9_which (zm_ob hM) ?_
  rw [qE9_which, qL9_which_2, zm_e (zm_al hM hl rfl hr)]
  by_cases c : (0 : Int) < (L : Int)
  · rw [if_pos c, zm_e (zm_gI hM 34)]
    by_cases c1 : zv_I k 347 34 = 1
    · rw [if_pos c1, zm_e (zm_gI hM 30)]
      by_cases c2 : zv_I k 347 30 = 0
      · rcases zt_bd_f B with ⟨_, _, z, _⟩ | ⟨z, _⟩
        · rw [c1] at z; exact absurd z (by decide)
        · have := zt_bd_f0 B
          rw [← z, c2] at this
          exact absurd this (Int.lt_irrefl _)
      · rw [if_neg c2]
    · rw [if_neg c1]
  · rw [if_neg c]
theorem zt_isSign_b {d : Nat} (B : zt_bd T n g k) (x : Int) : C9_isSign (d + 1) 347 x k = some (0, k) := by
  have hM := zt_ty_M (zt_bd_Y B)
  refine lC9_isSign (zm_ob hM) ?_
  rw [qE9_isSign, zm_e (zm_gI hM 30)]
  by_cases c2 : zv_I k 347 30 = 0
  · rw [if_pos c2, zm_e (zm_gI hM 34)]
    rcases zt_bd_f B with ⟨_, _, z, _⟩ | ⟨z, _⟩
    · rw [if_neg (by rw [z]; decide)]
    · have := zt_bd_f0 B
      rw [← z, c2] at this
      exact absurd this (Int.lt_irrefl _)
  · rw [if_neg c2]
/-- what is asked: both alike -/
theorem zt_asked {d : Nat} (G : zt_gd T n g k f t E) : ∃ v : Int, C3_asked (d + 5) 5 g = some (v, g) ∧ ((v = -1 ∧ ∀ j : Nat, j < 6 → ¬ zt_isw T f t E (zm_tx (zt_w9 j))) ∨ ∃ j : Nat, v = (j : Int) ∧ j < 6 ∧ zt_isw T f t E (zm_tx (zt_w9 j))) := by
  have gL := zt_tx_L (zt_gd_X G)
  suffices h : ∃ v : Int, E3_asked (d + 4) 5 g = some (some (zv_i v), g) ∧ ((v = -1 ∧ ∀ j : Nat, j < 6 → ¬ zt_isw T f t E (zm_tx (zt_w9 j))) ∨ ∃ j : Nat, v = (j : Int) ∧ j < 6 ∧ zt_isw T f t E (zm_tx (zt_w9 j))) by
    obtain ⟨v, e, q⟩ := h
    exact ⟨v, lC3_asked (zl_ob gL zt_lay5) e, q⟩
  rw [qE3_asked]
  have no0 : ∀ i : Nat, i < 0 → ¬ zt_isw T f t E (zm_tx (zt_w9 i)) := fun i hi => absurd hi (Nat.not_lt_zero _)
  obtain ⟨b0, e0, q0⟩ := zt_is (d := d) (r := 1000003) G (by decide)
  rw [zm_e e0]
  dsimp only
  rcases q0 with ⟨p0, w0⟩ | ⟨p0, w0⟩
  · rw [p0, if_neg (by decide)]
    exact ⟨0, rfl, Or.inr ⟨0, rfl, by decide, w0⟩⟩
  rw [p0, if_pos rfl]
  have no1 : ∀ i : Nat, i < 1 → ¬ zt_isw T f t E (zm_tx (zt_w9 i)) := fun i hi => (Nat.lt_succ_iff_lt_or_eq.mp hi).elim (no0 i) (fun z => by rw [z]; exact w0)
  obtain ⟨b1, e1, q1⟩ := zt_is (d := d) (r := 1000004) G (by decide)
  rw [zm_e e1]
  dsimp only
  rcases q1 with ⟨p1, w1⟩ | ⟨p1, w1⟩
  · rw [p1, if_neg (by decide)]
    exact ⟨1, rfl, Or.inr ⟨1, rfl, by decide, w1⟩⟩
  rw [p1, if_pos rfl]
  have no2 : ∀ i : Nat, i < 2 → ¬ zt_isw T f t E (zm_tx (zt_w9 i)) := fun i hi => (Nat.lt_succ_iff_lt_or_eq.mp hi).elim (no1 i) (fun z => by rw [z]; exact w1)
  obtain ⟨b2, e2, q2⟩ := zt_is (d := d) (r := 1000005) G (by decide)
  rw [zm_e e2]
  dsimp only
  rcases q2 with ⟨p2, w2⟩ | ⟨p2, w2⟩
  · rw [p2, if_neg (by decide)]
    exact ⟨2, rfl, Or.inr ⟨2, rfl, by decide, w2⟩⟩
  rw [p2, if_pos rfl]
  have no3 : ∀ i : Nat, i < 3 → ¬ zt_isw T f t E (zm_tx (zt_w9 i)) := fun i hi => (Nat.lt_succ_iff_lt_or_eq.mp hi).elim (no2 i) (fun z => by rw [z]; exact w2)
  obtain ⟨b3, e3, q3⟩ := zt_is (d := d) (r := 1000006) G (by decide)
  rw [zm_e e3]
  dsimp only
  rcases q3 with ⟨p3, w3⟩ | ⟨p3, w3⟩
  · rw [p3, if_neg (by decide)]
    exact ⟨3, rfl, Or.inr ⟨3, rfl, by decide, w3⟩⟩
  rw [p3, if_pos rfl]
  have no4 : ∀ i : Nat, i < 4 → ¬ zt_isw T f t E (zm_tx (zt_w9 i)) := fun i hi => (Nat.lt_succ_iff_lt_or_eq.mp hi).elim (no3 i) (fun z => by rw [z]; exact w3)
  obtain ⟨b4, e4, q4⟩ := zt_is (d := d) (r := 1000007) G (by decide)
  rw [zm_e e4]
  dsimp only
  rcases q4 with ⟨p4, w4⟩ | ⟨p4, w4⟩
  · rw [p4, if_neg (by decide)]
    exact ⟨4, rfl, Or.inr ⟨4, rfl, by decide, w4⟩⟩
  rw [p4, if_pos rfl]
  have no5 : ∀ i : Nat, i < 5 → ¬ zt_isw T f t E (zm_tx (zt_w9 i)) := fun i hi => (Nat.lt_succ_iff_lt_or_eq.mp hi).elim (no4 i) (fun z => by rw [z]; exact w4)
  obtain ⟨b5, e5, q5⟩ := zt_is (d := d) (r := 1000008) G (by decide)
  rw [zm_e e5]
  dsimp only
  rcases q5 with ⟨p5, w5⟩ | ⟨p5, w5⟩
  · rw [p5, if_neg (by decide)]
    exact ⟨5, rfl, Or.inr ⟨5, rfl, by decide, w5⟩⟩
  rw [p5, if_pos rfl]
  have no6 : ∀ i : Nat, i < 6 → ¬ zt_isw T f t E (zm_tx (zt_w9 i)) := fun i hi => (Nat.lt_succ_iff_lt_or_eq.mp hi).elim (no5 i) (fun z => by rw [z]; exact w5)
  exact ⟨-1, rfl, Or.inl ⟨rfl, no6⟩⟩
/-- both see the same verb -/
theorem zt_verb {d D : Nat} (G : zt_gd T n g k f t E) (K : zm_K k) : ∃ v : Int, C3_verbHere (d + 5) 5 g = some (v, g) ∧ C9_which (D + 1) 347 367 k = some (v, k) ∧ (v = -1 ∨ ∃ j : Nat, v = (j : Int) ∧ j < 12 ∧ zt_isw T f t E (zm_tx (zt_w7 j))) := by
  obtain ⟨v, e, q⟩ := zt_verbHere (d := d) G
  obtain ⟨v', e', q', iff⟩ := zt_which (d := D) (r := 367) (L := 12) G rfl rfl (by decide) zt_tbl7 K.2.2.2.1
  have : v' = v := by
    rcases q with ⟨q1, q2⟩ | ⟨j, q1, q2, q3, _⟩
    · rcases q' with ⟨z, _⟩ | ⟨i, z1, z2, z3⟩
      · exact z.trans q1.symm
      · exact absurd z3 (q2 i z2)
    · exact ((iff j q2).mpr q3).trans q1.symm
  rw [this] at e'
  refine ⟨v, e, e', ?_⟩
  rcases q with ⟨q1, q2⟩ | ⟨j, q1, q2, q3, _⟩
  · exact Or.inl q1
  · exact Or.inr ⟨j, q1, q2, q3⟩
/-- one of the other words, for both -/
theorem zt_oth {d D : Nat} (G : zt_gd T n g k f t E) (K : zm_K k) : ∃ v : Int, C9_which (D + 1) 347 368 k = some (v, k) ∧ ∀ j : Nat, j < 5 → (v = (j : Int) ∧ zt_isw T f t E (zm_tx (zt_w8 j)) ∧ C3_is (d + 4) 5 (zt_w8 j) g = some (1, g)) ∨ (v ≠ (j : Int) ∧ ¬ zt_isw T f t E (zm_tx (zt_w8 j)) ∧ C3_is (d + 4) 5 (zt_w8 j) g = some (0, g)) := by
  obtain ⟨v, e, q, iff⟩ := zt_which (d := D) (r := 368) (L := 5) G rfl rfl (by decide) zt_tbl8 K.2.2.2.2.1
  have hr : ∀ j, j < 5 → 1000000 ≤ zt_w8 j ∧ zt_w8 j < 1000024 := by decide +kernel
  refine ⟨v, e, fun j hj => ?_⟩
  obtain ⟨b, e2, q2⟩ := zt_is (d := d) (r := zt_w8 j) G (hr j hj)
  rcases q2 with ⟨p, w⟩ | ⟨p, w⟩
  · rw [p] at e2
    exact Or.inl ⟨(iff j hj).mpr w, w, e2⟩
  · rw [p] at e2
    exact Or.inr ⟨fun z => w ((iff j hj).mp z), w, e2⟩
/-- the six values, for both -/
theorem zt_val {d D : Nat} (G : zt_gd T n g k f t E) (K : zm_K k) : ∃ v : Int, C3_asked (d + 5) 5 g = some (v, g) ∧ C9_which (D + 1) 347 369 k = some (v, k) ∧ (v = -1 ∨ ∃ j : Nat, v = (j : Int) ∧ j < 6 ∧ zt_isw T f t E (zm_tx (zt_w9 j))) := by
  obtain ⟨v, e, q⟩ := zt_asked (d := d) G
  obtain ⟨v', e', q', iff⟩ := zt_which (d := D) (r := 369) (L := 6) G rfl rfl (by decide) zt_tbl9 K.2.2.2.2.2
  have : v' = v := by
    rcases q with ⟨q1, q2⟩ | ⟨j, q1, q2, q3⟩
    · rcases q' with ⟨z, _⟩ | ⟨i, z1, z2, z3⟩
      · exact z.trans q1.symm
      · exact absurd z3 (q2 i z2)
    · exact ((iff j q2).mpr q3).trans q1.symm
  rw [this] at e'
  refine ⟨v, e, e', ?_⟩
  rcases q with ⟨q1, q2⟩ | ⟨j, q1, q2, q3⟩
  · exact Or.inl q1
  · exact Or.inr ⟨j, q1, q2, q3⟩
end
