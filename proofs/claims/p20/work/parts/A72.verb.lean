/-! ===== the tie: the verb of a LINE, the class ===== -/
section
variable {T : Nat → Int} {n : Nat} {g k : zv_H} {f t E : Nat}
theorem zt_verbHere {d : Nat} (G : zt_gd T n g k f t E) : ∃ v : Int, C3_verbHere (d + 5) 5 g = some (v, g) ∧ ((v = -1 ∧ ∀ j : Nat, j < 12 → ¬ zt_isw T f t E (zm_tx (1000011 + j))) ∨ ∃ j : Nat, v = (j : Int) ∧ j < 12 ∧ zt_isw T f t E (zm_tx (1000011 + j)) ∧ ∀ i : Nat, i < j → ¬ zt_isw T f t E (zm_tx (1000011 + i))) := by
  have gL := zt_tx_L (zt_gd_X G)
  suffices h : ∃ v : Int, E3_verbHere (d + 4) 5 g = some (some (zv_i v), g) ∧ ((v = -1 ∧ ∀ j : Nat, j < 12 → ¬ zt_isw T f t E (zm_tx (1000011 + j))) ∨ ∃ j : Nat, v = (j : Int) ∧ j < 12 ∧ zt_isw T f t E (zm_tx (1000011 + j)) ∧ ∀ i : Nat, i < j → ¬ zt_isw T f t E (zm_tx (1000011 + i))) by
    obtain ⟨v, e, q⟩ := h
    exact ⟨v, lC3_verbHere (zl_ob gL zt_lay5) e, q⟩
  rw [qE3_verbHere]
  have no0 : ∀ i : Nat, i < 0 → ¬ zt_isw T f t E (zm_tx (1000011 + i)) := fun i hi => absurd hi (Nat.not_lt_zero _)
  obtain ⟨b0, e0, q0⟩ := zt_is (d := d) (r := 1000011) G (by decide)
  rw [zm_e e0]
  dsimp only
  rcases q0 with ⟨p0, w0⟩ | ⟨p0, w0⟩
  · rw [p0, if_neg (by decide)]
    exact ⟨0, rfl, Or.inr ⟨0, rfl, by decide, w0, no0⟩⟩
  rw [p0, if_pos rfl]
  have no1 : ∀ i : Nat, i < 1 → ¬ zt_isw T f t E (zm_tx (1000011 + i)) := fun i hi => (Nat.lt_succ_iff_lt_or_eq.mp hi).elim (no0 i) (fun z => by rw [z]; exact w0)
  obtain ⟨b1, e1, q1⟩ := zt_is (d := d) (r := 1000012) G (by decide)
  rw [zm_e e1]
  dsimp only
  rcases q1 with ⟨p1, w1⟩ | ⟨p1, w1⟩
  · rw [p1, if_neg (by decide)]
    exact ⟨1, rfl, Or.inr ⟨1, rfl, by decide, w1, no1⟩⟩
  rw [p1, if_pos rfl]
  have no2 : ∀ i : Nat, i < 2 → ¬ zt_isw T f t E (zm_tx (1000011 + i)) := fun i hi => (Nat.lt_succ_iff_lt_or_eq.mp hi).elim (no1 i) (fun z => by rw [z]; exact w1)
  obtain ⟨b2, e2, q2⟩ := zt_is (d := d) (r := 1000013) G (by decide)
  rw [zm_e e2]
  dsimp only
  rcases q2 with ⟨p2, w2⟩ | ⟨p2, w2⟩
  · rw [p2, if_neg (by decide)]
    exact ⟨2, rfl, Or.inr ⟨2, rfl, by decide, w2, no2⟩⟩
  rw [p2, if_pos rfl]
  have no3 : ∀ i : Nat, i < 3 → ¬ zt_isw T f t E (zm_tx (1000011 + i)) := fun i hi => (Nat.lt_succ_iff_lt_or_eq.mp hi).elim (no2 i) (fun z => by rw [z]; exact w2)
  obtain ⟨b3, e3, q3⟩ := zt_is (d := d) (r := 1000014) G (by decide)
  rw [zm_e e3]
  dsimp only
  rcases q3 with ⟨p3, w3⟩ | ⟨p3, w3⟩
  · rw [p3, if_neg (by decide)]
    exact ⟨3, rfl, Or.inr ⟨3, rfl, by decide, w3, no3⟩⟩
  rw [p3, if_pos rfl]
  have no4 : ∀ i : Nat, i < 4 → ¬ zt_isw T f t E (zm_tx (1000011 + i)) := fun i hi => (Nat.lt_succ_iff_lt_or_eq.mp hi).elim (no3 i) (fun z => by rw [z]; exact w3)
  obtain ⟨b4, e4, q4⟩ := zt_is (d := d) (r := 1000015) G (by decide)
  rw [zm_e e4]
  dsimp only
  rcases q4 with ⟨p4, w4⟩ | ⟨p4, w4⟩
  · rw [p4, if_neg (by decide)]
    exact ⟨4, rfl, Or.inr ⟨4, rfl, by decide, w4, no4⟩⟩
  rw [p4, if_pos rfl]
  have no5 : ∀ i : Nat, i < 5 → ¬ zt_isw T f t E (zm_tx (1000011 + i)) := fun i hi => (Nat.lt_succ_iff_lt_or_eq.mp hi).elim (no4 i) (fun z => by rw [z]; exact w4)
  obtain ⟨b5, e5, q5⟩ := zt_is (d := d) (r := 1000016) G (by decide)
  rw [zm_e e5]
  dsimp only
  rcases q5 with ⟨p5, w5⟩ | ⟨p5, w5⟩
  · rw [p5, if_neg (by decide)]
    exact ⟨5, rfl, Or.inr ⟨5, rfl, by decide, w5, no5⟩⟩
  rw [p5, if_pos rfl]
  have no6 : ∀ i : Nat, i < 6 → ¬ zt_isw T f t E (zm_tx (1000011 + i)) := fun i hi => (Nat.lt_succ_iff_lt_or_eq.mp hi).elim (no5 i) (fun z => by rw [z]; exact w5)
  obtain ⟨b6, e6, q6⟩ := zt_is (d := d) (r := 1000017) G (by decide)
  rw [zm_e e6]
  dsimp only
  rcases q6 with ⟨p6, w6⟩ | ⟨p6, w6⟩
  · rw [p6, if_neg (by decide)]
    exact ⟨6, rfl, Or.inr ⟨6, rfl, by decide, w6, no6⟩⟩
  rw [p6, if_pos rfl]
  have no7 : ∀ i : Nat, i < 7 → ¬ zt_isw T f t E (zm_tx (1000011 + i)) := fun i hi => (Nat.lt_succ_iff_lt_or_eq.mp hi).elim (no6 i) (fun z => by rw [z]; exact w6)
  obtain ⟨b7, e7, q7⟩ := zt_is (d := d) (r := 1000018) G (by decide)
  rw [zm_e e7]
  dsimp only
  rcases q7 with ⟨p7, w7⟩ | ⟨p7, w7⟩
  · rw [p7, if_neg (by decide)]
    exact ⟨7, rfl, Or.inr ⟨7, rfl, by decide, w7, no7⟩⟩
  rw [p7, if_pos rfl]
  have no8 : ∀ i : Nat, i < 8 → ¬ zt_isw T f t E (zm_tx (1000011 + i)) := fun i hi => (Nat.lt_succ_iff_lt_or_eq.mp hi).elim (no7 i) (fun z => by rw [z]; exact w7)
  obtain ⟨b8, e8, q8⟩ := zt_is (d := d) (r := 1000019) G (by decide)
  rw [zm_e e8]
  dsimp only
  rcases q8 with ⟨p8, w8⟩ | ⟨p8, w8⟩
  · rw [p8, if_neg (by decide)]
    exact ⟨8, rfl, Or.inr ⟨8, rfl, by decide, w8, no8⟩⟩
  rw [p8, if_pos rfl]
  have no9 : ∀ i : Nat, i < 9 → ¬ zt_isw T f t E (zm_tx (1000011 + i)) := fun i hi => (Nat.lt_succ_iff_lt_or_eq.mp hi).elim (no8 i) (fun z => by rw [z]; exact w8)
  obtain ⟨b9, e9, q9⟩ := zt_is (d := d) (r := 1000020) G (by decide)
  rw [zm_e e9]
  dsimp only
  rcases q9 with ⟨p9, w9⟩ | ⟨p9, w9⟩
  · rw [p9, if_neg (by decide)]
    exact ⟨9, rfl, Or.inr ⟨9, rfl, by decide, w9, no9⟩⟩
  rw [p9, if_pos rfl]
  have no10 : ∀ i : Nat, i < 10 → ¬ zt_isw T f t E (zm_tx (1000011 + i)) := fun i hi => (Nat.lt_succ_iff_lt_or_eq.mp hi).elim (no9 i) (fun z => by rw [z]; exact w9)
  obtain ⟨b10, e10, q10⟩ := zt_is (d := d) (r := 1000021) G (by decide)
  rw [zm_e e10]
  dsimp only
  rcases q10 with ⟨p10, w10⟩ | ⟨p10, w10⟩
  · rw [p10, if_neg (by decide)]
    exact ⟨10, rfl, Or.inr ⟨10, rfl, by decide, w10, no10⟩⟩
  rw [p10, if_pos rfl]
  have no11 : ∀ i : Nat, i < 11 → ¬ zt_isw T f t E (zm_tx (1000011 + i)) := fun i hi => (Nat.lt_succ_iff_lt_or_eq.mp hi).elim (no10 i) (fun z => by rw [z]; exact w10)
  obtain ⟨b11, e11, q11⟩ := zt_is (d := d) (r := 1000022) G (by decide)
  rw [zm_e e11]
  dsimp only
  rcases q11 with ⟨p11, w11⟩ | ⟨p11, w11⟩
  · rw [p11, if_neg (by decide)]
    exact ⟨11, rfl, Or.inr ⟨11, rfl, by decide, w11, no11⟩⟩
  rw [p11, if_pos rfl]
  have no12 : ∀ i : Nat, i < 12 → ¬ zt_isw T f t E (zm_tx (1000011 + i)) := fun i hi => (Nat.lt_succ_iff_lt_or_eq.mp hi).elim (no11 i) (fun z => by rw [z]; exact w11)
  exact ⟨-1, rfl, Or.inl ⟨rfl, no12⟩⟩
end
