/-! ===== the tie: small methods of the class, exactly ===== -/
section
variable {d : Nat} {h : zv_H}
theorem zt_C4_id {s k : Int} (hs : 0 ≤ s ∧ s ≤ 47) (hk : 0 ≤ k ∧ k < 1000) : C4_id (d + 1) s k h = some (zt_id (s, k), h) := by
  refine lC4_id ?_
  rw [qE4_id]
  unfold zt_id
  by_cases c : s = 0
  · rw [if_pos c, if_pos c]
  · rw [if_neg c, if_neg c, zm_w (x := s - 1) (by omega), zm_w (x := (s - 1) * 12) (by omega), zm_w (x := 40 + (s - 1) * 12) (by omega), zm_w (by omega)]
theorem zt_C4_putter {p : Int × Int} (hp : zt_ok p) : C4_putter (d + 1) (zt_id p) h = some (p.1, h) := by
  refine lC4_putter ?_
  rw [qE4_putter]
  unfold zt_id
  rcases hp with q | q
  · rw [if_pos q.1, if_pos (by omega), q.1]
  · rw [if_neg (show ¬ p.1 = 0 by omega), if_neg (by omega), zm_w (x := 40 + (p.1 - 1) * 12 + p.2 - 40) (by omega)]
    have e : (40 + (p.1 - 1) * 12 + p.2 - 40).tdiv 12 = p.1 - 1 := by
      rw [Int.tdiv_eq_ediv_of_nonneg (by omega)]
      omega
    rw [e, zm_w (x := p.1 - 1) (by omega), zm_w (by omega), show p.1 - 1 + 1 = p.1 by omega]
theorem zt_C4_putter1 : C4_putter (d + 1) (-1) h = some (0, h) := by
  refine lC4_putter ?_
  rw [qE4_putter, if_pos (by decide)]
theorem zt_C4_order {p : Int × Int} (hp : zt_ok p) : C4_order (d + 1) (zt_id p) h = some (p.2, h) := by
  refine lC4_order ?_
  rw [qE4_order]
  unfold zt_id
  rcases hp with q | q
  · rw [if_pos q.1, if_pos (by omega)]
  · rw [if_neg (show ¬ p.1 = 0 by omega), if_neg (by omega), zm_w (x := 40 + (p.1 - 1) * 12 + p.2 - 40) (by omega)]
    have e : (40 + (p.1 - 1) * 12 + p.2 - 40).tmod 12 = p.2 := by
      rw [Int.tmod_eq_emod_of_nonneg (by omega)]
      omega
    rw [e]
theorem zt_C4_isId (x : Int) : C4_isId (d + 1) x h = some ((if 0 ≤ x ∧ x < 604 then 1 else 0), h) := by
  refine lC4_isId ?_
  rw [qE4_isId]
  by_cases c : x < 0
  · rw [if_pos c, if_neg (by omega)]
  · rw [if_neg c]
    by_cases c1 : x < 604
    · rw [if_pos c1, if_pos (by omega)]
    · rw [if_neg c1, if_neg (by omega)]
theorem zt_C5_bit (hL : zt_L h) {a i : Nat} (ha : zv_lay a = (1, 0)) (hi : i < 48) (hn : zv_I h (zc_stt a i) 0 = i) : C5_bit (d + 1) (zc_stt a i) h = some (zt_bt i, h) := by
  have l := (zc_stl ha hi).1
  refine lC5_bit (zl_ob hL l) ?_
  rw [qE5_bit, zm_e (zl_gI hL l 0), hn]
  rfl
theorem zt_C5_edits (hL : zt_L h) {r : Nat} (l : zv_lay r = (1, 5)) : C5_edits (d + 1) r h = some ((if zv_I h r 6 = 0 ∨ zv_I h r 6 = 1 then 1 else 0), h) := by
  refine lC5_edits (zl_ob hL l) ?_
  rw [qE5_edits, zm_e (zl_gI hL l 6)]
  by_cases c : zv_I h r 6 = 0
  · rw [if_pos c, if_pos (Or.inl c)]
  · rw [if_neg c, zm_e (zl_gI hL l 6)]
    by_cases c1 : zv_I h r 6 = 1
    · rw [if_pos c1, if_pos (Or.inr c1)]
    · rw [if_neg c1, if_neg (fun q => q.elim c c1)]
theorem zt_C5_brings (hL : zt_L h) {r : Nat} (l : zv_lay r = (1, 5)) : C5_brings (d + 1) r h = some ((if zv_I h r 6 = 0 ∨ zv_I h r 6 = -1 then 1 else 0), h) := by
  refine lC5_brings (zl_ob hL l) ?_
  rw [qE5_brings, zm_e (zl_gI hL l 6)]
  by_cases c : zv_I h r 6 = 0
  · rw [if_pos c, if_pos (Or.inl c)]
  · rw [if_neg c, zm_e (zl_gI hL l 6)]
    by_cases c1 : zv_I h r 6 = -1
    · rw [if_pos c1, if_pos (Or.inr c1)]
    · rw [if_neg c1, if_neg (fun q => q.elim c c1)]
theorem zt_C5_idAt (hL : zt_L h) {r : Nat} (l : zv_lay r = (1, 5)) (b : zv_I h r 12 ≤ 120) (i : Int) : C5_idAt (d + 1) r i h = some ((if 0 ≤ i ∧ i < zv_I h r 12 then zv_I h (r + 2) i.toNat else -1), h) := by
  have l2 := (zc_l5 l).2
  refine lC5_idAt (zl_ob hL l) ?_
  rw [qE5_idAt]
  by_cases c : i < 0
  · rw [if_pos c, if_neg (by omega)]
  · rw [if_neg c, zm_e (zl_gI hL l 12)]
    by_cases c1 : i < zv_I h r 12
    · rw [if_pos c1, if_pos (by omega), zm_e (zl_gF hL l 2 2), zm_e (zl_al hL l2), if_pos (by omega), zm_e (zl_gF hL l 2 2), zm_e (zl_aI hL l2 (by omega) (by omega))]
    · rw [if_neg c1, if_neg (by omega)]
theorem zt_C5_tookAt (hL : zt_L h) {r : Nat} (l : zv_lay r = (1, 5)) (i : Int) : C5_tookAt (d + 1) r i h = some ((if zv_I h r 6 = 1 ∧ 0 ≤ i ∧ i < zv_I h r 9 ∧ i < 12 then zv_I h (r + 1) i.toNat else -1), h) := by
  have l1 := (zc_l5 l).1
  refine lC5_tookAt (zl_ob hL l) ?_
  rw [qE5_tookAt, zm_e (zl_gI hL l 6)]
  by_cases c0 : zv_I h r 6 = 1
  · rw [if_pos c0]
    by_cases c : i < 0
    · rw [if_pos c, if_neg (by omega)]
    · rw [if_neg c, zm_e (zl_gI hL l 9)]
      by_cases c1 : i < zv_I h r 9
      · rw [if_pos c1, zm_e (zl_gF hL l 1 1), zm_e (zl_al hL l1)]
        by_cases c2 : i < ((12 : Nat) : Int)
        · rw [if_pos c2, if_pos (by omega), zm_e (zl_gF hL l 1 1), zm_e (zl_aI hL l1 (by omega) (by omega))]
        · rw [if_neg c2, if_neg (by omega)]
      · rw [if_neg c1, if_neg (by omega)]
  · rw [if_neg c0, if_neg (fun q => c0 q.1)]
end
