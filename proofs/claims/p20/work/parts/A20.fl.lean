/-! ===== the tie: the document behind a put ===== -/
theorem zt_rp_cnt {α : Type} (f : α → Bool) : ∀ (r : List α) (n : Nat), n < (r.filter f).length → ((r.take ((zm_rp f r n).toNat + 1)).filter f).length = n + 1
  | [], n, h => absurd h (Nat.not_lt_zero _)
  | x :: r, n, h => by
    have ex : zm_rp f (x :: r) (n : Int) = if f x = true then (if (n : Int) = 0 then 0 else zm_inc (zm_rp f r ((n : Int) - 1))) else zm_inc (zm_rp f r n) := rfl
    rw [ex, List.take_succ_cons]
    by_cases c1 : f x = true
    · rw [List.filter_cons_of_pos c1] at h
      rw [if_pos c1, List.filter_cons_of_pos c1, List.length_cons]
      by_cases c2 : (n : Int) = 0
      · have c3 : n = 0 := by omega
        rw [if_pos c2, c3]
        rfl
      · obtain ⟨m, rfl⟩ : ∃ m, n = m + 1 := ⟨n - 1, by omega⟩
        rw [List.length_cons] at h
        have ih := zt_rp_cnt f r m (by omega)
        have ge := (zm_rp_in f r m (by omega)).1
        have e : ((m + 1 : Nat) : Int) - 1 = m := by omega
        rw [if_neg c2, e]
        unfold zm_inc
        rw [if_neg (by omega), show (zm_rp f r m + 1).toNat = (zm_rp f r m).toNat + 1 by omega, ih]
    · rw [List.filter_cons_of_neg c1] at h
      have ih := zt_rp_cnt f r n h
      have ge := (zm_rp_in f r n h).1
      rw [if_neg c1, List.filter_cons_of_neg c1]
      unfold zm_inc
      rw [if_neg (by omega), show (zm_rp f r n + 1).toNat = (zm_rp f r n).toNat + 1 by omega, ih]
/-- what one sees of a row into which a word goes behind the place-th letter that one sees -/
theorem zt_ins_fl {row seg : List (Int × Int)} {f : Int × Int → Bool} (hd : row.Nodup) {pl : Nat} (hpl : pl ≤ (row.filter f).length) {p : Nat} (hp : (pl = 0 ∧ p = 0) ∨ (pl ≠ 0 ∧ ∃ x, (row.filter f)[pl - 1]? = some x ∧ (p : Int) = zm_at row x + 1)) (hs : ∀ x ∈ seg, f x = true) : (row.take p ++ (seg ++ row.drop p)).filter f = ((row.filter f).take pl ++ seg) ++ (row.filter f).drop pl := by
  have e : row.filter f = (row.take p).filter f ++ (row.drop p).filter f := by rw [← List.filter_append, List.take_append_drop]
  have hl : ((row.take p).filter f).length = pl := by
    rcases hp with q | q
    · rw [q.2, q.1, List.take_zero]
      rfl
    · obtain ⟨q1, x, hx, ep⟩ := q
      have hn : pl - 1 < (row.filter f).length := by omega
      have h1 := zm_rp_in f row (pl - 1) hn
      have h2 := h1.2.trans hx
      have hxm : x ∈ row := List.mem_of_getElem? h2
      have h3 := (zm_nd_at hd hxm h2).mpr rfl
      have h4 := zt_rp_cnt f row (pl - 1) hn
      have h5 := (zm_at_mem hxm).1
      rw [h3, show (zm_at row x).toNat + 1 = p by omega] at h4
      omega
  have et : (row.filter f).take pl = (row.take p).filter f := by
    rw [e]
    exact List.take_left' hl
  have ed : (row.filter f).drop pl = (row.drop p).filter f := by
    rw [e]
    exact List.drop_left' hl
  rw [List.filter_append, List.filter_append, zm_fl_all f hs, et, ed, List.append_assoc]
/-- the document of a put -/
theorem zt_dc_put {c c' : Nat → Int} {s : Int} {lh : List Int} (hne : lh ≠ []) (ha : ∀ t ∈ lh, zm_ag c c' t) (hns : ¬ s ∈ lh) (g : zm_G0 c lh) (gt : ∀ t ∈ lh, zm_o c t 2 = 1 → ∀ p ∈ zm_tk c t, p ∈ zm_row c lh) (hp : zm_o c' s 2 = 0) {pl : Nat} (hpl : pl ≤ (zt_dc c lh).length) (h0 : pl = 0 → zm_o c' s 8 = -1) (h1 : pl ≠ 0 → ∃ x : Int × Int, (zt_dc c lh)[pl - 1]? = some x ∧ zm_o c' s 8 = x.1 ∧ zm_o c' s 9 = x.2) (hx0 : ∀ p ∈ zm_row c lh, 0 ≤ p.1) : zt_dc c' (s :: lh) = ((zt_dc c lh).take pl ++ zm_rs s (zm_o c' s 5)) ++ (zt_dc c lh).drop pl := by
  obtain ⟨r1, r2, r3, _⟩ := zm_cnt_put hne ha hns g gt hp
  have ps := zm_ps_r c' s (zm_row c lh)
  have fe : ∀ {row : List (Int × Int)}, (∀ p ∈ row, p ∈ zm_row c lh) → row.filter (zm_sn c' (s :: lh)) = row.filter (zm_sn c lh) := fun h => zm_fl_cg (fun p hp => r2 p (h p hp))
  have key := zt_ins_fl (row := zm_row c lh) (seg := zm_rs s (zm_o c' s 5)) (f := zm_sn c' (s :: lh)) (zm_row_nd g.1) (pl := pl) (by rw [fe (fun p hp => hp)]; exact hpl) (p := (zm_ps c' s (zm_row c lh)).toNat) (by
    rw [fe (fun p hp => hp)]
    by_cases z : pl = 0
    · refine Or.inl ⟨z, ?_⟩
      have : zm_ps c' s (zm_row c lh) = 0 := if_pos (by rw [h0 z]; decide)
      rw [this]
      rfl
    · obtain ⟨x, x1, x2, x3⟩ := h1 z
      refine Or.inr ⟨z, x, x1, ?_⟩
      have hxm : x ∈ zm_row c lh := (List.mem_filter.mp (List.mem_of_getElem? x1)).1
      have n8 := hx0 x hxm
      have e8 : zm_ps c' s (zm_row c lh) = zm_at (zm_row c lh) (zm_o c' s 8, zm_o c' s 9) + 1 := if_neg (by rw [x2]; omega)
      have ex : (zm_o c' s 8, zm_o c' s 9) = x := Prod.ext x2 x3
      rw [ex] at e8
      omega) r3
  show (zm_row c' (s :: lh)).filter (zm_sn c' (s :: lh)) = _
  rw [r1, zm_ins_e, key, fe (fun p hp => hp)]
  rfl
