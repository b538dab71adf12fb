/-! ===== the reference: names, undo, redo, go ===== -/
theorem zm_packed_l {h : zv_H} (hM : zm_M h) (d : Nat) {r : Nat} {L : Nat} (hl : zv_lay r = (2, L)) (hr : Nat.ble r 372 = true) {m : Nat} (hm : m ≤ L) (hL : L ≤ 1000) : ∀ (n i : Nat) (v : Int), i + n = m → ∃ u : Int, L9_packed_4 d r m v i h = some (some (zv_i u), h)
  | 0, i, v, hi => ⟨v, by rw [qL9_packed_4, if_neg (by omega)]⟩
  | n + 1, i, v, hi => by
    have w1 : zv_w ((i : Int) + 1) = ((i + 1 : Nat) : Int) := by
      rw [zm_w (by omega)]
      rfl
    rw [qL9_packed_4, if_pos (by omega), zm_e (zm_aI hM hl hr (by omega) (by omega)), w1]
    exact zm_packed_l hM d hl hr hm hL n (i + 1) _ (by omega)
theorem zm_packed {h : zv_H} (hM : zm_M h) (d : Nat) {r : Nat} {L : Nat} (hl : zv_lay r = (2, L)) (hr : Nat.ble r 372 = true) {m : Int} (h0 : 0 ≤ m) (hm : m ≤ L) (hL : L ≤ 1000) : ∃ u : Int, C9_packed (d + 1) r m h = some (u, h) := by
  obtain ⟨n, rfl⟩ : ∃ n : Nat, m = n := ⟨m.toNat, by omega⟩
  obtain ⟨u, e⟩ := zm_packed_l hM d hl hr (m := n) (by omega) hL n 0 0 (by omega)
  refine ⟨u, lC9_packed ?_⟩
  rw [qE9_packed]
  exact e
theorem zm_nameAt_l {h : zv_H} (hM : zm_M h) (d : Nat) (v : Int) {m : Nat} (hm : m ≤ 12) (h3 : zv_I h 348 3 = m) : ∀ (n i : Nat), i + n = m → ∃ u : Int, L9_nameAt_2 d 347 v i h = some (some (zv_i u), h) ∧ -1 ≤ u ∧ u < m
  | 0, i, hi => ⟨-1, by rw [qL9_nameAt_2, zm_e (zm_f0 hM), zm_e (zm_aI hM zm_l348 rfl (by decide) (by decide)), show zv_I h 348 (Int.toNat 3) = _ from h3, if_neg (by omega)], by omega, by omega⟩
  | n + 1, i, hi => by
    have w1 : zv_w ((i : Int) + 1) = ((i + 1 : Nat) : Int) := by
      rw [zm_w (by omega)]
      rfl
    have w2 : zv_w (408 + zv_w (2 * (i : Int))) = 408 + 2 * (i : Int) := by
      rw [zm_w (x := 2 * (i : Int)) (by omega), zm_w (by omega)]
    rw [qL9_nameAt_2, zm_e (zm_f0 hM), zm_e (zm_aI hM zm_l348 rfl (by decide) (by decide)), show zv_I h 348 (Int.toNat 3) = _ from h3, if_pos (by omega), zm_e (zm_f0 hM), w2, zm_e (zm_aI hM zm_l348 rfl (by omega) (by omega)), w1]
    by_cases c1 : zv_I h 348 (408 + 2 * (i : Int)).toNat = v
    · rw [if_pos c1]
      exact ⟨i, rfl, by omega, by omega⟩
    · rw [if_neg c1]
      exact zm_nameAt_l hM d v hm h3 n (i + 1) (by omega)
theorem zm_nameAt {h : zv_H} (hM : zm_M h) (d : Nat) (v : Int) (h3 : 0 ≤ zv_I h 348 3 ∧ zv_I h 348 3 ≤ 12) : ∃ u : Int, C9_nameAt (d + 1) 347 v h = some (u, h) ∧ -1 ≤ u ∧ u < zv_I h 348 3 := by
  obtain ⟨m, em⟩ : ∃ m : Nat, zv_I h 348 3 = m := ⟨(zv_I h 348 3).toNat, by omega⟩
  obtain ⟨u, e, q⟩ := zm_nameAt_l hM d v (m := m) (by omega) em m 0 (by omega)
  refine ⟨u, lC9_nameAt (zm_ob hM) ?_, by rw [em]; exact q⟩
  rw [qE9_nameAt]
  exact e
theorem zm_namesOf_l {h : zv_H} (hM : zm_M h) (d : Nat) (s : Int) {m : Nat} (hm : m ≤ 12) (h3 : zv_I h 348 3 = m) : ∀ (n i : Nat) (a : Int), i + n = m → 0 ≤ a → a ≤ i → ∃ u : Int, L9_namesOf_4 d 347 s a i h = some (some (zv_i u), h) ∧ 0 ≤ u ∧ u ≤ 12
  | 0, i, a, hi, a0, a1 => ⟨a, by rw [qL9_namesOf_4, zm_e (zm_f0 hM), zm_e (zm_aI hM zm_l348 rfl (by decide) (by decide)), show zv_I h 348 (Int.toNat 3) = _ from h3, if_neg (by omega)], a0, by omega⟩
  | n + 1, i, a, hi, a0, a1 => by
    have w1 : zv_w ((i : Int) + 1) = ((i + 1 : Nat) : Int) := by
      rw [zm_w (by omega)]
      rfl
    have w2 : zv_w (zv_w (408 + zv_w (2 * (i : Int))) + 1) = 408 + 2 * (i : Int) + 1 := by
      rw [zm_w (x := 2 * (i : Int)) (by omega), zm_w (x := 408 + 2 * (i : Int)) (by omega), zm_w (by omega)]
    rw [qL9_namesOf_4, zm_e (zm_f0 hM), zm_e (zm_aI hM zm_l348 rfl (by decide) (by decide)), show zv_I h 348 (Int.toNat 3) = _ from h3, if_pos (by omega), zm_e (zm_f0 hM), w2, zm_e (zm_aI hM zm_l348 rfl (by omega) (by omega)), w1, zm_w (x := a + 1) (by omega), zm_w (x := a + 0) (by omega)]
    by_cases c1 : zv_I h 348 (408 + 2 * (i : Int) + 1).toNat = s
    · rw [if_pos c1]
      exact zm_namesOf_l hM d s hm h3 n (i + 1) _ (by omega) (by omega) (by omega)
    · rw [if_neg c1]
      exact zm_namesOf_l hM d s hm h3 n (i + 1) _ (by omega) (by omega) (by omega)
theorem zm_namesOf {h : zv_H} (hM : zm_M h) (d : Nat) (s : Int) (h3 : 0 ≤ zv_I h 348 3 ∧ zv_I h 348 3 ≤ 12) : ∃ u : Int, C9_namesOf (d + 1) 347 s h = some (u, h) ∧ 0 ≤ u ∧ u ≤ 12 := by
  obtain ⟨m, em⟩ : ∃ m : Nat, zv_I h 348 3 = m := ⟨(zv_I h 348 3).toNat, by omega⟩
  obtain ⟨u, e, q⟩ := zm_namesOf_l hM d s (m := m) (by omega) em m 0 0 (by omega) (by omega) (by omega)
  refine ⟨u, lC9_namesOf (zm_ob hM) ?_, q⟩
  rw [qE9_namesOf]
  exact e
/-- what keeps all, but for the head -/
theorem zm_W_alt {c c' : Nat → Int} (w : zm_W c) (r : ∀ k : Nat, 432 ≤ k → k < 4080 → c' k = c k) (h0 : zm_st c (c' 0)) (h3 : 0 ≤ c' 3 ∧ c' 3 ≤ 12) (h4 : c' 4 = c 4) (h8 : ∀ k : Nat, 8 ≤ k → k < 408 → c' k = c k) (h5 : 0 ≤ c' 5 ∧ c' 5 ≤ 40) : zm_W c' := by
  have o : ∀ t w : Int, 0 ≤ t → t ≤ 47 → 0 ≤ w → w < 76 → zm_o c' t w = zm_o c t w := fun t w t0 t1 w0 w1 => r _ (by omega) (by omega)
  refine ⟨zm_Wt_cg w.1 (fun t t0 t1 => ⟨o t 0 t0 t1 (by decide) (by decide), fun w w0 w1 _ => o t w t0 t1 (by omega) w1⟩), ⟨h0.1, by rw [o _ 0 h0.1.1 h0.1.2 (by decide) (by decide)]; exact h0.2⟩, h3, by rw [h4]; exact w.2.2.2.1, ?_, h5⟩
  have e : zm_cd c' = zm_cd c := by
    unfold zm_cd
    rw [h4]
    refine List.map_congr_left ?_
    intro k hk
    have h1 := List.mem_range.mp hk
    have h2 := w.2.2.2.1
    exact h8 _ (by omega) (by omega)
  rw [h4, e]
  exact w.2.2.2.2.1
theorem zm_nameNow {h : zv_H} {c : Nat → Int} (hM : zm_M h) (hc : zv_I h 348 = c) (w : zm_W c) (d : Nat) : zm_R (C9_nameNow (d + 3) 347 h) (fun q => zm_F [348] [3] h q.2 ∧ zm_W (zv_I q.2 348)) := by
  refine zm_cI (P := fun _ h' => zm_F [348] [3] h h' ∧ zm_W (zv_I h' 348)) (lC9_nameNow (zm_ob hM)) ?_
  have h3 : 0 ≤ c 3 ∧ c 3 ≤ 12 := w.2.2.1
  have refu : ∀ v : Int, zm_R ((C9_refuse (d + 2) 347 v h).bind fun q => (some (some (zv_i q.1), q.2) : zv_O)) (zm_I fun _ h' => zm_F [348] [3] h h' ∧ zm_W (zv_I h' 348)) := by
    intro v
    rw [zm_e (zm_refuse hM _ v)]
    have e : zv_I (zv_sI h 347 3 v) 348 = c := (zm_so h _ _).trans hc
    exact zm_iI ⟨zm_F_f (zm_F_r _ _ h) rfl _, by rw [e]; exact w⟩
  rw [qE9_nameNow, zm_e (zm_gI hM 19)]
  refine zm_gb (zm_isIn _ _ 1 6) (fun _ => refu 1) (fun hin => ?_)
  dsimp only
  obtain ⟨u, eu⟩ := zm_packed hM (d + 1) zm_l360 rfl (m := zv_I h 347 19) (by omega) (by omega) (by decide)
  rw [zm_e (zm_f17 hM), zm_e (zm_gI hM 19), zm_e eu]
  dsimp only
  obtain ⟨k, ek, k0, k1⟩ := zm_nameAt hM (d + 1) u (by rw [hc]; exact h3)
  rw [hc] at k1
  rw [zm_e ek]
  dsimp only
  -- the pair is written
  have l110 : ∀ (j : Int) (g : zv_H), zm_F [348] [3] h g → 0 ≤ j → j < 12 → (∀ n : Nat, n ≠ 3 → zv_I g 348 n = c n) → (0 ≤ zv_I g 348 3 ∧ zv_I g 348 3 ≤ 12) → zm_R (L9_nameNow_110 (d + 2) 347 u j g) (zm_I fun _ h' => zm_F [348] [3] h h' ∧ zm_W (zv_I h' 348)) := by
    intro j g f j0 j1 hg g3
    have hMg := zm_F_M f hM
    have w1 : zv_w (408 + zv_w (2 * j)) = 408 + 2 * j := by
      rw [zm_w (x := 2 * j) (by omega), zm_w (by omega)]
    have w2 : zv_w (408 + 2 * j + 1) = 408 + 2 * j + 1 := zm_w (by omega)
    rw [qL9_nameNow_110, zm_e (zm_f0 hMg), w1, w2, zm_e (zm_wI hMg zm_l348 rfl (by omega) (by omega) _)]
    have f1 : zm_F [348] [3] h (zv_sI g 348 (408 + 2 * j).toNat u) := zm_F_I f rfl _ _
    have e1 : zv_I (zv_sI g 348 (408 + 2 * j).toNat u) 348 = zm_u (zv_I g 348) (408 + 2 * j).toNat u := zm_ss _ _ _ _
    generalize zv_sI g 348 (408 + 2 * j).toNat u = g1 at f1 e1
    have hM1 := zm_F_M f1 hM
    rw [zm_e (zm_f0 hM1), zm_e (zm_here hM1 _)]
    dsimp only
    rw [zm_e (zm_wI hM1 zm_l348 rfl (by omega) (by omega) _)]
    have f2 : zm_F [348] [3] h (zv_sI g1 348 (408 + 2 * j + 1).toNat (zv_I g1 348 0)) := zm_F_I f1 rfl _ _
    have e2 : zv_I (zv_sI g1 348 (408 + 2 * j + 1).toNat (zv_I g1 348 0)) 348 = zm_u (zv_I g1 348) (408 + 2 * j + 1).toNat (zv_I g1 348 0) := zm_ss _ _ _ _
    generalize zv_sI g1 348 (408 + 2 * j + 1).toNat (zv_I g1 348 0) = g2 at f2 e2
    have hM2 := zm_F_M f2 hM
    rw [zm_e (zm_f0 hM2), zm_e (zm_aI hM2 zm_l348 rfl (by decide) (by decide))]
    have o2 : ∀ n : Nat, (n < 408 ∨ 432 ≤ n) → zv_I g2 348 n = zv_I g 348 n := by
      intro n hn
      rw [e2, zm_u_o _ _ (by omega), e1, zm_u_o _ _ (by omega)]
    refine zm_iI ⟨f2, zm_W_alt w (fun n n0 n1 => ?_) ?_ ?_ ?_ (fun n n0 n1 => ?_) ?_⟩
    · rw [o2 n (Or.inr n0), hg n (by omega)]
    · rw [o2 0 (Or.inl (by decide)), hg 0 (by decide)]
      exact w.2.1
    · rw [o2 3 (Or.inl (by decide))]
      exact g3
    · rw [o2 4 (Or.inl (by decide)), hg 4 (by decide)]
    · rw [o2 n (Or.inl n1), hg n (by omega)]
    · rw [o2 5 (Or.inl (by decide)), hg 5 (by decide)]
      exact w.2.2.2.2.2
  have l89 : (k < 0 → c 3 ≠ 12) → zm_R (L9_nameNow_89 (d + 2) 347 u k h) (zm_I fun _ h' => zm_F [348] [3] h h' ∧ zm_W (zv_I h' 348)) := by
    intro hk
    have r3 : zv_I h 348 (Int.toNat 3) = c 3 := by rw [hc]; rfl
    rw [qL9_nameNow_89]
    refine zm_if (fun hk0 => ?_) (fun hk0 => l110 k h (zm_F_r _ _ h) (by omega) (by omega) (fun n _ => by rw [hc]) (by rw [hc]; exact h3))
    have hk2 := hk hk0
    rw [zm_e (zm_f0 hM), zm_e (zm_aI hM zm_l348 rfl (by decide) (by decide)), zm_e (zm_f0 hM), zm_e (zm_aI hM zm_l348 rfl (by decide) (by decide)), r3, zm_e (zm_wI hM zm_l348 rfl (by decide) (by decide) _), zm_w (by omega)]
    have e1 : zv_I (zv_sI h 348 (Int.toNat 3) (c 3 + 1)) 348 = zm_u c 3 (c 3 + 1) := by
      rw [zm_ss, hc]
      rfl
    exact l110 (c 3) _ (zm_F_I (zm_F_r _ _ h) rfl _ _) (by omega) (by omega) (fun n hn => by rw [e1, zm_u_o _ _ hn]) (by rw [e1, zm_u_s]; omega)
  have l58 : (k < 0 → c 3 ≠ 12) → zm_R (L9_nameNow_58 (d + 2) 347 u k h) (zm_I fun _ h' => zm_F [348] [3] h h' ∧ zm_W (zv_I h' 348)) := by
    intro hk
    rw [qL9_nameNow_58]
    refine zm_if (fun _ => l89 hk) (fun hk0 => ?_)
    have w1 : zv_w (zv_w (408 + zv_w (2 * k)) + 1) = 408 + 2 * k + 1 := by
      rw [zm_w (x := 2 * k) (by omega), zm_w (x := 408 + 2 * k) (by omega), zm_w (by omega)]
    rw [zm_e (zm_f0 hM), w1, zm_e (zm_aI hM zm_l348 rfl (by omega) (by omega)), zm_e (zm_here hM _)]
    dsimp only
    exact zm_if (fun _ => refu 4) (fun _ => l89 hk)
  refine zm_if (fun hk0 => ?_) (fun hk0 => l58 (fun q => absurd q hk0))
  rw [zm_e (zm_f0 hM), zm_e (zm_aI hM zm_l348 rfl (by decide) (by decide))]
  have r3 : zv_I h 348 (Int.toNat 3) = c 3 := by rw [hc]; rfl
  rw [r3]
  exact zm_if (fun _ => refu 3) (fun q => l58 (fun _ => q))
/-- of a state that is not the start: the parent of the first of its group lives -/
theorem zm_fp {c : Nat → Int} (w : zm_Wt c) {s : Int} (hs : zm_st c s) (h0 : s ≠ 0) : zm_st c (zm_o c s 6) ∧ zm_st c (zm_o c (zm_o c s 6) 1) := by
  obtain ⟨l, hl, _⟩ := zm_W_l w hs
  have hf := hl.2.2.1 h0
  have h1 := hl.2.1.2.2 _ hf.1
  obtain ⟨l', hl', _⟩ := zm_W_l w h1
  refine ⟨h1, ?_⟩
  have hne := zm_Lw_ne hl'.2.1 hf.2
  cases hl2 : l' with
  | nil => exact absurd hl2 hne
  | cons t b =>
    have h2 := hl'.1.2
    rw [hl2] at h2
    rw [h2.1.1]
    exact hl'.2.1.2.2 t (by rw [hl2]; exact List.mem_cons_of_mem _ List.mem_cons_self)
theorem zm_undoNow {h : zv_H} {c : Nat → Int} (hM : zm_M h) (hc : zv_I h 348 = c) (w : zm_W c) (d : Nat) : zm_R (C9_undoNow (d + 3) 347 h) (fun q => zm_F [348] [3] h q.2 ∧ zm_W (zv_I q.2 348)) := by
  refine zm_cI (P := fun _ h' => zm_F [348] [3] h h' ∧ zm_W (zv_I h' 348)) (lC9_undoNow (zm_ob hM)) ?_
  rw [qE9_undoNow, zm_e (zm_here hM _), hc]
  dsimp only
  refine zm_if (fun _ => ?_) (fun h0 => ?_)
  · rw [zm_e (zm_refuse hM _ 5)]
    have e : zv_I (zv_sI h 347 3 5) 348 = c := (zm_so h _ _).trans hc
    exact zm_iI ⟨zm_F_f (zm_F_r _ _ h) rfl _, by rw [e]; exact w⟩
  · obtain ⟨p1, p2⟩ := zm_fp w.1 w.2.1 h0
    rw [zm_e (zm_here hM _), hc]
    dsimp only
    rw [zm_e (zm_of hM _ (zm_st48 w.2.1) (by decide)), hc]
    dsimp only
    rw [zm_e (zm_of hM _ (zm_st48 p1) (by decide)), hc]
    dsimp only
    obtain ⟨h1, e1, f1, c1⟩ := zm_visits hM hc d p2.1
    rw [zm_e e1, zm_e (zm_here (zm_F_M f1 hM) _)]
    exact zm_iI ⟨zm_F_s f1 rfl rfl, by rw [c1]; exact zm_W_vc w p2⟩
theorem zm_redo35 {h : zv_H} {c : Nat → Int} (hM : zm_M h) (hc : zv_I h 348 = c) (w : zm_W c) (d : Nat) (f : Int) : ∀ (n : Nat) (s x : Int) (l : List Int), zm_W1 c s l → 48 ≤ n + l.length → zm_st c s → (x = -1 ∨ (zm_st c x ∧ zm_o c x 1 = s)) → zm_R (L9_redoNow_35 (d + 4) 347 s f x h) (zm_I fun _ h' => zm_F [348] [3] h h' ∧ zm_W (zv_I h' 348)) := by
  have l62 : ∀ s : Int, zm_st c s → zm_R (L9_redoNow_62 (d + 4) 347 s h) (zm_I fun _ h' => zm_F [348] [3] h h' ∧ zm_W (zv_I h' 348)) := by
    intro s hs
    obtain ⟨h1, e1, f1, c1⟩ := zm_visits hM hc (d + 2) hs.1
    rw [qL9_redoNow_62, zm_e e1]
    exact zm_iI ⟨zm_F_s f1 rfl rfl, by rw [c1]; exact zm_W_vc w hs⟩
  intro n
  induction n with
  | zero =>
    intro s x l hl hn
    have hlen : (s :: l).length ≤ 48 := zm_nd_le (n := 48) hl.2.1.1 (fun t ht => by have := (hl.2.1.2.2 t ht).1; omega)
    rw [List.length_cons] at hlen
    omega
  | succ n ih =>
    intro s x l hl hn hs hx
    rw [qL9_redoNow_35]
    refine zm_if (fun _ => l62 s hs) (fun hx0 => ?_)
    rcases hx with q | ⟨q1, q2⟩
    · rw [q] at hx0
      exact absurd (by decide) hx0
    · rw [zm_e (zm_of hM _ (zm_st48 q1) (by decide))]
      dsimp only
      refine zm_if (fun _ => ?_) (fun _ => l62 s hs)
      obtain ⟨r, er, qr⟩ := zm_childOf hM (by rw [hc]; exact zm_WL_of w.1) d x 0
      rw [hc] at qr
      rw [zm_e er]
      dsimp only
      obtain ⟨lx, hlx, _⟩ := zm_W_l w.1 q1
      have e : lx = s :: l := by
        have h2 := hlx.1.2
        rw [q2] at h2
        exact zm_Ln_u h2 hl.1
      exact ih x r lx hlx (by rw [e, List.length_cons]; omega) q1 qr
theorem zm_redoNow {h : zv_H} {c : Nat → Int} (hM : zm_M h) (hc : zv_I h 348 = c) (w : zm_W c) (d : Nat) : zm_R (C9_redoNow (d + 5) 347 h) (fun q => zm_F [348] [3] h q.2 ∧ zm_W (zv_I q.2 348)) := by
  refine zm_cI (P := fun _ h' => zm_F [348] [3] h h' ∧ zm_W (zv_I h' 348)) (lC9_redoNow (zm_ob hM)) ?_
  obtain ⟨r, er, qr⟩ := zm_childOf hM (by rw [hc]; exact zm_WL_of w.1) d (c 0) 0
  rw [hc] at qr
  rw [qE9_redoNow, zm_e (zm_here hM _), hc]
  dsimp only
  rw [zm_e er]
  dsimp only
  refine zm_if (fun _ => ?_) (fun hx0 => ?_)
  · rw [zm_e (zm_refuse hM _ 5)]
    have e : zv_I (zv_sI h 347 3 5) 348 = c := (zm_so h _ _).trans hc
    exact zm_iI ⟨zm_F_f (zm_F_r _ _ h) rfl _, by rw [e]; exact w⟩
  · rcases qr with q | ⟨q1, q2⟩
    · rw [q] at hx0
      exact absurd (by decide) hx0
    · obtain ⟨r2, er2, qr2⟩ := zm_childOf hM (by rw [hc]; exact zm_WL_of w.1) d r 0
      rw [hc] at qr2
      rw [zm_e (zm_of hM _ (zm_st48 q1) (by decide))]
      dsimp only
      rw [zm_e er2]
      dsimp only
      obtain ⟨lr, hlr, _⟩ := zm_W_l w.1 q1
      exact zm_redo35 hM hc w d _ 48 r r2 lr hlr (by omega) q1 qr2
theorem zm_goNow {h : zv_H} {c : Nat → Int} (hM : zm_M h) (hc : zv_I h 348 = c) (w : zm_W c) (d : Nat) (s : Int) : zm_R (C9_goNow (d + 5) 347 s h) (fun q => zm_F [348] [3] h q.2 ∧ zm_W (zv_I q.2 348)) := by
  refine zm_cI (P := fun _ h' => zm_F [348] [3] h h' ∧ zm_W (zv_I h' 348)) (lC9_goNow (zm_ob hM)) ?_
  have refu : ∀ v : Int, zm_R ((C9_refuse (d + 4) 347 v h).bind fun q => (some (some (zv_i q.1), q.2) : zv_O)) (zm_I fun _ h' => zm_F [348] [3] h h' ∧ zm_W (zv_I h' 348)) := by
    intro v
    rw [zm_e (zm_refuse hM _ v)]
    have e : zv_I (zv_sI h 347 3 v) 348 = c := (zm_so h _ _).trans hc
    exact zm_iI ⟨zm_F_f (zm_F_r _ _ h) rfl _, by rw [e]; exact w⟩
  rw [qE9_goNow]
  refine zm_gb (zm_isState hM _ s) (fun _ => refu 2) (fun hs => ?_)
  dsimp only
  rw [zm_e (zm_here hM _)]
  dsimp only
  refine zm_if (fun _ => refu 4) (fun _ => ?_)
  rw [zm_e (zm_here hM _)]
  dsimp only
  obtain ⟨r, er, _⟩ := zm_wayMany hM (by rw [hc]; exact w.1) d (s := zv_I h 348 0) (by rw [hc]; exact w.2.1) hs
  rw [zm_e er]
  dsimp only
  rw [hc] at hs
  obtain ⟨h1, e1, f1, c1⟩ := zm_visits hM hc (d + 2) hs.1
  rw [zm_e e1]
  exact zm_iI ⟨zm_F_s f1 rfl rfl, by rw [c1]; exact zm_W_vc w hs⟩
