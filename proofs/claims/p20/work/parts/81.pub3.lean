theorem zm_common_l {h : zv_H} (hM : zm_M h) (d : Nat) {t : Int} {lt : List Int} (hlt : zm_Ln (zv_I h 348) lt t) (x : Int) : ∀ {l : List Int} {s : Int}, zm_Ln (zv_I h 348) l s → l.find? (fun u => lt.contains u) = some x → L9_commonOf_2 (d + 2) 347 t s h = some (some (zv_i x), h)
  | [], _, _, hz => by cases hz
  | u :: l, s, hl, hz => by
    obtain ⟨⟨e, hu⟩, hl'⟩ := hl
    subst e
    rw [qL9_commonOf_2, zm_e (zm_isOfLine hM d s hlt)]
    dsimp only
    by_cases c1 : s ∈ lt
    · rw [List.find?_cons_of_pos (List.contains_iff_mem.mpr c1)] at hz
      rw [if_pos c1, if_neg (by decide), Option.some.inj hz]
    · rw [List.find?_cons_of_neg (fun q => c1 (List.contains_iff_mem.mp q))] at hz
      rw [if_neg c1, if_pos rfl, zm_e (zm_of hM _ hu (by decide))]
      exact zm_common_l hM d hlt x hl' hz
/-- the nearest of both lines, how deep it is, how long the way is -/
theorem zm_way3 {h : zv_H} (i : zm_MI h) {s t : Int} (hs : zm_st (zv_I h 348) s) (ht : zm_st (zv_I h 348) t) : ∃ (x n : Int) (ls lt : List Int), (∀ d, C9_commonOf (d + 3) 347 s t h = some (x, h)) ∧ (∀ d, C9_depthOf (d + 2) 347 x h = some (n, h)) ∧ (∀ d, C9_depthOf (d + 2) 347 s h = some ((ls.length : Int), h)) ∧ (∀ d, C9_wayMany (d + 4) 347 s t h = some ((ls.length : Int) + lt.length - 2 * n, h)) ∧ zm_Ln (zv_I h 348) (s :: ls) s ∧ zm_Ln (zv_I h 348) (t :: lt) t ∧ 0 ≤ n ∧ n ≤ ls.length ∧ n ≤ lt.length ∧ ls.length ≤ 47 ∧ lt.length ≤ 47 := by
  obtain ⟨ls, a1, a2, _⟩ := zm_W_l i.2.1.1 hs
  obtain ⟨lt, b1, b2, _⟩ := zm_W_l i.2.1.1 ht
  have hM := i.1
  have h0 : ∃ x, (s :: ls).find? (fun u => (t :: lt).contains u) = some x := by
    cases e : (s :: ls).find? (fun u => (t :: lt).contains u) with
    | some x => exact ⟨x, rfl⟩
    | none =>
      have h1 := List.find?_eq_none.mp e 0 (zm_Lw_0 a1.2.1)
      exact absurd (List.contains_iff_mem.mpr (zm_Lw_0 b1.2.1)) h1
  obtain ⟨x, hx⟩ := h0
  have x1 : x ∈ s :: ls := List.mem_of_find?_eq_some hx
  have x2 : x ∈ t :: lt := List.contains_iff_mem.mp (List.find?_some hx)
  obtain ⟨p, q, e1, e2⟩ := zm_Ln_s a1.1 x x1
  obtain ⟨p', q', e1', e2'⟩ := zm_Ln_s b1.1 x x2
  have eq : q = q' := (List.cons.inj (zm_Ln_u e2 e2')).2
  have len1 := congrArg List.length e1
  have len2 := congrArg List.length e1'
  rw [List.length_append, List.length_cons, List.length_cons] at len1 len2
  have cm : ∀ d, C9_commonOf (d + 3) 347 s t h = some (x, h) := fun d => lC9_commonOf (zm_ob hM) (by rw [qE9_commonOf]; exact zm_common_l hM d b1.1 x a1.1 hx)
  have dx : ∀ d, C9_depthOf (d + 2) 347 x h = some ((q.length : Int), h) := fun d => zm_depthOf hM d e2 (by clear hs ht; omega)
  have ds : ∀ d, C9_depthOf (d + 2) 347 s h = some ((ls.length : Int), h) := fun d => zm_depthOf hM d a1.1 (by clear hs ht; omega)
  have dt : ∀ d, C9_depthOf (d + 2) 347 t h = some ((lt.length : Int), h) := fun d => zm_depthOf hM d b1.1 (by clear hs ht; omega)
  rw [← eq] at len2
  refine ⟨x, q.length, ls, lt, cm, dx, ds, fun d => lC9_wayMany (zm_ob hM) ?_, a1.1, b1.1, by clear hs ht; omega, by clear hs ht; omega, by clear hs ht; omega, a2, b2⟩
  rw [qE9_wayMany, zm_e (ds (d + 1))]
  dsimp only
  rw [zm_e (dt (d + 1))]
  dsimp only
  rw [zm_e (cm d)]
  dsimp only
  rw [zm_e (dx (d + 1))]
  dsimp only
  rw [zm_w (x := (ls.length : Int) + lt.length) (by clear hs ht; omega), zm_w (x := 2 * (q.length : Int)) (by clear hs ht; omega), zm_w (by clear hs ht; omega)]
theorem zm_common {h : zv_H} (i : zm_MI h) (d : Nat) (s t : Int) : zm_R (C9_common (d + 10) 347 s t h) (fun q => zm_X h q.2) := by
  refine zm_cI (P := fun _ h' => zm_X h h') (lC9_common (zm_ob i.1)) ?_
  have l22 : ∀ v : Int, (v = 0 → zm_st (zv_I h 348) s ∧ zm_st (zv_I h 348) t) → zm_R (L9_common_22 (d + 9) 347 s t 347 v h) (zm_I fun _ h' => zm_X h h') := by
    intro v hv
    rw [qL9_common_22]
    refine zm_isq i (fun hw h1 f1 i1 => zm_X_i (zm_X_a i f1 rfl rfl rfl) ?_)
    obtain ⟨a1, a2⟩ := hv hw
    rw [← zm_F_a f1 348] at a1 a2
    obtain ⟨x, n, ls, lt, cm, _⟩ := zm_way3 i1 a1 a2
    exact zm_rX i1 ⟨x, cm (d + 6)⟩
  have l21 : zm_R (L9_common_21 (d + 9) 347 s t 347 h) (zm_I fun _ h' => zm_X h h') := by
    rw [qL9_common_21]
    exact l22 2 (fun q => by cases q)
  rw [qE9_common]
  refine zm_gb (zm_isState i.1 _ s) (fun _ => l21) (fun hs => ?_)
  exact zm_gb (zm_isState i.1 _ t) (fun _ => l21) (fun ht => l22 0 (fun _ => ⟨hs, ht⟩))
theorem zm_way105 {h : zv_H} (hM : zm_M h) (d : Nat) : ∀ (n : Nat) {l : List Int} {s : Int}, zm_Ln (zv_I h 348) l s → n < l.length → n ≤ 100 → ∃ r : Int, L9_way_105 (d + 1) 347 s n h = some (some (zv_i r), h)
  | 0, l, s, _, _, _ => ⟨s, by rw [qL9_way_105, if_pos (by omega)]⟩
  | n + 1, l, s, hl, hn, h1 => by
    cases l with
    | nil => exact absurd hn (Nat.not_lt_zero _)
    | cons t b =>
      obtain ⟨⟨e, ht⟩, hl'⟩ := hl
      subst e
      rw [List.length_cons] at hn
      have w1 : zv_w (((n + 1 : Nat) : Int) + -1) = (n : Int) := by
        rw [zm_w (by omega)]
        omega
      rw [qL9_way_105, if_neg (by omega), zm_e (zm_of hM d ht (by decide)), w1]
      exact zm_way105 hM d n hl' (by omega) (by omega)
theorem zm_way {h : zv_H} (i : zm_MI h) (d : Nat) (s t p : Int) : zm_R (C9_way (d + 10) 347 s t p h) (fun q => zm_X h q.2) := by
  refine zm_cI (P := fun _ h' => zm_X h h') (lC9_way (zm_ob i.1)) ?_
  have l30 : ∀ v : Int, (v = 0 → 0 ≤ p ∧ zm_st (zv_I h 348) s ∧ zm_st (zv_I h 348) t) → zm_R (L9_way_30 (d + 9) 347 s t p 347 v h) (zm_I fun _ h' => zm_X h h') := by
    intro v hv
    rw [qL9_way_30]
    refine zm_isq i (fun hw h1 f1 i1 => zm_X_i (zm_X_a i f1 rfl rfl rfl) ?_)
    obtain ⟨hp, a1, a2⟩ := hv hw
    rw [← zm_F_a f1 348] at a1 a2
    obtain ⟨x, n, ls, lt, cm, dx, ds, wm, L1, L2, n0, n1, n2, m1, m2⟩ := zm_way3 i1 a1 a2
    clear a1 a2
    dsimp only
    rw [zm_e (ds (d + 7))]
    dsimp only
    rw [zm_e (cm (d + 6))]
    dsimp only
    rw [zm_e (dx (d + 7))]
    dsimp only
    rw [zm_e (wm (d + 5))]
    dsimp only
    rw [zm_w (x := (ls.length : Int) - n) (by omega)]
    refine zm_if (fun hle => ?_) (fun _ => zm_rfX i1 _ 5)
    have fin : ∀ {o : zv_O}, (∃ r : Int, o = some (some (zv_i r), h1)) → zm_R o (zm_I fun _ h' => zm_X h1 h') := by
      intro o ho
      obtain ⟨r, er⟩ := ho
      rw [er]
      exact zm_rX0 i1
    have l87 : ∀ u : Int, (p ≤ (ls.length : Int) - n → u = s) → (¬ p ≤ (ls.length : Int) - n → u = t) → zm_R (L9_way_87 (d + 9) 347 p ((ls.length : Int) - n) ((ls.length : Int) + lt.length - 2 * n) u h1) (zm_I fun _ h' => zm_X h1 h') := by
      intro u h1' h2'
      rw [qL9_way_87]
      refine zm_if (fun c => ?_) (fun c => ?_)
      · rw [h1' c]
        obtain ⟨m, em⟩ : ∃ m : Nat, p = m := ⟨p.toNat, by omega⟩
        subst em
        exact fin (zm_way105 i1.1 (d + 8) m L1 (by rw [List.length_cons]; omega) (by omega))
      · rw [h2' c, zm_w (x := (ls.length : Int) + lt.length - 2 * n - p) (by omega)]
        obtain ⟨m, em⟩ : ∃ m : Nat, (ls.length : Int) + lt.length - 2 * n - p = m := ⟨((ls.length : Int) + lt.length - 2 * n - p).toNat, by omega⟩
        rw [em]
        exact fin (zm_way105 i1.1 (d + 8) m L2 (by rw [List.length_cons]; omega) (by omega))
    exact zm_if (fun c => l87 s (fun _ => rfl) (fun q => absurd c q)) (fun c => l87 t (fun q => absurd q c) (fun _ => rfl))
  have l25 : zm_R (L9_way_25 (d + 9) 347 s t p 347 h) (zm_I fun _ h' => zm_X h h') := by
    rw [qL9_way_25]
    exact l30 2 (fun q => by cases q)
  rw [qE9_way]
  refine zm_if (fun _ => l30 1 (fun q => by cases q)) (fun hp => ?_)
  refine zm_gb (zm_isState i.1 _ s) (fun _ => l25) (fun hs => ?_)
  exact zm_gb (zm_isState i.1 _ t) (fun _ => l25) (fun ht => l30 0 (fun _ => ⟨by clear hs ht; omega, hs, ht⟩))
theorem zm_keysOf_l (d : Nat) {len : Nat} (hn : len ≤ 640) : ∀ (m k : Nat) (a : Int) (h : zv_H), k + m = len → 0 ≤ a → a ≤ k → zm_M h → zv_I h 347 11 = len → ∃ (r : Int) (h' : zv_H), L9_keysOf_9 d 347 a k h = some (some (zv_i r), h') ∧ zm_F [370] [] h h' ∧ 0 ≤ r ∧ r ≤ 640
  | 0, k, a, h, hk, a0, a1, hM, h11 => ⟨a, h, by rw [qL9_keysOf_9, zm_e (zm_gI hM 11), h11, if_neg (by omega)], zm_F_r _ _ h, a0, by omega⟩
  | m + 1, k, a, h, hk, a0, a1, hM, h11 => by
    have w1 : zv_w ((k : Int) + 1) = ((k + 1 : Nat) : Int) := by
      rw [zm_w (by omega)]
      rfl
    rw [qL9_keysOf_9, zm_e (zm_gI hM 11), h11, if_pos (by omega), zm_e (zm_f9 hM), zm_e (zm_aB hM zm_l355 (Or.inl rfl) rfl (by omega) (by omega)), w1]
    by_cases c1 : zv_I h 355 ((k : Int)).toNat = 0
    · rw [if_pos c1]
      exact zm_keysOf_l d hn m (k + 1) a h (by omega) a0 (by omega) hM h11
    · rw [if_neg c1, zm_e (zm_f44 hM), zm_e (zm_f6 hM), zm_e (zm_aI hM zm_l352 rfl (by omega) (by omega)), zm_e (zm_f7 hM), zm_e (zm_aI hM zm_l353 rfl (by omega) (by omega)), zm_e (zm_wI hM zm_l370 rfl (by omega) (by omega) _), zm_w (x := a + 1) (by omega)]
      generalize zv_w (zv_w (64 * zv_I h 352 ((k : Int)).toNat) + zv_I h 353 ((k : Int)).toNat) = v0
      obtain ⟨r, h', i1, i2, i3⟩ := zm_keysOf_l d hn m (k + 1) (a + 1) (zv_sI h 370 a.toNat v0) (by omega) (by omega) (by omega) hM h11
      exact ⟨r, h', i1, zm_F_t (zm_F_I (zm_F_r _ _ h) rfl _ _) i2, i3⟩
theorem zm_keptOf_l {h : zv_H} (d : Nat) {len : Nat} (hn : len ≤ 640) (hM : zm_M h) (h11 : zv_I h 347 11 = len) {n : Nat} (hn2 : n ≤ 640) : ∀ (m k : Nat) (a : Int), k + m = len → ∃ r : Int, L9_keptOf_17 d 347 n a k h = some (some (zv_i r), h)
  | 0, k, a, hk => ⟨a, by rw [qL9_keptOf_17, zm_e (zm_gI hM 11), h11, if_neg (by omega)]⟩
  | m + 1, k, a, hk => by
    have w1 : zv_w ((k : Int) + 1) = ((k + 1 : Nat) : Int) := by
      rw [zm_w (by omega)]
      rfl
    have nx := fun b => zm_keptOf_l d hn hM h11 hn2 m (k + 1) b (by omega)
    have l42 : ∀ (q j : Nat) (b : Int), j + q = n → ∃ r : Int, L9_keptOf_42 d 347 n b k j h = some (some (zv_i r), h) := by
      intro q
      induction q with
      | zero =>
        intro j b hj
        rw [qL9_keptOf_42, if_neg (by omega), w1]
        exact nx b
      | succ q ih =>
        intro j b hj
        have w2 : zv_w ((j : Int) + 1) = ((j + 1 : Nat) : Int) := by
          rw [zm_w (by omega)]
          rfl
        rw [qL9_keptOf_42, if_pos (by omega), zm_e (zm_f44 hM), zm_e (zm_aI hM zm_l370 rfl (by omega) (by omega)), zm_e (zm_f6 hM), zm_e (zm_aI hM zm_l352 rfl (by omega) (by omega)), zm_e (zm_f7 hM), zm_e (zm_aI hM zm_l353 rfl (by omega) (by omega)), w2]
        by_cases c1 : zv_I h 370 ((j : Int)).toNat = zv_w (zv_w (64 * zv_I h 352 ((k : Int)).toNat) + zv_I h 353 ((k : Int)).toNat)
        · rw [if_pos c1]
          exact ih (j + 1) _ (by omega)
        · rw [if_neg c1]
          exact ih (j + 1) _ (by omega)
    rw [qL9_keptOf_17, zm_e (zm_gI hM 11), h11, if_pos (by omega), zm_e (zm_f9 hM), zm_e (zm_aB hM zm_l355 (Or.inl rfl) rfl (by omega) (by omega)), w1]
    by_cases c1 : zv_I h 355 ((k : Int)).toNat = 0
    · rw [if_pos c1]
      exact nx a
    · rw [if_neg c1]
      exact l42 n 0 a (Nat.zero_add _)
theorem zm_keptOf {h : zv_H} (i : zm_MI h) (d : Nat) {s t : Int} (hs : zm_st (zv_I h 348) s) (ht : zm_st (zv_I h 348) t) : ∃ (r : Int) (h' : zv_H), C9_keptOf (d + 6) 347 s t h = some (r, h') ∧ zm_X h h' ∧ zv_I h' 348 = zv_I h 348 := by
  obtain ⟨h1, l, e1, f1, i1, x1, n1, s1, m1, g1, b1, c1⟩ := zm_see i d hs
  have l640 := zm_row640 g1 m1
  obtain ⟨r, h2, e2, f2, r0, r1⟩ := zm_keysOf_l (d + 4) l640 (zm_row (zv_I h1 348) l).length 0 0 h1 (Nat.zero_add _) (by decide) (by decide) i1.1 n1.2.1.1
  have x2 := zm_X_a i1 f2 rfl rfl rfl
  have ek : C9_keysOf (d + 5) 347 s h = some (r, h2) := lC9_keysOf (zm_ob i.1) (by rw [qE9_keysOf, zm_e e1]; exact e2)
  have c2 : zv_I h2 348 = zv_I h 348 := (zm_F_a f2 348).trans c1
  obtain ⟨h3, l3, e3, f3, i3, x3, n3, s3, m3, g3, b3, c3⟩ := zm_see x2.2 (d + 1) (s := t) (by rw [c2]; exact ht)
  obtain ⟨n, en⟩ : ∃ n : Nat, r = n := ⟨r.toNat, by clear hs ht; omega⟩
  subst en
  obtain ⟨v, ev⟩ := zm_keptOf_l (d + 5) (zm_row640 g3 m3) i3.1 n3.2.1.1 (n := n) (by clear hs ht; omega) (zm_row (zv_I h3 348) l3).length 0 0 (Nat.zero_add _)
  refine ⟨v, h3, lC9_keptOf (zm_ob i.1) ?_, zm_X_t x1 (zm_X_t x2 x3), c3.trans c2⟩
  rw [qE9_keptOf, zm_e ek]
  dsimp only
  rw [zm_e e3]
  exact ev
/-- a document goes into cells -/
theorem zm_cp {h : zv_H} (i : zm_MI h) (d : Nat) {s : Int} (hs : zm_st (zv_I h 348) s) {r : Nat} (hr : r = 356 ∨ r = 357) : ∃ (n : Nat) (h' : zv_H), C9_copies (d + 5) 347 s r h = some ((n : Int), h') ∧ zm_X h h' ∧ n ≤ 120 ∧ zv_I h' 348 = zv_I h 348 := by
  obtain ⟨l, a1, a2, a3, a4⟩ := zm_W_l i.2.1.1 hs
  obtain ⟨⟨n, h1⟩, e1, en, f1, n1, _⟩ := zm_copies i.1 rfl d (fun t ht => zm_st48 (a1.2.1.2.2 t ht)) a3 (by rw [List.length_cons]; clear hs; omega) (zm_sees_st i.1 rfl d a1 a2 a3 a4) hr
  dsimp only at en f1
  have b := a1.2.2.2.2.2.2
  refine ⟨((zm_row (zv_I h 348) (s :: l)).filter (zm_sn (zv_I h 348) (s :: l))).length, h1, by rw [e1, en], ?_, b, ?_⟩
  · rcases hr with q | q
    · subst q
      exact zm_X_a i f1 rfl rfl rfl
    · subst q
      exact zm_X_a i f1 rfl rfl rfl
  · rcases hr with q | q
    · subst q
      exact zm_F_a f1 348
    · subst q
      exact zm_F_a f1 348
theorem zm_differ_l {h : zv_H} (hM : zm_M h) (d : Nat) {a b : Nat} (ha : a ≤ 120) (hb : b ≤ 120) : ∀ m k : Nat, k + m = a → ∃ r : Int, L9_differ_24 d 347 a b k h = some (some (zv_i r), h)
  | m, k, hk => by
    have l60 : ∃ r : Int, L9_differ_60 d a b k h = some (some (zv_i r), h) := by
      rw [qL9_differ_60]
      by_cases c1 : (k : Int) = a
      · rw [if_pos c1]
        by_cases c2 : (k : Int) = b
        · rw [if_pos c2]
          exact ⟨_, rfl⟩
        · rw [if_neg c2]
          exact ⟨_, rfl⟩
      · rw [if_neg c1]
        exact ⟨_, rfl⟩
    rw [qL9_differ_24]
    by_cases c1 : (k : Int) < a
    · rw [if_pos c1]
      by_cases c2 : (k : Int) < b
      · rw [if_pos c2, zm_e (zm_f13 hM), zm_e (zm_aI hM zm_l356 rfl (by omega) (by omega)), zm_e (zm_f14 hM), zm_e (zm_aI hM zm_l357 rfl (by omega) (by omega))]
        by_cases c3 : zv_I h 356 ((k : Int)).toNat = zv_I h 357 ((k : Int)).toNat
        · rw [if_pos c3, zm_w (by omega)]
          cases m with
          | zero => exact absurd c1 (by omega)
          | succ m => exact zm_differ_l hM d ha hb m (k + 1) (by omega)
        · rw [if_neg c3]
          exact l60
      · rw [if_neg c2]
        exact l60
    · rw [if_neg c1]
      exact l60
theorem zm_differ {h : zv_H} (i : zm_MI h) (d : Nat) {s t : Int} (hs : zm_st (zv_I h 348) s) (ht : zm_st (zv_I h 348) t) : ∃ (r : Int) (h' : zv_H), C9_differ (d + 6) 347 s t h = some (r, h') ∧ zm_X h h' ∧ zv_I h' 348 = zv_I h 348 := by
  obtain ⟨a, h1, e1, x1, a1, c1⟩ := zm_cp i d hs (Or.inl rfl)
  obtain ⟨b, h2, e2, x2, b1, c2⟩ := zm_cp x1.2 d (s := t) (by rw [c1]; exact ht) (Or.inr rfl)
  obtain ⟨r, er⟩ := zm_differ_l x2.2.1 (d + 5) a1 b1 a 0 (Nat.zero_add _)
  refine ⟨r, h2, lC9_differ (zm_ob i.1) ?_, zm_X_t x1 x2, c2.trans c1⟩
  rw [qE9_differ, zm_e (zm_f13 i.1), zm_e e1]
  dsimp only
  rw [zm_e (zm_f14 x1.2.1), zm_e e2]
  exact er
theorem zm_lettersX {h : zv_H} (i : zm_MI h) (d : Nat) {s : Int} (hs : zm_st (zv_I h 348) s) : ∃ (r : Int) (h' : zv_H), C9_lettersOf (d + 5) 347 s h = some (r, h') ∧ zm_X h h' := by
  obtain ⟨l, a1, a2, a3, a4⟩ := zm_W_l i.2.1.1 hs
  obtain ⟨⟨n, h2⟩, e2, en, f2, n2⟩ := zm_lettersOf i.1 d (zm_sees_st i.1 rfl d a1 a2 a3 a4)
  exact ⟨n, h2, e2, zm_X_a i f2 rfl rfl rfl⟩
theorem zm_between {h : zv_H} (i : zm_MI h) (d : Nat) (s t w : Int) : zm_R (C9_between (d + 10) 347 s t w h) (fun q => zm_X h q.2) := by
  refine zm_cI (P := fun _ h' => zm_X h h') (lC9_between (zm_ob i.1)) ?_
  have l35 : ∀ v : Int, (v = 0 → zm_st (zv_I h 348) s ∧ zm_st (zv_I h 348) t) → zm_R (L9_between_35 (d + 9) 347 s t w 347 v h) (zm_I fun _ h' => zm_X h h') := by
    intro v hv
    rw [qL9_between_35]
    refine zm_isq i (fun hw h1 f1 i1 => zm_X_i (zm_X_a i f1 rfl rfl rfl) ?_)
    obtain ⟨a1, a2⟩ := hv hw
    rw [← zm_F_a f1 348] at a1 a2
    dsimp only
    refine zm_if (fun _ => ?_) (fun _ => ?_)
    · obtain ⟨r, h2, e2, x2, _⟩ := zm_differ i1 (d + 3) a1 a2
      rw [zm_e e2]
      exact zm_iI x2
    · obtain ⟨r, h2, e2, x2, c2⟩ := zm_keptOf i1 (d + 3) a1 a2
      rw [zm_e e2]
      refine zm_X_i x2 ?_
      refine zm_if (fun _ => zm_rX0 x2.2) (fun _ => zm_if (fun _ => ?_) (fun _ => ?_))
      · obtain ⟨r3, h3, e3, x3⟩ := zm_lettersX x2.2 (d + 4) (s := s) (by rw [c2]; exact a1)
        rw [zm_e e3]
        exact zm_iI x3
      · obtain ⟨r3, h3, e3, x3⟩ := zm_lettersX x2.2 (d + 4) (s := t) (by rw [c2]; exact a2)
        rw [zm_e e3]
        exact zm_iI x3
  have l30 : zm_R (L9_between_30 (d + 9) 347 s t w 347 h) (zm_I fun _ h' => zm_X h h') := by
    rw [qL9_between_30]
    exact l35 2 (fun q => by cases q)
  rw [qE9_between]
  refine zm_gb (zm_isIn _ w 0 3) (fun _ => l35 1 (fun q => by cases q)) (fun _ => ?_)
  refine zm_gb (zm_isState i.1 _ s) (fun _ => l30) (fun hs => ?_)
  exact zm_gb (zm_isState i.1 _ t) (fun _ => l30) (fun ht => l35 0 (fun _ => ⟨hs, ht⟩))
theorem zm_least67 (d : Nat) {a b : Nat} (ha : a ≤ 120) (hb : b ≤ 120) {r : Nat} (hr : r ≤ a) : ∀ (m k : Nat) (h : zv_H), k + m = b + 1 → zm_M h → ∃ h', L9_least_67 d 347 a b 121 r k h = L9_least_58 d 347 a b 121 ((r + 1 : Nat) : Int) h' ∧ zm_F [371] [] h h'
  | 0, k, h, hk, hM => ⟨h, by rw [qL9_least_67, if_neg (by omega), zm_w (by omega)]; rfl, zm_F_r _ _ h⟩
  | m + 1, k, h, hk, hM => by
    have w1 : zv_w ((k : Int) + 1) = ((k + 1 : Nat) : Int) := by
      rw [zm_w (by omega)]
      rfl
    have w2 : zv_w (zv_w (121 * (r : Int)) + k) = 121 * (r : Int) + k := by
      rw [zm_w (x := 121 * (r : Int)) (by omega), zm_w (by omega)]
    have wr : ∀ v : Int, ∃ h', ((zv_wI h 371 (121 * (r : Int) + k) v).bind fun g => L9_least_67 d 347 a b 121 r ((k + 1 : Nat) : Int) g) = L9_least_58 d 347 a b 121 ((r + 1 : Nat) : Int) h' ∧ zm_F [371] [] h h' := by
      intro v
      rw [zm_e (zm_wI hM zm_l371 rfl (by omega) (by omega) v)]
      obtain ⟨h', i1, i2⟩ := zm_least67 d ha hb hr m (k + 1) (zv_sI h 371 (121 * (r : Int) + k).toNat v) (by omega) hM
      exact ⟨h', i1, zm_F_t (zm_F_I (zm_F_r _ _ h) rfl _ _) i2⟩
    rw [qL9_least_67, if_pos (by omega), w1, w2]
    by_cases c1 : (r : Int) ≤ 0
    · rw [if_pos c1, zm_e (zm_f45 hM)]
      exact wr 0
    · rw [if_neg c1]
      by_cases c2 : (k : Int) ≤ 0
      · rw [if_pos c2, zm_e (zm_f45 hM)]
        exact wr 0
      · rw [if_neg c2, zm_w (x := (r : Int) - 1) (by omega), zm_w (x := 121 * ((r : Int) - 1)) (by omega), zm_w (x := 121 * ((r : Int) - 1) + k) (by omega), zm_w (x := 121 * (r : Int) + k - 1) (by omega), zm_w (x := (k : Int) - 1) (by omega), zm_w (x := 121 * ((r : Int) - 1) + k - 1) (by omega)]
        rw [zm_e (zm_f45 hM), zm_e (zm_aI hM zm_l371 rfl (by omega) (by omega)), zm_e (zm_f45 hM), zm_e (zm_aI hM zm_l371 rfl (by omega) (by omega)), zm_e (zm_f13 hM), zm_e (zm_aI hM zm_l356 rfl (by omega) (by omega)), zm_e (zm_f14 hM), zm_e (zm_aI hM zm_l357 rfl (by omega) (by omega))]
        by_cases c3 : zv_I h 356 ((r : Int) - 1).toNat = zv_I h 357 ((k : Int) - 1).toNat
        · rw [if_pos c3, zm_e (zm_f45 hM), zm_e (zm_aI hM zm_l371 rfl (by omega) (by omega)), zm_e (zm_f45 hM)]
          exact wr _
        · rw [if_neg c3]
          by_cases c4 : zv_I h 371 (121 * ((r : Int) - 1) + k).toNat ≤ zv_I h 371 (121 * (r : Int) + k - 1).toNat
          · rw [if_pos c4, zm_e (zm_f45 hM)]
            exact wr _
          · rw [if_neg c4, zm_e (zm_f45 hM)]
            exact wr _
theorem zm_least58 (d : Nat) {a b : Nat} (ha : a ≤ 120) (hb : b ≤ 120) : ∀ (m r : Nat) (h : zv_H), r + m = a + 1 → zm_M h → ∃ (v : Int) (h' : zv_H), L9_least_58 d 347 a b 121 r h = some (some (zv_i v), h') ∧ zm_F [371] [] h h'
  | 0, r, h, hr, hM => by
    rw [qL9_least_58, if_neg (by omega), zm_e (zm_f45 hM), zm_w (x := 121 * (a : Int)) (by omega), zm_w (x := 121 * (a : Int) + b) (by omega), zm_e (zm_aI hM zm_l371 rfl (by omega) (by omega))]
    exact ⟨_, h, rfl, zm_F_r _ _ h⟩
  | m + 1, r, h, hr, hM => by
    obtain ⟨h1, i1, f1⟩ := zm_least67 d ha hb (r := r) (by omega) (b + 1) 0 h (by omega) hM
    obtain ⟨v, h2, i2, f2⟩ := zm_least58 d ha hb m (r + 1) h1 (by omega) (zm_F_M f1 hM)
    rw [qL9_least_58, if_pos (by omega), show L9_least_67 d 347 a b 121 r 0 h = _ from i1]
    exact ⟨v, h2, i2, zm_F_t f1 f2⟩
theorem zm_least {h : zv_H} (i : zm_MI h) (d : Nat) (s t : Int) : zm_R (C9_least (d + 10) 347 s t h) (fun q => zm_X h q.2) := by
  refine zm_cI (P := fun _ h' => zm_X h h') (lC9_least (zm_ob i.1)) ?_
  have l22 : ∀ v : Int, (v = 0 → zm_st (zv_I h 348) s ∧ zm_st (zv_I h 348) t) → zm_R (L9_least_22 (d + 9) 347 s t 347 v h) (zm_I fun _ h' => zm_X h h') := by
    intro v hv
    rw [qL9_least_22]
    refine zm_isq i (fun hw h1 f1 i1 => zm_X_i (zm_X_a i f1 rfl rfl rfl) ?_)
    obtain ⟨a1, a2⟩ := hv hw
    rw [← zm_F_a f1 348] at a1 a2
    obtain ⟨a, h2, e2, x2, p2, c2⟩ := zm_cp i1 (d + 4) a1 (Or.inl rfl)
    obtain ⟨b, h3, e3, x3, p3, c3⟩ := zm_cp x2.2 (d + 4) (s := t) (by rw [c2]; exact a2) (Or.inr rfl)
    obtain ⟨v, h4, e4, f4⟩ := zm_least58 (d + 9) p2 p3 (a + 1) 0 h3 (Nat.zero_add _) x3.2.1
    dsimp only
    rw [zm_e (zm_f13 i1.1), zm_e e2]
    dsimp only
    rw [zm_e (zm_f14 x2.2.1), zm_e e3]
    dsimp only
    rw [show L9_least_58 (d + 9) 347 a b 121 0 h3 = _ from e4]
    exact zm_iI (zm_X_t x2 (zm_X_t x3 (zm_X_a x3.2 f4 rfl rfl rfl)))
  have l21 : zm_R (L9_least_21 (d + 9) 347 s t 347 h) (zm_I fun _ h' => zm_X h h') := by
    rw [qL9_least_21]
    exact l22 2 (fun q => by cases q)
  rw [qE9_least]
  refine zm_gb (zm_isState i.1 _ s) (fun _ => l21) (fun hs => ?_)
  exact zm_gb (zm_isState i.1 _ t) (fun _ => l21) (fun ht => l22 0 (fun _ => ⟨hs, ht⟩))
