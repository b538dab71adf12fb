/-! ===== the tie: children, the latest first ===== -/
theorem zt_xN {a n k : Nat} (ha : zv_lay a = (1, 0)) (hn : n = 0 ∨ n = 6 ∨ (14 ≤ n ∧ n ≤ 24)) : ¬ zt_x (a + n) k := by
  have h9 := zc_lh ha
  intro q
  rcases q with q | q | q | q
  · omega
  · have := zc_l4 q.1; omega
  · exact zt_hn ha (by omega) q.1
  · obtain ⟨b, hb, q⟩ := q
    omega
theorem zt_oh_q {a : Nat} {g g' : zv_H} (ha : zv_lay a = (1, 0)) (f : zt_q g g') : zt_oh a g g' := fun n k h => f.2.2.1 _ _ (zt_xN ha (by omega)) (zt_in0 _)
theorem zt_oh_t {a : Nat} {g g1 g2 : zv_H} (f : zt_oh a g g1) (h : zt_oh a g1 g2) : zt_oh a g g2 := fun n k c => (h n k c).trans (f n k c)
/-- half a as it was, but for what is reckoned, and another half -/
theorem zt_H_k {a b : Nat} {c : Nat → Int} {h h' : zv_H} (H : zt_H a c h) (f : zt_k b h h') (hn : a ≠ b) : zt_H a c h' := by
  have la := zt_U_la (zt_H_U H)
  have e : ∀ n k, (n = 14 ∨ n = 15 ∨ n = 16 ∨ (n = 17 ∧ k = 4) ∨ n = 18 ∨ n = 19 ∨ n = 22 ∨ n = 23 ∨ n = 24) → zv_I h' (a + n) k = zv_I h (a + n) k := fun n k hk => f.2.2.1 _ _ (zt_xN la (by omega)) (zt_inH la hn (by omega))
  have V := zt_H_V H
  refine ⟨zt_U_k (zt_H_U H) f hn, zt_J_cg (zt_H_J H) (fun r k r1 r2 => ?_), ⟨?_, zt_V_c0 V, zt_V_c5 V, fun i hi => ?_, fun i hi => ?_, zt_V_vb V, zt_V_vd V⟩, zt_N_c (zt_H_N H) ((zt_U_W (zt_H_U H)).2.2.1.2) rfl (fun _ _ _ => rfl) (fun r k r1 r2 => ?_)⟩
  · obtain ⟨n, rfl⟩ : ∃ n, r = a + n := ⟨r - a, by omega⟩
    exact e n k (by omega)
  · rw [e 17 4 (by omega)]; exact zt_V_ct V
  · rw [e 18 _ (by omega)]; exact zt_V_ls V i hi
  · rw [e 19 _ (by omega)]; exact zt_V_lt V i hi
  · obtain ⟨n, rfl⟩ : ∃ n, r = a + n := ⟨r - a, by omega⟩
    exact e n k (by omega)
theorem zt_H_q {a : Nat} {c : Nat → Int} {h h' : zv_H} (H : zt_H a c h) (f : zt_q h h') : zt_H a c h' := zt_H_k H f (fun e => by
  have := zt_U_la (zt_H_U H)
  rw [e] at this
  exact absurd this (by decide))
/-- k lies below s, or is it -/
def zt_bl (c : Nat → Int) (s k : Int) : Prop := ∃ l, zm_Ln c (k :: l) k ∧ s ∈ k :: l
/-- the latest visit of one and all below it -/
def zt_isla (c : Nat → Int) (s v : Int) : Prop := (∃ k, zm_st c k ∧ zt_bl c s k ∧ zm_o c k 7 = v) ∧ ∀ k, zm_st c k → zt_bl c s k → zm_o c k 7 ≤ v
theorem zt_isla_u {c : Nat → Int} {s v w : Int} (h1 : zt_isla c s v) (h2 : zt_isla c s w) : v = w := by
  obtain ⟨⟨k, a1, a2, a3⟩, a4⟩ := h1
  obtain ⟨⟨m, b1, b2, b3⟩, b4⟩ := h2
  have := a4 m b1 b2
  have := b4 k a1 a2
  omega
theorem zt_latest_l {h : zv_H} {c : Nat → Int} (hM : zm_M h) (hc : zv_I h 348 = c) (W : zm_W c) (D : Nat) (s : Int) : ∀ (n i : Nat) (v : Int), i + n = 48 → (∃ k, zm_st c k ∧ zt_bl c s k ∧ zm_o c k 7 = v) → (∀ k : Int, k < i → zm_st c k → zt_bl c s k → zm_o c k 7 ≤ v) → ∃ r, L9_latestIn_10 (D + 2) 347 s v i h = some (some (zv_i r), h) ∧ zt_isla c s r := by
  subst hc
  intro n
  induction n with
  | zero =>
    intro i v hi e b
    rw [qL9_latestIn_10, if_neg (by omega)]
    exact ⟨v, rfl, e, fun k hk => b k (by have := hk.1; omega) hk⟩
  | succ n ih =>
    intro i v hi e b
    have w1 : zv_w ((i : Int) + 1) = ((i + 1 : Nat) : Int) := by
      rw [zm_w (by omega)]
      rfl
    rw [qL9_latestIn_10, if_pos (by omega), zm_e (zm_isState hM _ i), w1]
    by_cases hs : zm_st (zv_I h 348) (i : Int)
    · rw [if_pos hs]
      dsimp only
      rw [if_neg (by decide), zm_e (zm_of hM _ (zm_st48 hs) (by decide))]
      dsimp only
      by_cases c1 : zm_o (zv_I h 348) (i : Int) 7 ≤ v
      · rw [if_pos c1]
        refine ih (i + 1) v (by omega) e (fun k hk k1 k2 => ?_)
        by_cases z : k = i
        · rw [z]; exact c1
        · exact b k (by omega) k1 k2
      · obtain ⟨l, hl, _⟩ := zt_line W hs
        rw [if_neg c1, zm_e (zm_isOfLine hM _ s hl)]
        by_cases c2 : s ∈ (i : Int) :: l
        · rw [if_pos c2]
          dsimp only
          rw [if_neg (by decide), zm_e (zm_of hM _ (zm_st48 hs) (by decide))]
          dsimp only
          refine ih (i + 1) _ (by omega) ⟨i, hs, ⟨l, hl, c2⟩, rfl⟩ (fun k hk k1 k2 => ?_)
          by_cases z : k = i
          · rw [z]; exact Int.le_refl _
          · have := b k (by omega) k1 k2
            omega
        · rw [if_neg c2]
          dsimp only
          rw [if_pos rfl]
          refine ih (i + 1) v (by omega) e (fun k hk k1 k2 => ?_)
          by_cases z : k = i
          · subst z
            obtain ⟨l2, hl2, m2⟩ := k2
            rw [zm_Ln_u hl2 hl] at m2
            exact absurd m2 c2
          · exact b k (by omega) k1 k2
    · rw [if_neg hs]
      dsimp only
      rw [if_pos rfl]
      refine ih (i + 1) v (by omega) e (fun k hk k1 k2 => ?_)
      by_cases z : k = i
      · rw [z] at k1
        exact absurd k1 hs
      · exact b k (by omega) k1 k2
theorem zt_latestIn {h : zv_H} {c : Nat → Int} (hM : zm_M h) (hc : zv_I h 348 = c) (W : zm_W c) (D : Nat) {s : Int} (hs : zm_st c s) : ∃ r, C9_latestIn (D + 3) 347 s h = some (r, h) ∧ zt_isla c s r := by
  obtain ⟨l, hl, _⟩ := zt_line W hs
  obtain ⟨r, e, w⟩ := zt_latest_l hM hc W D s 48 0 (zm_o c s 7) (by omega) ⟨s, hs, ⟨l, hl, List.mem_cons_self⟩, rfl⟩ (fun k hk k1 => by have := k1.1; omega)
  refine ⟨r, lC9_latestIn (zm_ob hM) ?_, w⟩
  rw [qE9_latestIn, zm_e (zm_of hM _ (zm_st48 hs) (by decide)), hc]
  exact e
/-- how many children have a later visit below them -/
def zt_rank (c : Nat → Int) (s : Int) (f : Int → Int) (k : Int) : Int := zm_sum (fun m => if zm_st c m ∧ zm_o c m 1 = s ∧ f k < f m then 1 else 0) 48
theorem zt_child35 {h : zv_H} {c : Nat → Int} (hM : zm_M h) (hc : zv_I h 348 = c) (W : zm_W c) (D : Nat) (s n k : Int) (hk : zm_st c k) (f : Int → Int) (hf : ∀ t, zm_st c t → zt_isla c t (f t)) : ∀ (m i : Nat), i + m = 48 → L9_childOf_35 (D + 3) 347 s n k (zm_sum (fun m => if zm_st c m ∧ zm_o c m 1 = s ∧ f k < f m then 1 else 0) i) i h = if zt_rank c s f k = n then some (some (zv_i k), h) else L9_childOf_2 (D + 3) 347 s n (zv_w (k + 1)) h := by
  subst hc
  have b01 : ∀ i : Nat, 0 ≤ zm_sum (fun m => if zm_st (zv_I h 348) m ∧ zm_o (zv_I h 348) m 1 = s ∧ f k < f m then 1 else 0) i ∧ zm_sum (fun m => if zm_st (zv_I h 348) m ∧ zm_o (zv_I h 348) m 1 = s ∧ f k < f m then 1 else 0) i ≤ i := fun i => by
    have := zm_sum_b (f := fun m => if zm_st (zv_I h 348) m ∧ zm_o (zv_I h 348) m 1 = s ∧ f k < f m then 1 else 0) (a := 0) (b := 1) i (fun j _ => by
      split <;> omega)
    omega
  have la : ∀ t, zm_st (zv_I h 348) t → C9_latestIn (D + 3) 347 t h = some (f t, h) := fun t ht => by
    obtain ⟨r, e, w⟩ := zt_latestIn hM rfl W D ht
    rw [e, zt_isla_u w (hf t ht)]
  intro m
  induction m with
  | zero =>
    intro i hi
    have e : i = 48 := by omega
    subst e
    rw [qL9_childOf_35, if_neg (by decide)]
    rfl
  | succ m ih =>
    intro i hi
    have w1 : zv_w ((i : Int) + 1) = ((i + 1 : Nat) : Int) := by
      rw [zm_w (by omega)]
      rfl
    have bi := b01 i
    have i48 : i ≤ 48 := by omega
    have es : zm_sum (fun m => if zm_st (zv_I h 348) m ∧ zm_o (zv_I h 348) m 1 = s ∧ f k < f m then 1 else 0) (i + 1) = zm_sum (fun m => if zm_st (zv_I h 348) m ∧ zm_o (zv_I h 348) m 1 = s ∧ f k < f m then 1 else 0) i + (if zm_st (zv_I h 348) i ∧ zm_o (zv_I h 348) i 1 = s ∧ f k < f i then 1 else 0) := rfl
    have ih' := ih (i + 1) (by omega)
    rw [es] at ih'
    rw [qL9_childOf_35, if_pos (by omega), zm_e (zm_isState hM _ i), w1]
    by_cases hs : zm_st (zv_I h 348) (i : Int)
    · rw [if_pos hs]
      dsimp only
      rw [if_neg (by decide), zm_e (zm_of hM _ (zm_st48 hs) (by decide))]
      dsimp only
      by_cases c1 : zm_o (zv_I h 348) (i : Int) 1 = s
      · rw [if_pos c1, zm_e (la _ hs)]
        dsimp only
        rw [zm_e (la _ hk)]
        dsimp only
        by_cases c2 : f i ≤ f k
        · rw [if_neg (fun q => by have := q.2.2; omega)] at ih'
          rw [if_pos c2, zm_w (by omega)]
          exact ih'
        · rw [if_pos ⟨hs, c1, by omega⟩] at ih'
          rw [if_neg c2, zm_w (by omega)]
          exact ih'
      · rw [if_neg (fun q => c1 q.2.1)] at ih'
        rw [if_neg c1, zm_w (by omega)]
        exact ih'
    · rw [if_neg (fun q => hs q.1)] at ih'
      rw [if_neg hs]
      dsimp only
      rw [if_pos rfl, zm_w (by omega)]
      exact ih'
theorem zt_child2 {h : zv_H} {c : Nat → Int} (hM : zm_M h) (hc : zv_I h 348 = c) (W : zm_W c) (D : Nat) (s n : Int) (f : Int → Int) (hf : ∀ t, zm_st c t → zt_isla c t (f t)) : ∀ (m i : Nat), i + m = 48 → (∀ k : Int, k < i → zm_st c k → zm_o c k 1 = s → zt_rank c s f k ≠ n) → ∃ r : Int, L9_childOf_2 (D + 3) 347 s n i h = some (some (zv_i r), h) ∧ ((r = -1 ∧ ∀ k, zm_st c k → zm_o c k 1 = s → zt_rank c s f k ≠ n) ∨ (zm_st c r ∧ zm_o c r 1 = s ∧ zt_rank c s f r = n)) := by
  subst hc
  intro m
  induction m with
  | zero =>
    intro i hi b
    rw [qL9_childOf_2, if_neg (by omega)]
    exact ⟨-1, rfl, Or.inl ⟨rfl, fun k k1 => b k (by have := k1.1; omega) k1⟩⟩
  | succ m ih =>
    intro i hi b
    have w1 : zv_w ((i : Int) + 1) = ((i + 1 : Nat) : Int) := by
      rw [zm_w (by omega)]
      rfl
    rw [qL9_childOf_2, if_pos (by omega), zm_e (zm_isState hM _ i), w1]
    by_cases hs : zm_st (zv_I h 348) (i : Int)
    · rw [if_pos hs]
      dsimp only
      rw [if_neg (by decide), zm_e (zm_of hM _ (zm_st48 hs) (by decide))]
      dsimp only
      by_cases c1 : zm_o (zv_I h 348) (i : Int) 1 = s
      · have e35 := zt_child35 hM rfl W D s n i hs f hf 48 0 (by omega)
        rw [if_pos c1, show L9_childOf_35 (D + 3) 347 s n i 0 0 h = _ from e35, w1]
        by_cases c2 : zt_rank (zv_I h 348) s f i = n
        · rw [if_pos c2]
          exact ⟨i, rfl, Or.inr ⟨hs, c1, c2⟩⟩
        · rw [if_neg c2]
          refine ih (i + 1) (by omega) (fun k hk k1 k2 => ?_)
          by_cases z : k = i
          · rw [z]; exact c2
          · exact b k (by omega) k1 k2
      · rw [if_neg c1]
        refine ih (i + 1) (by omega) (fun k hk k1 k2 => ?_)
        by_cases z : k = i
        · rw [z] at k2
          exact absurd k2 c1
        · exact b k (by omega) k1 k2
    · rw [if_neg hs]
      dsimp only
      rw [if_pos rfl]
      refine ih (i + 1) (by omega) (fun k hk k1 k2 => ?_)
      by_cases z : k = i
      · rw [z] at k1
        exact absurd k1 hs
      · exact b k (by omega) k1 k2
theorem zt_childOf {h : zv_H} {c : Nat → Int} (hM : zm_M h) (hc : zv_I h 348 = c) (W : zm_W c) (D : Nat) (s n : Int) (f : Int → Int) (hf : ∀ t, zm_st c t → zt_isla c t (f t)) : ∃ r : Int, C9_childOf (D + 4) 347 s n h = some (r, h) ∧ ((r = -1 ∧ ∀ k, zm_st c k → zm_o c k 1 = s → zt_rank c s f k ≠ n) ∨ (zm_st c r ∧ zm_o c r 1 = s ∧ zt_rank c s f r = n)) := by
  obtain ⟨r, e, w⟩ := zt_child2 hM hc W D s n f hf 48 0 (by omega) (fun k hk k1 => by have := k1.1; omega)
  refine ⟨r, lC9_childOf (zm_ob hM) ?_, w⟩
  rw [qE9_childOf]
  exact e
theorem zt_la_ex {h : zv_H} {c : Nat → Int} (hM : zm_M h) (hc : zv_I h 348 = c) (W : zm_W c) : ∃ f : Int → Int, ∀ t, zm_st c t → zt_isla c t (f t) := by
  have ex : ∀ t, zm_st c t → ∃ v, zt_isla c t v := fun t ht => by
    obtain ⟨v, _, w⟩ := zt_latestIn hM hc W 0 ht
    exact ⟨v, w⟩
  refine ⟨fun t => Classical.epsilon (fun v => zt_isla c t v), fun t ht => ?_⟩
  exact Classical.epsilon_spec (ex t ht)
/-- children's latest visits are not the same -/
theorem zt_la_inj {c : Nat → Int} (W : zm_W c) (vd : ∀ s t, zm_st c s → zm_st c t → zm_o c s 7 = zm_o c t 7 → s = t) {s k m v : Int} (hk : zm_st c k) (hm : zm_st c m) (pk : zm_o c k 1 = s) (pm : zm_o c m 1 = s) (h1 : zt_isla c k v) (h2 : zt_isla c m v) : k = m := by
  obtain ⟨⟨x, x1, ⟨lx, x2, x3⟩, x4⟩, _⟩ := h1
  obtain ⟨⟨y, y1, ⟨ly, y2, y3⟩, y4⟩, _⟩ := h2
  have e := vd x y x1 y1 (x4.trans y4.symm)
  subst e
  have el := (List.cons.inj (zm_Ln_u x2 y2)).2
  subst el
  obtain ⟨p1, b1, e1, hb1⟩ := zm_Ln_s x2 k x3
  obtain ⟨p2, b2, e2, hb2⟩ := zm_Ln_s x2 m y3
  have h3 := hb1.2
  have h4 := hb2.2
  rw [pk] at h3
  rw [pm] at h4
  have eb := zm_Ln_u h3 h4
  subst eb
  rw [e1] at e2
  have l1 := congrArg List.length e2
  rw [List.length_append, List.length_append, List.length_cons, List.length_cons] at l1
  have := (List.append_inj e2 (by omega)).2
  exact (List.cons.inj this).1
