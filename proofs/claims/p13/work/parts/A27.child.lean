/-! A27.child -/
section
/-! ===== the tie: children, the latest first ===== -/
theorem zt_xN {a n k : Nat} (ha : zv_lay a = (1, 0)) (hn : n = 0 ∨ n = 6 ∨ (14 ≤ n ∧ n ≤ 24)) : ¬ zt_x (a + n) k := by
  have h9 := zc_lh ha
  intro q
  rcases q with q | q | q | q
  · omega
  · have := zc_l4 q.1; omega
  · exact zt_hn ha (by omega) q.1
  · obtain ⟨b, hb, q⟩ := q
    omega
theorem zt_oh_q {a : Nat} {g g' : zv_H} (ha : zv_lay a = (1, 0)) (f : zt_q g g') : zt_oh a g g' := fun n k h => f.2.2.1 _ _ (zt_xN ha (by omega)) (zt_in0 _)
theorem zt_oh_t {a : Nat} {g g1 g2 : zv_H} (f : zt_oh a g g1) (h : zt_oh a g1 g2) : zt_oh a g g2 := fun n k c => (h n k c).trans (f n k c)
/-- half a as it was, but for what is reckoned, and another half -/
theorem zt_H_k {a b : Nat} {c : Nat → Int} {h h' : zv_H} (H : zt_H a c h) (f : zt_k b h h') (hn : a ≠ b) : zt_H a c h' := by
  have la := zt_U_la (zt_H_U H)
  have e : ∀ n k, (n = 14 ∨ n = 15 ∨ n = 16 ∨ (n = 17 ∧ k = 4) ∨ n = 18 ∨ n = 19 ∨ n = 22 ∨ n = 23 ∨ n = 24) → zv_I h' (a + n) k = zv_I h (a + n) k := fun n k hk => f.2.2.1 _ _ (zt_xN la (by omega)) (zt_inH la hn (by omega))
  have V := zt_H_V H
  refine ⟨zt_U_k (zt_H_U H) f hn, zt_J_cg (zt_H_J H) (fun r k r1 r2 => ?_), ⟨?_, zt_V_c0 V, zt_V_c5 V, fun i hi => ?_, fun i hi => ?_, zt_V_vb V, zt_V_vd V⟩, zt_N_c (zt_H_N H) ((zt_U_W (zt_H_U H)).2.2.1.2) rfl (fun _ _ _ => rfl) (fun r k r1 r2 => ?_)⟩
  · obtain ⟨n, rfl⟩ : ∃ n, r = a + n := ⟨r - a, by omega⟩
    exact e n k (by omega)
  · rw [e 17 4 (by omega)]; exact zt_V_ct V
  · rw [e 18 _ (by omega)]; exact zt_V_ls V i hi
  · rw [e 19 _ (by omega)]; exact zt_V_lt V i hi
  · obtain ⟨n, rfl⟩ : ∃ n, r = a + n := ⟨r - a, by omega⟩
    exact e n k (by omega)
theorem zt_H_q {a : Nat} {c : Nat → Int} {h h' : zv_H} (H : zt_H a c h) (f : zt_q h h') : zt_H a c h' := zt_H_k H f (fun e => by
  have := zt_U_la (zt_H_U H)
  rw [e] at this
  exact absurd this (by decide))
/-- k lies below s, or is it -/
def zt_bl (c : Nat → Int) (s k : Int) : Prop := ∃ l, zm_Ln c (k :: l) k ∧ s ∈ k :: l
/-- the latest visit of one and all below it -/
def zt_isla (c : Nat → Int) (s v : Int) : Prop := (∃ k, zm_st c k ∧ zt_bl c s k ∧ zm_o c k 7 = v) ∧ ∀ k, zm_st c k → zt_bl c s k → zm_o c k 7 ≤ v
theorem zt_isla_u {c : Nat → Int} {s v w : Int} (h1 : zt_isla c s v) (h2 : zt_isla c s w) : v = w := by
  obtain ⟨⟨k, a1, a2, a3⟩, a4⟩ := h1
  obtain ⟨⟨m, b1, b2, b3⟩, b4⟩ := h2
  have := a4 m b1 b2
  have := b4 k a1 a2
  omega
theorem zt_latest_l {h : zv_H} {c : Nat → Int} (hM : zm_M h) (hc : zv_I h 348 = c) (W : zm_W c) (D : Nat) (s : Int) : ∀ (n i : Nat) (v : Int), i + n = 48 → (∃ k, zm_st c k ∧ zt_bl c s k ∧ zm_o c k 7 = v) → (∀ k : Int, k < i → zm_st c k → zt_bl c s k → zm_o c k 7 ≤ v) → ∃ r, L9_latestIn_10 (D + 2) 347 s v i h = some (some (zv_i r), h) ∧ zt_isla c s r := by
  subst hc
  intro n
  induction n with
  | zero =>
    intro i v hi e b
    rw [qL9_latestIn_10, if_neg (by omega)]
    exact ⟨v, rfl, e, fun k hk => b k (by have := hk.1; omega) hk⟩
  | succ n ih =>
    intro i v hi e b
    have w1 : zv_w ((i : Int) + 1) = ((i + 1 : Nat) : Int) := by
      rw [zm_w (by omega)]
      rfl
    rw [qL9_latestIn_10, if_pos (by omega), zm_e (zm_isState hM _ i), w1]
    by_cases hs : zm_st (zv_I h 348) (i : Int)
    · rw [if_pos hs]
      dsimp only
      rw [if_neg (by decide), zm_e (zm_of hM _ (zm_st48 hs) (by decide))]
      dsimp only
      by_cases c1 : zm_o (zv_I h 348) (i : Int) 7 ≤ v
      · rw [if_pos c1]
        refine ih (i + 1) v (by omega) e (fun k hk k1 k2 => ?_)
        by_cases z : k = i
        · rw [z]; exact c1
        · exact b k (by omega) k1 k2
      · obtain ⟨l, hl, _⟩ := zt_line W hs
        rw [if_neg c1, zm_e (zm_isOfLine hM _ s hl)]
        by_cases c2 : s ∈ (i : Int) :: l
        · rw [if_pos c2]
          dsimp only
          rw [if_neg (by decide), zm_e (zm_of hM _ (zm_st48 hs) (by decide))]
          dsimp only
          refine ih (i + 1) _ (by omega) ⟨i, hs, ⟨l, hl, c2⟩, rfl⟩ (fun k hk k1 k2 => ?_)
          by_cases z : k = i
          · rw [z]; exact Int.le_refl _
          · have := b k (by omega) k1 k2
            omega
        · rw [if_neg c2]
          dsimp only
          rw [if_pos rfl]
          refine ih (i + 1) v (by omega) e (fun k hk k1 k2 => ?_)
          by_cases z : k = i
          · subst z
            obtain ⟨l2, hl2, m2⟩ := k2
            rw [zm_Ln_u hl2 hl] at m2
            exact absurd m2 c2
          · exact b k (by omega) k1 k2
    · rw [if_neg hs]
      dsimp only
      rw [if_pos rfl]
      refine ih (i + 1) v (by omega) e (fun k hk k1 k2 => ?_)
      by_cases z : k = i
      · rw [z] at k1
        exact absurd k1 hs
      · exact b k (by omega) k1 k2
theorem zt_latestIn {h : zv_H} {c : Nat → Int} (hM : zm_M h) (hc : zv_I h 348 = c) (W : zm_W c) (D : Nat) {s : Int} (hs : zm_st c s) : ∃ r, C9_latestIn (D + 3) 347 s h = some (r, h) ∧ zt_isla c s r := by
  obtain ⟨l, hl, _⟩ := zt_line W hs
  obtain ⟨r, e, w⟩ := zt_latest_l hM hc W D s 48 0 (zm_o c s 7) (by omega) ⟨s, hs, ⟨l, hl, List.mem_cons_self⟩, rfl⟩ (fun k hk k1 => by have := k1.1; omega)
  refine ⟨r, lC9_latestIn (zm_ob hM) ?_, w⟩
  rw [qE9_latestIn, zm_e (zm_of hM _ (zm_st48 hs) (by decide)), hc]
  exact e
/-- how many children have a later visit below them -/
def zt_rank (c : Nat → Int) (s : Int) (f : Int → Int) (k : Int) : Int := zm_sum (fun m => if zm_st c m ∧ zm_o c m 1 = s ∧ f k < f m then 1 else 0) 48
theorem zt_child35 {h : zv_H} {c : Nat → Int} (hM : zm_M h) (hc : zv_I h 348 = c) (W : zm_W c) (D : Nat) (s n k : Int) (hk : zm_st c k) (f : Int → Int) (hf : ∀ t, zm_st c t → zt_isla c t (f t)) : ∀ (m i : Nat), i + m = 48 → L9_childOf_35 (D + 3) 347 s n k (zm_sum (fun m => if zm_st c m ∧ zm_o c m 1 = s ∧ f k < f m then 1 else 0) i) i h = if zt_rank c s f k = n then some (some (zv_i k), h) else L9_childOf_2 (D + 3) 347 s n (zv_w (k + 1)) h := by
  subst hc
  have b01 : ∀ i : Nat, 0 ≤ zm_sum (fun m => if zm_st (zv_I h 348) m ∧ zm_o (zv_I h 348) m 1 = s ∧ f k < f m then 1 else 0) i ∧ zm_sum (fun m => if zm_st (zv_I h 348) m ∧ zm_o (zv_I h 348) m 1 = s ∧ f k < f m then 1 else 0) i ≤ i := fun i => by
    have := zm_sum_b (f := fun m => if zm_st (zv_I h 348) m ∧ zm_o (zv_I h 348) m 1 = s ∧ f k < f m then 1 else 0) (a := 0) (b := 1) i (fun j _ => by
      split <;> omega)
    omega
  have la : ∀ t, zm_st (zv_I h 348) t → C9_latestIn (D + 3) 347 t h = some (f t, h) := fun t ht => by
    obtain ⟨r, e, w⟩ := zt_latestIn hM rfl W D ht
    rw [e, zt_isla_u w (hf t ht)]
  intro m
  induction m with
  | zero =>
    intro i hi
    have e : i = 48 := by omega
    subst e
    rw [qL9_childOf_35, if_neg (by decide)]
    rfl
  | succ m ih =>
    intro i hi
    have w1 : zv_w ((i : Int) + 1) = ((i + 1 : Nat) : Int) := by
      rw [zm_w (by omega)]
      rfl
    have bi := b01 i
    have i48 : i ≤ 48 := by omega
    have es : zm_sum (fun m => if zm_st (zv_I h 348) m ∧ zm_o (zv_I h 348) m 1 = s ∧ f k < f m then 1 else 0) (i + 1) = zm_sum (fun m => if zm_st (zv_I h 348) m ∧ zm_o (zv_I h 348) m 1 = s ∧ f k < f m then 1 else 0) i + (if zm_st (zv_I h 348) i ∧ zm_o (zv_I h 348) i 1 = s ∧ f k < f i then 1 else 0) := rfl
    have ih' := ih (i + 1) (by omega)
    rw [es] at ih'
    rw [qL9_childOf_35, if_pos (by omega), zm_e (zm_isState hM _ i), w1]
    by_cases hs : zm_st (zv_I h 348) (i : Int)
    · rw [if_pos hs]
      dsimp only
      rw [if_neg (by decide), zm_e (zm_of hM _ (zm_st48 hs) (by decide))]
      dsimp only
      by_cases c1 : zm_o (zv_I h 348) (i : Int) 1 = s
      · rw [if_pos c1, zm_e (la _ hs)]
        dsimp only
        rw [zm_e (la _ hk)]
        dsimp only
        by_cases c2 : f i ≤ f k
        · rw [if_neg (fun q => by have := q.2.2; omega)] at ih'
          rw [if_pos c2, zm_w (by omega)]
          exact ih'
        · rw [if_pos ⟨hs, c1, by omega⟩] at ih'
          rw [if_neg c2, zm_w (by omega)]
          exact ih'
      · rw [if_neg (fun q => c1 q.2.1)] at ih'
        rw [if_neg c1, zm_w (by omega)]
        exact ih'
    · rw [if_neg (fun q => hs q.1)] at ih'
      rw [if_neg hs]
      dsimp only
      rw [if_pos rfl, zm_w (by omega)]
      exact ih'
theorem zt_child2 {h : zv_H} {c : Nat → Int} (hM : zm_M h) (hc : zv_I h 348 = c) (W : zm_W c) (D : Nat) (s n : Int) (f : Int → Int) (hf : ∀ t, zm_st c t → zt_isla c t (f t)) : ∀ (m i : Nat), i + m = 48 → (∀ k : Int, k < i → zm_st c k → zm_o c k 1 = s → zt_rank c s f k ≠ n) → ∃ r : Int, L9_childOf_2 (D + 3) 347 s n i h = some (some (zv_i r), h) ∧ ((r = -1 ∧ ∀ k, zm_st c k → zm_o c k 1 = s → zt_rank c s f k ≠ n) ∨ (zm_st c r ∧ zm_o c r 1 = s ∧ zt_rank c s f r = n)) := by
  subst hc
  intro m
  induction m with
  | zero =>
    intro i hi b
    rw [qL9_childOf_2, if_neg (by omega)]
    exact ⟨-1, rfl, Or.inl ⟨rfl, fun k k1 => b k (by have := k1.1; omega) k1⟩⟩
  | succ m ih =>
    intro i hi b
    have w1 : zv_w ((i : Int) + 1) = ((i + 1 : Nat) : Int) := by
      rw [zm_w (by omega)]
      rfl
    rw [qL9_childOf_2, if_pos (by omega), zm_e (zm_isState hM _ i), w1]
    by_cases hs : zm_st (zv_I h 348) (i : Int)
    · rw [if_pos hs]
      dsimp only
      rw [if_neg (by decide), zm_e (zm_of hM _ (zm_st48 hs) (by decide))]
      dsimp only
      by_cases c1 : zm_o (zv_I h 348) (i : Int) 1 = s
      · have e35 := zt_child35 hM rfl W D s n i hs f hf 48 0 (by omega)
        rw [if_pos c1, show L9_childOf_35 (D + 3) 347 s n i 0 0 h = _ from e35, w1]
        by_cases c2 : zt_rank (zv_I h 348) s f i = n
        · rw [if_pos c2]
          exact ⟨i, rfl, Or.inr ⟨hs, c1, c2⟩⟩
        · rw [if_neg c2]
          refine ih (i + 1) (by omega) (fun k hk k1 k2 => ?_)
          by_cases z : k = i
          · rw [z]; exact c2
          · exact b k (by omega) k1 k2
      · rw [if_neg c1]
        refine ih (i + 1) (by omega) (fun k hk k1 k2 => ?_)
        by_cases z : k = i
        · rw [z] at k2
          exact absurd k2 c1
        · exact b k (by omega) k1 k2
    · rw [if_neg hs]
      dsimp only
      rw [if_pos rfl]
      refine ih (i + 1) (by omega) (fun k hk k1 k2 => ?_)
      by_cases z : k = i
      · rw [z] at k1
        exact absurd k1 hs
      · exact b k (by omega) k1 k2
theorem zt_childOf {h : zv_H} {c : Nat → Int} (hM : zm_M h) (hc : zv_I h 348 = c) (W : zm_W c) (D : Nat) (s n : Int) (f : Int → Int) (hf : ∀ t, zm_st c t → zt_isla c t (f t)) : ∃ r : Int, C9_childOf (D + 4) 347 s n h = some (r, h) ∧ ((r = -1 ∧ ∀ k, zm_st c k → zm_o c k 1 = s → zt_rank c s f k ≠ n) ∨ (zm_st c r ∧ zm_o c r 1 = s ∧ zt_rank c s f r = n)) := by
  obtain ⟨r, e, w⟩ := zt_child2 hM hc W D s n f hf 48 0 (by omega) (fun k hk k1 => by have := k1.1; omega)
  refine ⟨r, lC9_childOf (zm_ob hM) ?_, w⟩
  rw [qE9_childOf]
  exact e
theorem zt_la_ex {h : zv_H} {c : Nat → Int} (hM : zm_M h) (hc : zv_I h 348 = c) (W : zm_W c) : ∃ f : Int → Int, ∀ t, zm_st c t → zt_isla c t (f t) := by
  have ex : ∀ t, zm_st c t → ∃ v, zt_isla c t v := fun t ht => by
    obtain ⟨v, _, w⟩ := zt_latestIn hM hc W 0 ht
    exact ⟨v, w⟩
  refine ⟨fun t => Classical.epsilon (fun v => zt_isla c t v), fun t ht => ?_⟩
  exact Classical.epsilon_spec (ex t ht)
/-- children's latest visits are not the same -/
theorem zt_la_inj {c : Nat → Int} (W : zm_W c) (vd : ∀ s t, zm_st c s → zm_st c t → zm_o c s 7 = zm_o c t 7 → s = t) {s k m v : Int} (hk : zm_st c k) (hm : zm_st c m) (pk : zm_o c k 1 = s) (pm : zm_o c m 1 = s) (h1 : zt_isla c k v) (h2 : zt_isla c m v) : k = m := by
  obtain ⟨⟨x, x1, ⟨lx, x2, x3⟩, x4⟩, _⟩ := h1
  obtain ⟨⟨y, y1, ⟨ly, y2, y3⟩, y4⟩, _⟩ := h2
  have e := vd x y x1 y1 (x4.trans y4.symm)
  subst e
  have el := (List.cons.inj (zm_Ln_u x2 y2)).2
  subst el
  obtain ⟨p1, b1, e1, hb1⟩ := zm_Ln_s x2 k x3
  obtain ⟨p2, b2, e2, hb2⟩ := zm_Ln_s x2 m y3
  have h3 := hb1.2
  have h4 := hb2.2
  rw [pk] at h3
  rw [pm] at h4
  have eb := zm_Ln_u h3 h4
  subst eb
  rw [e1] at e2
  have l1 := congrArg List.length e2
  rw [List.length_append, List.length_append, List.length_cons, List.length_cons] at l1
  have := (List.append_inj e2 (by omega)).2
  exact (List.cons.inj this).1
end
/-! A28.redo -/
section
/-! ===== the tie: children of the class; redo ===== -/
theorem zt_sum_mono {p q : Nat → Int} : ∀ n : Nat, (∀ k, k < n → p k ≤ q k) → zm_sum p n ≤ zm_sum q n
  | 0, _ => Int.le_refl _
  | n + 1, h => by
    have ih := zt_sum_mono n (fun k hk => h k (by omega))
    have := h n (by omega)
    show zm_sum p n + p n ≤ zm_sum q n + q n
    omega
theorem zt_sum_lt {p q : Nat → Int} {j : Nat} (hs : p j + 1 ≤ q j) : ∀ n : Nat, j < n → (∀ k, k < n → p k ≤ q k) → zm_sum p n + 1 ≤ zm_sum q n
  | 0, h, _ => absurd h (Nat.not_lt_zero _)
  | n + 1, hj, h => by
    show zm_sum p n + p n + 1 ≤ zm_sum q n + q n
    by_cases e : j = n
    · have ih := zt_sum_mono n (fun k hk => h k (by omega))
      rw [e] at hs
      omega
    · have ih := zt_sum_lt hs n (by omega) (fun k hk => h k (by omega))
      have := h n (by omega)
      omega
/-- only what is newest may have changed -/
def zt_n14 (h : zv_H) (g : zv_H) : Prop := (g.1 = h.1) ∧ (g.2.2 = h.2.2) ∧ (∀ r k, ¬ (zv_lay r = (1, 5) ∧ k = 14) → zv_I g r k = zv_I h r k)
theorem zt_n14_f1 {h : zv_H} {g : zv_H} (t : zt_n14 h g) : g.1 = h.1 := t.1
theorem zt_n14_f2 {h : zv_H} {g : zv_H} (t : zt_n14 h g) : g.2.2 = h.2.2 := t.2.1
theorem zt_n14_i {h : zv_H} {g : zv_H} (t : zt_n14 h g) : ∀ r k, ¬ (zv_lay r = (1, 5) ∧ k = 14) → zv_I g r k = zv_I h r k := t.2.2
theorem zt_n14_r (h : zv_H) : zt_n14 h h := ⟨rfl, rfl, fun _ _ _ => rfl⟩
theorem zt_n14_t {h h1 h2 : zv_H} (f : zt_n14 h h1) (g : zt_n14 h1 h2) : zt_n14 h h2 := ⟨g.1.trans f.1, g.2.1.trans f.2.1, fun r k q => (g.2.2 r k q).trans (f.2.2 r k q)⟩
theorem zt_n14_I {h g : zv_H} {r : Nat} (f : zt_n14 h g) (lr : zv_lay r = (1, 5)) (v : Int) : zt_n14 h (zv_sI g r 14 v) := ⟨f.1, f.2.1, fun r' k q => (zy_In _ _ (fun z => q ⟨by rw [z.1]; exact lr, z.2⟩)).trans (f.2.2 r' k q)⟩
theorem zt_n14_q {h g : zv_H} (f : zt_n14 h g) : zt_q h g := by
  have f2 := zt_n14_f2 f
  exact ⟨zt_n14_f1 f, by rw [f2], fun r k hx _ => zt_n14_i f r k (fun q => hx (Or.inr (Or.inr (Or.inl q)))), fun r _ _ => by rw [f2], fun r _ _ _ => by rw [f2]⟩
theorem zt_n14_L {h g : zv_H} (f : zt_n14 h g) (gL : zt_L h) : zt_L g := by
  have f2 := zt_n14_f2 f
  exact zt_L_of (zt_n14_f1 f) (fun r k => by
    show g.2.2.2.1 r k = _
    rw [f2]; rfl) gL
section
variable {a : Nat} {c : Nat → Int} {h : zv_H}
theorem zt_fn2 {d : Nat} (gL : zt_L h) (la : zv_lay a = (1, 0)) {P : Option zv_V × zv_H → Prop} (fin : ∀ g, zt_n14 h g → (∀ j, j < 48 → zv_I g (zc_stt a j) 14 = 0) → zm_R (L0_findNewest_35 d a 0 g) P) : ∀ (n i : Nat) (g : zv_H), i + n = 48 → zt_n14 h g → (∀ j, j < i → zv_I g (zc_stt a j) 14 = 0) → zm_R (L0_findNewest_2 d a i g) P := by
  intro n
  induction n with
  | zero =>
    intro i g hi f z
    have e : i = 48 := by omega
    subst e
    rw [qL0_findNewest_2, if_neg (by decide)]
    exact fin g f z
  | succ n ih =>
    intro i g hi f z
    have L1 := zt_n14_L f gL
    have lS := (zc_stl la (show i < 48 by omega)).1
    have w1 : zv_w ((i : Int) + 1) = ((i + 1 : Nat) : Int) := by
      rw [zm_w (by omega)]
      rfl
    rw [qL0_findNewest_2, if_pos (by omega), zm_e (zl_gF L1 la 1 4), zm_e (zl_aS L1 la (by omega) (by omega)), show ((i : Nat) : Int).toNat = i by omega, if_neg (zc_nz lS), zm_e (zl_gF L1 la 1 4), zm_e (zl_aS L1 la (by omega) (by omega)), show ((i : Nat) : Int).toNat = i by omega, zm_e (zl_pI L1 lS 14 _), w1]
    refine ih (i + 1) _ (by omega) (zt_n14_I f lS _) (fun j hj => ?_)
    by_cases e : j = i
    · rw [e]; exact zy_I _ _ _ _
    · rw [zy_In _ _ (fun q => e (zc_stinj la q.1))]
      exact z j (by omega)
/-- the newest of those seen so far -/
def zt_mx (c : Nat → Int) (i t v : Int) : Prop := (v = 0 ∨ ∃ k, zm_st c k ∧ k < i ∧ zt_bl c t k ∧ zm_o c k 7 = v) ∧ 0 ≤ v ∧ ∀ k, zm_st c k → k < i → zt_bl c t k → zm_o c k 7 ≤ v
theorem zt_mx_s {i t v : Int} (m : zt_mx c i t v) (hi : zm_st c i) (b : zt_bl c t i) (h0 : 0 ≤ zm_o c i 7) : zt_mx c (i + 1) t (max v (zm_o c i 7)) := by
  obtain ⟨m1, m2, m3⟩ := m
  have key : ∀ k, zm_st c k → k < i + 1 → zt_bl c t k → zm_o c k 7 ≤ v ∨ zm_o c k 7 ≤ zm_o c i 7 := fun k k1 k2 k3 => by
    by_cases e : k = i
    · rw [e]; exact Or.inr (Int.le_refl _)
    · exact Or.inl (m3 k k1 (by omega) k3)
  by_cases le : v ≤ zm_o c i 7
  · rw [Int.max_eq_right le]
    refine ⟨Or.inr ⟨i, hi, by omega, b, rfl⟩, h0, fun k k1 k2 k3 => ?_⟩
    have := key k k1 k2 k3
    omega
  · rw [Int.max_eq_left (by omega)]
    refine ⟨?_, m2, fun k k1 k2 k3 => ?_⟩
    · rcases m1 with q | ⟨k, k1, k2, k3, k4⟩
      · exact Or.inl q
      · exact Or.inr ⟨k, k1, by omega, k3, k4⟩
    · have := key k k1 k2 k3
      omega
theorem zt_mx_n {i t v : Int} (m : zt_mx c i t v) (b : zm_st c i → ¬ zt_bl c t i) : zt_mx c (i + 1) t v := by
  obtain ⟨m1, m2, m3⟩ := m
  refine ⟨?_, m2, fun k k1 k2 k3 => ?_⟩
  · rcases m1 with q | ⟨k, k1, k2, k3, k4⟩
    · exact Or.inl q
    · exact Or.inr ⟨k, k1, by omega, k3, k4⟩
  · by_cases e : k = i
    · rw [e] at k1 k3
      exact absurd k3 (b k1)
    · exact m3 k k1 (by omega) k3
theorem zt_fn49 {d : Nat} (gL : zt_L h) (U : zt_U a c h) {i : Int} (hi : zm_st c i) {L : List Int} (hL : zm_Ln c L i) (vb : ∀ s, zm_st c s → 0 ≤ zm_o c s 7) (hst : ∀ t ∈ L, zm_st c t) (nd : L.Nodup) {P : Option zv_V × zv_H → Prop} (fin : ∀ g, zt_n14 h g → (∀ t, zm_st c t → zt_mx c (i + 1) t (zv_I g (zt_r a t) 14)) → zm_R (L0_findNewest_35 d a (zv_w (i + 1)) g) P) : ∀ (b pre : List Int) (s : Int), pre ++ b = L → zm_Ln c b s → ∀ g, zt_n14 h g → (∀ t, zm_st c t → t ∈ pre → zt_mx c (i + 1) t (zv_I g (zt_r a t) 14)) → (∀ t, zm_st c t → ¬ t ∈ pre → zt_mx c i t (zv_I g (zt_r a t) 14)) → zm_R (L0_findNewest_49 d a i (zt_r a i) (zt_r a s) g) P := by
  have la := zt_U_la U
  obtain ⟨li, eli⟩ := zm_Ln_h hL hi.1.1
  have bl : ∀ t, t ∈ L → zt_bl c t i := fun t ht => ⟨li, by rw [← eli]; exact hL, by rw [← eli]; exact ht⟩
  have nbl : ∀ t, ¬ t ∈ L → ¬ zt_bl c t i := fun t ht q => by
    obtain ⟨l2, h2, m2⟩ := q
    rw [zm_Ln_u h2 hL] at m2
    exact ht m2
  intro b
  induction b with
  | nil =>
    intro pre s e hs g f p1 p2
    rw [List.append_nil] at e
    rw [zt_r_n hs, qL0_findNewest_49, if_pos rfl]
    refine fin g f (fun t ht => ?_)
    by_cases q : t ∈ L
    · exact p1 t ht (by rw [e]; exact q)
    · exact zt_mx_n (p2 t ht (by rw [e]; exact q)) (fun _ => nbl t q)
  | cons u b ih =>
    intro pre s e hs g f p1 p2
    have es : s = u := hs.1.1
    subst es
    have hu : zm_st c s := hst s (by rw [← e]; exact List.mem_append_right _ List.mem_cons_self)
    have lU := zt_r_l la hu.1
    have lI := zt_r_l la hi.1
    have L1 := zt_n14_L f gL
    have n5 : ∀ k, ¬ k = 14 → ∀ r, zv_I g r k = zv_I h r k := fun k hk r => zt_n14_i f r k (fun q => hk q.2)
    have f2 := zt_n14_f2 f
    have eR : zv_R g (zt_r a s) 4 = zt_r a (zm_o c s 1) := by
      refine Eq.trans ?_ (zt_S_pa (zt_U_st U s hu))
      show g.2.2.2.1 _ _ = _
      rw [f2]; rfl
    rw [qL0_findNewest_49, if_neg (zt_r0 U hu), zm_e (zl_gI L1 lU 14), zm_e (zl_gI L1 lI 13), n5 13 (by decide), zt_S_vi (zt_U_st U i hi), zm_e (zl_pI L1 lU 14 _), zm_e (zl_gR (g := zv_sI g (zt_r a s) 14 (max (zv_I g (zt_r a s) 14) (zm_o c i 7))) L1 lU 4), show zv_R (zv_sI g (zt_r a s) 14 (max (zv_I g (zt_r a s) 14) (zm_o c i 7))) (zt_r a s) 4 = zt_r a (zm_o c s 1) from eR]
    have np : ¬ s ∈ pre := fun q => by
      rw [← e] at nd
      exact (List.nodup_append.mp nd).2.2 s q s List.mem_cons_self rfl
    have ne : ∀ t, zm_st c t → t ≠ s → zv_I (zv_sI g (zt_r a s) 14 (max (zv_I g (zt_r a s) 14) (zm_o c i 7))) (zt_r a t) 14 = zv_I g (zt_r a t) 14 := fun t ht q => zy_In _ _ (fun z => q (zt_r_inj la ht.1 hu.1 z.1))
    refine ih (pre ++ [s]) _ (by rw [List.append_assoc]; exact e) hs.2 _ (zt_n14_I f lU _) (fun t ht q => ?_) (fun t ht q => ?_)
    · by_cases z : t = s
      · rw [z, zy_I]
        exact zt_mx_s (p2 s hu np) hi (bl s (by rw [← e]; exact List.mem_append_right _ List.mem_cons_self)) (vb i hi)
      · rw [ne t ht z]
        rcases List.mem_append.mp q with w | w
        · exact p1 t ht w
        · exact absurd (List.mem_singleton.mp w) z
    · have z : t ≠ s := fun z => q (List.mem_append_right _ (List.mem_singleton.mpr z))
      rw [ne t ht z]
      exact p2 t ht (fun w => q (List.mem_append_left _ w))
theorem zt_fn35 {d : Nat} (gL : zt_L h) (U : zt_U a c h) (vb : ∀ s, zm_st c s → 0 ≤ zm_o c s 7) : ∀ (n i : Nat) (g : zv_H), i + n = 48 → zt_n14 h g → (∀ t, zm_st c t → zt_mx c i t (zv_I g (zt_r a t) 14)) → zm_R (L0_findNewest_35 (d + 1) a i g) (zm_V fun g' => zt_n14 h g' ∧ ∀ t, zm_st c t → zt_mx c 48 t (zv_I g' (zt_r a t) 14)) := by
  intro n
  induction n with
  | zero =>
    intro i g hi f m
    have e : i = 48 := by omega
    subst e
    rw [qL0_findNewest_35, if_neg (by decide)]
    exact zm_iV ⟨f, m⟩
  | succ n ih =>
    intro i g hi f m
    have L1 := zt_n14_L f gL
    have U1 := zt_U_q U (zt_n14_q f)
    have w1 : zv_w ((i : Int) + 1) = ((i + 1 : Nat) : Int) := by
      rw [zm_w (by omega)]
      rfl
    rw [qL0_findNewest_35, if_pos (by omega), zm_e (zt_at L1 U1 i)]
    dsimp only
    by_cases hs : zm_st c (i : Int)
    · rw [if_pos hs]
      obtain ⟨l, hl, ok, _⟩ := zt_line (zt_U_W U) hs
      refine zt_fn49 gL U hs hl vb ok.2.2.1 ok.1 (fun g2 f2 m2 => ?_) _ [] _ (List.nil_append _) hl g f (fun t _ q => (by cases q)) (fun t ht _ => m t ht)
      rw [w1]
      exact ih (i + 1) g2 (by omega) f2 m2
    · rw [if_neg hs, qL0_findNewest_49, if_pos rfl, w1]
      exact ih (i + 1) g (by omega) f (fun t ht => zt_mx_n (m t ht) (fun q => absurd q hs))
theorem zt_findNewest {d : Nat} (gL : zt_L h) (U : zt_U a c h) (vb : ∀ s, zm_st c s → 0 ≤ zm_o c s 7) : zm_R (C0_findNewest (d + 2) a h) (fun g => zt_n14 h g ∧ ∀ t, zm_st c t → zt_isla c t (zv_I g (zt_r a t) 14)) := by
  have la := zt_U_la U
  refine zm_cV (P := fun g => zt_n14 h g ∧ ∀ t, zm_st c t → zt_isla c t (zv_I g (zt_r a t) 14)) (fun e => lC0_findNewest (zl_ob gL la) e) ?_
  rw [qE0_findNewest]
  refine zt_fn2 (d := d + 1) gL la (fun g f z => ?_) 48 0 h (by omega) (zt_n14_r h) (fun j hj => absurd hj (Nat.not_lt_zero _))
  refine zm_mono (zt_fn35 (d := d) gL U vb 48 0 g (by omega) f (fun t ht => ?_)) ?_
  · have e := zt_r_p (a := a) ht.1.1
    rw [e, z _ (by have := ht.1; omega)]
    exact ⟨Or.inl rfl, Int.le_refl _, fun k k1 k2 => by have := k1.1; omega⟩
  · rintro ⟨ov, g'⟩ ⟨e, f', m⟩
    refine ⟨e, f', fun t ht => ?_⟩
    obtain ⟨m1, m2, m3⟩ := m t ht
    obtain ⟨l, hl, _⟩ := zt_line (zt_U_W U) ht
    have self : zt_bl c t t := ⟨l, hl, List.mem_cons_self⟩
    refine ⟨?_, fun k k1 k2 => m3 k k1 (by have := k1.1; omega) k2⟩
    rcases m1 with q | ⟨k, k1, k2, k3, k4⟩
    · have h1 := m3 t ht (by have := ht.1; omega) self
      have h2 := vb t ht
      exact ⟨t, ht, self, by dsimp only at q h1 ⊢; omega⟩
    · exact ⟨k, k1, k3, k4⟩
/-- the best of the children whose newest is ahead of a bound -/
def zt_bst (a : Nat) (c : Nat → Int) (s : Int) (f : Int → Int) (B : Int) (i : Int) (v : Nat) : Prop := (v = 0 ∧ ∀ t, t < i → zm_st c t → zm_o c t 1 = s → ¬ f t < B) ∨ ∃ m, v = zt_r a m ∧ zm_st c m ∧ zm_o c m 1 = s ∧ f m < B ∧ ∀ t, t < i → zm_st c t → zm_o c t 1 = s → f t < B → f t ≤ f m
theorem zt_nc5 {d : Nat} (gL : zt_L h) (U : zt_U a c h) {s : Int} (hs : zm_st c s) (f : Int → Int) (hf : ∀ t, zm_st c t → zv_I h (zt_r a t) 14 = f t) (B : Int) : ∀ (n i : Nat) (v : Nat), i + n = 48 → zt_bst a c s f B i v → zm_R (L0_newestChild_5 (d + 1) a (zt_r a s) B v i h) (zm_N fun v h' => h' = h ∧ zt_bst a c s f B 48 v) := by
  have la := zt_U_la U
  have W := zt_U_W U
  intro n
  induction n with
  | zero =>
    intro i v hi b
    have e : i = 48 := by omega
    subst e
    rw [qL0_newestChild_5, if_neg (by decide)]
    exact zm_iN ⟨rfl, b⟩
  | succ n ih =>
    intro i v hi b
    have w1 : zv_w ((i : Int) + 1) = ((i + 1 : Nat) : Int) := by
      rw [zm_w (by omega)]
      rfl
    have keep : (∀ t : Int, t = i → zm_st c t → zm_o c t 1 = s → ¬ f t < B) → zt_bst a c s f B ((i + 1 : Nat) : Int) v := fun no => by
      rcases b with ⟨b1, b2⟩ | ⟨m, b1, b2, b3, b4, b5⟩
      · refine Or.inl ⟨b1, fun t ht => ?_⟩
        by_cases z : t = i
        · exact no t z
        · exact b2 t (by omega)
      · refine Or.inr ⟨m, b1, b2, b3, b4, fun t ht t1 t2 t3 => ?_⟩
        by_cases z : t = i
        · exact absurd t3 (no t z t1 t2)
        · exact b5 t (by omega) t1 t2 t3
    rw [qL0_newestChild_5, if_pos (by omega), zm_e (zt_at gL U i), w1]
    dsimp only
    by_cases hi1 : zm_st c (i : Int)
    · rw [if_pos hi1]
      have lI := zt_r_l la hi1.1
      have ub := zt_par W hi1
      have b347 : ¬ 1000000 ≤ zt_r a (zm_o c i 1) := by
        by_cases z : zm_o c i 1 < 0
        · rw [zt_r_n z]; decide
        · have := zc_lt (zt_r_l la ⟨by omega, ub⟩) (by decide)
          omega
      rw [if_neg (zt_r0 U hi1), zm_e (zl_gR gL lI 4), zt_S_pa (zt_U_st U _ hi1), if_neg (fun q => by have := zt_r1000 U hs; omega)]
      by_cases c1 : zm_o c i 1 = s
      · rw [if_pos (by rw [c1]), zm_e (zl_gI gL lI 14), hf _ hi1]
        by_cases c2 : f i < B
        · rw [if_pos c2]
          rcases b with ⟨b1, b2⟩ | ⟨m, b1, b2, b3, b4, b5⟩
          · rw [if_pos b1]
            refine ih (i + 1) _ (by omega) (Or.inr ⟨i, rfl, hi1, c1, c2, fun t ht t1 t2 t3 => ?_⟩)
            by_cases z : t = i
            · rw [z]; exact Int.le_refl _
            · exact absurd t3 (b2 t (by omega) t1 t2)
          · rw [b1, if_neg (zt_r0 U b2), zm_e (zl_gI gL lI 14), zm_e (zl_gI gL (zt_r_l la b2.1) 14), hf _ hi1, hf _ b2]
            by_cases c3 : f i ≤ f m
            · rw [if_pos c3]
              refine ih (i + 1) _ (by omega) (Or.inr ⟨m, rfl, b2, b3, b4, fun t ht t1 t2 t3 => ?_⟩)
              by_cases z : t = i
              · rw [z]; exact c3
              · exact b5 t (by omega) t1 t2 t3
            · rw [if_neg c3]
              refine ih (i + 1) _ (by omega) (Or.inr ⟨i, rfl, hi1, c1, c2, fun t ht t1 t2 t3 => ?_⟩)
              by_cases z : t = i
              · rw [z]; exact Int.le_refl _
              · have := b5 t (by omega) t1 t2 t3
                omega
        · rw [if_neg c2]
          exact ih (i + 1) v (by omega) (keep (fun t z _ _ => by rw [z]; exact c2))
      · have n1 : ¬ zt_r a (zm_o c i 1) = zt_r a s := fun q => by
          by_cases z : zm_o c i 1 < 0
          · rw [zt_r_n z] at q
            exact zt_r0 U hs q.symm
          · exact c1 (zt_r_inj la ⟨by omega, ub⟩ hs.1 q)
        rw [if_neg n1]
        exact ih (i + 1) v (by omega) (keep (fun t z _ q => by rw [z] at q; exact absurd q c1))
    · rw [if_neg hi1, if_pos rfl]
      exact ih (i + 1) v (by omega) (keep (fun t z q => by rw [z] at q; exact absurd q hi1))
theorem zt_newestChild {d : Nat} (gL : zt_L h) (U : zt_U a c h) {s : Int} (hs : zm_st c s) (f : Int → Int) (hf : ∀ t, zm_st c t → zv_I h (zt_r a t) 14 = f t) (B : Int) : ∃ v, C0_newestChild (d + 2) a (zt_r a s) B h = some (v, h) ∧ zt_bst a c s f B 48 v := by
  obtain ⟨q, e, w⟩ := zm_cN (P := fun v h' => h' = h ∧ zt_bst a c s f B 48 v) (fun e => lC0_newestChild (d := d + 1) (a0 := a) (a1 := zt_r a s) (a2 := B) (zl_ob gL (zt_U_la U)) e) (by
    rw [qE0_newestChild]
    exact zt_nc5 gL U hs f hf B 48 0 0 (by omega) (Or.inl ⟨rfl, fun t ht t1 => by have := t1.1; omega⟩))
  refine ⟨q.1, ?_, w.2⟩
  rw [e]
  have w1 := w.1
  obtain ⟨q1, q2⟩ := q
  dsimp only at w1
  rw [w1]
/-- how many children have at least that -/
def zt_cge (c : Nat → Int) (s : Int) (f : Int → Int) (B : Int) : Int := zm_sum (fun m => if zm_st c m ∧ zm_o c m 1 = s ∧ B ≤ f m then 1 else 0) 48
theorem zt_ind {p q : Prop} [Decidable p] [Decidable q] (h : p → q) : (if p then (1 : Int) else 0) ≤ if q then 1 else 0 := by
  by_cases hp : p
  · rw [if_pos hp, if_pos (h hp)]
    exact Int.le_refl _
  · rw [if_neg hp]
    split <;> omega
theorem zt_ind2 {p q : Prop} [Decidable p] [Decidable q] (h : p ↔ q) : (if p then (1 : Int) else 0) = if q then 1 else 0 := by
  by_cases hp : p
  · rw [if_pos hp, if_pos (h.mp hp)]
  · rw [if_neg hp, if_neg (fun z => hp (h.mpr z))]
theorem zt_co34 {d : Nat} (gL : zt_L h) (U : zt_U a c h) {s : Int} (hs : zm_st c s) (f : Int → Int) (hf : ∀ t, zm_st c t → zv_I h (zt_r a t) 14 = f t) (inj : ∀ k m, zm_st c k → zm_st c m → zm_o c k 1 = s → zm_o c m 1 = s → f k = f m → k = m) {n : Int} (hn : 0 ≤ n ∧ n < 1000) : ∀ (r : Nat) (j : Int) (B : Int) (v : Nat), 0 ≤ j → j + r = n + 1 → zt_cge c s f B = j → (1 ≤ j → ∃ k, v = zt_r a k ∧ zm_st c k ∧ zm_o c k 1 = s ∧ f k = B ∧ zt_rank c s f k = j - 1) → zm_R (L0_childOf_34 (d + 2) a (zt_r a s) n v B j h) (zm_N fun v h' => h' = h ∧ ((v = 0 ∧ ∀ k, zm_st c k → zm_o c k 1 = s → zt_rank c s f k ≠ n) ∨ ∃ k, v = zt_r a k ∧ zm_st c k ∧ zm_o c k 1 = s ∧ zt_rank c s f k = n)) := by
  have la := zt_U_la U
  intro r
  induction r with
  | zero =>
    intro j B v j0 hj ec ek
    rw [qL0_childOf_34, if_neg (by omega)]
    obtain ⟨k, k1, k2, k3, k4, k5⟩ := ek (by omega)
    exact zm_iN ⟨rfl, Or.inr ⟨k, k1, k2, k3, by omega⟩⟩
  | succ r ih =>
    intro j B v j0 hj ec ek
    obtain ⟨v2, e2, b⟩ := zt_newestChild (d := d) gL U hs f hf B
    rw [qL0_childOf_34, if_pos (by omega), zm_e e2]
    dsimp only
    rcases b with ⟨b1, b2⟩ | ⟨m, b1, b2, b3, b4, b5⟩
    · rw [if_pos b1]
      refine zm_iN ⟨rfl, Or.inl ⟨rfl, fun k k1 k2 q => ?_⟩⟩
      have fk := b2 k (by have := k1.1; omega) k1 k2
      have lt := zt_sum_lt (p := fun m => if zm_st c m ∧ zm_o c m 1 = s ∧ f k < f m then 1 else 0) (q := fun m => if zm_st c m ∧ zm_o c m 1 = s ∧ B ≤ f m then 1 else 0) (j := k.toNat) (by
        have ek : ((k.toNat : Nat) : Int) = k := by have := k1.1; omega
        rw [ek, if_neg (fun z => by have := z.2.2; omega), if_pos ⟨k1, k2, by omega⟩]
        decide) 48 (by have := k1.1; omega) (fun i _ => zt_ind (fun z => ⟨z.1, z.2.1, by have := z.2.2; omega⟩))
      have e1 : zt_rank c s f k + 1 ≤ zt_cge c s f B := lt
      omega
    · rw [b1, if_neg (zt_r0 U b2), zm_e (zl_gI gL (zt_r_l la b2.1) 14), hf _ b2, zm_w (by omega)]
      have em : ((m.toNat : Nat) : Int) = m := by have := b2.1; omega
      have m48 : m.toNat < 48 := by have := b2.1; omega
      have ec2 : zt_cge c s f (f m) = j + 1 := by
        have up := zt_sum_up (f := fun x => if zm_st c x ∧ zm_o c x 1 = s ∧ f m ≤ f x then 1 else 0) (g := fun x => if zm_st c x ∧ zm_o c x 1 = s ∧ B ≤ f x then 1 else 0) (j := m.toNat) (by
          rw [em, if_neg (fun z => by have := z.2.2; omega), if_pos ⟨b2, b3, Int.le_refl _⟩]
          rfl) 48 (fun x hx hxm => zt_ind2 ⟨fun z => ⟨z.1, z.2.1, by have := z.2.2; omega⟩, fun z => ⟨z.1, z.2.1, by
            have z3 := z.2.2
            by_cases lt : f (x : Int) < B
            · have := b5 (x : Int) (by omega) z.1 z.2.1 lt
              have e3 := inj (x : Int) m z.1 b2 z.2.1 b3 (by omega)
              omega
            · omega⟩⟩)
        rw [if_pos m48] at up
        have e1 : zt_cge c s f B = zt_cge c s f (f m) - 1 := up
        omega
      have er : zt_rank c s f m = j := by
        have eq : zt_rank c s f m = zt_cge c s f B := zm_sum_cg 48 (fun x hx => zt_ind2 ⟨fun z => ⟨z.1, z.2.1, by
          have z3 := z.2.2
          by_cases lt : f (x : Int) < B
          · have := b5 (x : Int) (by omega) z.1 z.2.1 lt
            omega
          · omega⟩, fun z => ⟨z.1, z.2.1, by have := z.2.2; omega⟩⟩)
        omega
      exact ih (j + 1) (f m) _ (by omega) (by omega) ec2 (fun _ => ⟨m, rfl, b2, b3, rfl, by omega⟩)
/-- the n-th child: of the class -/
theorem zt_C0_childOf {d : Nat} (gL : zt_L h) (H : zt_H a c h) (b : c 2 < 2000000000) {s : Int} (hs : zm_st c s) {n : Int} (hn : n < 1000) (f : Int → Int) (hf : ∀ t, zm_st c t → zt_isla c t (f t)) : ∃ v g, C0_childOf (d + 3) a (zt_r a s) n h = some (v, g) ∧ zt_n14 h g ∧ ((v = 0 ∧ ∀ k, zm_st c k → zm_o c k 1 = s → zt_rank c s f k ≠ n) ∨ ∃ k, v = zt_r a k ∧ zm_st c k ∧ zm_o c k 1 = s ∧ zt_rank c s f k = n) := by
  have U := zt_H_U H
  have la := zt_U_la U
  have W := zt_U_W U
  have V := zt_H_V H
  have c0 := zt_V_c0 V
  have lS := zt_r_l la hs.1
  have rk0 : ∀ k, 0 ≤ zt_rank c s f k := fun k => by
    have := zm_sum_b (f := fun m => if zm_st c m ∧ zm_o c m 1 = s ∧ f k < f m then 1 else 0) (a := 0) (b := 1) 48 (fun j _ => by
      split <;> omega)
    unfold zt_rank
    omega
  have go : zm_R (E0_childOf (d + 2) a (zt_r a s) n h) (zm_N fun v g => zt_n14 h g ∧ ((v = 0 ∧ ∀ k, zm_st c k → zm_o c k 1 = s → zt_rank c s f k ≠ n) ∨ ∃ k, v = zt_r a k ∧ zm_st c k ∧ zm_o c k 1 = s ∧ zt_rank c s f k = n)) := by
    rw [qE0_childOf]
    refine zm_if (fun q => zm_iN ⟨zt_n14_r h, Or.inl ⟨rfl, fun k _ _ z => by have := rk0 k; omega⟩⟩) (fun n0 => ?_)
    rw [zm_e (zl_gI gL lS 11), zt_S_ch (zt_U_st U s hs)]
    refine zm_if (fun _ => ?_) (fun q => zm_iN ⟨zt_n14_r h, Or.inl ⟨rfl, fun k k1 k2 z => ?_⟩⟩)
    · obtain ⟨g, e1, f1, i1⟩ := zt_findNewest (d := d) gL U (fun t ht => (zt_V_vb V t ht).1)
      have L1 := zt_n14_L f1 gL
      have U1 := zt_U_q U (zt_n14_q f1)
      have ef : ∀ t, zm_st c t → zv_I g (zt_r a t) 14 = f t := fun t ht => zt_isla_u (i1 t ht) (hf t ht)
      have ec : zv_I g (a + 17) 4 = c 2 := by
        rw [zt_n14_i f1 _ _ (fun q => absurd q.2 (by decide))]
        exact zt_V_ct V
      rw [zm_e e1, zm_e (zl_gF L1 la 7 17), zm_e (zl_gI L1 (zt_vis_l la).1 4), ec, zm_w (by omega)]
      have z0 : zt_cge c s f (c 2 + 1) = 0 := by
        have e0 : zt_cge c s f (c 2 + 1) = zm_sum (fun _ => (0 : Int)) 48 := zm_sum_cg 48 (fun x hx => if_neg (fun z => by
          obtain ⟨⟨k, k1, k2, k3⟩, _⟩ := hf (x : Int) z.1
          have := (zt_V_vb V k k1).2
          have := z.2.2
          omega))
        rw [e0]
        rfl
      refine zm_mono (zt_co34 (d := d) L1 U1 hs f ef (fun k m k1 m1 k2 m2 e => zt_la_inj W (zt_V_vd V) k1 m1 k2 m2 (hf k k1) (by rw [e]; exact hf m m1)) ⟨by omega, hn⟩ (n + 1).toNat 0 (c 2 + 1) 0 (Int.le_refl _) (by omega) z0 (fun q => absurd q (by decide))) ?_
      rintro ⟨ov, g'⟩ ⟨v, e, eg, w⟩
      dsimp only at e eg
      subst eg
      exact ⟨v, e, f1, w⟩
    · have lt := zt_sum_lt (p := fun m => if zm_st c m ∧ zm_o c m 1 = s ∧ f k < f m then 1 else 0) (q := fun m => if zm_st c m ∧ zm_o c m 1 = s then 1 else 0) (j := k.toNat) (by
        have ek : ((k.toNat : Nat) : Int) = k := by have := k1.1; omega
        rw [ek, if_neg (fun z => by have := z.2.2; omega), if_pos ⟨k1, k2⟩]
        decide) 48 (by have := k1.1; omega) (fun i _ => zt_ind (fun z => ⟨z.1, z.2.1⟩))
      have e1 : zt_rank c s f k + 1 ≤ zm_nch c s := lt
      omega
  obtain ⟨q, e, w⟩ := zm_cN (P := fun v g => zt_n14 h g ∧ ((v = 0 ∧ ∀ k, zm_st c k → zm_o c k 1 = s → zt_rank c s f k ≠ n) ∨ ∃ k, v = zt_r a k ∧ zm_st c k ∧ zm_o c k 1 = s ∧ zt_rank c s f k = n)) (fun e => lC0_childOf (d := d + 2) (a0 := a) (a1 := zt_r a s) (a2 := n) (zl_ob gL la) e) go
  exact ⟨q.1, q.2, e, w.1, w.2⟩
end
/-- both find the same child, or none -/
theorem zt_rank_u {c : Nat → Int} {s : Int} {f : Int → Int} (inj : ∀ k m, zm_st c k → zm_st c m → zm_o c k 1 = s → zm_o c m 1 = s → f k = f m → k = m) {k m : Int} (hk : zm_st c k) (hm : zm_st c m) (pk : zm_o c k 1 = s) (pm : zm_o c m 1 = s) (e : zt_rank c s f k = zt_rank c s f m) : k = m := by
  have lt : ∀ x y, zm_st c x → zm_st c y → zm_o c x 1 = s → zm_o c y 1 = s → f x < f y → zt_rank c s f y + 1 ≤ zt_rank c s f x := fun x y hx hy px py l => zt_sum_lt (p := fun m => if zm_st c m ∧ zm_o c m 1 = s ∧ f y < f m then 1 else 0) (q := fun m => if zm_st c m ∧ zm_o c m 1 = s ∧ f x < f m then 1 else 0) (j := y.toNat) (by
    have ek : ((y.toNat : Nat) : Int) = y := by have := hy.1; omega
    rw [ek, if_neg (fun z => by have := z.2.2; omega), if_pos ⟨hy, py, l⟩]
    decide) 48 (by have := hy.1; omega) (fun i _ => zt_ind (fun z => ⟨z.1, z.2.1, by have := z.2.2; omega⟩))
  by_cases e1 : f k = f m
  · exact inj k m hk hm pk pm e1
  · by_cases l : f k < f m
    · have := lt k m hk hm pk pm l; omega
    · have := lt m k hm hk pm pk (by omega); omega
theorem zj_child {d D : Nat} {a : Nat} {c : Nat → Int} {g k : zv_H} (hA : zc_A g) (H : zt_H a c g) (hM : zm_M k) (hc : zv_I k 348 = c) (b : c 2 < 2000000000) {s : Int} (hs : zm_st c s) {n : Int} (rn : zv_rg n) (hn : n < 1000) : ∃ v g' v', C0_childOf (d + 3) a (zt_r a s) n g = some (v, g') ∧ zt_n14 g g' ∧ zc_Q g g' ∧ C9_childOf (D + 4) 347 s n k = some (v', k) ∧ ((v = 0 ∧ v' = -1) ∨ (zm_st c v' ∧ zm_o c v' 1 = s ∧ v = zt_r a v')) := by
  have W := zt_U_W (zt_H_U H)
  have la := zt_U_la (zt_H_U H)
  obtain ⟨f, hf⟩ := zt_la_ex hM hc W
  obtain ⟨v, g', e1, n1, r1⟩ := zt_C0_childOf (d := d) (zt_L_A hA) H b hs hn f hf
  obtain ⟨q, e3, Q, _⟩ := zc_childOf (d := d) hA la (zt_r_l la hs.1) rn
  have eq := Option.some.inj (e1.symm.trans e3)
  subst eq
  obtain ⟨v', e2, r2⟩ := zt_childOf hM hc W D s n f hf
  refine ⟨v, g', v', e1, n1, Q, e2, ?_⟩
  rcases r1 with ⟨a1, a2⟩ | ⟨m, a1, a2, a3, a4⟩
  · rcases r2 with ⟨b1, _⟩ | ⟨b1, b2, b3⟩
    · exact Or.inl ⟨a1, b1⟩
    · exact absurd b3 (a2 v' b1 b2)
  · rcases r2 with ⟨_, b2⟩ | ⟨b1, b2, b3⟩
    · exact absurd a4 (b2 m a2 a3)
    · have e := zt_rank_u (fun k m k1 m1 k2 m2 e => zt_la_inj W (zt_V_vd (zt_H_V H)) k1 m1 k2 m2 (hf k k1) (by rw [e]; exact hf m m1)) a2 b1 a3 b2 (a4.trans b3.symm)
      rw [← e]
      exact Or.inr ⟨a2, a3, a1⟩
theorem zt_Z_pre {a : Nat} {y : Int} {g g1 k : zv_H} {q q' : Int × zv_H} (X : zc_X g g1) (kk : zt_k a g g1) (Z : zt_Z a y g1 k q q') : zt_Z a y g k q q' := by
  have X2 := zt_Z_X Z
  have k2 := zt_Z_k Z
  exact ⟨zc_X_t X X2, zt_k_t kk k2, zt_Z_F Z, zt_Z_a1 Z, zt_Z_H Z, zt_Z_g1 Z, zt_Z_g2 Z⟩
theorem zt_st_Ln {c : Nat → Int} {s x : Int} {l : List Int} (hl : zm_Ln c (s :: l) s) (hx : zm_st c x) (e : zm_o c x 1 = s) : zm_Ln c (x :: s :: l) x := by
  have := hx.1
  refine ⟨⟨rfl, by omega, by omega⟩, ?_⟩
  rw [e]
  exact hl
theorem zj_redo26 {d D : Nat} {a : Nat} {c : Nat → Int} {g k : zv_H} (H : zt_H a c g) (hM : zm_M k) (hc : zv_I k 348 = c) (b : c 2 < 2000000000) {fi : Int} : ∀ (n : Nat) (i : Int) (s x : Int) (l : List Int) (v : Nat) (g1 : zv_H), zm_Ln c (s :: l) s → zm_st c s → c 0 ∈ l → 48 ≤ n + l.length → (0 ≤ i ∧ i + 1 ≤ l.length) → zm_o c s 6 = fi → zc_Q g g1 → zt_n14 g g1 → ((v = 0 ∧ x = -1) ∨ (zm_st c x ∧ zm_o c x 1 = s ∧ v = zt_r a x)) → ∃ q q', L0_stepOn_26 (d + 3) a (zt_r a s) v i g1 = some (some (zv_i q.1), q.2) ∧ L9_redoNow_35 (D + 4) 347 s fi x k = some (some (zv_i q'.1), q'.2) ∧ zt_Z a 1 g k q q' := by
  have U := zt_H_U H
  have W := zt_U_W U
  have la := zt_U_la U
  intro n
  induction n with
  | zero =>
    intro i s x l v g1 hl hs _ hn
    have := zt_dep W hs hl
    omega
  | succ n ih =>
    intro i s x l v g1 hl hs m0 hn hi e6 Q n1 hv
    have L1 := zt_L_A Q.2
    have H1 := zt_H_q H (zt_n14_q n1)
    have U1 := zt_H_U H1
    have dep := zt_dep W hs hl
    have ne : s ≠ c 0 := fun e => by
      have nd := (zt_line_u W hs hl).1.1
      rw [e] at nd
      exact (List.nodup_cons.mp nd).1 m0
    have s0 : s ≠ 0 := fun e => by
      have h1 : zm_o c 0 1 = -1 := W.1.2.1.2.1
      have h2 := hl.2
      rw [e, h1] at h2
      cases l with
      | nil => cases m0
      | cons y l =>
        have e3 : (-1 : Int) = y := h2.1.1
        have := h2.1.2.1
        omega
    have last : ∃ q q', L0_stepOn_62 (d + 3) a (zt_r a s) g1 = some (some (zv_i q.1), q.2) ∧ L9_redoNow_62 (D + 4) 347 s k = some (some (zv_i q'.1), q'.2) ∧ zt_Z a 1 g k q q' := by
      obtain ⟨k', e1, F1, c1⟩ := zm_visits hM hc (D + 2) hs.1
      rw [if_neg ne] at c1
      refine ⟨(s, zt_mv a c s g1), (s, k'), ?_, ?_, zt_Z_pre (zc_QX Q) (zt_q_k a (zt_n14_q n1)) (zt_Z_mv Q.2 H1 hc b hs ne F1 c1 hs.1.1)⟩
      · rw [qL0_stepOn_62, zm_e (zt_C0_moveTo L1 U1 (zt_h0 H1) hs), zm_e (zl_gI (zt_mv_L L1 la) (zt_r_l la hs.1) 0), zt_mv_num U1 hs]
      · rw [qL9_redoNow_62, zm_e e1]
    rw [qL0_stepOn_26, if_pos (by omega), qL9_redoNow_35]
    rcases hv with ⟨v0, x0⟩ | ⟨hx, px, vx⟩
    · rw [if_pos v0, if_pos (by omega)]
      exact last
    · have x0 : x ≠ 0 := fun e => by
        have h1 : zm_o c 0 1 = -1 := W.1.2.1.2.1
        rw [e, h1] at px
        have := hs.1
        omega
      have lX := zt_r_l la hx.1
      have lS := zt_r_l la hs.1
      have fx := (zm_fp W.1 hx x0).1
      have fs := (zm_fp W.1 hs s0).1
      rw [vx, if_neg (zt_r0 U hx), zm_e (zl_gR L1 lX 5), zm_e (zl_gR L1 lS 5), zt_S_fi (zt_U_st U1 x hx), zt_S_fi (zt_U_st U1 s hs), if_neg (fun q => by have := zt_r1000 U fx; have := zt_r1000 U fs; omega), if_neg (show ¬ x < 0 by have := hx.1; omega), zm_e (zm_of hM _ (zm_st48 hx) (by decide)), hc]
      dsimp only
      rw [e6] at fs ⊢
      by_cases c1 : zm_o c x 6 = fi
      · rw [if_pos (by rw [c1]), if_pos c1]
        obtain ⟨v2, g2, x2, a1, a2, a3, a4, a5⟩ := zj_child (d := d) (D := D) Q.2 H1 hM hc b hx (n := 0) (by unfold zv_rg; omega) (by decide)
        have lx := zt_st_Ln hl hx px
        have dx := zt_dep W hx lx
        rw [List.length_cons] at dx
        rw [zm_e a1, zm_e a4]
        dsimp only
        rw [zm_w (by omega)]
        exact ih (i + 1) x x2 (s :: l) v2 g2 lx hx (List.mem_cons_of_mem _ m0) (by rw [List.length_cons]; omega) (by rw [List.length_cons]; omega) c1 (zc_Q_t Q a3) (zt_n14_t n1 a2) a5
      · rw [if_neg (fun q => c1 (zt_r_inj la fx.1 fs.1 q)), if_neg c1]
        exact last
theorem zj_redo {d D : Nat} {a : Nat} {c : Nat → Int} {g k : zv_H} (hA : zc_A g) (H : zt_H a c g) (hM : zm_M k) (hc : zv_I k 348 = c) (b : c 2 < 2000000000) : ∃ q q', C0_stepOn (d + 4) a g = some q ∧ C9_redoNow (D + 5) 347 k = some q' ∧ zt_Z a 1 g k q q' := by
  have U := zt_H_U H
  have W := zt_U_W U
  have la := zt_U_la U
  have gL := zt_L_A hA
  have hh := W.2.1
  have r0 : zv_rg 0 := by unfold zv_rg; omega
  obtain ⟨v, g1, x, a1, a2, a3, a4, a5⟩ := zj_child (d := d) (D := D) hA H hM hc b hh (n := 0) r0 (by decide)
  have H1 := zt_H_q H (zt_n14_q a2)
  rcases a5 with ⟨v0, x0⟩ | ⟨hx, px, vx⟩
  · refine ⟨(-5, g1), (-1, zv_sI k 347 3 5), lC0_stepOn (zl_ob gL la) ?_, lC9_redoNow (zm_ob hM) ?_, zt_Z_pre (zc_QX a3) (zt_q_k a (zt_n14_q a2)) (zt_Z_rf (by decide) a3.2 H1 hc (by decide) 5)⟩
    · rw [qE0_stepOn, zm_e (zl_gR gL la 10), zt_U_he U, zm_e a1]
      dsimp only
      rw [if_pos v0]
    · rw [qE9_redoNow, zm_e (zm_here hM _), hc]
      dsimp only
      rw [zm_e a4]
      dsimp only
      rw [x0, if_pos (by decide), zm_e (zm_refuse hM _ 5)]
  · obtain ⟨v2, g2, x2, b1, b2, b3, b4, b5⟩ := zj_child (d := d) (D := D) a3.2 H1 hM hc b hx (n := 0) r0 (by decide)
    obtain ⟨l, hl, _⟩ := zt_line W hh
    have lx := zt_st_Ln hl hx px
    obtain ⟨q, q', c1, c2, Z⟩ := zj_redo26 (d := d) (D := D) H hM hc b 48 0 x x2 (c 0 :: l) v2 g2 lx hx List.mem_cons_self (by omega) (by rw [List.length_cons]; omega) rfl (zc_Q_t a3 b3) (zt_n14_t a2 b2) b5
    refine ⟨q, q', lC0_stepOn (zl_ob gL la) ?_, lC9_redoNow (zm_ob hM) ?_, Z⟩
    · rw [qE0_stepOn, zm_e (zl_gR gL la 10), zt_U_he U, zm_e a1]
      dsimp only
      rw [vx, if_neg (zt_r0 U hx), zm_e b1]
      exact c1
    · rw [qE9_redoNow, zm_e (zm_here hM _), hc]
      dsimp only
      rw [zm_e a4]
      dsimp only
      rw [if_neg (by have := hx.1; omega), zm_e (zm_of hM _ (zm_st48 hx) (by decide)), hc]
      dsimp only
      rw [zm_e b4]
      exact c2
end
/-! A29.head -/
section
/-! ===== the tie: what changes the head alone ===== -/
theorem zt_o_cc {c c' : Nat → Int} (ec : ∀ k : Nat, 432 ≤ k → k < 4236 → ¬ (4080 ≤ k ∧ k < 4156) → c' k = c k) {s w : Int} (hs : s ≤ 47) (hw : w < 76) : zm_o c' s w = zm_o c s w := ec _ (by omega) (by omega) (by omega)
theorem zt_H_hd {a : Nat} {c c' : Nat → Int} {g g' : zv_H} (H : zt_H a c g) (hA' : zc_A g') (W' : zm_W c') (ec : ∀ k : Nat, 432 ≤ k → k < 4236 → ¬ (4080 ≤ k ∧ k < 4156) → c' k = c k) (e0 : c' 0 = c 0) (e2 : c' 2 = c 2) (e4 : c' 4 = c 4) (e5 : c' 5 = c 5) (e8 : ∀ k : Nat, 8 ≤ k → k < 408 → c' k = c k) (fI : ∀ r k, ¬ (r = a ∧ k = 11) → r ≠ a + 14 → r ≠ a + 15 → r ≠ a + 16 → zv_I g' r k = zv_I g r k) (fJ : ∀ r k, zv_J g' r k = zv_J g r k) (fR : ∀ r k, zv_R g' r k = zv_R g r k) (nw : zv_I g' a 11 = c' 1) (N' : zt_N a c' g') : zt_H a c' g' := by
  have U := zt_H_U H
  have W := zt_U_W U
  have la := zt_U_la U
  have V := zt_H_V H
  have oc : ∀ {s w : Int}, s ≤ 47 → w < 76 → zm_o c' s w = zm_o c s w := fun hs hw => zt_o_cc ec hs hw
  have st : ∀ {t : Int}, zm_st c' t ↔ zm_st c t := by
    intro t
    constructor
    · intro q
      exact ⟨q.1, by rw [← oc (s := t) (w := 0) (by have := q.1; omega) (by decide)]; exact q.2⟩
    · intro q
      exact ⟨q.1, by rw [oc (s := t) (w := 0) (by have := q.1; omega) (by decide)]; exact q.2⟩
  have ag : ∀ t, zm_st c t → zm_ag c c' t := fun t q w _ w1 _ => oc (by have := q.1; omega) w1
  have hn : ∀ n k, n ≤ 27 → ¬ (n = 0 ∧ k = 11) → n ≠ 14 → n ≠ 15 → n ≠ 16 → zv_I g' (a + n) k = zv_I g (a + n) k := fun n k _ h0 h14 h15 h16 => fI _ k (fun q => h0 ⟨by omega, q.2⟩) (by omega) (by omega) (by omega)
  refine ⟨?_, ?_, ⟨?_, by rw [e2]; exact zt_V_c0 V, by rw [e5, e2]; exact zt_V_c5 V, fun i hi => ?_, fun i hi => ?_, fun t ht => ?_, fun t u ht hu e => ?_⟩, N'⟩
  · refine zt_U_mk la W' hA' (fun i hi => ?_) (fun t ht => ?_) ?_ nw ?_
    · have b := fun n (n0 : n ≤ 27) (n1 : n ≠ 1) (n2 : n ≠ 2) (n3 : n ≠ 3) => zt_sepH (a := a) (i := i) (n := n) (x := 0) n0 (by decide) n1 n2 n3
      rw [fI (zc_stt a i) 3 (fun q => absurd q.2 (by decide)) (fun q => b 14 (by decide) (by decide) (by decide) (by decide) q.symm) (fun q => b 15 (by decide) (by decide) (by decide) (by decide) q.symm) (fun q => b 16 (by decide) (by decide) (by decide) (by decide) q.symm), zt_U_lv U i hi]
      exact (oc (by omega) (by decide)).symm
    · have ht' := st.mp ht
      obtain ⟨l, hl, ok, _⟩ := zt_line W ht'
      have S := zt_U_st U t ht'
      have cell : ∀ x k, x ≤ 2 → zv_I g' (zt_r a t + x) k = zv_I g (zt_r a t + x) k := fun x k hx => by
        have b := fun n (n0 : n ≤ 27) (n1 : n ≠ 1) (n2 : n ≠ 2) (n3 : n ≠ 3) => zt_hs (a := a) (n := n) ht'.1 n0 hx n1 n2 n3
        exact fI _ k (fun q => b 0 (by decide) (by decide) (by decide) (by decide) q.1.symm) (fun q => b 14 (by decide) (by decide) (by decide) (by decide) q.symm) (fun q => b 15 (by decide) (by decide) (by decide) (by decide) q.symm) (fun q => b 16 (by decide) (by decide) (by decide) (by decide) q.symm)
      refine zt_S0_cg W ht' (zt_S_0 S) hl (fun u hu => ag u (ok.2.2.1 u hu)) ?_ (fun k _ _ _ _ => cell 0 k (by decide)) (fun k => cell 1 k (by decide)) (fun k => cell 2 k (by decide)) (fun k => fJ _ k) (fun k => fR _ k) (fun _ k _ => hn 5 _ (by decide) (by omega) (by decide) (by decide) (by decide))
      rw [oc (by have := ht'.1; omega) (by decide)]
      exact (cell 0 13 (by decide)).trans (zt_S_vi S)
    · rw [e0, fR]; exact zt_U_he U
    · refine (hn 0 12 (by decide) (by omega) (by decide) (by decide) (by decide)).trans ((zt_U_ct U).trans ?_)
      exact zm_sum_cg 48 (fun j hj => (oc (by omega) (by decide)).symm)
  · exact zt_J_c (zt_J_cg (zt_H_J H) (fun r k r1 r2 => by
      obtain ⟨n, rfl⟩ : ∃ n, r = a + n := ⟨r - a, by omega⟩
      exact hn n k (by omega) (by omega) (by omega) (by omega) (by omega))) W.2.2.2.1.2 e4 e8
  · rw [hn 17 4 (by decide) (by omega) (by decide) (by decide) (by decide), e2]; exact zt_V_ct V
  · have i40 : i < 40 := by
      rw [e5] at hi
      have := zt_V_c5 V
      split at this <;> omega
    rw [e5] at hi
    rw [hn 18 _ (by decide) (by omega) (by decide) (by decide) (by decide), e2, ec _ (by omega) (by omega) (by omega)]; exact zt_V_ls V i hi
  · have i40 : i < 40 := by
      rw [e5] at hi
      have := zt_V_c5 V
      split at this <;> omega
    rw [e5] at hi
    rw [hn 19 _ (by decide) (by omega) (by decide) (by decide) (by decide), e2, ec _ (by omega) (by omega) (by omega)]; exact zt_V_lt V i hi
  · have t47 := ht.1
    rw [oc (by omega) (by decide), e2]
    exact zt_V_vb V t (st.mp ht)
  · have t47 := ht.1
    have u47 := hu.1
    rw [oc (by omega) (by decide), oc (by omega) (by decide)] at e
    exact zt_V_vd V t u (st.mp ht) (st.mp hu) e
/-- all that changed lies in half a -/
theorem zt_k_of {a : Nat} {g g' : zv_H} (f1 : g'.1 = g.1) (f2 : g'.2.2.2.2 = g.2.2.2.2) (fI : ∀ r k, ¬ zt_in a r → zv_I g' r k = zv_I g r k) (fJ : ∀ r k, ¬ zt_in a r → zv_J g' r k = zv_J g r k) (fR : ∀ r k, ¬ zt_in a r → zv_R g' r k = zv_R g r k) : zt_k a g g' := ⟨f1, f2, fun r k _ hr => fI r k hr, fun r _ hr => funext fun k => fJ r k hr, fun r _ _ hr => funext fun k => fR r k hr⟩
/-- time goes by -/
theorem zt_pass {d : Nat} {a : Nat} {c : Nat → Int} {g : zv_H} (hA : zc_A g) (H : zt_H a c g) {x : Int} (hx : 0 ≤ x ∧ x ≤ 999) (b : 0 ≤ c 1 ∧ c 1 < 2000000000) : C0_passTime (d + 2) a x g = some (c 1 + x, zv_sI g a 11 (c 1 + x)) ∧ zc_Q g (zv_sI g a 11 (c 1 + x)) ∧ zt_k a g (zv_sI g a 11 (c 1 + x)) ∧ zt_H a (zm_u c 1 (c 1 + x)) (zv_sI g a 11 (c 1 + x)) := by
  have U := zt_H_U H
  have W := zt_U_W U
  have la := zt_U_la U
  have gL := zt_L_A hA
  have h9 := zc_lh la
  have e : C0_passTime (d + 2) a x g = some (c 1 + x, zv_sI g a 11 (c 1 + x)) := by
    refine lC0_passTime (zl_ob gL la) ?_
    rw [qE0_passTime, zm_e (zc_within g x 0 999), if_pos hx]
    dsimp only
    rw [if_neg (by decide), zm_e (zl_gI gL la 11), zt_U_nw U, zm_w (by omega), zm_e (zl_pI gL la 11 _), zm_e (zl_gI (g := zv_sI g a 11 (c 1 + x)) gL la 11), zy_I]
  obtain ⟨q, e2, Q, _⟩ := zc_C0_passTime (d := d) hA la (a1 := x) (by unfold zv_rg; omega)
  rw [e] at e2
  cases e2
  refine ⟨e, Q, zt_k_of rfl rfl (fun r k hr => zy_In _ _ (fun q => hr (by rw [q.1]; exact zt_inA la (n := 0) (by decide)))) (fun _ _ _ => rfl) (fun _ _ _ => rfl), ?_⟩
  have ec : ∀ k : Nat, k ≠ 1 → zm_u c 1 (c 1 + x) k = c k := fun k hk => if_neg hk
  have W' : zm_W (zm_u c 1 (c 1 + x)) := by
    have wh := W.2.2
    refine zm_W_alt W (fun k k1 _ => ec k (by omega)) ?_ ?_ (ec 4 (by decide)) (fun k k1 _ => ec k (by omega)) ?_
    · rw [ec 0 (by decide)]; exact W.2.1
    · rw [ec 3 (by decide)]; exact wh.1
    · rw [ec 5 (by decide)]; exact wh.2.2.2
  refine zt_H_hd H Q.2 W' (fun k k1 _ _ => ec k (by omega)) (ec 0 (by decide)) (ec 2 (by decide)) (ec 4 (by decide)) (ec 5 (by decide)) (fun k k1 _ => ec k (by omega)) (fun r k q _ _ _ => zy_In _ _ q) (fun _ _ => rfl) (fun _ _ => rfl) (zy_I _ _ _ _) (zt_N_c (zt_H_N H) W.2.2.1.2 (ec 3 (by decide)) (fun k k1 _ => ec k (by omega)) (fun r k r1 r2 => zy_In _ _ (fun q => by omega)))
theorem zt_pass_no {d : Nat} {a : Nat} {g : zv_H} (gL : zt_L g) (la : zv_lay a = (1, 0)) {x : Int} (hx : ¬ (0 ≤ x ∧ x ≤ 999)) : C0_passTime (d + 2) a x g = some (-1, g) := by
  refine lC0_passTime (zl_ob gL la) ?_
  rw [qE0_passTime, zm_e (zc_within g x 0 999), if_neg hx]
  rfl
/-! words as numbers -/
def zt_ls (m : Nat) (wd : Nat → Int) : List Int := (List.range m).map wd
theorem zt_ls_len (m : Nat) (wd : Nat → Int) : (zt_ls m wd).length = m := by
  unfold zt_ls
  rw [List.length_map, List.length_range]
theorem zt_ls_get {m : Nat} (wd : Nat → Int) {k : Nat} (hk : k < m) : (zt_ls m wd)[k]? = some (wd k) := by
  unfold zt_ls
  rw [List.getElem?_map, List.getElem?_range hk]
  rfl
theorem zt_ls_mem {m : Nat} {wd : Nat → Int} {x : Int} (h : x ∈ zt_ls m wd) : ∃ k, k < m ∧ x = wd k := by
  unfold zt_ls at h
  obtain ⟨k, k1, k2⟩ := List.mem_map.mp h
  exact ⟨k, List.mem_range.mp k1, k2.symm⟩
theorem zt_key_lt : ∀ w : List Int, (∀ x ∈ w, 0 ≤ x ∧ x < 26) → 0 ≤ zt_key w ∧ zt_key w < ((32 ^ w.length : Nat) : Int)
  | [], _ => ⟨Int.le_refl _, by decide⟩
  | x :: w, h => by
    have ih := zt_key_lt w (fun y hy => h y (List.mem_cons_of_mem _ hy))
    have hx := h x List.mem_cons_self
    have e : zt_key (x :: w) = (x + 1) + 32 * zt_key w := rfl
    rw [e, List.length_cons, Nat.pow_succ]
    have p : ((32 ^ w.length * 32 : Nat) : Int) = ((32 ^ w.length : Nat) : Int) * 32 := by
      rw [Int.natCast_mul]
      rfl
    rw [p]
    omega
theorem zt_key_5 {w : List Int} (h : ∀ x ∈ w, 0 ≤ x ∧ x < 26) (hl : w.length ≤ 5) : 0 ≤ zt_key w ∧ zt_key w < 33554432 := by
  have k := zt_key_lt w h
  have p : 32 ^ w.length ≤ 32 ^ 5 := Nat.pow_le_pow_right (by decide) hl
  have e5 : (32 : Nat) ^ 5 = 33554432 := by decide
  omega
theorem zt_key_inj : ∀ w w' : List Int, (∀ x ∈ w, 0 ≤ x ∧ x < 26) → (∀ x ∈ w', 0 ≤ x ∧ x < 26) → zt_key w = zt_key w' → w = w'
  | [], [], _, _, _ => rfl
  | [], y :: w', _, h, e => by
    have k := (zt_key_lt w' (fun z hz => h z (List.mem_cons_of_mem _ hz))).1
    have hy := h y List.mem_cons_self
    have e2 : (0 : Int) = (y + 1) + 32 * zt_key w' := e
    omega
  | x :: w, [], h, _, e => by
    have k := (zt_key_lt w (fun z hz => h z (List.mem_cons_of_mem _ hz))).1
    have hx := h x List.mem_cons_self
    have e2 : (x + 1) + 32 * zt_key w = (0 : Int) := e
    omega
  | x :: w, y :: w', h, h', e => by
    have hx := h x List.mem_cons_self
    have hy := h' y List.mem_cons_self
    have e2 : (x + 1) + 32 * zt_key w = (y + 1) + 32 * zt_key w' := e
    have e3 : x = y := by omega
    rw [e3, zt_key_inj w w' (fun z hz => h z (List.mem_cons_of_mem _ hz)) (fun z hz => h' z (List.mem_cons_of_mem _ hz)) (by omega)]
theorem zt_pkd_inj {w w' : List Int} (h : ∀ x ∈ w, 0 ≤ x ∧ x < 26) (h' : ∀ x ∈ w', 0 ≤ x ∧ x < 26) (e : zt_pkd w = zt_pkd w') : w = w' := by
  have := zt_key_inj w.reverse w'.reverse (fun x hx => h x (List.mem_reverse.mp hx)) (fun x hx => h' x (List.mem_reverse.mp hx)) e
  exact List.reverse_inj.mp this
theorem zt_pkd_a (w : List Int) (x : Int) : zt_pkd (w ++ [x]) = (x + 1) + 32 * zt_pkd w := by
  unfold zt_pkd
  rw [List.reverse_append]
  rfl
/-- K << 5 | y -/
theorem zt_orshl {K y : Int} (hK : 0 ≤ K ∧ K < 33554432) (hy : 0 ≤ y ∧ y < 32) : zv_or (zv_shl K 5) y = 32 * K + y := by
  have e5 : (Int32.ofInt 5 &&& 31) = (5 : Int32) := by decide
  have t1 : ∀ x : Int, 0 ≤ x → x < 2147483648 → (BitVec.ofInt 32 x).toNat = x.toNat := fun x h0 h1 => by
    rw [BitVec.toNat_ofInt]
    omega
  have s1 : zv_shl K 5 = 32 * K := by
    unfold zv_shl
    rw [e5]
    have b : ((Int32.ofInt K <<< (5 : Int32)).toBitVec).toNat = 32 * K.toNat := by
      show ((BitVec.ofInt 32 K) <<< 5).toNat = _
      rw [BitVec.toNat_shiftLeft, t1 K hK.1 (by omega), Nat.shiftLeft_eq]
      omega
    have := zc_toInt _ b (by omega)
    rw [show (Int32.ofInt K <<< (5 : Int32)).toInt = ((Int32.ofInt K <<< (5 : Int32)).toBitVec).toInt from rfl, this]
    omega
  rw [s1]
  unfold zv_or
  have b : ((Int32.ofInt (32 * K) ||| Int32.ofInt y).toBitVec).toNat = 32 * K.toNat + y.toNat := by
    rw [Int32.toBitVec_or, BitVec.toNat_or, show (Int32.ofInt (32 * K)).toBitVec.toNat = (32 * K).toNat from t1 _ (by omega) (by omega), show (Int32.ofInt y).toBitVec.toNat = y.toNat from t1 _ (by omega) (by omega)]
    have e := Nat.shiftLeft_add_eq_or_of_lt (b := y.toNat) (i := 5) (by omega) K.toNat
    rw [Nat.shiftLeft_eq] at e
    rw [show (32 * K).toNat = K.toNat * 2 ^ 5 by omega, ← e]
    omega
  have := zc_toInt _ b (by omega)
  rw [show (Int32.ofInt (32 * K) ||| Int32.ofInt y).toInt = ((Int32.ofInt (32 * K) ||| Int32.ofInt y).toBitVec).toInt from rfl, this]
  omega
/-- a word's letters -/
def zt_lw (m : Nat) (wd : Nat → Int) : Prop := ∀ k, k < m → 0 ≤ wd k ∧ wd k < 26
theorem zt_lw_m {m : Nat} {wd : Nat → Int} (h : zt_lw m wd) : ∀ x ∈ zt_ls m wd, 0 ≤ x ∧ x < 26 := fun x hx => by
  obtain ⟨k, k1, k2⟩ := zt_ls_mem hx
  rw [k2]
  exact h k k1
theorem zt_ls_drop {m : Nat} (wd : Nat → Int) {i : Nat} (hi : i < m) : (zt_ls m wd).drop i = wd i :: (zt_ls m wd).drop (i + 1) := by
  have hl : i < (zt_ls m wd).length := by rw [zt_ls_len]; exact hi
  rw [List.drop_eq_getElem_cons hl]
  have := zt_ls_get wd hi
  rw [List.getElem?_eq_getElem hl] at this
  rw [Option.some.inj this]
theorem zt_key24 {d : Nat} {g : zv_H} {r m : Nat} {wd : Nat → Int} (gL : zt_L g) (w : zt_wd r m wd g) (hm : m ≤ 6) (hl : zt_lw m wd) : ∀ i : Nat, i ≤ m → L7_key_24 (d + 1) r (zt_key ((zt_ls m wd).drop i)) ((i : Int) - 1) g = some (some (zv_i (zt_key (zt_ls m wd))), g) := by
  intro i
  induction i with
  | zero =>
    intro _
    rw [qL7_key_24, if_pos (by omega)]
    rfl
  | succ i ih =>
    intro hi
    have hb := hl i (by omega)
    have k5 := zt_key_5 (w := (zt_ls m wd).drop (i + 1)) (fun x hx => zt_lw_m hl x (List.mem_of_mem_drop hx)) (by rw [List.length_drop, zt_ls_len]; omega)
    have e2 : zt_key ((zt_ls m wd).drop i) = (wd i + 1) + 32 * zt_key ((zt_ls m wd).drop (i + 1)) := by
      rw [zt_ls_drop wd (by omega)]
      rfl
    have ih' := ih (by omega)
    rw [e2] at ih'
    rw [qL7_key_24, if_neg (by omega), show ((i + 1 : Nat) : Int) - 1 = (i : Int) by omega, zm_e (zt_C7_at gL w (by omega))]
    dsimp only
    rw [zm_w (x := wd i + 1) (by omega), zt_orshl k5 (by omega), zm_w (by omega), show 32 * zt_key ((zt_ls m wd).drop (i + 1)) + (wd i + 1) = (wd i + 1) + 32 * zt_key ((zt_ls m wd).drop (i + 1)) by omega]
    exact ih'
theorem zt_C7_key {d : Nat} {g : zv_H} {r m : Nat} {wd : Nat → Int} (gL : zt_L g) (w : zt_wd r m wd g) (hl : zt_lw m wd) : C7_key (d + 2) r g = some ((if 1 ≤ m ∧ m ≤ 6 then zt_key (zt_ls m wd) else 0), g) := by
  have l7 := zt_wd_l7 w
  refine lC7_key (zl_ob gL l7) ?_
  have m40 := zt_wd_m12 w
  rw [qE7_key, zm_e (zl_gI gL l7 1), zt_wd_sz w, zm_e (zc_within g m 1 6)]
  by_cases c : 1 ≤ m ∧ m ≤ 6
  · rw [if_pos c, if_pos (show (1 : Int) ≤ (m : Int) ∧ (m : Int) ≤ 6 by omega)]
    dsimp only
    rw [if_neg (by decide), zm_e (zl_gI gL l7 1), zt_wd_sz w, zm_w (by omega)]
    have := zt_key24 (d := d) gL w c.2 hl m (Nat.le_refl _)
    rw [List.drop_eq_nil_of_le (by rw [zt_ls_len]; omega)] at this
    exact this
  · rw [if_neg c, if_neg (show ¬ ((1 : Int) ≤ (m : Int) ∧ (m : Int) ≤ 6) by omega)]
    rfl
theorem zt_packed_l {h : zv_H} (hM : zm_M h) (d : Nat) {r : Nat} {L : Nat} (hl : zv_lay r = (2, L)) (hr : Nat.ble r 372 = true) {m : Nat} (hm : m ≤ L) (h6 : m ≤ 6) {wd : Nat → Int} (hw : zt_lw m wd) (he : ∀ j, j < m → zv_I h r j = wd j) : ∀ (n i : Nat), i + n = m → L9_packed_4 d r m (zt_pkd ((zt_ls m wd).take i)) i h = some (some (zv_i (zt_pkd (zt_ls m wd))), h) := by
  intro n
  induction n with
  | zero =>
    intro i hi
    rw [qL9_packed_4, if_neg (by omega), List.take_of_length_le (by rw [zt_ls_len]; omega)]
  | succ n ih =>
    intro i hi
    have hb := hw i (by omega)
    have k5 := zt_key_5 (w := ((zt_ls m wd).take i).reverse) (fun x hx => zt_lw_m hw x (List.mem_of_mem_take (List.mem_reverse.mp hx))) (by rw [List.length_reverse, List.length_take, zt_ls_len]; omega)
    have k5' : 0 ≤ zt_pkd ((zt_ls m wd).take i) ∧ zt_pkd ((zt_ls m wd).take i) < 33554432 := k5
    have e2 : zt_pkd ((zt_ls m wd).take (i + 1)) = (wd i + 1) + 32 * zt_pkd ((zt_ls m wd).take i) := by
      rw [List.take_add_one, zt_ls_get wd (by omega)]
      exact zt_pkd_a _ _
    have ih' := ih (i + 1) (by omega)
    rw [e2] at ih'
    rw [qL9_packed_4, if_pos (by omega), zm_e (zm_aI hM hl hr (by omega) (by omega)), show ((i : Nat) : Int).toNat = i by omega, he i (by omega), zm_w (x := 32 * zt_pkd ((zt_ls m wd).take i)) (by omega), zm_w (x := 32 * zt_pkd ((zt_ls m wd).take i) + wd i) (by omega), zm_w (x := 32 * zt_pkd ((zt_ls m wd).take i) + wd i + 1) (by omega), zm_w (x := (i : Int) + 1) (by omega), show (i : Int) + 1 = ((i + 1 : Nat) : Int) by omega, show 32 * zt_pkd ((zt_ls m wd).take i) + wd i + 1 = (wd i + 1) + 32 * zt_pkd ((zt_ls m wd).take i) by omega]
    exact ih'
theorem zt_packed {h : zv_H} (hM : zm_M h) (d : Nat) {r : Nat} {L : Nat} (hl : zv_lay r = (2, L)) (hr : Nat.ble r 372 = true) {m : Nat} (hm : m ≤ L) (h6 : m ≤ 6) {wd : Nat → Int} (hw : zt_lw m wd) (he : ∀ j, j < m → zv_I h r j = wd j) : C9_packed (d + 1) r m h = some (zt_pkd (zt_ls m wd), h) := by
  refine lC9_packed ?_
  rw [qE9_packed]
  exact zt_packed_l hM d hl hr hm h6 hw he m 0 (Nat.zero_add _)
end
/-! A30.name -/
section
/-! ===== the tie: names ===== -/
/-- the first of which it holds -/
def zt_ix (P : Nat → Prop) (n u : Int) : Prop := (u = -1 ∧ ∀ j : Nat, (j : Int) < n → ¬ P j) ∨ ∃ j : Nat, u = (j : Int) ∧ (j : Int) < n ∧ P j ∧ ∀ i : Nat, i < j → ¬ P i
theorem zt_ix_u {P : Nat → Prop} {n u u' : Int} (h : zt_ix P n u) (h' : zt_ix P n u') : u = u' := by
  rcases h with ⟨a1, a2⟩ | ⟨j, a1, a2, a3, a4⟩
  · rcases h' with ⟨b1, b2⟩ | ⟨i, b1, b2, b3, b4⟩
    · rw [a1, b1]
    · exact absurd b3 (a2 i b2)
  · rcases h' with ⟨b1, b2⟩ | ⟨i, b1, b2, b3, b4⟩
    · exact absurd a3 (b2 j a2)
    · have h1 : ¬ i < j := fun q => a4 i q b3
      have h2 : ¬ j < i := fun q => b4 j q a3
      omega
theorem zt_ix_cg {P Q : Nat → Prop} {n u : Int} (e : ∀ j : Nat, (j : Int) < n → (P j ↔ Q j)) (h : zt_ix P n u) : zt_ix Q n u := by
  rcases h with ⟨a1, a2⟩ | ⟨j, a1, a2, a3, a4⟩
  · exact Or.inl ⟨a1, fun j hj q => a2 j hj ((e j hj).mpr q)⟩
  · exact Or.inr ⟨j, a1, a2, (e j a2).mp a3, fun i hi q => a4 i hi ((e i (by omega)).mpr q)⟩
theorem zt_nm_l {a : Nat} (ha : zv_lay a = (1, 0)) : zv_lay (a + 14) = (1, 2) ∧ zv_lay (a + 15) = (2, 12) ∧ zv_lay (a + 16) = (2, 12) := by cases zc_lh ha with
  | inl e => rw [e]; exact ⟨rfl, rfl, rfl⟩
  | inr e => rw [e]; exact ⟨rfl, rfl, rfl⟩
section
variable {a : Nat} {c : Nat → Int} {g : zv_H}
theorem zt_indexOf_l {d : Nat} (gL : zt_L g) (la : zv_lay a = (1, 0)) {m : Nat} (hm : m ≤ 12) (sz : zv_I g (a + 14) 2 = m) (key : Int) : ∀ (n i : Nat), i + n = m → (∀ j, j < i → ¬ zv_I g (a + 15) j = key) → ∃ u, L2_indexOf_2 d (a + 14) key i g = some (some (zv_i u), g) ∧ zt_ix (fun j => zv_I g (a + 15) j = key) m u := by
  obtain ⟨l14, l15, l16⟩ := zt_nm_l la
  intro n
  induction n with
  | zero =>
    intro i hi no
    refine ⟨-1, ?_, Or.inl ⟨rfl, fun j hj => no j (by omega)⟩⟩
    rw [qL2_indexOf_2, zm_e (zl_gI gL l14 2), sz, if_neg (by omega)]
  | succ n ih =>
    intro i hi no
    rw [qL2_indexOf_2, zm_e (zl_gI gL l14 2), sz, if_pos (by omega), if_pos (by omega), zm_e (zl_gF gL l14 0 1), zm_e (zl_aI gL l15 (by omega) (by omega)), show ((i : Nat) : Int).toNat = i by omega]
    by_cases e : zv_I g (a + 15) i = key
    · rw [if_pos e]
      exact ⟨i, rfl, Or.inr ⟨i, rfl, by omega, e, no⟩⟩
    · rw [if_neg e, zm_w (by omega), show (i : Int) + 1 = ((i + 1 : Nat) : Int) by omega]
      refine ih (i + 1) (by omega) (fun j hj => ?_)
      by_cases z : j = i
      · rw [z]; exact e
      · exact no j (by omega)
theorem zt_indexOf {d : Nat} (gL : zt_L g) (H : zt_H a c g) (key : Int) : ∃ u, C2_indexOf (d + 1) (a + 14) key g = some (u, g) ∧ zt_ix (fun j => zv_I g (a + 15) j = key) (c 3) u := by
  have la := zt_U_la (zt_H_U H)
  have b := (zt_U_W (zt_H_U H)).2.2.1
  obtain ⟨m, em⟩ : ∃ m : Nat, c 3 = m := ⟨(c 3).toNat, by omega⟩
  obtain ⟨u, e, w⟩ := zt_indexOf_l (d := d) gL la (m := m) (by omega) (by rw [zt_N_sz (zt_H_N H), em]) key m 0 (Nat.zero_add _) (fun j hj => absurd hj (Nat.not_lt_zero _))
  refine ⟨u, lC2_indexOf (zl_ob gL (zt_nm_l la).1) ?_, by rw [em]; exact w⟩
  rw [qE2_indexOf]
  exact e
theorem zt_nameAt_l {h : zv_H} (hM : zm_M h) (hc : zv_I h 348 = c) (d : Nat) (v : Int) {m : Nat} (hm : m ≤ 12) (h3 : c 3 = m) : ∀ (n i : Nat), i + n = m → (∀ j, j < i → ¬ c (408 + 2 * j) = v) → ∃ u : Int, L9_nameAt_2 d 347 v i h = some (some (zv_i u), h) ∧ zt_ix (fun j => c (408 + 2 * j) = v) m u := by
  subst hc
  have r3 : zv_aI h 348 3 = some (m : Int) := by
    rw [zm_aI hM zm_l348 rfl (by decide) (by decide)]
    exact congrArg some h3
  intro n
  induction n with
  | zero =>
    intro i hi no
    refine ⟨-1, ?_, Or.inl ⟨rfl, fun j hj => no j (by omega)⟩⟩
    rw [qL9_nameAt_2, zm_e (zm_f0 hM), zm_e r3, if_neg (by omega)]
  | succ n ih =>
    intro i hi no
    rw [qL9_nameAt_2, zm_e (zm_f0 hM), zm_e r3, if_pos (by omega), zm_e (zm_f0 hM), zm_w (x := 2 * (i : Int)) (by omega), zm_w (x := 408 + 2 * (i : Int)) (by omega), zm_e (zm_aI hM zm_l348 rfl (by omega) (by omega)), show (408 + 2 * (i : Int)).toNat = 408 + 2 * i by omega]
    by_cases e : zv_I h 348 (408 + 2 * i) = v
    · rw [if_pos e]
      exact ⟨i, rfl, Or.inr ⟨i, rfl, by omega, e, no⟩⟩
    · rw [if_neg e, zm_w (by omega), show (i : Int) + 1 = ((i + 1 : Nat) : Int) by omega]
      refine ih (i + 1) (by omega) (fun j hj => ?_)
      by_cases z : j = i
      · rw [z]; exact e
      · exact no j (by omega)
theorem zt_nameAt {h : zv_H} (hM : zm_M h) (hc : zv_I h 348 = c) (W : zm_W c) (d : Nat) (v : Int) : ∃ u : Int, C9_nameAt (d + 1) 347 v h = some (u, h) ∧ zt_ix (fun j => c (408 + 2 * j) = v) (c 3) u := by
  have b := W.2.2.1
  obtain ⟨m, em⟩ : ∃ m : Nat, c 3 = m := ⟨(c 3).toNat, by omega⟩
  obtain ⟨u, e, w⟩ := zt_nameAt_l hM hc d v (m := m) (by omega) em m 0 (Nat.zero_add _) (fun j hj => absurd hj (Nat.not_lt_zero _))
  refine ⟨u, lC9_nameAt (zm_ob hM) ?_, by rw [em]; exact w⟩
  rw [qE9_nameAt]
  exact e
/-- both find the same name -/
theorem zt_ix_N (N : zt_N a c g) {w : List Int} (hw : zt_nw w) {u : Int} (h : zt_ix (fun j => zv_I g (a + 15) j = zt_key w) (c 3) u) : zt_ix (fun j => c (408 + 2 * j) = zt_pkd w) (c 3) u := by
  refine zt_ix_cg (fun j hj => ?_) h
  obtain ⟨w', n1, n2, n3⟩ := zt_N_ky N j hj
  rw [n2, n3]
  constructor
  · intro e
    rw [zt_key_inj w' w n1.2 hw.2 e]
  · intro e
    rw [zt_pkd_inj n1.2 hw.2 e]
theorem zt_ownerAt {d : Nat} (gL : zt_L g) (H : zt_H a c g) {j : Nat} (hj : (j : Int) < c 3) : C2_ownerAt (d + 1) (a + 14) j g = some (c (409 + 2 * j), g) := by
  have la := zt_U_la (zt_H_U H)
  have b := (zt_U_W (zt_H_U H)).2.2.1
  obtain ⟨l14, l15, l16⟩ := zt_nm_l la
  have N := zt_H_N H
  refine lC2_ownerAt (zl_ob gL l14) ?_
  rw [qE2_ownerAt, if_neg (by omega), zm_e (zl_gI gL l14 2), zt_N_sz N, if_pos hj, if_pos (by omega), zm_e (zl_gF gL l14 1 2), zm_e (zl_aI gL l16 (by omega) (by omega)), show ((j : Nat) : Int).toNat = j by omega, zt_N_ow N j hj]
/-- the heap behind a naming -/
def zt_nh (a i : Nat) (key num sz : Int) (g : zv_H) : zv_H := zv_sI (zv_sI (zv_sI g (a + 15) i key) (a + 16) i num) (a + 14) 2 sz
theorem zt_own {d : Nat} (gL : zt_L g) (H : zt_H a c g) {key num u : Int} {i : Nat} (hu : zt_ix (fun j => zv_I g (a + 15) j = key) (c 3) u) (hi : (u = -1 ∧ (i : Int) = c 3 ∧ i < 12) ∨ (u = (i : Int) ∧ (i : Int) < c 3)) : C2_own (d + 2) (a + 14) key num g = some (zt_nh a i key num (max (c 3) ((i : Int) + 1)) g) := by
  have la := zt_U_la (zt_H_U H)
  have b := (zt_U_W (zt_H_U H)).2.2.1
  obtain ⟨l14, l15, l16⟩ := zt_nm_l la
  have N := zt_H_N H
  obtain ⟨u', e1, w1⟩ := zt_indexOf (d := d) gL H key
  have eu := zt_ix_u w1 hu
  subst eu
  have i12 : i < 12 := by omega
  have last : L2_own_16 (d + 1) (a + 14) key num (i : Int) g = some (none, zt_nh a i key num (max (c 3) ((i : Int) + 1)) g) := by
    rw [qL2_own_16, if_neg (by omega), if_pos (by omega), zm_e (zl_gF gL l14 0 1), zm_e (zl_wI gL l15 (by omega) (by omega) _), show ((i : Nat) : Int).toNat = i by omega, zm_e (zl_gF (g := zv_sI g (a + 15) i key) gL l14 1 2), zm_e (zl_wI (g := zv_sI g (a + 15) i key) gL l16 (by omega) (by omega) _), show ((i : Nat) : Int).toNat = i by omega, zm_e (zl_gI (g := zv_sI (zv_sI g (a + 15) i key) (a + 16) i num) gL l14 2), zy_In _ _ (fun q => absurd q.1 (by omega)), zy_In _ _ (fun q => absurd q.1 (by omega)), zt_N_sz N, zm_w (by omega), zm_e (zl_pI (g := zv_sI (zv_sI g (a + 15) i key) (a + 16) i num) gL l14 2 _)]
    rfl
  refine lC2_own (zl_ob gL l14) ?_
  rw [qE2_own, zm_e e1]
  dsimp only
  rcases hi with ⟨h1, h2, _⟩ | ⟨h1, h2⟩
  · rw [if_pos h1, zm_e (zl_gI gL l14 2), zt_N_sz N, ← h2]
    rw [← h2] at last
    exact last
  · rw [if_neg (by omega), h1]
    exact last
/-- the relation behind a naming -/
theorem zt_H_name {c' : Nat → Int} {key num sz : Int} {i : Nat} {w : List Int} (H : zt_H a c g) (hA' : zc_A (zt_nh a i key num sz g)) (W' : zm_W c') (hw : zt_nw w) (ek : key = zt_key w) (en : num = c 0) (i12 : i < 12) (hi : sz = c 3 ∧ (i : Int) < c 3 ∨ sz = c 3 + 1 ∧ (i : Int) = c 3) (c3 : c' 3 = sz) (c8 : c' (408 + 2 * i) = zt_pkd w) (c9 : c' (409 + 2 * i) = c 0) (co : ∀ k : Nat, k ≠ 3 → k ≠ 408 + 2 * i → k ≠ 409 + 2 * i → c' k = c k) : zt_H a c' (zt_nh a i key num sz g) ∧ zt_k a g (zt_nh a i key num sz g) := by
  have la := zt_U_la (zt_H_U H)
  have N := zt_H_N H
  have I : ∀ r k, r ≠ a + 14 → r ≠ a + 15 → r ≠ a + 16 → zv_I (zt_nh a i key num sz g) r k = zv_I g r k := fun r k h1 h2 h3 => by
    unfold zt_nh
    rw [zy_In _ _ (fun q => h1 q.1), zy_In _ _ (fun q => h3 q.1), zy_In _ _ (fun q => h2 q.1)]
  refine ⟨zt_H_hd H hA' W' (fun k k1 _ _ => co k (by omega) (by omega) (by omega)) (co 0 (by decide) (by omega) (by omega)) (co 2 (by decide) (by omega) (by omega)) (co 4 (by decide) (by omega) (by omega)) (co 5 (by decide) (by omega) (by omega)) (fun k k1 k2 => co k (by omega) (by omega) (by omega)) (fun r k _ h1 h2 h3 => I r k h1 h2 h3) (fun _ _ => rfl) (fun _ _ => rfl) ?_ ⟨?_, fun k hk => ?_, fun k hk => ?_⟩, zt_k_of rfl rfl (fun r k hr => I r k (zt_out hr (zt_inA la (by decide))) (zt_out hr (zt_inA la (by decide))) (zt_out hr (zt_inA la (by decide)))) (fun _ _ _ => rfl) (fun _ _ _ => rfl)⟩
  · rw [I a 11 (by omega) (by omega) (by omega), co 1 (by decide) (by omega) (by omega)]
    exact zt_U_nw (zt_H_U H)
  · rw [c3]
    exact zy_I _ _ _ _
  · rw [c3] at hk
    unfold zt_nh
    rw [zy_In _ _ (fun q => absurd q.1 (by omega))]
    by_cases e : k = i
    · rw [e, zy_I, c9, en]
    · rw [zy_In _ _ (fun q => e q.2), zy_In _ _ (fun q => absurd q.1 (by omega)), co _ (by omega) (by omega) (by omega)]
      exact zt_N_ow N k (by omega)
  · rw [c3] at hk
    unfold zt_nh
    rw [zy_In _ _ (fun q => absurd q.1 (by omega)), zy_In _ _ (fun q => absurd q.1 (by omega))]
    by_cases e : k = i
    · refine ⟨w, hw, ?_, ?_⟩
      · rw [e, zy_I, ek]
      · rw [e, c8]
    · rw [zy_In _ _ (fun q => e q.2), co _ (by omega) (by omega) (by omega)]
      exact zt_N_ky N k (by omega)
end
theorem zj_name {d D : Nat} {a : Nat} {c : Nat → Int} {g k : zv_H} {m : Nat} {wd : Nat → Int} (hA : zc_A g) (H : zt_H a c g) (hM : zm_M k) (hc : zv_I k 348 = c) (h19 : zv_I k 347 19 = m) (m40 : m ≤ 700) (hw : zt_lw m wd) (he : ∀ j, j < m → zv_I k 360 j = wd j) : ∃ q q', C0_nameHere (d + 3) a (if 1 ≤ m ∧ m ≤ 6 then zt_key (zt_ls m wd) else 0) g = some q ∧ C9_nameNow (D + 3) 347 k = some q' ∧ zt_Z a 0 g k q q' := by
  have U := zt_H_U H
  have W := zt_U_W U
  have la := zt_U_la U
  have gL := zt_L_A hA
  have N := zt_H_N H
  have b3 := W.2.2.1
  obtain ⟨l14, l15, l16⟩ := zt_nm_l la
  have ei := zm_isIn (h := k) (D + 1) (m : Int) 1 6
  by_cases c6 : 1 ≤ m ∧ m ≤ 6
  · rw [if_pos c6]
    rw [if_pos (show (1 : Int) ≤ (m : Int) ∧ (m : Int) ≤ 6 by omega)] at ei
    have hnw : zt_nw (zt_ls m wd) := ⟨by rw [zt_ls_len]; exact c6, zt_lw_m hw⟩
    have kr := zt_key_lt (zt_ls m wd) (zt_lw_m hw)
    have k0 : ¬ zt_key (zt_ls m wd) = 0 := fun e => by
      have e2 : zt_ls m wd = [] := zt_key_inj _ [] (zt_lw_m hw) (fun x hx => by cases hx) e
      have := congrArg List.length e2
      rw [zt_ls_len] at this
      simp only [List.length_nil] at this
      omega
    have kb : zv_rg (zt_key (zt_ls m wd)) := by
      have p : 32 ^ (zt_ls m wd).length ≤ 32 ^ 6 := Nat.pow_le_pow_right (by decide) (by rw [zt_ls_len]; exact c6.2)
      have e6 : (32 : Nat) ^ 6 = 1073741824 := by decide
      unfold zv_rg
      omega
    obtain ⟨u, e1, w1⟩ := zt_indexOf (d := d + 1) gL H (zt_key (zt_ls m wd))
    obtain ⟨u', e2, w2⟩ := zt_nameAt hM hc W (D + 1) (zt_pkd (zt_ls m wd))
    have eu := zt_ix_u w2 (zt_ix_N N hnw w1)
    subst eu
    have ep := zt_packed hM (D + 1) zm_l360 rfl (show m ≤ 700 by omega) c6.2 hw he
    have r3 : zv_aI k 348 3 = some (c 3) := by
      rw [zm_aI hM zm_l348 rfl (by decide) (by decide), hc]
      rfl
    -- naming itself
    have go : ∀ i : Nat, i < 12 → ((u' = -1 ∧ (i : Int) = c 3) ∨ (u' = (i : Int) ∧ (i : Int) < c 3)) → ∀ k', zm_F [348] [] k k' → (zv_I k' 348 = zm_u (zm_u (if u' < 0 then zm_u c 3 (c 3 + 1) else c) (408 + 2 * i) (zt_pkd (zt_ls m wd))) (409 + 2 * i) (c 0)) → L0_nameHere_61 (d + 2) a (zt_key (zt_ls m wd)) g = some (some (zv_i (max (c 3) ((i : Int) + 1))), zt_nh a i (zt_key (zt_ls m wd)) (c 0) (max (c 3) ((i : Int) + 1)) g) ∧ (C0_nameHere (d + 3) a (zt_key (zt_ls m wd)) g = some (max (c 3) ((i : Int) + 1), zt_nh a i (zt_key (zt_ls m wd)) (c 0) (max (c 3) ((i : Int) + 1)) g) → C9_nameNow (D + 3) 347 k = some (max (c 3) ((i : Int) + 1), k') → zt_Z a 0 g k (max (c 3) ((i : Int) + 1), zt_nh a i (zt_key (zt_ls m wd)) (c 0) (max (c 3) ((i : Int) + 1)) g) (max (c 3) ((i : Int) + 1), k')) := fun i i12 hi k' F ek => by
      have lH := zt_r_l la W.2.1.1
      have hsz : max (c 3) ((i : Int) + 1) = c 3 ∧ (i : Int) < c 3 ∨ max (c 3) ((i : Int) + 1) = c 3 + 1 ∧ (i : Int) = c 3 := by
        rcases hi with q | q
        · exact Or.inr ⟨by rw [Int.max_eq_right (by omega)]; omega, q.2⟩
        · exact Or.inl ⟨Int.max_eq_left (by omega), q.2⟩
      refine ⟨?_, fun x1 x2 => ?_⟩
      · rw [qL0_nameHere_61, zm_e (zl_gF gL la 6 14), zm_e (zl_gR gL la 10), zt_U_he U, zm_e (zl_gI gL lH 0), zt_num U W.2.1, zm_e (zt_own (d := d) gL H w1 (by
          rcases hi with q | q
          · exact Or.inl ⟨q.1, q.2, i12⟩
          · exact Or.inr q)), zm_e (zl_gF (g := zt_nh a i (zt_key (zt_ls m wd)) (c 0) (max (c 3) ((i : Int) + 1)) g) gL la 6 14), zm_e (zl_gI (g := zt_nh a i (zt_key (zt_ls m wd)) (c 0) (max (c 3) ((i : Int) + 1)) g) gL l14 2)]
        have ez : zv_I (zt_nh a i (zt_key (zt_ls m wd)) (c 0) (max (c 3) ((i : Int) + 1)) g) (a + 14) 2 = max (c 3) ((i : Int) + 1) := zy_I _ _ _ _
        rw [ez]
      · obtain ⟨q, y1, Q, _⟩ := zc_C0_nameHere (d := d) hA la kb
        have eq := Option.some.inj (x1.symm.trans y1)
        subst eq
        obtain ⟨q', y2, F2, W'⟩ := zm_nameNow hM hc W D
        have eq' := Option.some.inj (x2.symm.trans y2)
        subst eq'
        dsimp only at W' Q
        have c3' : zv_I k' 348 3 = max (c 3) ((i : Int) + 1) := by
          rw [ek]
          unfold zm_u
          rw [if_neg (by omega), if_neg (by omega)]
          rcases hi with q | q
          · rw [if_pos (by omega)]
            show (if (3 : Nat) = 3 then c 3 + 1 else c 3) = _
            rw [if_pos rfl, Int.max_eq_right (by omega)]
            omega
          · rw [if_neg (by omega), Int.max_eq_left (by omega)]
        have co : ∀ x : Nat, x ≠ 3 → x ≠ 408 + 2 * i → x ≠ 409 + 2 * i → zv_I k' 348 x = c x := fun x h1 h2 h3 => by
          rw [ek]
          unfold zm_u
          rw [if_neg h3, if_neg h2]
          split
          · exact if_neg h1
          · rfl
        obtain ⟨H', kk⟩ := zt_H_name (c' := zv_I k' 348) H Q.2 W' hnw rfl rfl i12 hsz c3' (by
          rw [ek]
          unfold zm_u
          rw [if_neg (by omega), if_pos rfl]) (by
          rw [ek]
          unfold zm_u
          rw [if_pos rfl]) co
        refine ⟨zc_QX Q, kk, zm_F_s F rfl rfl, Or.inr ⟨?_, rfl⟩, H', ?_, ?_⟩
        · dsimp only
          rcases hsz with z | z <;> omega
        · dsimp only
          rw [co 1 (by decide) (by omega) (by omega), hc]
          omega
        · dsimp only
          rw [co 2 (by decide) (by omega) (by omega), hc]
          omega
    -- the end of the reference's
    have fin110 : ∀ (i : Nat) (k1 : zv_H), i < 12 → zm_F [348] [] k k1 → zv_I k1 348 0 = c 0 → ∃ k', L9_nameNow_110 (D + 2) 347 (zt_pkd (zt_ls m wd)) i k1 = some (some (zv_i (zv_I k1 348 3)), k') ∧ zm_F [348] [] k k' ∧ zv_I k' 348 = zm_u (zm_u (zv_I k1 348) (408 + 2 * i) (zt_pkd (zt_ls m wd))) (409 + 2 * i) (c 0) := fun i k1 i12 F1 e0 => by
      have M1 := zm_F_M F1 hM
      refine ⟨zv_sI (zv_sI k1 348 (408 + 2 * i) (zt_pkd (zt_ls m wd))) 348 (409 + 2 * i) (c 0), ?_, zm_F_I (zm_F_I F1 rfl _ _) rfl _ _, ?_⟩
      · rw [qL9_nameNow_110, zm_e (zm_f0 M1), zm_w (x := 2 * (i : Int)) (by omega), zm_w (x := 408 + 2 * (i : Int)) (by omega), zm_e (zm_wI M1 zm_l348 rfl (by omega) (by omega) _), show (408 + 2 * (i : Int)).toNat = 408 + 2 * i by omega, zm_e (zm_f0 (zm_M_sI M1)), zm_e (zm_here (zm_M_sI M1) _)]
        dsimp only
        have e0' : zv_I (zv_sI k1 348 (408 + 2 * i) (zt_pkd (zt_ls m wd))) 348 0 = c 0 := by
          rw [zy_In _ _ (fun q => absurd q.2 (by omega))]
          exact e0
        rw [e0', zm_w (x := 408 + 2 * (i : Int) + 1) (by omega), zm_e (zm_wI (zm_M_sI M1) zm_l348 rfl (by omega) (by omega) _), show (408 + 2 * (i : Int) + 1).toNat = 409 + 2 * i by omega, zm_e (zm_f0 (zm_M_sI (zm_M_sI M1))), zm_e (zm_aI (zm_M_sI (zm_M_sI M1)) zm_l348 rfl (by decide) (by decide))]
        rw [zy_In _ _ (fun q => absurd q.2 (show ¬ Int.toNat 3 = 409 + 2 * i by rw [show Int.toNat 3 = 3 from rfl]; omega)), zy_In _ _ (fun q => absurd q.2 (show ¬ Int.toNat 3 = 408 + 2 * i by rw [show Int.toNat 3 = 3 from rfl]; omega))]
        rfl
      · rw [zm_ss, zm_ss]
    have begin9 : ∀ {q' : Int × zv_H}, (if u' < 0 then (if c 3 = 12 then ((C9_refuse (D + 2) 347 3 k).bind fun q10 => (some (some (zv_i q10.1), q10.2) : zv_O)) else L9_nameNow_58 (D + 2) 347 (zt_pkd (zt_ls m wd)) u' k) else L9_nameNow_58 (D + 2) 347 (zt_pkd (zt_ls m wd)) u' k) = some (some (zv_i q'.1), q'.2) → C9_nameNow (D + 3) 347 k = some q' := fun {q'} hq => by
      refine lC9_nameNow (zm_ob hM) (Eq.trans ?_ hq)
      rw [qE9_nameNow, zm_e (zm_gI hM 19), h19, zm_e ei]
      dsimp only
      rw [if_neg (by decide), zm_e (zm_f17 hM), zm_e (zm_gI hM 19), h19, zm_e ep]
      dsimp only
      rw [zm_e e2]
      dsimp only
      rw [zm_e (zm_f0 hM), zm_e r3]
    have begin0 : ∀ {q : Int × zv_H}, (if u' = -1 then (if c 3 < 12 then L0_nameHere_35 (d + 2) a (zt_key (zt_ls m wd)) u' g else some (some (zv_i (-3)), g)) else L0_nameHere_35 (d + 2) a (zt_key (zt_ls m wd)) u' g) = some (some (zv_i q.1), q.2) → C0_nameHere (d + 3) a (zt_key (zt_ls m wd)) g = some q := fun {q} hq => by
      refine lC0_nameHere (zl_ob gL la) (Eq.trans ?_ hq)
      rw [qE0_nameHere, if_neg k0, zm_e (zl_gF gL la 6 14), zm_e e1]
      dsimp only
      rw [zm_e (zl_gF gL la 6 14), zm_e (zl_gI gL l14 2), zt_N_sz N]
    rcases w1 with ⟨a1, a2⟩ | ⟨j, a1, a2, a3, a4⟩
    · by_cases full : c 3 = 12
      · refine ⟨(-3, g), (-1, zv_sI k 347 3 3), begin0 ?_, begin9 ?_, zt_Z_rf (by decide) hA H hc (by decide) 3⟩
        · rw [if_pos a1, if_neg (by omega)]
        · rw [if_pos (by omega), if_pos full, zm_e (zm_refuse hM _ 3)]
      · obtain ⟨n3, e3⟩ : ∃ n3 : Nat, c 3 = n3 := ⟨(c 3).toNat, by omega⟩
        have F1 : zm_F [348] [] k (zv_sI k 348 3 (c 3 + 1)) := zm_F_I (zm_F_r _ _ k) rfl _ _
        obtain ⟨k', f1, f2, f3⟩ := fin110 n3 (zv_sI k 348 3 (c 3 + 1)) (by omega) F1 (by
          rw [zy_In _ _ (fun q => absurd q.2 (by decide)), hc])
        have f3' : zv_I k' 348 = zm_u (zm_u (if u' < 0 then zm_u c 3 (c 3 + 1) else c) (408 + 2 * n3) (zt_pkd (zt_ls m wd))) (409 + 2 * n3) (c 0) := by
          rw [f3, zm_ss, hc, if_pos (by omega)]
        obtain ⟨x1, x2⟩ := go n3 (by omega) (Or.inl ⟨a1, e3.symm⟩) k' f2 f3'
        have mx : max (c 3) ((n3 : Int) + 1) = c 3 + 1 := by rw [Int.max_eq_right (by omega)]; omega
        have y1 : C0_nameHere (d + 3) a (zt_key (zt_ls m wd)) g = some (max (c 3) ((n3 : Int) + 1), zt_nh a n3 (zt_key (zt_ls m wd)) (c 0) (max (c 3) ((n3 : Int) + 1)) g) := begin0 (by
          rw [if_pos a1, if_pos (by omega), qL0_nameHere_35, if_pos a1]
          exact x1)
        have y2 : C9_nameNow (D + 3) 347 k = some (max (c 3) ((n3 : Int) + 1), k') := begin9 (by
          rw [if_pos (by omega), if_neg full, qL9_nameNow_58, if_pos (by omega), qL9_nameNow_89, if_pos (by omega), zm_e (zm_f0 hM), zm_e r3, zm_e (zm_f0 hM), zm_e r3, zm_w (by omega), zm_e (zm_wI hM zm_l348 rfl (by decide) (by decide) _), show Int.toNat 3 = 3 from rfl, mx]
          rw [zy_I] at f1
          rw [e3] at f1 ⊢
          exact f1)
        exact ⟨_, _, y1, y2, x2 y1 y2⟩
    · have j12 : j < 12 := by omega
      have rj : zv_aI k 348 (zv_w (zv_w (408 + zv_w (2 * u')) + 1)) = some (c (409 + 2 * j)) := by
        rw [a1, zm_w (x := 2 * (j : Int)) (by omega), zm_w (x := 408 + 2 * (j : Int)) (by omega), zm_w (by omega), zm_aI hM zm_l348 rfl (by omega) (by omega), show (408 + 2 * (j : Int) + 1).toNat = 409 + 2 * j by omega, hc]
      have lH := zt_r_l la W.2.1.1
      by_cases own : c (409 + 2 * j) = c 0
      · refine ⟨(-4, g), (-1, zv_sI k 347 3 4), begin0 ?_, begin9 ?_, zt_Z_rf (by decide) hA H hc (by decide) 4⟩
        · rw [if_neg (by omega), qL0_nameHere_35, if_neg (by omega), zm_e (zl_gF gL la 6 14), a1, zm_e (zt_ownerAt gL H a2)]
          dsimp only
          rw [zm_e (zl_gR gL la 10), zt_U_he U, zm_e (zl_gI gL lH 0), zt_num U W.2.1, if_pos own]
        · rw [if_neg (by omega), qL9_nameNow_58, if_neg (by omega), zm_e (zm_f0 hM), zm_e rj, zm_e (zm_here hM _), hc]
          dsimp only
          rw [if_pos own, zm_e (zm_refuse hM _ 4)]
      · obtain ⟨k', f1, f2, f3⟩ := fin110 j k j12 (zm_F_r _ _ k) (by rw [hc])
        have f3' : zv_I k' 348 = zm_u (zm_u (if u' < 0 then zm_u c 3 (c 3 + 1) else c) (408 + 2 * j) (zt_pkd (zt_ls m wd))) (409 + 2 * j) (c 0) := by
          rw [f3, hc, if_neg (by omega)]
        obtain ⟨x1, x2⟩ := go j j12 (Or.inr ⟨a1, a2⟩) k' f2 f3'
        have mx : max (c 3) ((j : Int) + 1) = c 3 := Int.max_eq_left (by omega)
        have y1 : C0_nameHere (d + 3) a (zt_key (zt_ls m wd)) g = some (max (c 3) ((j : Int) + 1), zt_nh a j (zt_key (zt_ls m wd)) (c 0) (max (c 3) ((j : Int) + 1)) g) := begin0 (by
          rw [if_neg (by omega), qL0_nameHere_35, if_neg (by omega), zm_e (zl_gF gL la 6 14), a1, zm_e (zt_ownerAt gL H a2)]
          dsimp only
          rw [zm_e (zl_gR gL la 10), zt_U_he U, zm_e (zl_gI gL lH 0), zt_num U W.2.1, if_neg own]
          exact x1)
        have y2 : C9_nameNow (D + 3) 347 k = some (max (c 3) ((j : Int) + 1), k') := begin9 (by
          rw [if_neg (by omega), qL9_nameNow_58, if_neg (by omega), zm_e (zm_f0 hM), zm_e rj, zm_e (zm_here hM _), hc]
          dsimp only
          rw [if_neg own, qL9_nameNow_89, if_neg (by omega), a1, f1, hc, mx])
        exact ⟨_, _, y1, y2, x2 y1 y2⟩
  · rw [if_neg c6]
    rw [if_neg (show ¬ ((1 : Int) ≤ (m : Int) ∧ (m : Int) ≤ 6) by omega)] at ei
    refine ⟨(-1, g), (-1, zv_sI k 347 3 1), lC0_nameHere (zl_ob gL la) ?_, lC9_nameNow (zm_ob hM) ?_, zt_Z_rf (by decide) hA H hc (by decide) 1⟩
    · rw [qE0_nameHere, if_pos rfl]
    · rw [qE9_nameNow, zm_e (zm_gI hM 19), h19, zm_e ei]
      dsimp only
      rw [if_pos rfl, zm_e (zm_refuse hM _ 1)]
end
/-! A31.un -/
section
/-! ===== the tie: a name goes ===== -/
/-- names from j on come one down, so far up to i -/
def zt_dr (a : Nat) (j : Nat) (i : Nat) (g0 : zv_H) (g : zv_H) : Prop := (g.1 = g0.1) ∧ (g.2.2 = g0.2.2) ∧ (∀ r k, r ≠ a + 15 → r ≠ a + 16 → zv_I g r k = zv_I g0 r k) ∧ (∀ x, zv_I g (a + 15) x = if j ≤ x ∧ x < i then zv_I g0 (a + 15) (x + 1) else zv_I g0 (a + 15) x) ∧ (∀ x, zv_I g (a + 16) x = if j ≤ x ∧ x < i then zv_I g0 (a + 16) (x + 1) else zv_I g0 (a + 16) x)
theorem zt_dr_f1 {a : Nat} {j : Nat} {i : Nat} {g0 : zv_H} {g : zv_H} (t : zt_dr a j i g0 g) : g.1 = g0.1 := t.1
theorem zt_dr_f2 {a : Nat} {j : Nat} {i : Nat} {g0 : zv_H} {g : zv_H} (t : zt_dr a j i g0 g) : g.2.2 = g0.2.2 := t.2.1
theorem zt_dr_i {a : Nat} {j : Nat} {i : Nat} {g0 : zv_H} {g : zv_H} (t : zt_dr a j i g0 g) : ∀ r k, r ≠ a + 15 → r ≠ a + 16 → zv_I g r k = zv_I g0 r k := t.2.2.1
theorem zt_dr_k {a : Nat} {j : Nat} {i : Nat} {g0 : zv_H} {g : zv_H} (t : zt_dr a j i g0 g) : ∀ x, zv_I g (a + 15) x = if j ≤ x ∧ x < i then zv_I g0 (a + 15) (x + 1) else zv_I g0 (a + 15) x := t.2.2.2.1
theorem zt_dr_o {a : Nat} {j : Nat} {i : Nat} {g0 : zv_H} {g : zv_H} (t : zt_dr a j i g0 g) : ∀ x, zv_I g (a + 16) x = if j ≤ x ∧ x < i then zv_I g0 (a + 16) (x + 1) else zv_I g0 (a + 16) x := t.2.2.2.2
theorem zt_dr_L {a j i : Nat} {g0 g : zv_H} (D : zt_dr a j i g0 g) (gL : zt_L g0) : zt_L g := by
  have f2 := zt_dr_f2 D
  exact zt_L_of (zt_dr_f1 D) (fun r k => by
    show g.2.2.2.1 r k = _
    rw [f2]; rfl) gL
theorem zt_drop6 {d : Nat} {a j m : Nat} {g0 : zv_H} (gL : zt_L g0) (la : zv_lay a = (1, 0)) (sz : zv_I g0 (a + 14) 2 = ((m + 1 : Nat) : Int)) (hm : m + 1 ≤ 12) : ∀ (n i : Nat) (g : zv_H), i + n = m → j ≤ i → zt_dr a j i g0 g → ∃ g', L2_drop_6 d (a + 14) i g = some (none, zv_sI g' (a + 14) 2 m) ∧ zt_dr a j m g0 g' := by
  obtain ⟨l14, l15, l16⟩ := zt_nm_l la
  intro n
  induction n with
  | zero =>
    intro i g hi _ D
    have e : i = m := by omega
    subst e
    have L1 := zt_dr_L D gL
    have s1 : zv_I g (a + 14) 2 = ((i + 1 : Nat) : Int) := (zt_dr_i D _ _ (by omega) (by omega)).trans sz
    refine ⟨g, ?_, D⟩
    rw [qL2_drop_6, zm_e (zl_gI L1 l14 2), s1, zm_w (by omega), if_neg (by omega), qL2_drop_58, zm_e (zl_gI L1 l14 2), s1, zm_w (by omega), show ((i + 1 : Nat) : Int) - 1 = (i : Int) by omega, Int.max_eq_left (by omega), zm_e (zl_pI L1 l14 2 _)]
  | succ n ih =>
    intro i g hi hj D
    have L1 := zt_dr_L D gL
    have s1 : zv_I g (a + 14) 2 = ((m + 1 : Nat) : Int) := (zt_dr_i D _ _ (by omega) (by omega)).trans sz
    have k1 : zv_I g (a + 15) (i + 1) = zv_I g0 (a + 15) (i + 1) := by
      rw [zt_dr_k D, if_neg (by omega)]
    have o1 : zv_I g (a + 16) (i + 1) = zv_I g0 (a + 16) (i + 1) := by
      rw [zt_dr_o D, if_neg (by omega)]
    rw [qL2_drop_6, zm_e (zl_gI L1 l14 2), s1, zm_w (x := (i : Int) + 1) (by omega), if_pos (by omega), if_pos (by omega), zm_e (zl_gF L1 l14 0 1), zm_e (zl_gF L1 l14 0 1), zm_e (zl_aI L1 l15 (by omega) (by omega)), show ((i : Int) + 1).toNat = i + 1 by omega, k1, zm_e (zl_wI L1 l15 (by omega) (by omega) _), show ((i : Nat) : Int).toNat = i by omega, zm_e (zl_gF (g := zv_sI g (a + 15) i (zv_I g0 (a + 15) (i + 1))) L1 l14 1 2), zm_e (zl_gF (g := zv_sI g (a + 15) i (zv_I g0 (a + 15) (i + 1))) L1 l14 1 2), zm_e (zl_aI (g := zv_sI g (a + 15) i (zv_I g0 (a + 15) (i + 1))) L1 l16 (by omega) (by omega)), show ((i : Int) + 1).toNat = i + 1 by omega, zy_In _ _ (fun q => absurd q.1 (by omega)), o1, zm_e (zl_wI (g := zv_sI g (a + 15) i (zv_I g0 (a + 15) (i + 1))) L1 l16 (by omega) (by omega) _), show ((i : Nat) : Int).toNat = i by omega, show (i : Int) + 1 = ((i + 1 : Nat) : Int) by omega]
    have f1 := zt_dr_f1 D
    have f2 := zt_dr_f2 D
    refine ih (i + 1) _ (by omega) (by omega) ⟨f1, f2, fun r k h1 h2 => ?_, fun x => ?_, fun x => ?_⟩
    · rw [zy_In _ _ (fun q => h2 q.1), zy_In _ _ (fun q => h1 q.1)]
      exact zt_dr_i D r k h1 h2
    · rw [zy_In _ _ (fun q => absurd q.1 (by omega))]
      by_cases e : x = i
      · rw [e, zy_I, if_pos (by omega)]
      · rw [zy_In _ _ (fun q => e q.2), zt_dr_k D]
        by_cases z : j ≤ x ∧ x < i
        · rw [if_pos z, if_pos (by omega)]
        · rw [if_neg z, if_neg (by omega)]
    · by_cases e : x = i
      · rw [e, zy_I, if_pos (by omega)]
      · rw [zy_In _ _ (fun q => e q.2), zy_In _ _ (fun q => absurd q.1 (by omega)), zt_dr_o D]
        by_cases z : j ≤ x ∧ x < i
        · rw [if_pos z, if_pos (by omega)]
        · rw [if_neg z, if_neg (by omega)]
/-- the reference -/
theorem zt_un67 (d : Nat) {m j : Nat} (hm : m ≤ 11) (hj : j ≤ m) (c : Nat → Int) : ∀ (n i : Nat) (h : zv_H), i + n = 2 * m → 2 * j ≤ i → zm_M h → zv_I h 348 3 = m → (∀ x : Nat, zv_I h 348 (408 + x) = if 2 * j ≤ x ∧ x < i then c (408 + x + 2) else c (408 + x)) → ∃ h', L9_unname_67 d 347 i h = some (some (zv_i m), h') ∧ zm_F [348] [] h h' ∧ (∀ k : Nat, (k < 408 ∨ 432 ≤ k) → zv_I h' 348 k = zv_I h 348 k) ∧ ∀ x : Nat, zv_I h' 348 (408 + x) = if 2 * j ≤ x ∧ x < 2 * m then c (408 + x + 2) else c (408 + x) := by
  intro n
  induction n with
  | zero =>
    intro i h hi _ hM h3 hc
    have e : i = 2 * m := by omega
    subst e
    refine ⟨h, ?_, zm_F_r _ _ h, fun _ _ => rfl, hc⟩
    rw [qL9_unname_67, zm_e (zm_f0 hM), zm_e (zm_aI hM zm_l348 rfl (by decide) (by decide)), show zv_I h 348 (Int.toNat 3) = (m : Int) from h3, zm_w (x := 2 * (m : Int)) (by omega), if_neg (by omega), zm_e (zm_f0 hM), zm_e (zm_aI hM zm_l348 rfl (by decide) (by decide)), show zv_I h 348 (Int.toNat 3) = (m : Int) from h3]
  | succ n ih =>
    intro i h hi hj2 hM h3 hc
    have c2 : zv_I h 348 (408 + i + 2) = c (408 + i + 2) := by
      have := hc (i + 2)
      rw [if_neg (by omega)] at this
      exact this
    rw [qL9_unname_67, zm_e (zm_f0 hM), zm_e (zm_aI hM zm_l348 rfl (by decide) (by decide)), show zv_I h 348 (Int.toNat 3) = (m : Int) from h3, zm_w (x := 2 * (m : Int)) (by omega), if_pos (by omega), zm_e (zm_f0 hM), zm_e (zm_f0 hM), zm_w (x := 408 + (i : Int)) (by omega), zm_w (x := 408 + (i : Int) + 2) (by omega), zm_e (zm_aI hM zm_l348 rfl (by omega) (by omega)), show (408 + (i : Int) + 2).toNat = 408 + i + 2 by omega, c2, zm_e (zm_wI hM zm_l348 rfl (by omega) (by omega) _), show (408 + (i : Int)).toNat = 408 + i by omega, zm_w (x := (i : Int) + 1) (by omega), show (i : Int) + 1 = ((i + 1 : Nat) : Int) by omega]
    have e1 : zv_I (zv_sI h 348 (408 + i) (c (408 + i + 2))) 348 = zm_u (zv_I h 348) (408 + i) (c (408 + i + 2)) := zm_ss _ _ _ _
    obtain ⟨h', i1, i2, i3, i4⟩ := ih (i + 1) (zv_sI h 348 (408 + i) (c (408 + i + 2))) (by omega) (by omega) hM (by rw [e1, zm_u_o _ _ (by omega)]; exact h3) (fun x => by
      rw [e1]
      unfold zm_u
      by_cases e : x = i
      · rw [e, if_pos rfl, if_pos (by omega)]
      · rw [if_neg (by omega), hc x]
        by_cases z : 2 * j ≤ x ∧ x < i
        · rw [if_pos z, if_pos (by omega)]
        · rw [if_neg z, if_neg (by omega)])
    exact ⟨h', i1, zm_F_t (zm_F_I (zm_F_r _ _ h) rfl _ _) i2, fun k hk => by rw [i3 k hk, e1, zm_u_o _ _ (by omega)], i4⟩
/-- the relation behind it -/
theorem zt_H_un {a : Nat} {c c' : Nat → Int} {g g1 : zv_H} {j m : Nat} (H : zt_H a c g) (D : zt_dr a j m g g1) (hA' : zc_A (zv_sI g1 (a + 14) 2 m)) (W' : zm_W c') (em : c 3 = ((m + 1 : Nat) : Int)) (c3 : c' 3 = m) (co : ∀ k : Nat, (k < 408 ∨ 432 ≤ k) → k ≠ 3 → c' k = c k) (cx : ∀ x : Nat, c' (408 + x) = if 2 * j ≤ x ∧ x < 2 * m then c (408 + x + 2) else c (408 + x)) : zt_H a c' (zv_sI g1 (a + 14) 2 m) ∧ zt_k a g (zv_sI g1 (a + 14) 2 m) := by
  have la := zt_U_la (zt_H_U H)
  have N := zt_H_N H
  have f1 := zt_dr_f1 D
  have f2 := zt_dr_f2 D
  have I : ∀ r k, r ≠ a + 14 → r ≠ a + 15 → r ≠ a + 16 → zv_I (zv_sI g1 (a + 14) 2 m) r k = zv_I g r k := fun r k h1 h2 h3 => by
    rw [zy_In _ _ (fun q => h1 q.1)]
    exact zt_dr_i D r k h2 h3
  have J : ∀ r k, zv_J (zv_sI g1 (a + 14) 2 m) r k = zv_J g r k := fun r k => by
    show g1.2.2.1 r k = _
    rw [f2]; rfl
  have R : ∀ r k, zv_R (zv_sI g1 (a + 14) 2 m) r k = zv_R g r k := fun r k => by
    show g1.2.2.2.1 r k = _
    rw [f2]; rfl
  refine ⟨zt_H_hd H hA' W' (fun k k1 _ _ => co k (Or.inr k1) (by omega)) (co 0 (Or.inl (by decide)) (by decide)) (co 2 (Or.inl (by decide)) (by decide)) (co 4 (Or.inl (by decide)) (by decide)) (co 5 (Or.inl (by decide)) (by decide)) (fun k k1 k2 => co k (Or.inl k2) (by omega)) (fun r k _ h1 h2 h3 => I r k h1 h2 h3) J R ?_ ⟨?_, fun k hk => ?_, fun k hk => ?_⟩, zt_k_of f1 (by show g1.2.2.2.2 = _; rw [f2]) (fun r k hr => I r k (zt_out hr (zt_inA la (by decide))) (zt_out hr (zt_inA la (by decide))) (zt_out hr (zt_inA la (by decide)))) (fun r k _ => J r k) (fun r k _ => R r k)⟩
  · rw [I a 11 (by omega) (by omega) (by omega), co 1 (Or.inl (by decide)) (by decide)]
    exact zt_U_nw (zt_H_U H)
  · rw [c3]
    exact zy_I _ _ _ _
  · rw [c3] at hk
    have e9 : ∀ y : Nat, 409 + 2 * y = 408 + (2 * y + 1) := fun y => by omega
    rw [zy_In _ _ (fun q => absurd q.1 (by omega)), zt_dr_o D, e9, cx]
    by_cases z : j ≤ k ∧ k < m
    · rw [if_pos z, if_pos (by omega), zt_N_ow N (k + 1) (by omega), show 408 + (2 * k + 1) + 2 = 409 + 2 * (k + 1) by omega]
    · rw [if_neg z, if_neg (by omega), zt_N_ow N k (by omega), e9]
  · rw [c3] at hk
    rw [zy_In _ _ (fun q => absurd q.1 (by omega)), zt_dr_k D, cx]
    by_cases z : j ≤ k ∧ k < m
    · rw [if_pos z, if_pos (by omega), show 408 + 2 * k + 2 = 408 + 2 * (k + 1) by omega]
      exact zt_N_ky N (k + 1) (by omega)
    · rw [if_neg z, if_neg (by omega)]
      exact zt_N_ky N k (by omega)
/-- the class's -/
theorem zt_dropName {d : Nat} {a : Nat} {c : Nat → Int} {g : zv_H} {u key : Int} {j m : Nat} (gL : zt_L g) (H : zt_H a c g) (k0 : key ≠ 0) (hu : zt_ix (fun j => zv_I g (a + 15) j = key) (c 3) u) (ej : u = (j : Int)) (hj : j ≤ m) (em : c 3 = ((m + 1 : Nat) : Int)) : ∃ g1, C0_dropName (d + 2) a key g = some ((m : Int), zv_sI g1 (a + 14) 2 m) ∧ zt_dr a j m g g1 := by
  have la := zt_U_la (zt_H_U H)
  have b := (zt_U_W (zt_H_U H)).2.2.1
  obtain ⟨l14, l15, l16⟩ := zt_nm_l la
  obtain ⟨u', e1, w1⟩ := zt_indexOf (d := d) gL H key
  have eu := zt_ix_u w1 hu
  subst eu
  obtain ⟨g1, e2, D⟩ := zt_drop6 (d := d) (j := j) (m := m) gL la (by rw [zt_N_sz (zt_H_N H), em]) (by omega) (m - j) j g (by omega) (Nat.le_refl _) ⟨rfl, rfl, fun _ _ _ _ => rfl, fun x => by rw [if_neg (by omega)], fun x => by rw [if_neg (by omega)]⟩
  have ed : C2_drop (d + 1) (a + 14) u' g = some (zv_sI g1 (a + 14) 2 m) := by
    refine lC2_drop (zl_ob gL l14) ?_
    rw [qE2_drop, ej, Int.max_eq_left (by omega)]
    exact e2
  have L1 := zt_dr_L D gL
  refine ⟨g1, lC0_dropName (zl_ob gL la) ?_, D⟩
  rw [qE0_dropName, if_neg k0, zm_e (zl_gF gL la 6 14), zm_e e1]
  dsimp only
  rw [if_neg (by omega), zm_e (zl_gF gL la 6 14), zm_e ed, zm_e (zl_gF (g := zv_sI g1 (a + 14) 2 m) L1 la 6 14), zm_e (zl_gI (g := zv_sI g1 (a + 14) 2 m) L1 l14 2), zy_I]
end
