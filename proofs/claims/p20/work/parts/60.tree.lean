/-! ===== the reference: latest, children, the way ===== -/
/-- every state has its line -/
def zm_WL (c : Nat → Int) : Prop := ∀ k, zm_st c k → ∃ l, zm_Ln c l k
theorem zm_WL_of {c : Nat → Int} (w : zm_Wt c) : zm_WL c := by
  intro k hk
  obtain ⟨l, hl⟩ := w.2.2 k hk
  exact ⟨k :: l, hl.1⟩
theorem zm_latestIn_l {h : zv_H} (hM : zm_M h) (hL : zm_WL (zv_I h 348)) (d : Nat) (s : Int) : ∀ (m i : Nat) (v : Int), i + m = 48 → ∃ r : Int, L9_latestIn_10 (d + 2) 347 s v i h = some (some (zv_i r), h)
  | 0, i, v, hi => ⟨v, by rw [qL9_latestIn_10, if_neg (by omega)]⟩
  | m + 1, i, v, hi => by
    rw [qL9_latestIn_10, if_pos (by omega), zm_e (zm_isState hM d i), zm_w (x := (i : Int) + 1) (by omega)]
    dsimp only
    by_cases c1 : zm_st (zv_I h 348) i
    · rw [if_pos c1, if_neg (by decide), zm_e (zm_of hM _ (by omega) (by decide))]
      dsimp only
      by_cases c2 : zm_o (zv_I h 348) i 7 ≤ v
      · rw [if_pos c2]
        exact zm_latestIn_l hM hL d s m (i + 1) v (by omega)
      · obtain ⟨l, hl⟩ := hL _ c1
        rw [if_neg c2, zm_e (zm_isOfLine hM d s hl)]
        dsimp only
        by_cases c3 : s ∈ l
        · rw [if_pos c3, if_neg (by decide), zm_e (zm_of hM _ (by omega) (by decide))]
          exact zm_latestIn_l hM hL d s m (i + 1) _ (by omega)
        · rw [if_neg c3, if_pos rfl]
          exact zm_latestIn_l hM hL d s m (i + 1) v (by omega)
    · rw [if_neg c1, if_pos rfl]
      exact zm_latestIn_l hM hL d s m (i + 1) v (by omega)
theorem zm_latestIn {h : zv_H} (hM : zm_M h) (hL : zm_WL (zv_I h 348)) (d : Nat) {s : Int} (hs : 0 ≤ s ∧ s ≤ 48) : ∃ r : Int, C9_latestIn (d + 3) 347 s h = some (r, h) := by
  obtain ⟨r, e⟩ := zm_latestIn_l hM hL d s 48 0 (zm_o (zv_I h 348) s 7) rfl
  refine ⟨r, lC9_latestIn (zm_ob hM) ?_⟩
  rw [qE9_latestIn, zm_e (zm_of hM _ hs (by decide))]
  exact e
theorem zm_childOf_35 {h : zv_H} (hM : zm_M h) (hL : zm_WL (zv_I h 348)) (d : Nat) (s n k : Int) (hk : 0 ≤ k ∧ k ≤ 47) : ∀ (m i : Nat) (a : Int), i + m = 48 → 0 ≤ a ∧ a ≤ i → ∃ a' : Int, L9_childOf_35 (d + 3) 347 s n k a i h = if a' = n then some (some (zv_i k), h) else L9_childOf_2 (d + 3) 347 s n (k + 1) h
  | 0, i, a, hi, _ => ⟨a, by rw [qL9_childOf_35, if_neg (by omega), zm_w (by omega)]⟩
  | m + 1, i, a, hi, ha => by
    rw [qL9_childOf_35, if_pos (by omega), zm_e (zm_isState hM _ i), zm_w (x := (i : Int) + 1) (by omega), zm_w (x := a + 0) (by omega), zm_w (x := a + 1) (by omega)]
    dsimp only
    by_cases c1 : zm_st (zv_I h 348) i
    · rw [if_pos c1, if_neg (by decide), zm_e (zm_of hM _ (by omega) (by decide))]
      dsimp only
      by_cases c2 : zm_o (zv_I h 348) i 1 = s
      · obtain ⟨r1, e1⟩ := zm_latestIn hM hL d (s := i) (by omega)
        obtain ⟨r2, e2⟩ := zm_latestIn hM hL d (s := k) (by omega)
        rw [if_pos c2, zm_e e1]
        dsimp only
        rw [zm_e e2]
        dsimp only
        by_cases c3 : r1 ≤ r2
        · rw [if_pos c3]
          exact zm_childOf_35 hM hL d s n k hk m (i + 1) _ (by omega) (by omega)
        · rw [if_neg c3]
          exact zm_childOf_35 hM hL d s n k hk m (i + 1) _ (by omega) (by omega)
      · rw [if_neg c2]
        exact zm_childOf_35 hM hL d s n k hk m (i + 1) _ (by omega) (by omega)
    · rw [if_neg c1, if_pos rfl]
      exact zm_childOf_35 hM hL d s n k hk m (i + 1) _ (by omega) (by omega)
theorem zm_childOf_l {h : zv_H} (hM : zm_M h) (hL : zm_WL (zv_I h 348)) (d : Nat) (s n : Int) : ∀ (m i : Nat), i + m = 48 → ∃ r : Int, L9_childOf_2 (d + 3) 347 s n i h = some (some (zv_i r), h) ∧ (r = -1 ∨ (zm_st (zv_I h 348) r ∧ zm_o (zv_I h 348) r 1 = s))
  | 0, i, hi => ⟨-1, by rw [qL9_childOf_2, if_neg (by omega)], Or.inl rfl⟩
  | m + 1, i, hi => by
    rw [qL9_childOf_2, if_pos (by omega), zm_e (zm_isState hM _ i), zm_w (x := (i : Int) + 1) (by omega)]
    dsimp only
    by_cases c1 : zm_st (zv_I h 348) i
    · rw [if_pos c1, if_neg (by decide), zm_e (zm_of hM _ (by omega) (by decide))]
      dsimp only
      by_cases c2 : zm_o (zv_I h 348) i 1 = s
      · obtain ⟨a', e⟩ := zm_childOf_35 hM hL d s n i (by omega) 48 0 0 rfl (by omega)
        rw [if_pos c2, show L9_childOf_35 (d + 3) 347 s n i 0 0 h = _ from e]
        by_cases c3 : a' = n
        · rw [if_pos c3]
          exact ⟨i, rfl, Or.inr ⟨c1, c2⟩⟩
        · rw [if_neg c3]
          exact zm_childOf_l hM hL d s n m (i + 1) (by omega)
      · rw [if_neg c2]
        exact zm_childOf_l hM hL d s n m (i + 1) (by omega)
    · rw [if_neg c1, if_pos rfl]
      exact zm_childOf_l hM hL d s n m (i + 1) (by omega)
theorem zm_childOf {h : zv_H} (hM : zm_M h) (hL : zm_WL (zv_I h 348)) (d : Nat) (s n : Int) : ∃ r : Int, C9_childOf (d + 4) 347 s n h = some (r, h) ∧ (r = -1 ∨ (zm_st (zv_I h 348) r ∧ zm_o (zv_I h 348) r 1 = s)) := by
  obtain ⟨r, e, q⟩ := zm_childOf_l hM hL d s n 48 0 rfl
  refine ⟨r, lC9_childOf (zm_ob hM) ?_, q⟩
  rw [qE9_childOf]
  exact e
/-- the nearest of two lines -/
theorem zm_commonOf_l {h : zv_H} (hM : zm_M h) (d : Nat) {t : Int} {lt : List Int} (hlt : zm_Ln (zv_I h 348) lt t) (h0 : 0 ∈ lt) : ∀ {l : List Int} {s : Int}, zm_Ln (zv_I h 348) l s → 0 ∈ l → ∃ r : Int, L9_commonOf_2 (d + 2) 347 t s h = some (some (zv_i r), h) ∧ r ∈ l ∧ r ∈ lt
  | [], _, _, hz => by cases hz
  | u :: l, s, hl, hz => by
    obtain ⟨⟨e, hu⟩, hl'⟩ := hl
    subst e
    rw [qL9_commonOf_2, zm_e (zm_isOfLine hM d s hlt)]
    dsimp only
    by_cases c1 : s ∈ lt
    · rw [if_pos c1, if_neg (by decide)]
      exact ⟨s, rfl, List.mem_cons_self, c1⟩
    · rw [if_neg c1, if_pos rfl, zm_e (zm_of hM _ hu (by decide))]
      have hz2 : 0 ∈ l := by
        rcases List.mem_cons.mp hz with q | q
        · exact absurd (by rw [← q]; exact h0) c1
        · exact q
      obtain ⟨r, e1, e2, e3⟩ := zm_commonOf_l hM d hlt h0 hl' hz2
      exact ⟨r, e1, List.mem_cons_of_mem _ e2, e3⟩
theorem zm_commonOf {h : zv_H} (hM : zm_M h) (d : Nat) {s t : Int} {ls lt : List Int} (hls : zm_Ln (zv_I h 348) ls s) (hlt : zm_Ln (zv_I h 348) lt t) (hs0 : 0 ∈ ls) (ht0 : 0 ∈ lt) : ∃ r : Int, C9_commonOf (d + 3) 347 s t h = some (r, h) ∧ r ∈ ls ∧ r ∈ lt := by
  obtain ⟨r, e, q⟩ := zm_commonOf_l hM d hlt ht0 hls hs0
  refine ⟨r, lC9_commonOf (zm_ob hM) ?_, q⟩
  rw [qE9_commonOf]
  exact e
theorem zm_Lw_0 {c : Nat → Int} {l : List Int} (h : zm_Lw c l) : 0 ∈ l := List.mem_of_getLast? h.2.1
/-- how far a state of a line is from the start -/
theorem zm_depth_in {h : zv_H} (hM : zm_M h) (d : Nat) {l : List Int} {s r : Int} (hl : zm_Ln (zv_I h 348) l s) (hn : l.length ≤ 49) (hr : r ∈ l) : ∃ n : Int, C9_depthOf (d + 2) 347 r h = some (n, h) ∧ 0 ≤ n ∧ n < 49 := by
  obtain ⟨a, b, e1, e2⟩ := zm_Ln_s hl r hr
  have hlen := congrArg List.length e1
  rw [List.length_append, List.length_cons] at hlen
  exact ⟨b.length, zm_depthOf hM d e2 (by omega), by omega, by omega⟩
theorem zm_wayMany {h : zv_H} (hM : zm_M h) (hW : zm_Wt (zv_I h 348)) (d : Nat) {s t : Int} (hs : zm_st (zv_I h 348) s) (ht : zm_st (zv_I h 348) t) : ∃ r : Int, C9_wayMany (d + 4) 347 s t h = some (r, h) ∧ -200 < r ∧ r < 200 := by
  obtain ⟨ls, a1, a2, _⟩ := zm_W_l hW hs
  obtain ⟨lt, b1, b2, _⟩ := zm_W_l hW ht
  obtain ⟨r, e, r1, r2⟩ := zm_commonOf hM d a1.1 b1.1 (zm_Lw_0 a1.2.1) (zm_Lw_0 b1.2.1)
  obtain ⟨n, en, n1, n2⟩ := zm_depth_in hM (d + 1) a1.1 (by rw [List.length_cons]; omega) r1
  refine ⟨_, lC9_wayMany (zm_ob hM) (by
    rw [qE9_wayMany, zm_e (zm_depthOf hM (d + 1) a1.1 (by omega))]
    dsimp only
    rw [zm_e (zm_depthOf hM (d + 1) b1.1 (by omega))]
    dsimp only
    rw [zm_e e]
    dsimp only
    rw [zm_e en]), ?_⟩
  rw [zm_w (x := (ls.length : Int) + lt.length) (by omega), zm_w (x := 2 * n) (by omega), zm_w (by omega)]
  omega
/-! what a visit changes -/
theorem zm_vc_o {c : Nat → Int} {s t w : Int} (hs : 0 ≤ s ∧ s ≤ 47) (ht : 0 ≤ t ∧ t ≤ 48) (hw : 0 ≤ w ∧ w < 76) (h7 : ¬ (t = s ∧ w = 7)) : zm_o (zm_vc c s) t w = zm_o c t w := by
  unfold zm_o zm_vc
  rw [if_neg (by omega), if_neg (by omega), if_neg (by omega), if_neg (by omega), if_neg (by omega), if_neg (by omega), if_neg (by omega)]
theorem zm_vc_h {c : Nat → Int} {s : Int} {k : Nat} (hs : 0 ≤ s ∧ s ≤ 47) (hk : k < 432) (h0 : k ≠ 0) (h2 : k ≠ 2) (h5 : k ≠ 5) : zm_vc c s k = c k := by
  unfold zm_vc
  rw [if_neg (by omega), if_neg (by omega), if_neg (by omega), if_neg (by omega), if_neg (by omega), if_neg (by omega), if_neg (by omega)]
theorem zm_vc_0 (c : Nat → Int) {s : Int} (hs : 0 ≤ s ∧ s ≤ 47) : zm_vc c s 0 = s := by
  unfold zm_vc
  rw [if_neg (by omega), if_neg (by omega), if_neg (by omega), if_neg (by omega), if_neg (by omega), if_neg (by omega), if_pos rfl]
theorem zm_vc_5 (c : Nat → Int) (s : Int) : zm_vc c s 5 = if c 5 < 40 then zv_w (c 5 + 1) else 40 := by
  unfold zm_vc
  rw [if_pos rfl]
/-- the heads agree -/
def zm_hd (c c' : Nat → Int) : Prop := c' 3 = c 3 ∧ c' 4 = c 4 ∧ (∀ k, 8 ≤ k → k < 432 → c' k = c k) ∧ (0 ≤ c 5 ∧ c 5 ≤ 40 → 0 ≤ c' 5 ∧ c' 5 ≤ 40)
theorem zm_hd_r (c : Nat → Int) : zm_hd c c := ⟨rfl, rfl, fun _ _ _ => rfl, fun h => h⟩
theorem zm_hd_t {a b c : Nat → Int} (f : zm_hd a b) (g : zm_hd b c) : zm_hd a c := ⟨g.1.trans f.1, g.2.1.trans f.2.1, fun k h1 h2 => (g.2.2.1 k h1 h2).trans (f.2.2.1 k h1 h2), fun q => g.2.2.2 (f.2.2.2 q)⟩
theorem zm_vc_hd (c : Nat → Int) {s : Int} (hs : 0 ≤ s ∧ s ≤ 47) : zm_hd c (zm_vc c s) := by
  refine ⟨zm_vc_h hs (by decide) (by decide) (by decide) (by decide), zm_vc_h hs (by decide) (by decide) (by decide) (by decide), fun k h1 h2 => zm_vc_h hs h2 (by omega) (by omega) (by omega), fun q => ?_⟩
  rw [zm_vc_5]
  split
  · rw [zm_w (by omega)]
    omega
  · omega
theorem zm_Wh_hd {c c' : Nat → Int} (h : zm_Wh c) (g : zm_hd c c') : zm_Wh c' := by
  obtain ⟨h1, h2, h3, h4⟩ := h
  obtain ⟨g1, g2, g3, g4⟩ := g
  have e : zm_cd c' = zm_cd c := by
    unfold zm_cd
    rw [g2]
    refine List.map_congr_left ?_
    intro k hk
    have := List.mem_range.mp hk
    exact g3 _ (by omega) (by omega)
  refine ⟨by rw [g1]; exact h1, by rw [g2]; exact h2, ?_, g4 h4⟩
  rw [g2, e]
  exact h3
/-- the tree's part stays when all agrees but lives, visits -/
theorem zm_Wt_cg {c c' : Nat → Int} (w : zm_Wt c) (h : ∀ t : Int, 0 ≤ t → t ≤ 47 → zm_o c' t 0 = zm_o c t 0 ∧ zm_ag c c' t) : zm_Wt c' := by
  have hst : ∀ t, zm_st c' t ↔ zm_st c t := by
    intro t
    constructor
    · intro q
      exact ⟨q.1, by rw [← (h t q.1.1 q.1.2).1]; exact q.2⟩
    · intro q
      exact ⟨q.1, by rw [(h t q.1.1 q.1.2).1]; exact q.2⟩
  obtain ⟨w1, ⟨w2, w3, w4, w5⟩, w6⟩ := id w
  have h0 := h 0 (by decide) (by decide)
  refine ⟨fun s s1 s2 => by rw [(h s s1 s2).1]; exact w1 s s1 s2, ⟨(hst 0).mpr w2, by rw [h0.2 1 (by decide) (by decide) (by decide)]; exact w3, by rw [h0.2 2 (by decide) (by decide) (by decide)]; exact w4, by rw [h0.2 5 (by decide) (by decide) (by decide)]; exact w5⟩, fun s hs => ?_⟩
  obtain ⟨l, l1, l2, l3, l4⟩ := zm_W_l w ((hst s).mp hs)
  exact ⟨l, zm_W1_cg l1 l3 (fun t ht => by have := l1.2.1.2.2 t ht; exact (h t this.1.1 this.1.2).2) (fun t ht => (hst t).mpr (l1.2.1.2.2 t ht))⟩
/-- a visit keeps all -/
theorem zm_W_vc {c : Nat → Int} (w : zm_W c) {s : Int} (hs : zm_st c s) : zm_W (if s = c 0 then c else zm_vc c s) := by
  by_cases e : s = c 0
  · rw [if_pos e]
    exact w
  · rw [if_neg e]
    have h1 : ∀ t : Int, 0 ≤ t → t ≤ 47 → zm_o (zm_vc c s) t 0 = zm_o c t 0 ∧ zm_ag c (zm_vc c s) t := fun t t0 t1 => ⟨zm_vc_o hs.1 (by omega) (by decide) (by omega), fun x x1 x2 x3 => zm_vc_o hs.1 (by omega) (by omega) (by omega)⟩
    refine ⟨zm_Wt_cg w.1 h1, ?_, zm_Wh_hd w.2.2 (zm_vc_hd c hs.1)⟩
    rw [zm_vc_0 c hs.1]
    exact ⟨hs.1, by rw [(h1 s hs.1.1 hs.1.2).1]; exact hs.2⟩
