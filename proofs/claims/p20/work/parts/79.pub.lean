/-! ===== the reference: what is called ===== -/
def zm_MI (h : zv_H) : Prop := zm_M h ∧ zm_W (zv_I h 348) ∧ zm_K h ∧ (0 ≤ zv_I h 347 27 ∧ zv_I h 347 27 ≤ 700) ∧ (0 ≤ zv_I h 347 35 ∧ zv_I h 347 35 ≤ 999) ∧ (0 ≤ zv_I h 347 20 ∧ zv_I h 347 20 ≤ 12) ∧ (0 ≤ zv_I h 347 47 ∧ zv_I h 347 47 ≤ 200)
/-- a call that leaves the tape's length -/
def zm_X (h h' : zv_H) : Prop := zm_F [348, 349, 350, 351, 352, 353, 354, 355, 356, 357, 358, 359, 360, 361, 362, 363, 364, 365, 366, 370, 371, 372] [3, 4, 10, 11, 12, 19, 20, 24, 28, 29, 30, 31, 32, 33, 34, 35, 36, 37, 38, 42, 43, 47] h h' ∧ zm_MI h'
theorem zm_X_of {h h' : zv_H} {A B : List Nat} (i : zm_MI h) (f : zm_F A B h h') (hA : (A.all fun r => List.contains [348, 349, 350, 351, 352, 353, 354, 355, 356, 357, 358, 359, 360, 361, 362, 363, 364, 365, 366, 370, 371, 372] r) = true) (hB : (B.all fun r => List.contains [3, 4, 10, 11, 12, 19, 24] r) = true) (w : zm_W (zv_I h' 348)) : zm_X h h' := by
  obtain ⟨i1, i2, i3, i4, i5, i6, i7⟩ := i
  have g : zm_F [348, 349, 350, 351, 352, 353, 354, 355, 356, 357, 358, 359, 360, 361, 362, 363, 364, 365, 366, 370, 371, 372] [3, 4, 10, 11, 12, 19, 24] h h' := zm_F_s f hA hB
  refine ⟨zm_F_s g rfl rfl, zm_F_M f i1, w, zm_K_F i3 f, ?_, ?_, ?_, ?_⟩
  · rw [zm_F_g g 27]
    exact i4
  · rw [zm_F_g g 35]
    exact i5
  · rw [zm_F_g g 20]
    exact i6
  · rw [zm_F_g g 47]
    exact i7
theorem zm_X_a {h h' : zv_H} {A B : List Nat} (i : zm_MI h) (f : zm_F A B h h') (hA : (A.all fun r => List.contains [348, 349, 350, 351, 352, 353, 354, 355, 356, 357, 358, 359, 360, 361, 362, 363, 364, 365, 366, 370, 371, 372] r) = true) (hB : (B.all fun r => List.contains [3, 4, 10, 11, 12, 19, 24] r) = true) (h348 : A.contains 348 = false) : zm_X h h' := zm_X_of i f hA hB (by rw [zm_F_a f 348 h348]; exact i.2.1)
/-- is, and what then -/
theorem zm_isq {h : zv_H} {d : Nat} {w : Int} {T : Int × zv_H → zv_O} (i : zm_MI h) (k : w = 0 → ∀ h1 : zv_H, zm_F [] [3, 4] h h1 → zm_MI h1 → zm_R (T (1, h1)) (zm_I fun _ h' => zm_X h h')) : zm_R ((C9_is (d + 1) 347 w h).bind fun q => if q.1 = 0 then (some (some (zv_i (-1)), q.2) : zv_O) else T q) (zm_I fun _ h' => zm_X h h') := by
  have f : zm_F [] [3, 4] h (zv_sI (zv_sI h 347 4 0) 347 3 w) := zm_F_f (zm_F_f (zm_F_r _ _ h) rfl _) rfl _
  have x := zm_X_a i f rfl rfl rfl
  exact zm_gb (zm_is i.1 d w) (fun _ => zm_iI x) (fun hw => k hw _ f x.2)
theorem zm_X_t {a b c : zv_H} (x : zm_X a b) (y : zm_X b c) : zm_X a c := ⟨zm_F_t x.1 y.1, y.2⟩
theorem zm_X_i {h h1 : zv_H} (x : zm_X h h1) {o : zv_O} (r : zm_R o (zm_I fun _ h' => zm_X h1 h')) : zm_R o (zm_I fun _ h' => zm_X h h') := by
  refine zm_mono r ?_
  rintro ⟨ov, h'⟩ ⟨v, e, y⟩
  exact ⟨v, e, zm_X_t x y⟩
/-- an answer that changed nothing -/
theorem zm_rX {h : zv_H} {o : Option (Int × zv_H)} (i : zm_MI h) (e : ∃ r : Int, o = some (r, h)) : zm_R (o.bind fun q => (some (some (zv_i q.1), q.2) : zv_O)) (zm_I fun _ h' => zm_X h h') := by
  obtain ⟨r, e⟩ := e
  rw [e]
  exact zm_iI ⟨zm_F_r _ _ h, i⟩
theorem zm_rX0 {h : zv_H} {r : Int} (i : zm_MI h) : zm_R (some (some (zv_i r), h) : zv_O) (zm_I fun _ h' => zm_X h h') := zm_iI ⟨zm_F_r _ _ h, i⟩
theorem zm_rfX {h : zv_H} (i : zm_MI h) (d : Nat) (w : Int) : zm_R ((C9_refuse (d + 1) 347 w h).bind fun q => (some (some (zv_i q.1), q.2) : zv_O)) (zm_I fun _ h' => zm_X h h') := by
  rw [zm_e (zm_refuse i.1 d w)]
  exact zm_iI (zm_X_a (A := []) (B := [3]) i (zm_F_f (zm_F_r _ _ h) rfl _) rfl rfl rfl)
/-- an answer of a call that keeps all -/
theorem zm_rXf {h : zv_H} {o : Option (Int × zv_H)} {A B : List Nat} (i : zm_MI h) (r : zm_R o fun q => zm_F A B h q.2 ∧ zm_W (zv_I q.2 348)) (hA : (A.all fun r => List.contains [348, 349, 350, 351, 352, 353, 354, 355, 356, 357, 358, 359, 360, 361, 362, 363, 364, 365, 366, 370, 371, 372] r) = true) (hB : (B.all fun r => List.contains [3, 4, 10, 11, 12, 19, 24] r) = true) : zm_R (o.bind fun q => (some (some (zv_i q.1), q.2) : zv_O)) (zm_I fun _ h' => zm_X h h') := by
  obtain ⟨q, e, f, w⟩ := r
  rw [zm_e e]
  exact zm_iI (zm_X_of i f hA hB w)
/-- a state's row is reckoned -/
theorem zm_see {h : zv_H} (i : zm_MI h) (d : Nat) {s : Int} (hs : zm_st (zv_I h 348) s) : ∃ (h1 : zv_H) (l : List Int), C9_sees (d + 4) 347 s h = some h1 ∧ zm_F [351, 352, 353, 354, 355] [10, 11, 12] h h1 ∧ zm_MI h1 ∧ zm_X h h1 ∧ zm_Sn h1 (zv_I h1 348) l ∧ (∀ t ∈ l, zm_st (zv_I h1 348) t) ∧ l.length ≤ 48 ∧ zm_G0 (zv_I h1 348) l ∧ ((zm_row (zv_I h1 348) l).filter (zm_sn (zv_I h1 348) l)).length ≤ 120 ∧ zv_I h1 348 = zv_I h 348 := by
  obtain ⟨l, a1, a2, a3, a4⟩ := zm_W_l i.2.1.1 hs
  obtain ⟨h1, e1, f1, n1⟩ := zm_sees_st i.1 rfl d a1 a2 a3 a4
  have ec : zv_I h1 348 = zv_I h 348 := zm_F_a f1 348
  have x := zm_X_a i f1 rfl rfl rfl
  refine ⟨h1, s :: l, e1, f1, x.2, x, ?_⟩
  rw [ec]
  exact ⟨n1, a1.2.1.2.2, by rw [List.length_cons]; clear hs; omega, a3, a1.2.2.2.2.2.2, rfl⟩
theorem zm_row640 {c : Nat → Int} {l : List Int} (g : zm_G0 c l) (hl : l.length ≤ 48) : (zm_row c l).length ≤ 640 := by
  have := zm_row_le g
  omega
theorem zm_leaves_l {h : zv_H} (hM : zm_M h) (d : Nat) : ∀ (m i : Nat) (a : Int), i + m = 48 → ∃ r : Int, L9_leaves_4 (d + 3) 347 a i h = some (some (zv_i r), h)
  | 0, i, a, hi => ⟨a, by rw [qL9_leaves_4, if_neg (by omega)]⟩
  | m + 1, i, a, hi => by
    have w1 : zv_w ((i : Int) + 1) = ((i + 1 : Nat) : Int) := by
      rw [zm_w (by omega)]
      rfl
    rw [qL9_leaves_4, if_pos (by omega), zm_e (zm_isState hM _ i), w1]
    dsimp only
    by_cases c1 : zm_st (zv_I h 348) i
    · rw [if_pos c1, if_neg (by decide), zm_e (zm_childrenOf hM d i)]
      dsimp only
      by_cases c2 : zm_nch (zv_I h 348) i = 0
      · rw [if_pos c2]
        exact zm_leaves_l hM d m (i + 1) _ (by omega)
      · rw [if_neg c2]
        exact zm_leaves_l hM d m (i + 1) _ (by omega)
    · rw [if_neg c1, if_pos rfl]
      exact zm_leaves_l hM d m (i + 1) _ (by omega)
theorem zm_leaves {h : zv_H} (hM : zm_M h) (d : Nat) : ∃ r : Int, C9_leaves (d + 4) 347 h = some (r, h) := by
  obtain ⟨r, e⟩ := zm_leaves_l hM d 48 0 0 rfl
  exact ⟨r, lC9_leaves (zm_ob hM) (by rw [qE9_leaves]; exact e)⟩
theorem zm_groups_l {h : zv_H} (hM : zm_M h) (d : Nat) : ∀ {l : List Int} {s : Int} (a : Int), zm_Ln (zv_I h 348) l s → ∃ r : Int, L9_groups_7 (d + 1) 347 a s h = some (some (zv_i r), h)
  | [], s, a, hl => ⟨a, by
      have h0 : s < 0 := hl
      rw [qL9_groups_7, if_pos (by omega)]⟩
  | t :: l, s, a, hl => by
    obtain ⟨⟨e, ht⟩, hl'⟩ := hl
    subst e
    rw [qL9_groups_7]
    by_cases c1 : s ≤ 0
    · rw [if_pos c1]
      exact ⟨a, rfl⟩
    · have nx : ∀ z : Int, ∃ r : Int, L9_groups_28 (d + 1) 347 s a z h = some (some (zv_i r), h) := by
        intro z
        rw [qL9_groups_28, zm_e (zm_of hM d ht (by decide))]
        exact zm_groups_l hM d _ hl'
      rw [if_neg c1, zm_e (zm_of hM d ht (by decide))]
      dsimp only
      by_cases c2 : zm_o (zv_I h 348) s 6 = s
      · rw [if_pos c2]
        exact nx 1
      · rw [if_neg c2]
        exact nx 0
theorem zm_groups {h : zv_H} (i : zm_MI h) (d : Nat) : ∃ r : Int, C9_groups (d + 2) 347 h = some (r, h) := by
  obtain ⟨l, hl⟩ := zm_WL_of i.2.1.1 _ i.2.1.2.1
  obtain ⟨r, e⟩ := zm_groups_l i.1 d 0 hl
  refine ⟨r, lC9_groups (zm_ob i.1) ?_⟩
  rw [qE9_groups, zm_e (zm_here i.1 d)]
  exact e
theorem zm_gone_l {h : zv_H} {l : List Int} (d : Nat) (hh : zm_lh (zv_I h 348) l h) (hl : ∀ t ∈ l, zm_st (zv_I h 348) t) (hn : l.length ≤ 48) : ∀ (m i : Nat) (a : Int), 1 ≤ i → i + m = l.length ∨ (m = 0 ∧ l.length ≤ i) → i ≤ 100 → ∃ r : Int, L9_gone_12 (d + 2) 347 a i h = some (some (zv_i r), h)
  | 0, i, a, h1, hi, h2 => by
    have hM := hh.1
    refine ⟨a, ?_⟩
    rw [qL9_gone_12, zm_e (zm_gI hM 10), hh.2.2.1, if_neg (by omega)]
  | m + 1, i, a, h1, hi, h2 => by
    have hM := hh.1
    have hi' : i + (m + 1) = l.length := by omega
    have w1 : zv_w ((i : Int) + 1) = ((i + 1 : Nat) : Int) := by
      rw [zm_w (by omega)]
      rfl
    obtain ⟨t, ht, et⟩ := zm_lh_g hh hn (j := i) (by omega) (by omega)
    have t48 := zm_st48 (hl t ht)
    have t49 : t < ((49 : Nat) : Int) := by omega
    have nx : ∀ z : Int, ∃ r : Int, L9_gone_12 (d + 2) 347 (zv_w (a + z)) ((i + 1 : Nat) : Int) h = some (some (zv_i r), h) := fun z => zm_gone_l d hh hl hn m (i + 1) _ (by omega) (Or.inl (by omega)) (by omega)
    rw [qL9_gone_12, zm_e (zm_gI hM 10), hh.2.2.1, if_pos (by omega), zm_e (zm_f5 hM), zm_e et, zm_e (zm_isEdit hM d t48), w1]
    dsimp only
    by_cases c1 : zm_ed (zv_I h 348) t
    · rw [if_pos c1, if_neg (by decide), zm_e (zm_f8 hM), zm_e (zm_f5 hM), zm_e et, zm_e (zm_aB hM zm_l354 (Or.inl rfl) rfl t48.1 t49)]
      by_cases c2 : zv_I h 354 t.toNat = 0
      · rw [if_pos c2]
        exact nx 1
      · rw [if_neg c2]
        exact nx 0
    · rw [if_neg c1, if_pos rfl]
      exact nx 0
theorem zm_Sn_lh {h : zv_H} (hM : zm_M h) {l : List Int} (n : zm_Sn h (zv_I h 348) l) : zm_lh (zv_I h 348) l h := ⟨hM, rfl, n.1.1, n.1.2⟩
theorem zm_gone {h : zv_H} (i : zm_MI h) (d : Nat) : zm_R (C9_gone (d + 5) 347 h) (fun q => zm_X h q.2) := by
  refine zm_cI (P := fun _ h' => zm_X h h') (lC9_gone (zm_ob i.1)) ?_
  obtain ⟨h1, l, e1, f1, i1, x1, n1, s1, m1, g1, _⟩ := zm_see i d i.2.1.2.1
  rw [qE9_gone, zm_e (zm_here i.1 _)]
  dsimp only
  rw [zm_e e1]
  have hp : 1 ≤ l.length := by
    cases l with
    | nil => cases g1.2.1
    | cons t b => exact Nat.le_add_left 1 _
  obtain ⟨r, er⟩ := zm_gone_l (d + 2) (zm_Sn_lh i1.1 n1) s1 m1 (l.length - 1) 1 0 (Nat.le_refl _) (Or.inl (by omega)) (by decide)
  rw [show L9_gone_12 (d + 4) 347 0 1 h1 = _ from er]
  exact zm_iI x1
theorem zm_many {h : zv_H} (i : zm_MI h) (d : Nat) (w : Int) : zm_R (C9_many (d + 10) 347 w h) (fun q => zm_X h q.2) := by
  refine zm_cI (P := fun _ h' => zm_X h h') (lC9_many (zm_ob i.1)) ?_
  have l16 : ∀ v : Int, zm_R (L9_many_16 (d + 9) 347 w 347 v h) (zm_I fun _ h' => zm_X h h') := by
    intro v
    rw [qL9_many_16]
    refine zm_isq i (fun _ h1 f1 i1 => zm_X_i (zm_X_a i f1 rfl rfl rfl) ?_)
    dsimp only
    obtain ⟨h2, l, e2, f2, i2, x2, n2, s2, m2, g2, _⟩ := zm_see i1 (d + 5) i1.2.1.2.1
    rw [zm_e (zm_here i1.1 _)]
    dsimp only
    rw [zm_e e2]
    refine zm_X_i x2 ?_
    refine zm_if (fun _ => zm_rX i2 ⟨_, zm_states i2.1 _ i2.2.1.1.1⟩) (fun _ => zm_if (fun _ => zm_rX i2 ⟨_, zm_here i2.1 _⟩) (fun _ => zm_if (fun _ => ?_) (fun _ => zm_if (fun _ => ?_) (fun _ => zm_if (fun _ => ?_) (fun _ => zm_if (fun _ => ?_) (fun _ => zm_if (fun _ => zm_rX i2 (zm_leaves i2.1 (d + 5))) (fun _ => zm_if (fun _ => zm_rX i2 (zm_groups i2 (d + 7))) (fun _ => zm_if (fun _ => ?_) (fun _ => ?_)))))))))
    · rw [zm_e (zm_f0 i2.1), zm_e (zm_aI i2.1 zm_l348 rfl (by decide) (by decide))]
      exact zm_rX0 i2
    · rw [zm_e (zm_gI i2.1 12)]
      exact zm_rX0 i2
    · rw [zm_e (zm_gI i2.1 11)]
      exact zm_rX0 i2
    · rw [zm_e (zm_f0 i2.1), zm_e (zm_aI i2.1 zm_l348 rfl (by decide) (by decide))]
      exact zm_rX0 i2
    · obtain ⟨⟨v3, h3⟩, e3, x3⟩ := zm_gone i2 (d + 4)
      rw [zm_e e3]
      exact zm_iI x3
    · rw [zm_e (zm_f0 i2.1), zm_e (zm_aI i2.1 zm_l348 rfl (by decide) (by decide))]
      exact zm_rX0 i2
  rw [qE9_many]
  exact zm_gb (zm_isIn _ w 0 9) (fun _ => l16 1) (fun _ => l16 0)
theorem zm_letter {h : zv_H} (i : zm_MI h) (d : Nat) (s p : Int) : zm_R (C9_letter (d + 10) 347 s p h) (fun q => zm_X h q.2) := by
  refine zm_cI (P := fun _ h' => zm_X h h') (lC9_letter (zm_ob i.1)) ?_
  have l22 : ∀ v : Int, (v = 0 → zm_st (zv_I h 348) s ∧ 0 ≤ p) → zm_R (L9_letter_22 (d + 9) 347 s p 347 v h) (zm_I fun _ h' => zm_X h h') := by
    intro v hv
    rw [qL9_letter_22]
    refine zm_isq i (fun hw h1 f1 i1 => zm_X_i (zm_X_a i f1 rfl rfl rfl) ?_)
    obtain ⟨hs, hp⟩ := hv hw
    obtain ⟨h2, l, e2, f2, i2, x2, n2, s2, m2, g2, b2, _⟩ := zm_see i1 (d + 5) (s := s) (by rw [zm_F_a f1 348]; exact hs)
    dsimp only
    rw [zm_e e2, zm_e (zm_gI i2.1 12), n2.2.2.2.2]
    refine zm_X_i x2 ?_
    refine zm_if (fun hlt => ?_) (fun _ => zm_rfX i2 _ 5)
    obtain ⟨n, en⟩ : ∃ n : Nat, p = n := ⟨p.toNat, by clear hs; omega⟩
    subst en
    have h640 := zm_row640 g2 m2
    have rp := zm_rp_in (zm_sn (zv_I h2 348) l) (zm_row (zv_I h2 348) l) n (by clear hs; omega)
    obtain ⟨x, hx⟩ : ∃ x, ((zm_row (zv_I h2 348) l).filter (zm_sn (zv_I h2 348) l))[n]? = some x := ⟨_, List.getElem?_eq_getElem (by clear hs; omega)⟩
    have hx2 := rp.2.trans hx
    have ok := zm_row_ok (fun t ht => zm_st48 (s2 t ht)) g2 x (List.mem_of_getElem? hx2)
    rw [zm_e (zm_rowPlace i2.1 _ n2 h640 hp (by clear hs; omega))]
    dsimp only
    obtain ⟨k, ek⟩ : ∃ k : Nat, zm_rp (zm_sn (zv_I h2 348) l) (zm_row (zv_I h2 348) l) n = k := ⟨(zm_rp (zm_sn (zv_I h2 348) l) (zm_row (zv_I h2 348) l) n).toNat, by have := rp.1; clear hs; omega⟩
    rw [ek]
    rw [ek] at hx2
    exact zm_rX i2 ⟨_, zm_letterIn i2.1 rfl (d + 7) n2.2.1 h640 (k := k) hx2 ok.1 (by have := ok.2; clear hs; omega)⟩
  rw [qE9_letter]
  refine zm_if (fun _ => l22 1 (fun q => by cases q)) (fun hp => ?_)
  exact zm_gb (zm_isState i.1 _ s) (fun _ => l22 2 (fun q => by cases q)) (fun hs => l22 0 (fun _ => ⟨hs, by clear hs; omega⟩))
theorem zm_state {h : zv_H} (i : zm_MI h) (d : Nat) (s w : Int) : zm_R (C9_state (d + 10) 347 s w h) (fun q => zm_X h q.2) := by
  refine zm_cI (P := fun _ h' => zm_X h h') (lC9_state (zm_ob i.1)) ?_
  have l28 : ∀ v : Int, (v = 0 → zm_st (zv_I h 348) s ∧ 0 ≤ w ∧ w ≤ 9) → zm_R (L9_state_28 (d + 9) 347 s w 347 v h) (zm_I fun _ h' => zm_X h h') := by
    intro v hv
    rw [qL9_state_28]
    refine zm_isq i (fun hw h1 f1 i1 => zm_X_i (zm_X_a i f1 rfl rfl rfl) ?_)
    obtain ⟨hs0, hp⟩ := hv hw
    have hs : zm_st (zv_I h1 348) s := by rw [zm_F_a f1 348]; exact hs0
    obtain ⟨l, a1, a2, a3, a4⟩ := zm_W_l i1.2.1.1 hs
    have h3 := i1.2.1.2.2.1
    dsimp only
    refine zm_if (fun c1 => ?_) (fun _ => zm_if (fun _ => zm_rX i1 ⟨_, zm_childrenOf i1.1 _ s⟩) (fun _ => zm_if (fun _ => zm_rX i1 ⟨_, zm_depthOf i1.1 _ a1.1 (by clear hs hs0; omega)⟩) (fun _ => zm_if (fun _ => ?_) (fun _ => ?_))))
    · rw [zm_w (x := 1 + w) (by clear hs hs0; omega)]
      exact zm_rX i1 ⟨_, zm_of i1.1 _ (zm_st48 hs) (by clear hs hs0; omega)⟩
    · obtain ⟨⟨n, h2⟩, e2, en, f2, n2⟩ := zm_lettersOf i1.1 (d + 4) (zm_sees_st i1.1 rfl (d + 4) a1 a2 a3 a4)
      rw [zm_e e2]
      exact zm_iI (zm_X_a i1 f2 rfl rfl rfl)
    · obtain ⟨u, eu, _⟩ := zm_namesOf i1.1 (d + 8) s h3
      exact zm_rX i1 ⟨u, eu⟩
  rw [qE9_state]
  refine zm_gb (zm_isIn _ w 0 9) (fun _ => l28 1 (fun q => by cases q)) (fun hw => ?_)
  exact zm_gb (zm_isState i.1 _ s) (fun _ => l28 2 (fun q => by cases q)) (fun hs => l28 0 (fun _ => ⟨hs, hw⟩))
theorem zm_child {h : zv_H} (i : zm_MI h) (d : Nat) (s n : Int) : zm_R (C9_child (d + 10) 347 s n h) (fun q => zm_X h q.2) := by
  refine zm_cI (P := fun _ h' => zm_X h h') (lC9_child (zm_ob i.1)) ?_
  have l22 : ∀ v : Int, zm_R (L9_child_22 (d + 9) 347 s n 347 v h) (zm_I fun _ h' => zm_X h h') := by
    intro v
    rw [qL9_child_22]
    refine zm_isq i (fun hw h1 f1 i1 => zm_X_i (zm_X_a i f1 rfl rfl rfl) ?_)
    have l46 : ∀ z : Int, zm_R (L9_child_46 (d + 9) 347 z h1) (zm_I fun _ h' => zm_X h1 h') := by
      intro z
      rw [qL9_child_46]
      exact zm_if (fun _ => zm_rfX i1 _ 5) (fun _ => zm_rX0 i1)
    dsimp only
    refine zm_if (fun _ => ?_) (fun _ => l46 (-1))
    obtain ⟨r, er, _⟩ := zm_childOf i1.1 (zm_WL_of i1.2.1.1) (d + 5) s n
    rw [zm_e er]
    exact l46 r
  rw [qE9_child]
  refine zm_if (fun _ => l22 1) (fun hp => ?_)
  exact zm_gb (zm_isState i.1 _ s) (fun _ => l22 2) (fun hs => l22 0)
theorem zm_force {h : zv_H} (i : zm_MI h) (d : Nat) (s t : Int) : zm_R (C9_force (d + 10) 347 s t h) (fun q => zm_X h q.2) := by
  refine zm_cI (P := fun _ h' => zm_X h h') (lC9_force (zm_ob i.1)) ?_
  have l43 : ∀ v : Int, (v = 0 → zm_st (zv_I h 348) s ∧ zm_st (zv_I h 348) t) → zm_R (L9_force_43 (d + 9) 347 s t 347 v h) (zm_I fun _ h' => zm_X h h') := by
    intro v hv
    rw [qL9_force_43]
    refine zm_isq i (fun hw h1 f1 i1 => zm_X_i (zm_X_a i f1 rfl rfl rfl) ?_)
    obtain ⟨hs, ht⟩ := hv hw
    obtain ⟨h2, l, e2, f2, i2, x2, n2, s2, m2, g2, b2, _⟩ := zm_see i1 (d + 5) (s := t) (by rw [zm_F_a f1 348]; exact ht)
    have s48 := zm_st48 hs
    have s49 : s < ((49 : Nat) : Int) := by
      clear hs ht
      omega
    dsimp only
    rw [zm_e e2, zm_e (zm_f8 i2.1), zm_e (zm_aB i2.1 zm_l354 (Or.inl rfl) rfl s48.1 s49)]
    refine zm_X_i x2 ?_
    exact zm_if (fun _ => zm_rX0 i2) (fun _ => zm_rX0 i2)
  rw [qE9_force]
  refine zm_gb (zm_isState i.1 _ s) (fun _ => ?_) (fun hs => ?_)
  · rw [qL9_force_17]
    exact l43 2 (fun q => by cases q)
  refine zm_gb (zm_isState i.1 _ t) (fun _ => ?_) (fun ht => ?_)
  · rw [qL9_force_17]
    exact l43 2 (fun q => by cases q)
  refine zm_gb (zm_isEdit i.1 _ (zm_st48 hs)) (fun _ => ?_) (fun _ => ?_)
  · rw [qL9_force_38]
    exact l43 5 (fun q => by cases q)
  obtain ⟨l, hl⟩ := zm_WL_of i.2.1.1 _ ht
  refine zm_gb (zm_isOfLine i.1 _ s hl) (fun _ => ?_) (fun _ => l43 0 (fun _ => ⟨hs, ht⟩))
  rw [qL9_force_38]
  exact l43 5 (fun q => by cases q)
