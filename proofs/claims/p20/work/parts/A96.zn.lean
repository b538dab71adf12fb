/-! ===== the reference: what is asked changes no number (genzn.py) ===== -/
/-- the numbers of all STATES are as they were -/
def zn_e (c c' : Nat → Int) : Prop := ∀ k : Nat, k < 4236 → ¬ (4080 ≤ k ∧ k < 4156) → c' k = c k
def zn_X (h h' : zv_H) : Prop := (zm_F [348, 349, 350, 351, 352, 353, 354, 355, 356, 357, 358, 359, 360, 362, 363, 364, 365, 370, 371, 372] [3, 4, 10, 11, 12, 19, 24, 47] h h' ∧ zn_e (zv_I h 348) (zv_I h' 348)) ∧ zm_MI h'
theorem zn_e_r (c : Nat → Int) : zn_e c c := fun _ _ _ => rfl
theorem zn_X_r {h : zv_H} (i : zm_MI h) : zn_X h h := ⟨⟨zm_F_r _ _ h, zn_e_r _⟩, i⟩
theorem zn_X_t {a b c : zv_H} (x : zn_X a b) (y : zn_X b c) : zn_X a c := ⟨⟨zm_F_t x.1.1 y.1.1, fun k k1 k2 => (y.1.2 k k1 k2).trans (x.1.2 k k1 k2)⟩, y.2⟩
theorem zn_X_a {h h' : zv_H} {A B : List Nat} (i : zm_MI h) (f : zm_F A B h h') (hA : (A.all fun r => List.contains [348, 349, 350, 351, 352, 353, 354, 355, 356, 357, 358, 359, 360, 362, 363, 364, 365, 370, 371, 372] r) = true) (hB : (B.all fun r => List.contains [3, 4, 10, 11, 12, 19, 24] r) = true) (h348 : A.contains 348 = false) : zn_X h h' := by
  have g : zm_F [348, 349, 350, 351, 352, 353, 354, 355, 356, 357, 358, 359, 360, 362, 363, 364, 365, 370, 371, 372] [3, 4, 10, 11, 12, 19, 24] h h' := zm_F_s f hA hB
  have e : zv_I h' 348 = zv_I h 348 := zm_F_a f 348 h348
  have g2 : zm_F [348, 349, 350, 351, 352, 353, 354, 355, 356, 357, 358, 359, 360, 361, 362, 363, 364, 365, 366, 370, 371, 372] [3, 4, 10, 11, 12, 19, 24] h h' := zm_F_s g rfl rfl
  exact ⟨⟨zm_F_s g rfl rfl, by rw [e]; exact zn_e_r _⟩, (zm_X_of i g2 rfl rfl (by rw [e]; exact i.2.1)).2⟩
theorem zn_isq {h : zv_H} {d : Nat} {w : Int} {T : Int × zv_H → zv_O} (i : zm_MI h) (k : w = 0 → ∀ h1 : zv_H, zm_F [] [3, 4] h h1 → zm_MI h1 → zm_R (T (1, h1)) (zm_I fun _ h' => zn_X h h')) : zm_R ((C9_is (d + 1) 347 w h).bind fun q => if q.1 = 0 then (some (some (zv_i (-1)), q.2) : zv_O) else T q) (zm_I fun _ h' => zn_X h h') := by
  have f : zm_F [] [3, 4] h (zv_sI (zv_sI h 347 4 0) 347 3 w) := zm_F_f (zm_F_f (zm_F_r _ _ h) rfl _) rfl _
  have x := zn_X_a i f rfl rfl rfl
  exact zm_gb (zm_is i.1 d w) (fun _ => zm_iI x) (fun hw => k hw _ f x.2)
theorem zn_X_i {h h1 : zv_H} (x : zn_X h h1) {o : zv_O} (r : zm_R o (zm_I fun _ h' => zn_X h1 h')) : zm_R o (zm_I fun _ h' => zn_X h h') := by
  refine zm_mono r ?_
  rintro ⟨ov, h'⟩ ⟨v, e, y⟩
  exact ⟨v, e, zn_X_t x y⟩
theorem zn_rX {h : zv_H} {o : Option (Int × zv_H)} (i : zm_MI h) (e : ∃ r : Int, o = some (r, h)) : zm_R (o.bind fun q => (some (some (zv_i q.1), q.2) : zv_O)) (zm_I fun _ h' => zn_X h h') := by
  obtain ⟨r, e⟩ := e
  rw [e]
  exact zm_iI ⟨⟨zm_F_r _ _ h, zn_e_r _⟩, i⟩
theorem zn_rX0 {h : zv_H} {r : Int} (i : zm_MI h) : zm_R (some (some (zv_i r), h) : zv_O) (zm_I fun _ h' => zn_X h h') := zm_iI ⟨⟨zm_F_r _ _ h, zn_e_r _⟩, i⟩
theorem zn_rfX {h : zv_H} (i : zm_MI h) (d : Nat) (w : Int) : zm_R ((C9_refuse (d + 1) 347 w h).bind fun q => (some (some (zv_i q.1), q.2) : zv_O)) (zm_I fun _ h' => zn_X h h') := by
  rw [zm_e (zm_refuse i.1 d w)]
  exact zm_iI (zn_X_a (A := []) (B := [3]) i (zm_F_f (zm_F_r _ _ h) rfl _) rfl rfl rfl)
theorem zn_see {h : zv_H} (i : zm_MI h) (d : Nat) {s : Int} (hs : zm_st (zv_I h 348) s) : ∃ (h1 : zv_H) (l : List Int), C9_sees (d + 4) 347 s h = some h1 ∧ zm_F [351, 352, 353, 354, 355] [10, 11, 12] h h1 ∧ zm_MI h1 ∧ zn_X h h1 ∧ zm_Sn h1 (zv_I h1 348) l ∧ (∀ t ∈ l, zm_st (zv_I h1 348) t) ∧ l.length ≤ 48 ∧ zm_G0 (zv_I h1 348) l ∧ ((zm_row (zv_I h1 348) l).filter (zm_sn (zv_I h1 348) l)).length ≤ 120 ∧ zv_I h1 348 = zv_I h 348 := by
  obtain ⟨l, a1, a2, a3, a4⟩ := zm_W_l i.2.1.1 hs
  obtain ⟨h1, e1, f1, n1⟩ := zm_sees_st i.1 rfl d a1 a2 a3 a4
  have ec : zv_I h1 348 = zv_I h 348 := zm_F_a f1 348
  have x := zn_X_a i f1 rfl rfl rfl
  refine ⟨h1, s :: l, e1, f1, x.2, x, ?_⟩
  rw [ec]
  exact ⟨n1, a1.2.1.2.2, by rw [List.length_cons]; clear hs; omega, a3, a1.2.2.2.2.2.2, rfl⟩
theorem zn_gone {h : zv_H} (i : zm_MI h) (d : Nat) : zm_R (C9_gone (d + 5) 347 h) (fun q => zn_X h q.2) := by
  refine zm_cI (P := fun _ h' => zn_X h h') (lC9_gone (zm_ob i.1)) ?_
  obtain ⟨h1, l, e1, f1, i1, x1, n1, s1, m1, g1, _⟩ := zn_see i d i.2.1.2.1
  rw [qE9_gone, zm_e (zm_here i.1 _)]
  dsimp only
  rw [zm_e e1]
  have hp : 1 ≤ l.length := by
    cases l with
    | nil => cases g1.2.1
    | cons t b => exact Nat.le_add_left 1 _
  obtain ⟨r, er⟩ := zm_gone_l (d + 2) (zm_Sn_lh i1.1 n1) s1 m1 (l.length - 1) 1 0 (Nat.le_refl _) (Or.inl (by omega)) (by decide)
  rw [show L9_gone_12 (d + 4) 347 0 1 h1 = _ from er]
  exact zm_iI x1
theorem zn_many {h : zv_H} (i : zm_MI h) (d : Nat) (w : Int) : zm_R (C9_many (d + 10) 347 w h) (fun q => zn_X h q.2) := by
  refine zm_cI (P := fun _ h' => zn_X h h') (lC9_many (zm_ob i.1)) ?_
  have l16 : ∀ v : Int, zm_R (L9_many_16 (d + 9) 347 w 347 v h) (zm_I fun _ h' => zn_X h h') := by
    intro v
    rw [qL9_many_16]
    refine zn_isq i (fun _ h1 f1 i1 => zn_X_i (zn_X_a i f1 rfl rfl rfl) ?_)
    dsimp only
    obtain ⟨h2, l, e2, f2, i2, x2, n2, s2, m2, g2, _⟩ := zn_see i1 (d + 5) i1.2.1.2.1
    rw [zm_e (zm_here i1.1 _)]
    dsimp only
    rw [zm_e e2]
    refine zn_X_i x2 ?_
    refine zm_if (fun _ => zn_rX i2 ⟨_, zm_states i2.1 _ i2.2.1.1.1⟩) (fun _ => zm_if (fun _ => zn_rX i2 ⟨_, zm_here i2.1 _⟩) (fun _ => zm_if (fun _ => ?_) (fun _ => zm_if (fun _ => ?_) (fun _ => zm_if (fun _ => ?_) (fun _ => zm_if (fun _ => ?_) (fun _ => zm_if (fun _ => zn_rX i2 (zm_leaves i2.1 (d + 5))) (fun _ => zm_if (fun _ => zn_rX i2 (zm_groups i2 (d + 7))) (fun _ => zm_if (fun _ => ?_) (fun _ => ?_)))))))))
    · rw [zm_e (zm_f0 i2.1), zm_e (zm_aI i2.1 zm_l348 rfl (by decide) (by decide))]
      exact zn_rX0 i2
    · rw [zm_e (zm_gI i2.1 12)]
      exact zn_rX0 i2
    · rw [zm_e (zm_gI i2.1 11)]
      exact zn_rX0 i2
    · rw [zm_e (zm_f0 i2.1), zm_e (zm_aI i2.1 zm_l348 rfl (by decide) (by decide))]
      exact zn_rX0 i2
    · obtain ⟨⟨v3, h3⟩, e3, x3⟩ := zn_gone i2 (d + 4)
      rw [zm_e e3]
      exact zm_iI x3
    · rw [zm_e (zm_f0 i2.1), zm_e (zm_aI i2.1 zm_l348 rfl (by decide) (by decide))]
      exact zn_rX0 i2
  rw [qE9_many]
  exact zm_gb (zm_isIn _ w 0 9) (fun _ => l16 1) (fun _ => l16 0)
theorem zn_letter {h : zv_H} (i : zm_MI h) (d : Nat) (s p : Int) : zm_R (C9_letter (d + 10) 347 s p h) (fun q => zn_X h q.2) := by
  refine zm_cI (P := fun _ h' => zn_X h h') (lC9_letter (zm_ob i.1)) ?_
  have l22 : ∀ v : Int, (v = 0 → zm_st (zv_I h 348) s ∧ 0 ≤ p) → zm_R (L9_letter_22 (d + 9) 347 s p 347 v h) (zm_I fun _ h' => zn_X h h') := by
    intro v hv
    rw [qL9_letter_22]
    refine zn_isq i (fun hw h1 f1 i1 => zn_X_i (zn_X_a i f1 rfl rfl rfl) ?_)
    obtain ⟨hs, hp⟩ := hv hw
    obtain ⟨h2, l, e2, f2, i2, x2, n2, s2, m2, g2, b2, _⟩ := zn_see i1 (d + 5) (s := s) (by rw [zm_F_a f1 348]; exact hs)
    dsimp only
    rw [zm_e e2, zm_e (zm_gI i2.1 12), n2.2.2.2.2]
    refine zn_X_i x2 ?_
    refine zm_if (fun hlt => ?_) (fun _ => zn_rfX i2 _ 5)
    obtain ⟨n, en⟩ : ∃ n : Nat, p = n := ⟨p.toNat, by clear hs; omega⟩
    subst en
    have h640 := zm_row640 g2 m2
    have rp := zm_rp_in (zm_sn (zv_I h2 348) l) (zm_row (zv_I h2 348) l) n (by clear hs; omega)
    obtain ⟨x, hx⟩ : ∃ x, ((zm_row (zv_I h2 348) l).filter (zm_sn (zv_I h2 348) l))[n]? = some x := ⟨_, List.getElem?_eq_getElem (by clear hs; omega)⟩
    have hx2 := rp.2.trans hx
    have ok := zm_row_ok (fun t ht => zm_st48 (s2 t ht)) g2 x (List.mem_of_getElem? hx2)
    rw [zm_e (zm_rowPlace i2.1 _ n2 h640 hp (by clear hs; omega))]
    dsimp only
    obtain ⟨k, ek⟩ : ∃ k : Nat, zm_rp (zm_sn (zv_I h2 348) l) (zm_row (zv_I h2 348) l) n = k := ⟨(zm_rp (zm_sn (zv_I h2 348) l) (zm_row (zv_I h2 348) l) n).toNat, by have := rp.1; clear hs; omega⟩
    rw [ek]
    rw [ek] at hx2
    exact zn_rX i2 ⟨_, zm_letterIn i2.1 rfl (d + 7) n2.2.1 h640 (k := k) hx2 ok.1 (by have := ok.2; clear hs; omega)⟩
  rw [qE9_letter]
  refine zm_if (fun _ => l22 1 (fun q => by cases q)) (fun hp => ?_)
  exact zm_gb (zm_isState i.1 _ s) (fun _ => l22 2 (fun q => by cases q)) (fun hs => l22 0 (fun _ => ⟨hs, by clear hs; omega⟩))
theorem zn_state {h : zv_H} (i : zm_MI h) (d : Nat) (s w : Int) : zm_R (C9_state (d + 10) 347 s w h) (fun q => zn_X h q.2) := by
  refine zm_cI (P := fun _ h' => zn_X h h') (lC9_state (zm_ob i.1)) ?_
  have l28 : ∀ v : Int, (v = 0 → zm_st (zv_I h 348) s ∧ 0 ≤ w ∧ w ≤ 9) → zm_R (L9_state_28 (d + 9) 347 s w 347 v h) (zm_I fun _ h' => zn_X h h') := by
    intro v hv
    rw [qL9_state_28]
    refine zn_isq i (fun hw h1 f1 i1 => zn_X_i (zn_X_a i f1 rfl rfl rfl) ?_)
    obtain ⟨hs0, hp⟩ := hv hw
    have hs : zm_st (zv_I h1 348) s := by rw [zm_F_a f1 348]; exact hs0
    obtain ⟨l, a1, a2, a3, a4⟩ := zm_W_l i1.2.1.1 hs
    have h3 := i1.2.1.2.2.1
    dsimp only
    refine zm_if (fun c1 => ?_) (fun _ => zm_if (fun _ => zn_rX i1 ⟨_, zm_childrenOf i1.1 _ s⟩) (fun _ => zm_if (fun _ => zn_rX i1 ⟨_, zm_depthOf i1.1 _ a1.1 (by clear hs hs0; omega)⟩) (fun _ => zm_if (fun _ => ?_) (fun _ => ?_))))
    · rw [zm_w (x := 1 + w) (by clear hs hs0; omega)]
      exact zn_rX i1 ⟨_, zm_of i1.1 _ (zm_st48 hs) (by clear hs hs0; omega)⟩
    · obtain ⟨⟨n, h2⟩, e2, en, f2, n2⟩ := zm_lettersOf i1.1 (d + 4) (zm_sees_st i1.1 rfl (d + 4) a1 a2 a3 a4)
      rw [zm_e e2]
      exact zm_iI (zn_X_a i1 f2 rfl rfl rfl)
    · obtain ⟨u, eu, _⟩ := zm_namesOf i1.1 (d + 8) s h3
      exact zn_rX i1 ⟨u, eu⟩
  rw [qE9_state]
  refine zm_gb (zm_isIn _ w 0 9) (fun _ => l28 1 (fun q => by cases q)) (fun hw => ?_)
  exact zm_gb (zm_isState i.1 _ s) (fun _ => l28 2 (fun q => by cases q)) (fun hs => l28 0 (fun _ => ⟨hs, hw⟩))
theorem zn_child {h : zv_H} (i : zm_MI h) (d : Nat) (s n : Int) : zm_R (C9_child (d + 10) 347 s n h) (fun q => zn_X h q.2) := by
  refine zm_cI (P := fun _ h' => zn_X h h') (lC9_child (zm_ob i.1)) ?_
  have l22 : ∀ v : Int, zm_R (L9_child_22 (d + 9) 347 s n 347 v h) (zm_I fun _ h' => zn_X h h') := by
    intro v
    rw [qL9_child_22]
    refine zn_isq i (fun hw h1 f1 i1 => zn_X_i (zn_X_a i f1 rfl rfl rfl) ?_)
    have l46 : ∀ z : Int, zm_R (L9_child_46 (d + 9) 347 z h1) (zm_I fun _ h' => zn_X h1 h') := by
      intro z
      rw [qL9_child_46]
      exact zm_if (fun _ => zn_rfX i1 _ 5) (fun _ => zn_rX0 i1)
    dsimp only
    refine zm_if (fun _ => ?_) (fun _ => l46 (-1))
    obtain ⟨r, er, _⟩ := zm_childOf i1.1 (zm_WL_of i1.2.1.1) (d + 5) s n
    rw [zm_e er]
    exact l46 r
  rw [qE9_child]
  refine zm_if (fun _ => l22 1) (fun hp => ?_)
  exact zm_gb (zm_isState i.1 _ s) (fun _ => l22 2) (fun hs => l22 0)
theorem zn_force {h : zv_H} (i : zm_MI h) (d : Nat) (s t : Int) : zm_R (C9_force (d + 10) 347 s t h) (fun q => zn_X h q.2) := by
  refine zm_cI (P := fun _ h' => zn_X h h') (lC9_force (zm_ob i.1)) ?_
  have l43 : ∀ v : Int, (v = 0 → zm_st (zv_I h 348) s ∧ zm_st (zv_I h 348) t) → zm_R (L9_force_43 (d + 9) 347 s t 347 v h) (zm_I fun _ h' => zn_X h h') := by
    intro v hv
    rw [qL9_force_43]
    refine zn_isq i (fun hw h1 f1 i1 => zn_X_i (zn_X_a i f1 rfl rfl rfl) ?_)
    obtain ⟨hs, ht⟩ := hv hw
    obtain ⟨h2, l, e2, f2, i2, x2, n2, s2, m2, g2, b2, _⟩ := zn_see i1 (d + 5) (s := t) (by rw [zm_F_a f1 348]; exact ht)
    have s48 := zm_st48 hs
    have s49 : s < ((49 : Nat) : Int) := by
      clear hs ht
      omega
    dsimp only
    rw [zm_e e2, zm_e (zm_f8 i2.1), zm_e (zm_aB i2.1 zm_l354 (Or.inl rfl) rfl s48.1 s49)]
    refine zn_X_i x2 ?_
    exact zm_if (fun _ => zn_rX0 i2) (fun _ => zn_rX0 i2)
  rw [qE9_force]
  refine zm_gb (zm_isState i.1 _ s) (fun _ => ?_) (fun hs => ?_)
  · rw [qL9_force_17]
    exact l43 2 (fun q => by cases q)
  refine zm_gb (zm_isState i.1 _ t) (fun _ => ?_) (fun ht => ?_)
  · rw [qL9_force_17]
    exact l43 2 (fun q => by cases q)
  refine zm_gb (zm_isEdit i.1 _ (zm_st48 hs)) (fun _ => ?_) (fun _ => ?_)
  · rw [qL9_force_38]
    exact l43 5 (fun q => by cases q)
  obtain ⟨l, hl⟩ := zm_WL_of i.2.1.1 _ ht
  refine zm_gb (zm_isOfLine i.1 _ s hl) (fun _ => ?_) (fun _ => l43 0 (fun _ => ⟨hs, ht⟩))
  rw [qL9_force_38]
  exact l43 5 (fun q => by cases q)
theorem zn_blame {h : zv_H} (i : zm_MI h) (d : Nat) (p w : Int) : zm_R (C9_blame (d + 10) 347 p w h) (fun q => zn_X h q.2) := by
  refine zm_cI (P := fun _ h' => zn_X h h') (lC9_blame (zm_ob i.1)) ?_
  have l19 : ∀ v : Int, (v = 0 → 0 ≤ p) → zm_R (L9_blame_19 (d + 9) 347 p w 347 v h) (zm_I fun _ h' => zn_X h h') := by
    intro v hv
    rw [qL9_blame_19]
    refine zn_isq i (fun hw h1 f1 i1 => zn_X_i (zn_X_a i f1 rfl rfl rfl) ?_)
    have hp := hv hw
    obtain ⟨h2, l, e2, f2, i2, x2, n2, s2, m2, g2, b2, _⟩ := zn_see i1 (d + 5) i1.2.1.2.1
    dsimp only
    rw [zm_e (zm_here i1.1 _)]
    dsimp only
    rw [zm_e e2, zm_e (zm_gI i2.1 12), n2.2.2.2.2]
    refine zn_X_i x2 ?_
    refine zm_if (fun hlt => ?_) (fun _ => zn_rfX i2 _ 5)
    obtain ⟨n, en⟩ : ∃ n : Nat, p = n := ⟨p.toNat, by omega⟩
    subst en
    have h640 := zm_row640 g2 m2
    have rp := zm_rp_in (zm_sn (zv_I h2 348) l) (zm_row (zv_I h2 348) l) n (by omega)
    have rp2 := zm_rp_ge (zm_sn (zv_I h2 348) l) (zm_row (zv_I h2 348) l) n
    rw [zm_e (zm_rowPlace i2.1 _ n2 h640 hp (by omega))]
    dsimp only
    refine zm_if (fun _ => ?_) (fun _ => zm_if (fun _ => ?_) (fun _ => zn_rX0 i2))
    · rw [zm_e (zm_f6 i2.1), zm_e (zm_aI i2.1 zm_l352 rfl rp.1 (by omega))]
      exact zn_rX0 i2
    · rw [zm_e (zm_f7 i2.1), zm_e (zm_aI i2.1 zm_l353 rfl rp.1 (by omega))]
      exact zn_rX0 i2
  have l18 : zm_R (L9_blame_18 (d + 9) 347 p w 347 h) (zm_I fun _ h' => zn_X h h') := by
    rw [qL9_blame_18]
    exact l19 1 (fun q => by cases q)
  rw [qE9_blame]
  refine zm_if (fun _ => l18) (fun hp => ?_)
  exact zm_gb (zm_isIn _ w 0 2) (fun _ => l18) (fun _ => l19 0 (fun _ => by omega))
theorem zn_row_ {h : zv_H} (i : zm_MI h) (d : Nat) (p w : Int) : zm_R (C9_row (d + 10) 347 p w h) (fun q => zn_X h q.2) := by
  refine zm_cI (P := fun _ h' => zn_X h h') (lC9_row (zm_ob i.1)) ?_
  have l19 : ∀ v : Int, (v = 0 → 0 ≤ p) → zm_R (L9_row_19 (d + 9) 347 p w 347 v h) (zm_I fun _ h' => zn_X h h') := by
    intro v hv
    rw [qL9_row_19]
    refine zn_isq i (fun hw h1 f1 i1 => zn_X_i (zn_X_a i f1 rfl rfl rfl) ?_)
    have hp := hv hw
    obtain ⟨h2, l, e2, f2, i2, x2, n2, s2, m2, g2, b2, _⟩ := zn_see i1 (d + 5) i1.2.1.2.1
    dsimp only
    rw [zm_e (zm_here i1.1 _)]
    dsimp only
    rw [zm_e e2, zm_e (zm_gI i2.1 11), n2.2.1.1]
    refine zn_X_i x2 ?_
    refine zm_if (fun hlt => ?_) (fun _ => zn_rfX i2 _ 5)
    have h640 := zm_row640 g2 m2
    obtain ⟨n, en⟩ : ∃ n : Nat, p = n := ⟨p.toNat, by omega⟩
    subst en
    have j1 : (n : Int) < ((640 : Nat) : Int) := by omega
    obtain ⟨x, hx⟩ : ∃ x, (zm_row (zv_I h2 348) l)[n]? = some x := ⟨_, List.getElem?_eq_getElem (by omega)⟩
    have ok := zm_row_ok (fun t ht => zm_st48 (s2 t ht)) g2 x (List.mem_of_getElem? hx)
    refine zm_if (fun _ => zn_rX i2 ⟨_, zm_letterIn i2.1 rfl (d + 7) n2.2.1 h640 (k := n) hx ok.1 (by have := ok.2; omega)⟩) (fun _ => zm_if (fun _ => ?_) (fun _ => zm_if (fun _ => ?_) (fun _ => ?_)))
    · rw [zm_e (zm_f6 i2.1), zm_e (zm_aI i2.1 zm_l352 rfl hp j1)]
      exact zn_rX0 i2
    · rw [zm_e (zm_f9 i2.1), zm_e (zm_aB i2.1 zm_l355 (Or.inl rfl) rfl hp j1)]
      exact zm_if (fun _ => zn_rX0 i2) (fun _ => zn_rX0 i2)
    · rw [zm_e (zm_f6 i2.1), zm_e (zm_aI i2.1 zm_l352 rfl hp j1), zm_e (zm_f7 i2.1), zm_e (zm_aI i2.1 zm_l353 rfl hp j1)]
      have lp : 1 ≤ l.length := by
        cases l with
        | nil => cases g2.2.1
        | cons t b => exact Nat.le_add_left 1 _
      have l120 : ∀ z : Int, zm_R (L9_row_120 (d + 9) 347 (zv_I h2 352 ((n : Int)).toNat) (zv_I h2 353 ((n : Int)).toNat) z h2) (zm_I fun _ h' => zn_X h2 h') := by
        intro z
        have ec : ∃ r : Int, C9_cutsOf (d + 9) 347 (zv_I h2 352 ((n : Int)).toNat) (zv_I h2 353 ((n : Int)).toNat) z h2 = some (r, h2) := by
          have main : ∃ r : Int, E9_cutsOf (d + 8) 347 (zv_I h2 352 ((n : Int)).toNat) (zv_I h2 353 ((n : Int)).toNat) z h2 = some (some (zv_i r), h2) := by
            rw [qE9_cutsOf]
            by_cases c1 : z = 0
            · rw [if_pos c1]
              exact zm_cutsOf_l (d + 7) (zm_Sn_lh i2.1 n2) i2.2.1.1 s2 m2 _ _ _ (l.length - 1) 1 _ (Nat.le_refl _) (by omega)
            · rw [if_neg c1]
              exact zm_cutsOf_l (d + 7) (zm_Sn_lh i2.1 n2) i2.2.1.1 s2 m2 _ _ _ (l.length - 1) 1 _ (Nat.le_refl _) (by omega)
          obtain ⟨r, e⟩ := main
          exact ⟨r, lC9_cutsOf (zm_ob i2.1) e⟩
        rw [qL9_row_120]
        exact zn_rX i2 ec
      exact zm_if (fun _ => l120 1) (fun _ => l120 0)
  have l18 : zm_R (L9_row_18 (d + 9) 347 p w 347 h) (zm_I fun _ h' => zn_X h h') := by
    rw [qL9_row_18]
    exact l19 1 (fun q => by cases q)
  rw [qE9_row]
  refine zm_if (fun _ => l18) (fun hp => ?_)
  exact zm_gb (zm_isIn _ w 0 4) (fun _ => l18) (fun _ => l19 0 (fun _ => by omega))
theorem zn_visit {h : zv_H} (i : zm_MI h) (d : Nat) (n w : Int) : zm_R (C9_visit (d + 10) 347 n w h) (fun q => zn_X h q.2) := by
  refine zm_cI (P := fun _ h' => zn_X h h') (lC9_visit (zm_ob i.1)) ?_
  have l39 : ∀ v : Int, (v = 0 → (0 ≤ n ∧ n ≤ 39) ∧ 0 ≤ w ∧ w ≤ 1) → zm_R (L9_visit_39 (d + 9) 347 n w 347 v h) (zm_I fun _ h' => zn_X h h') := by
    intro v hv
    rw [qL9_visit_39]
    refine zn_isq i (fun hw h1 f1 i1 => zn_X_i (zn_X_a i f1 rfl rfl rfl) ?_)
    have hp := hv hw
    dsimp only
    rw [zm_e (zm_f0 i1.1), zm_w (x := 2 * n) (by omega), zm_w (x := 4156 + 2 * n) (by omega), zm_w (x := 4156 + 2 * n + w) (by omega), zm_e (zm_aI i1.1 zm_l348 rfl (by omega) (by omega))]
    exact zn_rX0 i1
  have l20 : zm_R (L9_visit_20 (d + 9) 347 n w 347 h) (zm_I fun _ h' => zn_X h h') := by
    rw [qL9_visit_20]
    exact l39 1 (fun q => by cases q)
  rw [qE9_visit]
  refine zm_gb (zm_isIn _ n 0 39) (fun _ => l20) (fun h1 => ?_)
  refine zm_gb (zm_isIn _ w 0 1) (fun _ => l20) (fun h2 => ?_)
  dsimp only
  rw [zm_e (zm_f0 i.1), zm_e (zm_aI i.1 zm_l348 rfl (by decide) (by decide))]
  exact zm_if (fun _ => l39 0 (fun _ => ⟨h1, h2⟩)) (fun _ => l39 5 (fun q => by cases q))
theorem zn_named {h : zv_H} (i : zm_MI h) (d : Nat) : zm_R (C9_named (d + 10) 347 h) (fun q => zn_X h q.2) := by
  refine zm_cI (P := fun _ h' => zn_X h h') (lC9_named (zm_ob i.1)) ?_
  have l19 : ∀ v : Int, zm_R (L9_named_19 (d + 9) 347 347 v h) (zm_I fun _ h' => zn_X h h') := by
    intro v
    rw [qL9_named_19]
    refine zn_isq i (fun hw h1 f1 i1 => zn_X_i (zn_X_a i f1 rfl rfl rfl) ?_)
    have h20 := i1.2.2.2.2.2.1
    have h3 := i1.2.1.2.2.1
    obtain ⟨u, eu⟩ := zm_packed i1.1 (d + 8) zm_l361 rfl (m := zv_I h1 347 20) (by omega) (by omega) (by decide)
    obtain ⟨k, ek, k0, k1⟩ := zm_nameAt i1.1 (d + 8) u h3
    dsimp only
    rw [zm_e (zm_f18 i1.1), zm_e (zm_gI i1.1 20), zm_e eu]
    dsimp only
    rw [zm_e ek]
    dsimp only
    refine zm_if (fun _ => zn_rfX i1 _ 5) (fun hk => ?_)
    rw [zm_e (zm_f0 i1.1), zm_w (x := 2 * k) (by omega), zm_w (x := 408 + 2 * k) (by omega), zm_w (x := 408 + 2 * k + 1) (by omega), zm_e (zm_aI i1.1 zm_l348 rfl (by omega) (by omega))]
    exact zn_rX0 i1
  rw [qE9_named, zm_e (zm_gI i.1 20)]
  exact zm_gb (zm_isIn _ _ 1 6) (fun _ => l19 1) (fun _ => l19 0)
theorem zn_leans {h : zv_H} (i : zm_MI h) (d : Nat) (s t : Int) : zm_R (C9_leans (d + 10) 347 s t h) (fun q => zn_X h q.2) := by
  refine zm_cI (P := fun _ h' => zn_X h h') (lC9_leans (zm_ob i.1)) ?_
  have l47 : ∀ v : Int, (v = 0 → (zm_st (zv_I h 348) s ∧ zm_ed (zv_I h 348) s) ∧ zm_st (zv_I h 348) t ∧ zm_ed (zv_I h 348) t) → zm_R (L9_leans_47 (d + 9) 347 s t 347 v h) (zm_I fun _ h' => zn_X h h') := by
    intro v hv
    rw [qL9_leans_47]
    refine zn_isq i (fun hw h1 f1 i1 => zn_X_i (zn_X_a i f1 rfl rfl rfl) ?_)
    obtain ⟨⟨a1, a2⟩, a3, a4⟩ := hv hw
    rw [← zm_F_a f1 348] at a1 a2 a3 a4
    obtain ⟨lt, hlt⟩ := zm_WL_of i1.2.1.1 _ a3
    obtain ⟨ls, hls⟩ := zm_WL_of i1.2.1.1 _ a1
    have lo : ∀ {x y : Int}, zm_st (zv_I h1 348) x → zm_ed (zv_I h1 348) x → zm_R ((C9_leansOn (d + 9) 347 x y h1).bind fun q => if q.1 = 0 then (some (some (zv_i 0), q.2) : zv_O) else some (some (zv_i 1), q.2)) (zm_I fun _ h' => zn_X h1 h') := by
      intro x y hx he
      obtain ⟨v, ev, _⟩ := zm_leansOn i1.1 (d + 7) i1.2.1.1 hx he y
      rw [zm_e ev]
      exact zm_if (fun _ => zn_rX0 i1) (fun _ => zn_rX0 i1)
    dsimp only
    refine zm_gb (zm_isOfLine i1.1 _ s hlt) (fun _ => ?_) (fun _ => lo a3 a4)
    exact zm_gb (zm_isOfLine i1.1 _ t hls) (fun _ => zn_rfX i1 _ 5) (fun _ => lo a1 a2)
  have l17 : zm_R (L9_leans_17 (d + 9) 347 s t 347 h) (zm_I fun _ h' => zn_X h h') := by
    rw [qL9_leans_17]
    exact l47 2 (fun q => by cases q)
  have l42 : zm_R (L9_leans_42 (d + 9) 347 s t 347 h) (zm_I fun _ h' => zn_X h h') := by
    rw [qL9_leans_42]
    exact l47 5 (fun q => by cases q)
  rw [qE9_leans]
  refine zm_gb (zm_isState i.1 _ s) (fun _ => l17) (fun hs => ?_)
  refine zm_gb (zm_isState i.1 _ t) (fun _ => l17) (fun ht => ?_)
  refine zm_if (fun _ => l42) (fun _ => ?_)
  refine zm_gb (zm_isEdit i.1 _ (zm_st48 hs)) (fun _ => l42) (fun hes => ?_)
  exact zm_gb (zm_isEdit i.1 _ (zm_st48 ht)) (fun _ => l42) (fun het => l47 0 (fun _ => ⟨⟨hs, hes⟩, ht, het⟩))
theorem zn_common {h : zv_H} (i : zm_MI h) (d : Nat) (s t : Int) : zm_R (C9_common (d + 10) 347 s t h) (fun q => zn_X h q.2) := by
  refine zm_cI (P := fun _ h' => zn_X h h') (lC9_common (zm_ob i.1)) ?_
  have l22 : ∀ v : Int, (v = 0 → zm_st (zv_I h 348) s ∧ zm_st (zv_I h 348) t) → zm_R (L9_common_22 (d + 9) 347 s t 347 v h) (zm_I fun _ h' => zn_X h h') := by
    intro v hv
    rw [qL9_common_22]
    refine zn_isq i (fun hw h1 f1 i1 => zn_X_i (zn_X_a i f1 rfl rfl rfl) ?_)
    obtain ⟨a1, a2⟩ := hv hw
    rw [← zm_F_a f1 348] at a1 a2
    obtain ⟨x, n, ls, lt, cm, _⟩ := zm_way3 i1 a1 a2
    exact zn_rX i1 ⟨x, cm (d + 6)⟩
  have l21 : zm_R (L9_common_21 (d + 9) 347 s t 347 h) (zm_I fun _ h' => zn_X h h') := by
    rw [qL9_common_21]
    exact l22 2 (fun q => by cases q)
  rw [qE9_common]
  refine zm_gb (zm_isState i.1 _ s) (fun _ => l21) (fun hs => ?_)
  exact zm_gb (zm_isState i.1 _ t) (fun _ => l21) (fun ht => l22 0 (fun _ => ⟨hs, ht⟩))
theorem zn_way {h : zv_H} (i : zm_MI h) (d : Nat) (s t p : Int) : zm_R (C9_way (d + 10) 347 s t p h) (fun q => zn_X h q.2) := by
  refine zm_cI (P := fun _ h' => zn_X h h') (lC9_way (zm_ob i.1)) ?_
  have l30 : ∀ v : Int, (v = 0 → 0 ≤ p ∧ zm_st (zv_I h 348) s ∧ zm_st (zv_I h 348) t) → zm_R (L9_way_30 (d + 9) 347 s t p 347 v h) (zm_I fun _ h' => zn_X h h') := by
    intro v hv
    rw [qL9_way_30]
    refine zn_isq i (fun hw h1 f1 i1 => zn_X_i (zn_X_a i f1 rfl rfl rfl) ?_)
    obtain ⟨hp, a1, a2⟩ := hv hw
    rw [← zm_F_a f1 348] at a1 a2
    obtain ⟨x, n, ls, lt, cm, dx, ds, wm, L1, L2, n0, n1, n2, m1, m2⟩ := zm_way3 i1 a1 a2
    clear a1 a2
    dsimp only
    rw [zm_e (ds (d + 7))]
    dsimp only
    rw [zm_e (cm (d + 6))]
    dsimp only
    rw [zm_e (dx (d + 7))]
    dsimp only
    rw [zm_e (wm (d + 5))]
    dsimp only
    rw [zm_w (x := (ls.length : Int) - n) (by omega)]
    refine zm_if (fun hle => ?_) (fun _ => zn_rfX i1 _ 5)
    have fin : ∀ {o : zv_O}, (∃ r : Int, o = some (some (zv_i r), h1)) → zm_R o (zm_I fun _ h' => zn_X h1 h') := by
      intro o ho
      obtain ⟨r, er⟩ := ho
      rw [er]
      exact zn_rX0 i1
    have l87 : ∀ u : Int, (p ≤ (ls.length : Int) - n → u = s) → (¬ p ≤ (ls.length : Int) - n → u = t) → zm_R (L9_way_87 (d + 9) 347 p ((ls.length : Int) - n) ((ls.length : Int) + lt.length - 2 * n) u h1) (zm_I fun _ h' => zn_X h1 h') := by
      intro u h1' h2'
      rw [qL9_way_87]
      refine zm_if (fun c => ?_) (fun c => ?_)
      · rw [h1' c]
        obtain ⟨m, em⟩ : ∃ m : Nat, p = m := ⟨p.toNat, by omega⟩
        subst em
        exact fin (zm_way105 i1.1 (d + 8) m L1 (by rw [List.length_cons]; omega) (by omega))
      · rw [h2' c, zm_w (x := (ls.length : Int) + lt.length - 2 * n - p) (by omega)]
        obtain ⟨m, em⟩ : ∃ m : Nat, (ls.length : Int) + lt.length - 2 * n - p = m := ⟨((ls.length : Int) + lt.length - 2 * n - p).toNat, by omega⟩
        rw [em]
        exact fin (zm_way105 i1.1 (d + 8) m L2 (by rw [List.length_cons]; omega) (by omega))
    exact zm_if (fun c => l87 s (fun _ => rfl) (fun q => absurd c q)) (fun c => l87 t (fun q => absurd q c) (fun _ => rfl))
  have l25 : zm_R (L9_way_25 (d + 9) 347 s t p 347 h) (zm_I fun _ h' => zn_X h h') := by
    rw [qL9_way_25]
    exact l30 2 (fun q => by cases q)
  rw [qE9_way]
  refine zm_if (fun _ => l30 1 (fun q => by cases q)) (fun hp => ?_)
  refine zm_gb (zm_isState i.1 _ s) (fun _ => l25) (fun hs => ?_)
  exact zm_gb (zm_isState i.1 _ t) (fun _ => l25) (fun ht => l30 0 (fun _ => ⟨by clear hs ht; omega, hs, ht⟩))
theorem zn_keptOf {h : zv_H} (i : zm_MI h) (d : Nat) {s t : Int} (hs : zm_st (zv_I h 348) s) (ht : zm_st (zv_I h 348) t) : ∃ (r : Int) (h' : zv_H), C9_keptOf (d + 6) 347 s t h = some (r, h') ∧ zn_X h h' ∧ zv_I h' 348 = zv_I h 348 := by
  obtain ⟨h1, l, e1, f1, i1, x1, n1, s1, m1, g1, b1, c1⟩ := zn_see i d hs
  have l640 := zm_row640 g1 m1
  obtain ⟨r, h2, e2, f2, r0, r1⟩ := zm_keysOf_l (d + 4) l640 (zm_row (zv_I h1 348) l).length 0 0 h1 (Nat.zero_add _) (by decide) (by decide) i1.1 n1.2.1.1
  have x2 := zn_X_a i1 f2 rfl rfl rfl
  have ek : C9_keysOf (d + 5) 347 s h = some (r, h2) := lC9_keysOf (zm_ob i.1) (by rw [qE9_keysOf, zm_e e1]; exact e2)
  have c2 : zv_I h2 348 = zv_I h 348 := (zm_F_a f2 348).trans c1
  obtain ⟨h3, l3, e3, f3, i3, x3, n3, s3, m3, g3, b3, c3⟩ := zn_see x2.2 (d + 1) (s := t) (by rw [c2]; exact ht)
  obtain ⟨n, en⟩ : ∃ n : Nat, r = n := ⟨r.toNat, by clear hs ht; omega⟩
  subst en
  obtain ⟨v, ev⟩ := zm_keptOf_l (d + 5) (zm_row640 g3 m3) i3.1 n3.2.1.1 (n := n) (by clear hs ht; omega) (zm_row (zv_I h3 348) l3).length 0 0 (Nat.zero_add _)
  refine ⟨v, h3, lC9_keptOf (zm_ob i.1) ?_, zn_X_t x1 (zn_X_t x2 x3), c3.trans c2⟩
  rw [qE9_keptOf, zm_e ek]
  dsimp only
  rw [zm_e e3]
  exact ev
theorem zn_cp {h : zv_H} (i : zm_MI h) (d : Nat) {s : Int} (hs : zm_st (zv_I h 348) s) {r : Nat} (hr : r = 356 ∨ r = 357) : ∃ (n : Nat) (h' : zv_H), C9_copies (d + 5) 347 s r h = some ((n : Int), h') ∧ zn_X h h' ∧ n ≤ 120 ∧ zv_I h' 348 = zv_I h 348 := by
  obtain ⟨l, a1, a2, a3, a4⟩ := zm_W_l i.2.1.1 hs
  obtain ⟨⟨n, h1⟩, e1, en, f1, n1, _⟩ := zm_copies i.1 rfl d (fun t ht => zm_st48 (a1.2.1.2.2 t ht)) a3 (by rw [List.length_cons]; clear hs; omega) (zm_sees_st i.1 rfl d a1 a2 a3 a4) hr
  dsimp only at en f1
  have b := a1.2.2.2.2.2.2
  refine ⟨((zm_row (zv_I h 348) (s :: l)).filter (zm_sn (zv_I h 348) (s :: l))).length, h1, by rw [e1, en], ?_, b, ?_⟩
  · rcases hr with q | q
    · subst q
      exact zn_X_a i f1 rfl rfl rfl
    · subst q
      exact zn_X_a i f1 rfl rfl rfl
  · rcases hr with q | q
    · subst q
      exact zm_F_a f1 348
    · subst q
      exact zm_F_a f1 348
theorem zn_differ {h : zv_H} (i : zm_MI h) (d : Nat) {s t : Int} (hs : zm_st (zv_I h 348) s) (ht : zm_st (zv_I h 348) t) : ∃ (r : Int) (h' : zv_H), C9_differ (d + 6) 347 s t h = some (r, h') ∧ zn_X h h' ∧ zv_I h' 348 = zv_I h 348 := by
  obtain ⟨a, h1, e1, x1, a1, c1⟩ := zn_cp i d hs (Or.inl rfl)
  obtain ⟨b, h2, e2, x2, b1, c2⟩ := zn_cp x1.2 d (s := t) (by rw [c1]; exact ht) (Or.inr rfl)
  obtain ⟨r, er⟩ := zm_differ_l x2.2.1 (d + 5) a1 b1 a 0 (Nat.zero_add _)
  refine ⟨r, h2, lC9_differ (zm_ob i.1) ?_, zn_X_t x1 x2, c2.trans c1⟩
  rw [qE9_differ, zm_e (zm_f13 i.1), zm_e e1]
  dsimp only
  rw [zm_e (zm_f14 x1.2.1), zm_e e2]
  exact er
theorem zn_lettersX {h : zv_H} (i : zm_MI h) (d : Nat) {s : Int} (hs : zm_st (zv_I h 348) s) : ∃ (r : Int) (h' : zv_H), C9_lettersOf (d + 5) 347 s h = some (r, h') ∧ zn_X h h' := by
  obtain ⟨l, a1, a2, a3, a4⟩ := zm_W_l i.2.1.1 hs
  obtain ⟨⟨n, h2⟩, e2, en, f2, n2⟩ := zm_lettersOf i.1 d (zm_sees_st i.1 rfl d a1 a2 a3 a4)
  exact ⟨n, h2, e2, zn_X_a i f2 rfl rfl rfl⟩
theorem zn_between {h : zv_H} (i : zm_MI h) (d : Nat) (s t w : Int) : zm_R (C9_between (d + 10) 347 s t w h) (fun q => zn_X h q.2) := by
  refine zm_cI (P := fun _ h' => zn_X h h') (lC9_between (zm_ob i.1)) ?_
  have l35 : ∀ v : Int, (v = 0 → zm_st (zv_I h 348) s ∧ zm_st (zv_I h 348) t) → zm_R (L9_between_35 (d + 9) 347 s t w 347 v h) (zm_I fun _ h' => zn_X h h') := by
    intro v hv
    rw [qL9_between_35]
    refine zn_isq i (fun hw h1 f1 i1 => zn_X_i (zn_X_a i f1 rfl rfl rfl) ?_)
    obtain ⟨a1, a2⟩ := hv hw
    rw [← zm_F_a f1 348] at a1 a2
    dsimp only
    refine zm_if (fun _ => ?_) (fun _ => ?_)
    · obtain ⟨r, h2, e2, x2, _⟩ := zn_differ i1 (d + 3) a1 a2
      rw [zm_e e2]
      exact zm_iI x2
    · obtain ⟨r, h2, e2, x2, c2⟩ := zn_keptOf i1 (d + 3) a1 a2
      rw [zm_e e2]
      refine zn_X_i x2 ?_
      refine zm_if (fun _ => zn_rX0 x2.2) (fun _ => zm_if (fun _ => ?_) (fun _ => ?_))
      · obtain ⟨r3, h3, e3, x3⟩ := zn_lettersX x2.2 (d + 4) (s := s) (by rw [c2]; exact a1)
        rw [zm_e e3]
        exact zm_iI x3
      · obtain ⟨r3, h3, e3, x3⟩ := zn_lettersX x2.2 (d + 4) (s := t) (by rw [c2]; exact a2)
        rw [zm_e e3]
        exact zm_iI x3
  have l30 : zm_R (L9_between_30 (d + 9) 347 s t w 347 h) (zm_I fun _ h' => zn_X h h') := by
    rw [qL9_between_30]
    exact l35 2 (fun q => by cases q)
  rw [qE9_between]
  refine zm_gb (zm_isIn _ w 0 3) (fun _ => l35 1 (fun q => by cases q)) (fun _ => ?_)
  refine zm_gb (zm_isState i.1 _ s) (fun _ => l30) (fun hs => ?_)
  exact zm_gb (zm_isState i.1 _ t) (fun _ => l30) (fun ht => l35 0 (fun _ => ⟨hs, ht⟩))
theorem zn_least {h : zv_H} (i : zm_MI h) (d : Nat) (s t : Int) : zm_R (C9_least (d + 10) 347 s t h) (fun q => zn_X h q.2) := by
  refine zm_cI (P := fun _ h' => zn_X h h') (lC9_least (zm_ob i.1)) ?_
  have l22 : ∀ v : Int, (v = 0 → zm_st (zv_I h 348) s ∧ zm_st (zv_I h 348) t) → zm_R (L9_least_22 (d + 9) 347 s t 347 v h) (zm_I fun _ h' => zn_X h h') := by
    intro v hv
    rw [qL9_least_22]
    refine zn_isq i (fun hw h1 f1 i1 => zn_X_i (zn_X_a i f1 rfl rfl rfl) ?_)
    obtain ⟨a1, a2⟩ := hv hw
    rw [← zm_F_a f1 348] at a1 a2
    obtain ⟨a, h2, e2, x2, p2, c2⟩ := zn_cp i1 (d + 4) a1 (Or.inl rfl)
    obtain ⟨b, h3, e3, x3, p3, c3⟩ := zn_cp x2.2 (d + 4) (s := t) (by rw [c2]; exact a2) (Or.inr rfl)
    obtain ⟨v, h4, e4, f4⟩ := zm_least58 (d + 9) p2 p3 (a + 1) 0 h3 (Nat.zero_add _) x3.2.1
    dsimp only
    rw [zm_e (zm_f13 i1.1), zm_e e2]
    dsimp only
    rw [zm_e (zm_f14 x2.2.1), zm_e e3]
    dsimp only
    rw [show L9_least_58 (d + 9) 347 a b 121 0 h3 = _ from e4]
    exact zm_iI (zn_X_t x2 (zn_X_t x3 (zn_X_a x3.2 f4 rfl rfl rfl)))
  have l21 : zm_R (L9_least_21 (d + 9) 347 s t 347 h) (zm_I fun _ h' => zn_X h h') := by
    rw [qL9_least_21]
    exact l22 2 (fun q => by cases q)
  rw [qE9_least]
  refine zm_gb (zm_isState i.1 _ s) (fun _ => l21) (fun hs => ?_)
  exact zm_gb (zm_isState i.1 _ t) (fun _ => l21) (fun ht => l22 0 (fun _ => ⟨hs, ht⟩))
theorem zn_X_o {h h' : zv_H} {A : List Nat} (i : zm_MI h) (f : zm_F A [3, 4, 10, 11, 12, 47] h h') (hA : (A.all fun r => List.contains [348, 349, 350, 351, 352, 353, 354, 355, 356, 357, 358, 359, 360, 362, 363, 364, 365, 370, 371, 372] r) = true) (h348 : A.contains 348 = false) (b : 0 ≤ zv_I h' 347 47 ∧ zv_I h' 347 47 ≤ 200) : zn_X h h' := by
  obtain ⟨i1, i2, i3, i4, i5, i6, i7⟩ := i
  refine ⟨⟨zm_F_s f hA rfl, by rw [zm_F_a f 348 h348]; exact zn_e_r _⟩, zm_F_M f i1, by rw [zm_F_a f 348 h348]; exact i2, zm_K_F i3 f, by rw [zm_F_g f 27]; exact i4, by rw [zm_F_g f 35]; exact i5, by rw [zm_F_g f 20]; exact i6, b⟩
theorem zn_tell118 (d : Nat) {h : zv_H} (i : zm_MI h) (w : Int) (h0 : w = 2 → zv_I h 347 47 = 0) : zm_R (L9_tell_118 (d + 3) 347 w h) (zm_I fun _ h' => zn_X h h') := by
  rw [qL9_tell_118]
  refine zm_if (fun c => ?_) (fun _ => ?_)
  · have h3 := i.2.1.2.2.1
    obtain ⟨m, em⟩ : ∃ m : Nat, zv_I h 348 3 = m := ⟨(zv_I h 348 3).toNat, by omega⟩
    have z := h0 c
    obtain ⟨h1, e1, f1, q0, q1⟩ := zm_tellsNames_l d (m := m) (by omega) m 0 h (Nat.zero_add _) i.1 em (by omega) (by omega)
    have e : C9_tellsNames (d + 3) 347 h = some h1 := lC9_tellsNames (zm_ob i.1) (by rw [qE9_tellsNames]; exact e1)
    rw [zm_e e, zm_e (zm_gI (zm_F_M f1 i.1) 47)]
    exact zm_iI (zn_X_o i (A := [372]) (zm_F_s f1 rfl rfl) rfl rfl (by omega))
  · rw [zm_e (zm_gI i.1 47)]
    exact zn_rX0 i
theorem zn_tell79 (d : Nat) (w : Int) {c : Nat → Int} {l : List Int} (hn : l.length ≤ 48) : ∀ (m k : Nat) (h : zv_H), k + m = l.length → zm_MI h → zm_lh c l h → (w = 2 → zv_I h 347 47 = 0) → (w = 1 → zv_I h 347 47 ≤ 3 * k) → zm_R (L9_tell_79 (d + 3) 347 w k h) (zm_I fun _ h' => zn_X h h')
  | 0, k, h, hk, i, hh, h0, h1 => by
    rw [qL9_tell_79, zm_e (zm_gI i.1 10), hh.2.2.1, if_neg (by omega)]
    exact zn_tell118 d i w h0
  | m + 1, k, h, hk, i, hh, h0, h1 => by
    have w1 : zv_w ((k : Int) + 1) = ((k + 1 : Nat) : Int) := by
      rw [zm_w (by omega)]
      rfl
    have i7 := i.2.2.2.2.2.2
    rw [qL9_tell_79, zm_e (zm_gI i.1 10), hh.2.2.1, if_pos (by omega)]
    refine zm_if (fun c1 => ?_) (fun _ => zn_tell118 d i w h0)
    have q1 := h1 c1
    have l102 : ∀ g : zv_H, zn_X h g → zm_lh c l g → zv_I g 347 47 ≤ 3 * (k : Int) + 1 → zm_R (L9_tell_102 (d + 3) 347 w k g) (zm_I fun _ h' => zn_X h h') := by
      intro g xg hg g1
      have ig := xg.2
      have g7 := ig.2.2.2.2.2.2
      obtain ⟨t, _, et⟩ := zm_lh_g hg hn (j := k) (by omega) (by omega)
      obtain ⟨h5, e5, f5, s5, s6⟩ := zm_tellsNumber ig.1 (d + 1) t (by omega)
      have x5 := zn_X_o ig (A := [372]) (zm_F_s f5 rfl rfl) rfl rfl (by omega)
      rw [qL9_tell_102, zm_e (zm_f5 ig.1), zm_e et, zm_e e5, w1]
      exact zn_X_i xg (zn_X_i x5 (zn_tell79 d w hn m (k + 1) h5 (by omega) x5.2 (zm_lh_F hg f5) (fun q => by rw [q] at c1; cases c1) (fun _ => by omega)))
    refine zm_if (fun _ => l102 h (zn_X_a (A := []) (B := []) i (zm_F_r _ _ h) rfl rfl rfl) hh (by omega)) (fun _ => ?_)
    obtain ⟨h4, e4, f4, s4⟩ := zm_tells i.1 (d + 2) 60 (by omega)
    rw [zm_e e4]
    exact l102 h4 (zn_X_o i (A := [372]) (zm_F_s f4 rfl rfl) rfl rfl (by omega)) (zm_lh_F hh f4) (by omega)
theorem zn_tell38 (d : Nat) (w : Int) {c : Nat → Int} {l : List Int} (hn : l.length ≤ 48) (g : zm_G0 c l) (hl : ∀ t ∈ l, 0 ≤ t ∧ t ≤ 48) (hb : ((zm_row c l).filter (zm_sn c l)).length ≤ 120) : ∀ (b a : List (Int × Int)), a ++ b = zm_row c l → ∀ h : zv_H, zm_MI h → zv_I h 348 = c → zm_Sn h c l → (w ≠ 0 → zv_I h 347 47 = 0) → (w = 0 → zv_I h 347 47 = (a.filter (zm_sn c l)).length) → zm_R (L9_tell_38 (d + 3) 347 w a.length h) (zm_I fun _ h' => zn_X h h')
  | [], a, e, h, i, hc, n, h0, h1 => by
    have lp : 0 + l.length = l.length := Nat.zero_add _
    rw [List.append_nil] at e
    rw [qL9_tell_38, zm_e (zm_gI i.1 11), n.2.1.1, if_neg (by rw [e]; exact Int.lt_irrefl _)]
    exact zn_tell79 d w hn l.length 0 h lp i ⟨i.1, hc, n.1.1, n.1.2⟩ (fun q => h0 (by rw [q]; decide)) (fun q => by rw [h0 (by rw [q]; decide)]; exact Int.le_refl _)
  | x :: b, a, e, h, i, hc, n, h0, h1 => by
    have h640 := zm_row640 g hn
    have hlen : (zm_row c l).length = a.length + (b.length + 1) := by rw [← e, List.length_append, List.length_cons]
    have hx : (zm_row c l)[a.length]? = some x := by
      rw [← e, List.getElem?_append_right (Nat.le_refl _), Nat.sub_self]
      rfl
    have e' : (a ++ [x]) ++ b = zm_row c l := by
      rw [List.append_assoc]
      exact e
    have w1 : zv_w ((a.length : Int) + 1) = (((a ++ [x]).length : Nat) : Int) := by
      rw [zm_w (by omega), List.length_append]
      rfl
    rw [qL9_tell_38, zm_e (zm_gI i.1 11), n.2.1.1, if_pos (by omega)]
    refine zm_if (fun c0 => ?_) (fun c0 => zn_tell79 d w hn l.length 0 h (Nat.zero_add _) i ⟨i.1, hc, n.1.1, n.1.2⟩ (fun _ => h0 c0) (fun _ => by rw [h0 c0]; exact Int.le_refl _))
    have q1 := h1 c0
    rw [zm_e (zm_f9 i.1), zm_e (zm_aB i.1 zm_l355 (Or.inl rfl) rfl (by omega) (by omega)), show ((a.length : Int)).toNat = a.length by omega, n.2.2.2.1 _ x hx, w1]
    by_cases c1 : zm_sn c l x = true
    · have ok := zm_row_ok hl g x (List.mem_of_getElem? hx)
      have hfa : (a.filter (zm_sn c l)).length + 1 ≤ 120 := by
        have : ((zm_row c l).filter (zm_sn c l)).length = (a.filter (zm_sn c l)).length + (1 + (b.filter (zm_sn c l)).length) := by
          rw [← e, List.filter_append, List.length_append, List.filter_cons_of_pos c1, List.length_cons]
          omega
        omega
      rw [if_pos c1, if_neg (by decide), zm_e (zm_letterIn i.1 hc (d + 1) n.2.1 h640 hx ok.1 (by have := ok.2; omega))]
      dsimp only
      obtain ⟨h4, e4, f4, s4⟩ := zm_tells i.1 (d + 2) (zv_w (97 + zm_lt c x)) (by omega)
      have x4 := zn_X_o i (A := [372]) (zm_F_s f4 rfl rfl) rfl rfl (by omega)
      rw [zm_e e4]
      refine zn_X_i x4 (zn_tell38 d w hn g hl hb b (a ++ [x]) e' h4 x4.2 ((zm_F_a f4 348).trans hc) (zm_Sn_F n f4) (fun q => absurd c0 q) (fun _ => ?_))
      rw [s4, q1, List.filter_append, List.length_append, List.filter_cons_of_pos c1]
      rfl
    · rw [if_neg c1, if_pos rfl]
      refine zn_tell38 d w hn g hl hb b (a ++ [x]) e' h i hc n (fun q => absurd c0 q) (fun _ => ?_)
      rw [q1, List.filter_append, List.length_append, List.filter_cons_of_neg c1]
      rfl
theorem zn_tell {h : zv_H} (i : zm_MI h) (d : Nat) (w : Int) : zm_R (C9_tell (d + 10) 347 w h) (fun q => zn_X h q.2) := by
  refine zm_cI (P := fun _ h' => zn_X h h') (lC9_tell (zm_ob i.1)) ?_
  have l15 : ∀ v : Int, zm_R (L9_tell_15 (d + 9) 347 w 347 v h) (zm_I fun _ h' => zn_X h h') := by
    intro v
    rw [qL9_tell_15]
    refine zn_isq i (fun hw h1 f1 i1 => zn_X_i (zn_X_a i f1 rfl rfl rfl) ?_)
    dsimp only
    rw [zm_e (zm_pI i1.1 47 0)]
    have f2 : zm_F [] [3, 4, 10, 11, 12, 47] h1 (zv_sI h1 347 47 0) := zm_F_f (zm_F_r _ _ h1) rfl _
    have e2 : zv_I (zv_sI h1 347 47 0) 347 47 = 0 := by rw [zm_sgI, if_pos rfl]
    generalize zv_sI h1 347 47 0 = h2 at f2 e2
    have x2 := zn_X_o i1 f2 rfl rfl (by rw [e2]; decide)
    have i2 := x2.2
    obtain ⟨h3, l, e3, f3, i3, x3, n3, s3, m3, g3, b3, c3⟩ := zn_see i2 (d + 5) i2.2.1.2.1
    rw [zm_e (zm_here i2.1 _)]
    dsimp only
    rw [zm_e e3]
    refine zn_X_i x2 (zn_X_i x3 ?_)
    have z : zv_I h3 347 47 = 0 := (zm_F_g f3 47).trans e2
    exact zn_tell38 (d + 6) w m3 g3 (fun t ht => zm_st48 (s3 t ht)) b3 (zm_row (zv_I h3 348) l) [] rfl h3 i3 rfl n3 (fun _ => z) (fun _ => z)
  rw [qE9_tell]
  exact zm_gb (zm_isIn _ w 0 2) (fun _ => l15 1) (fun _ => l15 0)
theorem zn_out {h : zv_H} (i : zm_MI h) (d : Nat) (n : Int) : zm_R (C9_out (d + 10) 347 n h) (fun q => zn_X h q.2) := by
  refine zm_cI (P := fun _ h' => zn_X h h') (lC9_out (zm_ob i.1)) ?_
  have i7 := i.2.2.2.2.2.2
  have l22 : ∀ v : Int, (v = 0 → 0 ≤ n ∧ n < 200) → zm_R (L9_out_22 (d + 9) 347 n 347 v h) (zm_I fun _ h' => zn_X h h') := by
    intro v hv
    rw [qL9_out_22]
    refine zn_isq i (fun hw h1 f1 i1 => zn_X_i (zn_X_a i f1 rfl rfl rfl) ?_)
    have hn := hv hw
    dsimp only
    rw [zm_e (zm_f46 i1.1), zm_e (zm_aI i1.1 zm_l372 rfl hn.1 (by omega))]
    exact zn_rX0 i1
  rw [qE9_out]
  refine zm_if (fun _ => l22 1 (fun q => by cases q)) (fun c1 => ?_)
  rw [zm_e (zm_gI i.1 47)]
  exact zm_if (fun c2 => l22 0 (fun _ => by omega)) (fun _ => l22 5 (fun q => by cases q))
theorem zn_placeIn {h : zv_H} (i : zm_MI h) (d : Nat) {s : Int} (hs : zm_st (zv_I h 348) s) : ∃ (r : Int) (h' : zv_H), C9_placeIn (d + 6) 347 s h = some (r, h') ∧ zn_X h h' ∧ zv_I h' 348 = zv_I h 348 := by
  obtain ⟨n, h1, e1, x1, n1, c1⟩ := zn_cp i d hs (Or.inl rfl)
  have h20 := x1.2.2.2.2.2.2.1
  obtain ⟨m, em⟩ : ∃ m : Nat, zv_I h1 347 20 = m := ⟨(zv_I h1 347 20).toNat, by clear hs; omega⟩
  obtain ⟨r, er⟩ := zm_placeIn_l x1.2.1 (d + 5) n1 (m := m) (by clear hs; omega) em (n + 1) 0 (Nat.zero_add _)
  refine ⟨r, h1, lC9_placeIn (zm_ob i.1) ?_, x1, c1⟩
  rw [qE9_placeIn, zm_e (zm_f13 i.1), zm_e e1]
  exact er
theorem zn_find {h : zv_H} (i : zm_MI h) (d : Nat) (w : Int) : zm_R (C9_find (d + 10) 347 w h) (fun q => zn_X h q.2) := by
  refine zm_cI (P := fun _ h' => zn_X h h') (lC9_find (zm_ob i.1)) ?_
  have l107 : ∀ (v : Int) (g : zv_H), zm_MI g → zm_R (L9_find_107 (d + 9) 347 v g) (zm_I fun _ h' => zn_X g h') := by
    intro v g ig
    rw [qL9_find_107]
    exact zm_if (fun _ => zn_rfX ig _ 5) (fun _ => zn_rX0 ig)
  have l81 : ∀ (a b : Int) (g : zv_H), zm_MI g → zm_R (L9_find_81 (d + 9) 347 w a b g) (zm_I fun _ h' => zn_X g h') := by
    intro a b g ig
    rw [qL9_find_81]
    refine zm_if (fun _ => ?_) (fun _ => zm_if (fun _ => l107 a g ig) (fun _ => l107 b g ig))
    rw [zm_e (zm_here ig.1 _)]
    dsimp only
    obtain ⟨r, h2, e2, x2, _⟩ := zn_placeIn ig (d + 3) ig.2.1.2.1
    rw [zm_e e2]
    exact zn_X_i x2 (l107 r h2 x2.2)
  have l38 : ∀ (m : Nat) (k a b : Int) (g : zv_H), k + 1 = m → k ≤ 47 → zm_MI g → zm_R (L9_find_38 (d + 9) 347 w a b k g) (zm_I fun _ h' => zn_X g h') := by
    intro m
    induction m with
    | zero =>
      intro k a b g hk h47 ig
      rw [qL9_find_38, if_pos (by omega)]
      exact l81 a b g ig
    | succ m ih =>
      intro k a b g hk h47 ig
      have w1 : zv_w (k + -1) = k - 1 := by
        rw [zm_w (by omega)]
        omega
      have k1 : k - 1 + 1 = m := by omega
      have k2 : k - 1 ≤ 47 := by omega
      rw [qL9_find_38, if_neg (by omega), w1]
      refine zm_if (fun _ => ?_) (fun _ => l81 a b g ig)
      refine zm_gb (zm_isState ig.1 _ k) (fun _ => ih (k - 1) a b g k1 k2 ig) (fun hs => ?_)
      dsimp only
      obtain ⟨r, h2, e2, x2, _⟩ := zn_placeIn ig (d + 3) hs
      rw [zm_e e2]
      refine zn_X_i x2 ?_
      exact zm_if (fun _ => ih (k - 1) a b h2 k1 k2 x2.2) (fun _ => ih (k - 1) _ k h2 k1 k2 x2.2)
  have l22 : ∀ v : Int, zm_R (L9_find_22 (d + 9) 347 w 347 v h) (zm_I fun _ h' => zn_X h h') := by
    intro v
    rw [qL9_find_22]
    exact zn_isq i (fun hw h1 f1 i1 => zn_X_i (zn_X_a i f1 rfl rfl rfl) (l38 48 47 0 (-1) h1 (by decide) (by decide) i1))
  have l21 : zm_R (L9_find_21 (d + 9) 347 w 347 h) (zm_I fun _ h' => zn_X h h') := by
    rw [qL9_find_21]
    exact l22 1
  rw [qE9_find]
  refine zm_gb (zm_isIn _ w 0 2) (fun _ => l21) (fun _ => ?_)
  dsimp only
  rw [zm_e (zm_gI i.1 20)]
  exact zm_if (fun _ => l21) (fun _ => l22 0)
theorem zn_first {h : zv_H} (i : zm_MI h) (d : Nat) : zm_R (C9_first (d + 10) 347 h) (fun q => zn_X h q.2) := by
  refine zm_cI (P := fun _ h' => zn_X h h') (lC9_first (zm_ob i.1)) ?_
  have f : zm_F [] [3, 4] h (zv_sI (zv_sI h 347 4 0) 347 3 0) := zm_F_f (zm_F_f (zm_F_r _ _ h) rfl _) rfl _
  have x1 := zn_X_a i f rfl rfl rfl
  obtain ⟨v, ev, _⟩ := zm_firstOut x1.2.1 rfl x1.2.2.1.2.2.1 (d + 5)
  rw [qE9_first, zm_e (zm_is i.1 _ 0)]
  dsimp only
  rw [zm_e ev]
  exact zn_X_i x1 (zm_if (fun _ => zn_rfX x1.2 _ 5) (fun _ => zn_rX0 x1.2))
theorem zn_twin {h : zv_H} (i : zm_MI h) (d : Nat) (s : Int) : zm_R (C9_twin (d + 10) 347 s h) (fun q => zn_X h q.2) := by
  refine zm_cI (P := fun _ h' => zn_X h h') (lC9_twin (zm_ob i.1)) ?_
  have l24 : ∀ (m k : Nat) (g : zv_H), k + m = 48 → zm_MI g → zm_st (zv_I g 348) s → zm_R (L9_twin_24 (d + 9) 347 s k g) (zm_I fun _ h' => zn_X g h') := by
    intro m
    induction m with
    | zero =>
      intro k g hk ig hs
      rw [qL9_twin_24, if_neg (by clear hs; omega)]
      exact zn_rfX ig _ 5
    | succ m ih =>
      intro k g hk ig hs
      have w1 : zv_w ((k : Int) + 1) = ((k + 1 : Nat) : Int) := by
        rw [zm_w (by clear hs; omega)]
        rfl
      have k1 : (k + 1) + m = 48 := by
        clear hs
        omega
      rw [qL9_twin_24, if_pos (by clear hs; omega), w1]
      refine zm_gb (zm_isState ig.1 _ k) (fun _ => ih (k + 1) g k1 ig hs) (fun hk2 => ?_)
      dsimp only
      refine zm_if (fun _ => ih (k + 1) g k1 ig hs) (fun _ => ?_)
      obtain ⟨r, h2, e2, x2, c2⟩ := zn_differ ig (d + 3) hk2 hs
      rw [zm_e e2]
      refine zn_X_i x2 ?_
      exact zm_if (fun _ => zn_rX0 x2.2) (fun _ => ih (k + 1) h2 k1 x2.2 (by rw [c2]; exact hs))
  have l14 : ∀ v : Int, (v = 0 → zm_st (zv_I h 348) s) → zm_R (L9_twin_14 (d + 9) 347 s 347 v h) (zm_I fun _ h' => zn_X h h') := by
    intro v hv
    rw [qL9_twin_14]
    exact zn_isq i (fun hw h1 f1 i1 => zn_X_i (zn_X_a i f1 rfl rfl rfl) (l24 48 0 h1 (Nat.zero_add _) i1 (by rw [zm_F_a f1 348]; exact hv hw)))
  rw [qE9_twin]
  exact zm_gb (zm_isState i.1 _ s) (fun _ => l14 2 (fun q => by cases q)) (fun hs => l14 0 (fun _ => hs))
theorem zn_back {h : zv_H} (i : zm_MI h) (d : Nat) (n : Int) : zm_R (C9_back (d + 10) 347 n h) (fun q => zn_X h q.2) := by
  refine zm_cI (P := fun _ h' => zn_X h h') (lC9_back (zm_ob i.1)) ?_
  have l31 : ∀ (g : zv_H), zm_MI g → n ≤ 48 → ∀ (m k : Nat) (s : Int), n ≤ ((k + m : Nat) : Int) → k ≤ 100 → zm_st (zv_I g 348) s → zm_R (L9_back_31 (d + 9) 347 n s k g) (zm_I fun _ h' => zn_X g h') := by
    intro g ig hn m
    induction m with
    | zero =>
      intro k s hk k1 hs
      rw [qL9_back_31, if_neg (by clear hs; omega)]
      exact zn_rX0 ig
    | succ m ih =>
      intro k s hk k1 hs
      rw [qL9_back_31]
      refine zm_if (fun hlt => ?_) (fun _ => zn_rX0 ig)
      refine zm_if (fun _ => zn_rfX ig _ 5) (fun h0 => ?_)
      obtain ⟨p1, p2⟩ := zm_fp ig.2.1.1 hs h0
      have w1 : zv_w ((k : Int) + 1) = ((k + 1 : Nat) : Int) := by
        clear hs p1 p2
        rw [zm_w (by omega)]
        rfl
      rw [zm_e (zm_of ig.1 _ (zm_st48 hs) (by decide))]
      dsimp only
      rw [zm_e (zm_of ig.1 _ (zm_st48 p1) (by decide)), w1]
      exact ih (k + 1) _ (by clear hs p1 p2; omega) (by clear hs p1 p2; omega) p2
  have l16 : ∀ v : Int, (v = 0 → 1 ≤ n ∧ n ≤ 48) → zm_R (L9_back_16 (d + 9) 347 n 347 v h) (zm_I fun _ h' => zn_X h h') := by
    intro v hv
    rw [qL9_back_16]
    refine zn_isq i (fun hw h1 f1 i1 => zn_X_i (zn_X_a i f1 rfl rfl rfl) ?_)
    have hn := hv hw
    dsimp only
    rw [zm_e (zm_here i1.1 _)]
    exact l31 h1 i1 hn.2 48 0 _ (by omega) (by decide) i1.2.1.2.1
  rw [qE9_back]
  exact zm_gb (zm_isIn _ n 1 48) (fun _ => l16 1 (fun q => by cases q)) (fun hn => l16 0 (fun _ => hn))
theorem zn_status {h : zv_H} (i : zm_MI h) (d : Nat) : zm_R (C9_status (d + 10) 347 h) (fun q => zn_X h q.2) := by
  refine zm_cI (P := fun _ h' => zn_X h h') (lC9_status (zm_ob i.1)) ?_
  have f : zm_F [] [4] h (zv_sI h 347 4 0) := zm_F_f (zm_F_r _ _ h) rfl _
  rw [qE9_status, zm_e (zm_pI i.1 4 0), zm_e (zm_gI (zm_F_M f i.1) 3)]
  exact zm_iI (zn_X_a i f rfl rfl rfl)
theorem zn_fault {h : zv_H} (i : zm_MI h) (d : Nat) (n : Int) : zm_R (C9_fault (d + 10) 347 n h) (fun q => zn_X h q.2) := by
  refine zm_cI (P := fun _ h' => zn_X h h') (lC9_fault (zm_ob i.1)) ?_
  have f : zm_F [] [4] h (zv_sI h 347 4 0) := zm_F_f (zm_F_r _ _ h) rfl _
  have x := zn_X_a i f rfl rfl rfl
  rw [qE9_fault, zm_e (zm_pI i.1 4 0)]
  refine zm_if (fun _ => ?_) (fun _ => zm_if (fun _ => ?_) (fun _ => zm_iI x))
  · rw [zm_e (zm_gI x.2.1 28)]
    exact zm_iI x
  · rw [zm_e (zm_gI x.2.1 29)]
    exact zm_iI x
