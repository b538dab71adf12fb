theorem zm_blame {h : zv_H} (i : zm_MI h) (d : Nat) (p w : Int) : zm_R (C9_blame (d + 10) 347 p w h) (fun q => zm_X h q.2) := by
  refine zm_cI (P := fun _ h' => zm_X h h') (lC9_blame (zm_ob i.1)) ?_
  have l19 : ∀ v : Int, (v = 0 → 0 ≤ p) → zm_R (L9_blame_19 (d + 9) 347 p w 347 v h) (zm_I fun _ h' => zm_X h h') := by
    intro v hv
    rw [qL9_blame_19]
    refine zm_isq i (fun hw h1 f1 i1 => zm_X_i (zm_X_a i f1 rfl rfl rfl) ?_)
    have hp := hv hw
    obtain ⟨h2, l, e2, f2, i2, x2, n2, s2, m2, g2, b2, _⟩ := zm_see i1 (d + 5) i1.2.1.2.1
    dsimp only
    rw [zm_e (zm_here i1.1 _)]
    dsimp only
    rw [zm_e e2, zm_e (zm_gI i2.1 12), n2.2.2.2.2]
    refine zm_X_i x2 ?_
    refine zm_if (fun hlt => ?_) (fun _ => zm_rfX i2 _ 5)
    obtain ⟨n, en⟩ : ∃ n : Nat, p = n := ⟨p.toNat, by omega⟩
    subst en
    have h640 := zm_row640 g2 m2
    have rp := zm_rp_in (zm_sn (zv_I h2 348) l) (zm_row (zv_I h2 348) l) n (by omega)
    have rp2 := zm_rp_ge (zm_sn (zv_I h2 348) l) (zm_row (zv_I h2 348) l) n
    rw [zm_e (zm_rowPlace i2.1 _ n2 h640 hp (by omega))]
    dsimp only
    refine zm_if (fun _ => ?_) (fun _ => zm_if (fun _ => ?_) (fun _ => zm_rX0 i2))
    · rw [zm_e (zm_f6 i2.1), zm_e (zm_aI i2.1 zm_l352 rfl rp.1 (by omega))]
      exact zm_rX0 i2
    · rw [zm_e (zm_f7 i2.1), zm_e (zm_aI i2.1 zm_l353 rfl rp.1 (by omega))]
      exact zm_rX0 i2
  have l18 : zm_R (L9_blame_18 (d + 9) 347 p w 347 h) (zm_I fun _ h' => zm_X h h') := by
    rw [qL9_blame_18]
    exact l19 1 (fun q => by cases q)
  rw [qE9_blame]
  refine zm_if (fun _ => l18) (fun hp => ?_)
  exact zm_gb (zm_isIn _ w 0 2) (fun _ => l18) (fun _ => l19 0 (fun _ => by omega))
theorem zm_cutsOf_l {h : zv_H} {l : List Int} (d : Nat) (hh : zm_lh (zv_I h 348) l h) (w : zm_Wt (zv_I h 348)) (hl : ∀ t ∈ l, zm_st (zv_I h 348) t) (hn : l.length ≤ 48) (x y z : Int) : ∀ (m k : Nat) (a : Int), 1 ≤ k → k + m = l.length → ∃ r : Int, L9_cutsOf_14 (d + 1) 347 x y z a k h = some (some (zv_i r), h)
  | 0, k, a, h1, hi => ⟨a, by rw [qL9_cutsOf_14, zm_e (zm_gI hh.1 10), hh.2.2.1, if_neg (by omega)]⟩
  | m + 1, k, a, h1, hi => by
    have hM := hh.1
    have w1 : zv_w ((k : Int) + 1) = ((k + 1 : Nat) : Int) := by
      rw [zm_w (by omega)]
      rfl
    obtain ⟨t, ht, et⟩ := zm_lh_g hh hn (j := k) (by omega) (by omega)
    have tst := hl t ht
    have t48 := zm_st48 tst
    have t49 : t < ((49 : Nat) : Int) := by
      clear tst
      omega
    have nx : ∀ b : Int, ∃ r : Int, L9_cutsOf_14 (d + 1) 347 x y z b ((k + 1 : Nat) : Int) h = some (some (zv_i r), h) := fun b => zm_cutsOf_l d hh w hl hn x y z m (k + 1) b (by omega) (by omega)
    rw [qL9_cutsOf_14, zm_e (zm_gI hM 10), hh.2.2.1, if_pos (by omega), zm_e (zm_f5 hM), zm_e et, zm_e (zm_of hM d t48 (by decide)), w1]
    dsimp only
    by_cases c1 : zm_o (zv_I h 348) t 2 = 1
    · obtain ⟨mm, hmm, em⟩ := zm_ed_n w tst (Or.inr c1)
      rw [if_pos c1]
      clear tst c1
      have l49 : ∀ (n j : Nat) (b : Int), j + n = mm → ∃ r : Int, L9_cutsOf_49 (d + 1) 347 x y z b k t j h = some (some (zv_i r), h) := by
        intro n
        induction n with
        | zero =>
          intro j b hj
          rw [qL9_cutsOf_49, zm_e (zm_of hM d t48 (by decide))]
          dsimp only
          rw [em _ rfl, if_neg (by omega), w1]
          exact nx b
        | succ n ih =>
          intro j b hj
          have w2 : zv_w ((j : Int) + 1) = ((j + 1 : Nat) : Int) := by
            rw [zm_w (by omega)]
            rfl
          have w3 : zv_w (52 + zv_w (2 * (j : Int))) = 52 + 2 * (j : Int) := by
            rw [zm_w (x := 2 * (j : Int)) (by omega), zm_w (by omega)]
          have w4 : zv_w (52 + 2 * (j : Int) + 1) = 52 + 2 * (j : Int) + 1 := zm_w (by omega)
          have b1 : 0 ≤ 52 + 2 * (j : Int) ∧ 52 + 2 * (j : Int) < 76 := by omega
          have b2 : 0 ≤ 52 + 2 * (j : Int) + 1 ∧ 52 + 2 * (j : Int) + 1 < 76 := by omega
          have ih' := fun b => ih (j + 1) b (by omega)
          rw [qL9_cutsOf_49, zm_e (zm_of hM d t48 (by decide))]
          dsimp only
          rw [em _ rfl, if_pos (by omega), w3, w4, zm_e (zm_of hM d t48 b1), w2]
          dsimp only
          by_cases c2 : zm_o (zv_I h 348) t (52 + 2 * (j : Int)) = x
          · rw [if_pos c2, zm_e (zm_of hM d t48 b2)]
            dsimp only
            by_cases c3 : zm_o (zv_I h 348) t (52 + 2 * (j : Int) + 1) = y
            · rw [if_pos c3]
              by_cases c4 : z = 0
              · rw [if_pos c4, zm_e (zm_f8 hM), zm_e (zm_aB hM zm_l354 (Or.inl rfl) rfl t48.1 t49)]
                by_cases c5 : zv_I h 354 t.toNat = 0
                · rw [if_pos c5]
                  exact ih' b
                · rw [if_neg c5]
                  exact ih' _
              · rw [if_neg c4]
                exact ih' t
            · rw [if_neg c3]
              exact ih' b
          · rw [if_neg c2]
            exact ih' b
      exact l49 mm 0 a (Nat.zero_add _)
    · rw [if_neg c1]
      exact nx a
theorem zm_row_ {h : zv_H} (i : zm_MI h) (d : Nat) (p w : Int) : zm_R (C9_row (d + 10) 347 p w h) (fun q => zm_X h q.2) := by
  refine zm_cI (P := fun _ h' => zm_X h h') (lC9_row (zm_ob i.1)) ?_
  have l19 : ∀ v : Int, (v = 0 → 0 ≤ p) → zm_R (L9_row_19 (d + 9) 347 p w 347 v h) (zm_I fun _ h' => zm_X h h') := by
    intro v hv
    rw [qL9_row_19]
    refine zm_isq i (fun hw h1 f1 i1 => zm_X_i (zm_X_a i f1 rfl rfl rfl) ?_)
    have hp := hv hw
    obtain ⟨h2, l, e2, f2, i2, x2, n2, s2, m2, g2, b2, _⟩ := zm_see i1 (d + 5) i1.2.1.2.1
    dsimp only
    rw [zm_e (zm_here i1.1 _)]
    dsimp only
    rw [zm_e e2, zm_e (zm_gI i2.1 11), n2.2.1.1]
    refine zm_X_i x2 ?_
    refine zm_if (fun hlt => ?_) (fun _ => zm_rfX i2 _ 5)
    have h640 := zm_row640 g2 m2
    obtain ⟨n, en⟩ : ∃ n : Nat, p = n := ⟨p.toNat, by omega⟩
    subst en
    have j1 : (n : Int) < ((640 : Nat) : Int) := by omega
    obtain ⟨x, hx⟩ : ∃ x, (zm_row (zv_I h2 348) l)[n]? = some x := ⟨_, List.getElem?_eq_getElem (by omega)⟩
    have ok := zm_row_ok (fun t ht => zm_st48 (s2 t ht)) g2 x (List.mem_of_getElem? hx)
    refine zm_if (fun _ => zm_rX i2 ⟨_, zm_letterIn i2.1 rfl (d + 7) n2.2.1 h640 (k := n) hx ok.1 (by have := ok.2; omega)⟩) (fun _ => zm_if (fun _ => ?_) (fun _ => zm_if (fun _ => ?_) (fun _ => ?_)))
    · rw [zm_e (zm_f6 i2.1), zm_e (zm_aI i2.1 zm_l352 rfl hp j1)]
      exact zm_rX0 i2
    · rw [zm_e (zm_f9 i2.1), zm_e (zm_aB i2.1 zm_l355 (Or.inl rfl) rfl hp j1)]
      exact zm_if (fun _ => zm_rX0 i2) (fun _ => zm_rX0 i2)
    · rw [zm_e (zm_f6 i2.1), zm_e (zm_aI i2.1 zm_l352 rfl hp j1), zm_e (zm_f7 i2.1), zm_e (zm_aI i2.1 zm_l353 rfl hp j1)]
      have lp : 1 ≤ l.length := by
        cases l with
        | nil => cases g2.2.1
        | cons t b => exact Nat.le_add_left 1 _
      have l120 : ∀ z : Int, zm_R (L9_row_120 (d + 9) 347 (zv_I h2 352 ((n : Int)).toNat) (zv_I h2 353 ((n : Int)).toNat) z h2) (zm_I fun _ h' => zm_X h2 h') := by
        intro z
        have ec : ∃ r : Int, C9_cutsOf (d + 9) 347 (zv_I h2 352 ((n : Int)).toNat) (zv_I h2 353 ((n : Int)).toNat) z h2 = some (r, h2) := by
          have main : ∃ r : Int, E9_cutsOf (d + 8) 347 (zv_I h2 352 ((n : Int)).toNat) (zv_I h2 353 ((n : Int)).toNat) z h2 = some (some (zv_i r), h2) := by
            rw [qE9_cutsOf]
            by_cases c1 : z = 0
            · rw [if_pos c1]
              exact zm_cutsOf_l (d + 7) (zm_Sn_lh i2.1 n2) i2.2.1.1 s2 m2 _ _ _ (l.length - 1) 1 _ (Nat.le_refl _) (by omega)
            · rw [if_neg c1]
              exact zm_cutsOf_l (d + 7) (zm_Sn_lh i2.1 n2) i2.2.1.1 s2 m2 _ _ _ (l.length - 1) 1 _ (Nat.le_refl _) (by omega)
          obtain ⟨r, e⟩ := main
          exact ⟨r, lC9_cutsOf (zm_ob i2.1) e⟩
        rw [qL9_row_120]
        exact zm_rX i2 ec
      exact zm_if (fun _ => l120 1) (fun _ => l120 0)
  have l18 : zm_R (L9_row_18 (d + 9) 347 p w 347 h) (zm_I fun _ h' => zm_X h h') := by
    rw [qL9_row_18]
    exact l19 1 (fun q => by cases q)
  rw [qE9_row]
  refine zm_if (fun _ => l18) (fun hp => ?_)
  exact zm_gb (zm_isIn _ w 0 4) (fun _ => l18) (fun _ => l19 0 (fun _ => by omega))
theorem zm_visit {h : zv_H} (i : zm_MI h) (d : Nat) (n w : Int) : zm_R (C9_visit (d + 10) 347 n w h) (fun q => zm_X h q.2) := by
  refine zm_cI (P := fun _ h' => zm_X h h') (lC9_visit (zm_ob i.1)) ?_
  have l39 : ∀ v : Int, (v = 0 → (0 ≤ n ∧ n ≤ 39) ∧ 0 ≤ w ∧ w ≤ 1) → zm_R (L9_visit_39 (d + 9) 347 n w 347 v h) (zm_I fun _ h' => zm_X h h') := by
    intro v hv
    rw [qL9_visit_39]
    refine zm_isq i (fun hw h1 f1 i1 => zm_X_i (zm_X_a i f1 rfl rfl rfl) ?_)
    have hp := hv hw
    dsimp only
    rw [zm_e (zm_f0 i1.1), zm_w (x := 2 * n) (by omega), zm_w (x := 4156 + 2 * n) (by omega), zm_w (x := 4156 + 2 * n + w) (by omega), zm_e (zm_aI i1.1 zm_l348 rfl (by omega) (by omega))]
    exact zm_rX0 i1
  have l20 : zm_R (L9_visit_20 (d + 9) 347 n w 347 h) (zm_I fun _ h' => zm_X h h') := by
    rw [qL9_visit_20]
    exact l39 1 (fun q => by cases q)
  rw [qE9_visit]
  refine zm_gb (zm_isIn _ n 0 39) (fun _ => l20) (fun h1 => ?_)
  refine zm_gb (zm_isIn _ w 0 1) (fun _ => l20) (fun h2 => ?_)
  dsimp only
  rw [zm_e (zm_f0 i.1), zm_e (zm_aI i.1 zm_l348 rfl (by decide) (by decide))]
  exact zm_if (fun _ => l39 0 (fun _ => ⟨h1, h2⟩)) (fun _ => l39 5 (fun q => by cases q))
theorem zm_named {h : zv_H} (i : zm_MI h) (d : Nat) : zm_R (C9_named (d + 10) 347 h) (fun q => zm_X h q.2) := by
  refine zm_cI (P := fun _ h' => zm_X h h') (lC9_named (zm_ob i.1)) ?_
  have l19 : ∀ v : Int, zm_R (L9_named_19 (d + 9) 347 347 v h) (zm_I fun _ h' => zm_X h h') := by
    intro v
    rw [qL9_named_19]
    refine zm_isq i (fun hw h1 f1 i1 => zm_X_i (zm_X_a i f1 rfl rfl rfl) ?_)
    have h20 := i1.2.2.2.2.2.1
    have h3 := i1.2.1.2.2.1
    obtain ⟨u, eu⟩ := zm_packed i1.1 (d + 8) zm_l361 rfl (m := zv_I h1 347 20) (by omega) (by omega) (by decide)
    obtain ⟨k, ek, k0, k1⟩ := zm_nameAt i1.1 (d + 8) u h3
    dsimp only
    rw [zm_e (zm_f18 i1.1), zm_e (zm_gI i1.1 20), zm_e eu]
    dsimp only
    rw [zm_e ek]
    dsimp only
    refine zm_if (fun _ => zm_rfX i1 _ 5) (fun hk => ?_)
    rw [zm_e (zm_f0 i1.1), zm_w (x := 2 * k) (by omega), zm_w (x := 408 + 2 * k) (by omega), zm_w (x := 408 + 2 * k + 1) (by omega), zm_e (zm_aI i1.1 zm_l348 rfl (by omega) (by omega))]
    exact zm_rX0 i1
  rw [qE9_named, zm_e (zm_gI i.1 20)]
  exact zm_gb (zm_isIn _ _ 1 6) (fun _ => l19 1) (fun _ => l19 0)
theorem zm_leans {h : zv_H} (i : zm_MI h) (d : Nat) (s t : Int) : zm_R (C9_leans (d + 10) 347 s t h) (fun q => zm_X h q.2) := by
  refine zm_cI (P := fun _ h' => zm_X h h') (lC9_leans (zm_ob i.1)) ?_
  have l47 : ∀ v : Int, (v = 0 → (zm_st (zv_I h 348) s ∧ zm_ed (zv_I h 348) s) ∧ zm_st (zv_I h 348) t ∧ zm_ed (zv_I h 348) t) → zm_R (L9_leans_47 (d + 9) 347 s t 347 v h) (zm_I fun _ h' => zm_X h h') := by
    intro v hv
    rw [qL9_leans_47]
    refine zm_isq i (fun hw h1 f1 i1 => zm_X_i (zm_X_a i f1 rfl rfl rfl) ?_)
    obtain ⟨⟨a1, a2⟩, a3, a4⟩ := hv hw
    rw [← zm_F_a f1 348] at a1 a2 a3 a4
    obtain ⟨lt, hlt⟩ := zm_WL_of i1.2.1.1 _ a3
    obtain ⟨ls, hls⟩ := zm_WL_of i1.2.1.1 _ a1
    have lo : ∀ {x y : Int}, zm_st (zv_I h1 348) x → zm_ed (zv_I h1 348) x → zm_R ((C9_leansOn (d + 9) 347 x y h1).bind fun q => if q.1 = 0 then (some (some (zv_i 0), q.2) : zv_O) else some (some (zv_i 1), q.2)) (zm_I fun _ h' => zm_X h1 h') := by
      intro x y hx he
      obtain ⟨v, ev, _⟩ := zm_leansOn i1.1 (d + 7) i1.2.1.1 hx he y
      rw [zm_e ev]
      exact zm_if (fun _ => zm_rX0 i1) (fun _ => zm_rX0 i1)
    dsimp only
    refine zm_gb (zm_isOfLine i1.1 _ s hlt) (fun _ => ?_) (fun _ => lo a3 a4)
    exact zm_gb (zm_isOfLine i1.1 _ t hls) (fun _ => zm_rfX i1 _ 5) (fun _ => lo a1 a2)
  have l17 : zm_R (L9_leans_17 (d + 9) 347 s t 347 h) (zm_I fun _ h' => zm_X h h') := by
    rw [qL9_leans_17]
    exact l47 2 (fun q => by cases q)
  have l42 : zm_R (L9_leans_42 (d + 9) 347 s t 347 h) (zm_I fun _ h' => zm_X h h') := by
    rw [qL9_leans_42]
    exact l47 5 (fun q => by cases q)
  rw [qE9_leans]
  refine zm_gb (zm_isState i.1 _ s) (fun _ => l17) (fun hs => ?_)
  refine zm_gb (zm_isState i.1 _ t) (fun _ => l17) (fun ht => ?_)
  refine zm_if (fun _ => l42) (fun _ => ?_)
  refine zm_gb (zm_isEdit i.1 _ (zm_st48 hs)) (fun _ => l42) (fun hes => ?_)
  exact zm_gb (zm_isEdit i.1 _ (zm_st48 ht)) (fun _ => l42) (fun het => l47 0 (fun _ => ⟨⟨hs, hes⟩, ht, het⟩))
theorem zm_hand_l (d : Nat) {m : Nat} (hm : m ≤ 12) : ∀ (n i : Nat) (h : zv_H), i + n = m → zm_M h → zv_I h 347 20 = m → ∃ h', L9_hand_2 d 347 i h = L9_hand_2 d 347 m h' ∧ zm_F [360] [] h h'
  | 0, i, h, hi, _, _ => by
    have e : i = m := by omega
    subst e
    exact ⟨h, rfl, zm_F_r _ _ h⟩
  | n + 1, i, h, hi, hM, h20 => by
    rw [qL9_hand_2, zm_e (zm_gI hM 20), h20, if_pos (by omega), zm_e (zm_f17 hM), zm_e (zm_f18 hM), zm_e (zm_aI hM zm_l361 rfl (by omega) (by omega)), zm_e (zm_wI hM zm_l360 rfl (by omega) (by omega) _), zm_w (by omega)]
    generalize zv_I h 361 ((i : Int)).toNat = v0
    obtain ⟨h', i1, i2⟩ := zm_hand_l d hm n (i + 1) (zv_sI h 360 ((i : Int)).toNat v0) (by omega) hM h20
    exact ⟨h', i1, zm_F_t (zm_F_I (zm_F_r _ _ h) rfl _ _) i2⟩
theorem zm_hand {h : zv_H} (i : zm_MI h) (d : Nat) : ∃ h', C9_hand (d + 1) 347 h = some h' ∧ zm_F [360] [19] h h' ∧ zv_I h' 347 19 = zv_I h 347 20 := by
  have h20 := i.2.2.2.2.2.1
  obtain ⟨m, em⟩ : ∃ m : Nat, zv_I h 347 20 = m := ⟨(zv_I h 347 20).toNat, by omega⟩
  obtain ⟨h1, i1, f1⟩ := zm_hand_l d (m := m) (by omega) m 0 h (by omega) i.1 em
  have hM1 := zm_F_M f1 i.1
  have e20 : zv_I h1 347 20 = m := (zm_F_g f1 20).trans em
  refine ⟨zv_sI h1 347 19 m, lC9_hand (zm_ob i.1) ?_, zm_F_f (zm_F_s f1 rfl rfl) rfl _, by rw [zm_sgI, if_pos rfl, em]⟩
  rw [qE9_hand, show L9_hand_2 d 347 0 h = _ from i1, qL9_hand_2, zm_e (zm_gI hM1 20), e20, if_neg (by omega), zm_e (zm_gI hM1 20), e20, zm_e (zm_pI hM1 19 _)]
theorem zm_put {h : zv_H} (i : zm_MI h) (d : Nat) (p : Int) : zm_R (C9_put (d + 10) 347 p h) (fun q => zm_X h q.2) := by
  refine zm_cI (P := fun _ h' => zm_X h h') (lC9_put (zm_ob i.1)) ?_
  have f : zm_F [] [3, 4] h (zv_sI (zv_sI h 347 4 0) 347 3 0) := zm_F_f (zm_F_f (zm_F_r _ _ h) rfl _) rfl _
  have x1 := zm_X_a i f rfl rfl rfl
  obtain ⟨h2, e2, f2, q2⟩ := zm_hand x1.2 (d + 8)
  have x2 := zm_X_a x1.2 f2 rfl rfl rfl
  have h20 := x1.2.2.2.2.2.2.1
  obtain ⟨m, em⟩ : ∃ m : Nat, zv_I (zv_sI (zv_sI h 347 4 0) 347 3 0) 347 20 = m := ⟨(zv_I (zv_sI (zv_sI h 347 4 0) 347 3 0) 347 20).toNat, by omega⟩
  rw [qE9_put, zm_e (zm_is i.1 _ 0)]
  dsimp only
  rw [zm_e e2]
  refine zm_X_i x1 (zm_X_i x2 (zm_rXf x2.2 (A := [348, 351, 352, 353, 354, 355, 358, 359]) (B := [3, 10, 11, 12]) (zm_mono (zm_putNow x2.2.1 rfl x2.2.2.1 (d + 3) (m := m) (by omega) (q2.trans em) p) (fun q hq => ⟨hq.1, hq.2.1⟩)) rfl rfl))
/-- is(0), and a call that keeps all -/
theorem zm_is0 {h : zv_H} (i : zm_MI h) (d : Nat) {o : zv_H → Option (Int × zv_H)} {A B : List Nat} (k : ∀ h1 : zv_H, zm_MI h1 → zm_R (o h1) fun q => zm_F A B h1 q.2 ∧ zm_W (zv_I q.2 348)) (hA : (A.all fun r => List.contains [348, 349, 350, 351, 352, 353, 354, 355, 356, 357, 358, 359, 360, 361, 362, 363, 364, 365, 366, 370, 371, 372] r) = true) (hB : (B.all fun r => List.contains [3, 4, 10, 11, 12, 19, 24] r) = true) : zm_R ((C9_is (d + 1) 347 0 h).bind fun q1 => (o q1.2).bind fun q2 => (some (some (zv_i q2.1), q2.2) : zv_O)) (zm_I fun _ h' => zm_X h h') := by
  have f : zm_F [] [3, 4] h (zv_sI (zv_sI h 347 4 0) 347 3 0) := zm_F_f (zm_F_f (zm_F_r _ _ h) rfl _) rfl _
  have x1 := zm_X_a i f rfl rfl rfl
  rw [zm_e (zm_is i.1 _ 0)]
  exact zm_X_i x1 (zm_rXf x1.2 (k _ x1.2) hA hB)
theorem zm_cut {h : zv_H} (i : zm_MI h) (d : Nat) (p n : Int) (hp : p < 2147483648) : zm_R (C9_cut (d + 10) 347 p n h) (fun q => zm_X h q.2) := by
  refine zm_cI (P := fun _ h' => zm_X h h') (lC9_cut (zm_ob i.1)) ?_
  rw [qE9_cut]
  exact zm_is0 i _ (o := fun g => C9_cutNow (d + 9) 347 p n g) (A := [348, 351, 352, 353, 354, 355, 358, 359]) (B := [3, 10, 11, 12]) (fun h1 i1 => zm_mono (zm_cutNow i1.1 rfl i1.2.1 (d + 3) p n hp) (fun q hq => ⟨hq.1, hq.2.1⟩)) rfl rfl
theorem zm_W_1 {c c' : Nat → Int} (w : zm_W c) (o : ∀ k : Nat, k ≠ 1 → c' k = c k) : zm_W c' := zm_W_alt w (fun k h1 _ => o k (by omega)) (by rw [o 0 (by decide)]; exact w.2.1) (by rw [o 3 (by decide)]; exact w.2.2.1) (o 4 (by decide)) (fun k h1 _ => o k (by omega)) (by rw [o 5 (by decide)]; exact w.2.2.2.2.2)
theorem zm_wait {h : zv_H} (i : zm_MI h) (d : Nat) (n : Int) : zm_R (C9_wait (d + 10) 347 n h) (fun q => zm_X h q.2) := by
  refine zm_cI (P := fun _ h' => zm_X h h') (lC9_wait (zm_ob i.1)) ?_
  have l17 : ∀ v : Int, zm_R (L9_wait_17 (d + 9) 347 n 347 v h) (zm_I fun _ h' => zm_X h h') := by
    intro v
    rw [qL9_wait_17]
    refine zm_isq i (fun hw h1 f1 i1 => zm_X_i (zm_X_a i f1 rfl rfl rfl) ?_)
    dsimp only
    rw [zm_e (zm_f0 i1.1), zm_e (zm_aI i1.1 zm_l348 rfl (by decide) (by decide)), zm_e (zm_wI i1.1 zm_l348 rfl (by decide) (by decide) _)]
    have f2 : zm_F [348] [] h1 (zv_sI h1 348 (Int.toNat 1) (zv_w (zv_I h1 348 (Int.toNat 1) + n))) := zm_F_I (zm_F_r _ _ h1) rfl _ _
    have e2 : zv_I (zv_sI h1 348 (Int.toNat 1) (zv_w (zv_I h1 348 (Int.toNat 1) + n))) 348 = zm_u (zv_I h1 348) 1 (zv_w (zv_I h1 348 (Int.toNat 1) + n)) := zm_ss _ _ _ _
    generalize zv_sI h1 348 (Int.toNat 1) (zv_w (zv_I h1 348 (Int.toNat 1) + n)) = h2 at f2 e2
    have hM2 := zm_F_M f2 i1.1
    rw [zm_e (zm_f0 hM2), zm_e (zm_aI hM2 zm_l348 rfl (by decide) (by decide))]
    exact zm_iI (zm_X_of i1 f2 rfl rfl (zm_W_1 i1.2.1 (fun k hk => by rw [e2, zm_u_o _ _ hk])))
  rw [qE9_wait]
  exact zm_gb (zm_isIn _ n 0 999) (fun _ => l17 1) (fun _ => l17 0)
theorem zm_undo {h : zv_H} (i : zm_MI h) (d : Nat) : zm_R (C9_undo (d + 10) 347 h) (fun q => zm_X h q.2) := by
  refine zm_cI (P := fun _ h' => zm_X h h') (lC9_undo (zm_ob i.1)) ?_
  rw [qE9_undo]
  exact zm_is0 i _ (o := fun g => C9_undoNow (d + 9) 347 g) (fun h1 i1 => zm_undoNow i1.1 rfl i1.2.1 (d + 6)) rfl rfl
theorem zm_redo {h : zv_H} (i : zm_MI h) (d : Nat) : zm_R (C9_redo (d + 10) 347 h) (fun q => zm_X h q.2) := by
  refine zm_cI (P := fun _ h' => zm_X h h') (lC9_redo (zm_ob i.1)) ?_
  rw [qE9_redo]
  exact zm_is0 i _ (o := fun g => C9_redoNow (d + 9) 347 g) (fun h1 i1 => zm_redoNow i1.1 rfl i1.2.1 (d + 4)) rfl rfl
theorem zm_go {h : zv_H} (i : zm_MI h) (d : Nat) (s : Int) : zm_R (C9_go (d + 10) 347 s h) (fun q => zm_X h q.2) := by
  refine zm_cI (P := fun _ h' => zm_X h h') (lC9_go (zm_ob i.1)) ?_
  rw [qE9_go]
  exact zm_is0 i _ (o := fun g => C9_goNow (d + 9) 347 s g) (fun h1 i1 => zm_goNow i1.1 rfl i1.2.1 (d + 4) s) rfl rfl
theorem zm_name {h : zv_H} (i : zm_MI h) (d : Nat) : zm_R (C9_name (d + 10) 347 h) (fun q => zm_X h q.2) := by
  refine zm_cI (P := fun _ h' => zm_X h h') (lC9_name (zm_ob i.1)) ?_
  have f : zm_F [] [3, 4] h (zv_sI (zv_sI h 347 4 0) 347 3 0) := zm_F_f (zm_F_f (zm_F_r _ _ h) rfl _) rfl _
  have x1 := zm_X_a i f rfl rfl rfl
  obtain ⟨h2, e2, f2, q2⟩ := zm_hand x1.2 (d + 8)
  have x2 := zm_X_a x1.2 f2 rfl rfl rfl
  rw [qE9_name, zm_e (zm_is i.1 _ 0)]
  dsimp only
  rw [zm_e e2]
  exact zm_X_i x1 (zm_X_i x2 (zm_rXf x2.2 (zm_nameNow x2.2.1 rfl x2.2.2.1 (d + 6)) rfl rfl))
theorem zm_withdraw {h : zv_H} (i : zm_MI h) (d : Nat) (s : Int) : zm_R (C9_withdraw (d + 10) 347 s h) (fun q => zm_X h q.2) := by
  refine zm_cI (P := fun _ h' => zm_X h h') (lC9_withdraw (zm_ob i.1)) ?_
  rw [qE9_withdraw]
  exact zm_is0 i _ (o := fun g => C9_turnNow (d + 9) 347 s 2 g) (fun h1 i1 => zm_turnNow i1.1 rfl i1.2.1 (d + 2) (Or.inl rfl) s) rfl rfl
theorem zm_restore {h : zv_H} (i : zm_MI h) (d : Nat) (s : Int) : zm_R (C9_restore (d + 10) 347 s h) (fun q => zm_X h q.2) := by
  refine zm_cI (P := fun _ h' => zm_X h h') (lC9_restore (zm_ob i.1)) ?_
  rw [qE9_restore]
  exact zm_is0 i _ (o := fun g => C9_turnNow (d + 9) 347 s 3 g) (fun h1 i1 => zm_turnNow i1.1 rfl i1.2.1 (d + 2) (Or.inr rfl) s) rfl rfl
theorem zm_carry {h : zv_H} (i : zm_MI h) (d : Nat) (s : Int) : zm_R (C9_carry (d + 10) 347 s h) (fun q => zm_X h q.2) := by
  refine zm_cI (P := fun _ h' => zm_X h h') (lC9_carry (zm_ob i.1)) ?_
  rw [qE9_carry]
  exact zm_is0 i _ (o := fun g => C9_carryNow (d + 9) 347 s g) (A := [348, 351, 352, 353, 354, 355, 358, 359, 360, 362]) (B := [3, 10, 11, 12, 19]) (fun h1 i1 => zm_mono (zm_carryNow i1.1 rfl i1.2.1 d s) (fun q hq => ⟨hq.1, hq.2.1⟩)) rfl rfl
theorem zm_merge {h : zv_H} (i : zm_MI h) (d : Nat) (s : Int) : zm_R (C9_merge (d + 10) 347 s h) (fun q => zm_X h q.2) := by
  refine zm_cI (P := fun _ h' => zm_X h h') (lC9_merge (zm_ob i.1)) ?_
  rw [qE9_merge]
  exact zm_is0 i _ (o := fun g => C9_mergeNow (d + 9) 347 s g) (A := [348, 351, 352, 353, 354, 355, 358, 359, 360, 362, 363, 364]) (B := [3, 10, 11, 12, 19, 24]) (fun h1 i1 => zm_mono (zm_mergeNow i1.1 rfl i1.2.1 d s) (fun q hq => ⟨hq.1, hq.2.1⟩)) rfl rfl
theorem zm_prune {h : zv_H} (i : zm_MI h) (d : Nat) (n : Int) : zm_R (C9_prune (d + 10) 347 n h) (fun q => zm_X h q.2) := by
  refine zm_cI (P := fun _ h' => zm_X h h') (lC9_prune (zm_ob i.1)) ?_
  rw [qE9_prune]
  exact zm_is0 i _ (o := fun g => C9_pruneNow (d + 9) 347 n g) (fun h1 i1 => zm_pruneNow i1.1 rfl i1.2.1 (d + 4) n) rfl rfl
theorem zm_unname67 (d : Nat) {m : Nat} (hm : m ≤ 12) : ∀ (n : Nat) (i : Int) (h : zv_H), zm_M h → zv_I h 348 3 = m → 0 ≤ i → 2 * (m : Int) - i ≤ n → ∃ (r : Int) (h' : zv_H), L9_unname_67 d 347 i h = some (some (zv_i r), h') ∧ zm_F [348] [] h h' ∧ ∀ k : Nat, (k < 408 ∨ 432 ≤ k) → zv_I h' 348 k = zv_I h 348 k
  | n, i, h, hM, h3, i0, hi => by
    rw [qL9_unname_67, zm_e (zm_f0 hM), zm_e (zm_aI hM zm_l348 rfl (by decide) (by decide)), show zv_I h 348 (Int.toNat 3) = _ from h3, zm_w (x := 2 * (m : Int)) (by omega)]
    by_cases c1 : i < 2 * (m : Int)
    · cases n with
      | zero => exact absurd c1 (by omega)
      | succ n =>
        rw [if_pos c1, zm_e (zm_f0 hM), zm_e (zm_f0 hM), zm_w (x := 408 + i) (by omega), zm_w (x := 408 + i + 2) (by omega), zm_e (zm_aI hM zm_l348 rfl (by omega) (by omega)), zm_e (zm_wI hM zm_l348 rfl (by omega) (by omega) _), zm_w (x := i + 1) (by omega)]
        generalize zv_I h 348 (408 + i + 2).toNat = v0
        have e1 : zv_I (zv_sI h 348 (408 + i).toNat v0) 348 = zm_u (zv_I h 348) (408 + i).toNat v0 := zm_ss _ _ _ _
        obtain ⟨r, h', i1, i2, i3⟩ := zm_unname67 d hm n (i + 1) (zv_sI h 348 (408 + i).toNat v0) hM (by rw [e1, zm_u_o _ _ (by omega)]; exact h3) (by omega) (by omega)
        exact ⟨r, h', i1, zm_F_t (zm_F_I (zm_F_r _ _ h) rfl _ _) i2, fun k hk => by rw [i3 k hk, e1, zm_u_o _ _ (by omega)]⟩
    · rw [if_neg c1, zm_e (zm_f0 hM), zm_e (zm_aI hM zm_l348 rfl (by decide) (by decide))]
      exact ⟨_, h, rfl, zm_F_r _ _ h, fun _ _ => rfl⟩
theorem zm_unname {h : zv_H} (i : zm_MI h) (d : Nat) : zm_R (C9_unname (d + 10) 347 h) (fun q => zm_X h q.2) := by
  refine zm_cI (P := fun _ h' => zm_X h h') (lC9_unname (zm_ob i.1)) ?_
  have l19 : ∀ v : Int, zm_R (L9_unname_19 (d + 9) 347 347 v h) (zm_I fun _ h' => zm_X h h') := by
    intro v
    rw [qL9_unname_19]
    refine zm_isq i (fun hw h1 f1 i1 => zm_X_i (zm_X_a i f1 rfl rfl rfl) ?_)
    have h20 := i1.2.2.2.2.2.1
    have h3 := i1.2.1.2.2.1
    obtain ⟨u, eu⟩ := zm_packed i1.1 (d + 8) zm_l361 rfl (m := zv_I h1 347 20) (by omega) (by omega) (by decide)
    obtain ⟨k, ek, k0, k1⟩ := zm_nameAt i1.1 (d + 8) u h3
    dsimp only
    rw [zm_e (zm_f18 i1.1), zm_e (zm_gI i1.1 20), zm_e eu]
    dsimp only
    rw [zm_e ek]
    dsimp only
    refine zm_if (fun _ => zm_rfX i1 _ 5) (fun hk => ?_)
    rw [zm_e (zm_f0 i1.1), zm_e (zm_aI i1.1 zm_l348 rfl (by decide) (by decide)), show zv_I h1 348 (Int.toNat 3) = zv_I h1 348 3 from rfl, zm_w (x := zv_I h1 348 3 - 1) (by omega), zm_e (zm_wI i1.1 zm_l348 rfl (by decide) (by decide) _), zm_w (x := 2 * k) (by omega)]
    have f2 : zm_F [348] [] h1 (zv_sI h1 348 (Int.toNat 3) (zv_I h1 348 3 - 1)) := zm_F_I (zm_F_r _ _ h1) rfl _ _
    have e2 : zv_I (zv_sI h1 348 (Int.toNat 3) (zv_I h1 348 3 - 1)) 348 = zm_u (zv_I h1 348) 3 (zv_I h1 348 3 - 1) := zm_ss _ _ _ _
    generalize zv_sI h1 348 (Int.toNat 3) (zv_I h1 348 3 - 1) = h2 at f2 e2
    obtain ⟨m, em⟩ : ∃ m : Nat, zv_I h1 348 3 - 1 = m := ⟨(zv_I h1 348 3 - 1).toNat, by omega⟩
    obtain ⟨r, h', i1', i2, i3⟩ := zm_unname67 (d + 9) (m := m) (by omega) 100 (2 * k) h2 (zm_F_M f2 i1.1) (by rw [e2, zm_u_s, em]) (by omega) (by omega)
    rw [i1']
    have o : ∀ n : Nat, (n < 408 ∨ 432 ≤ n) → n ≠ 3 → zv_I h' 348 n = zv_I h1 348 n := fun n h1 h2 => by rw [i3 n h1, e2, zm_u_o _ _ h2]
    have w1 := i1.2.1
    refine zm_iI (zm_X_of i1 (zm_F_t f2 i2) rfl rfl (zm_W_alt w1 (fun n n0 _ => o n (Or.inr n0) (by omega)) (by rw [o 0 (Or.inl (by decide)) (by decide)]; exact w1.2.1) ?_ (o 4 (Or.inl (by decide)) (by decide)) (fun n n0 n1 => o n (Or.inl n1) (by omega)) (by rw [o 5 (Or.inl (by decide)) (by decide)]; exact w1.2.2.2.2.2)))
    rw [i3 3 (Or.inl (by decide)), e2, zm_u_s]
    omega
  rw [qE9_unname, zm_e (zm_gI i.1 20)]
  exact zm_gb (zm_isIn _ _ 1 6) (fun _ => l19 1) (fun _ => l19 0)
