/-! 80.pub2 -/
section
theorem zm_blame {h : zv_H} (i : zm_MI h) (d : Nat) (p w : Int) : zm_R (C9_blame (d + 10) 347 p w h) (fun q => zm_X h q.2) := by
  refine zm_cI (P := fun _ h' => zm_X h h') (lC9_blame (zm_ob i.1)) ?_
  have l19 : ∀ v : Int, (v = 0 → 0 ≤ p) → zm_R (L9_blame_19 (d + 9) 347 p w 347 v h) (zm_I fun _ h' => zm_X h h') := by
    intro v hv
    rw [qL9_blame_19]
    refine zm_isq i (fun hw h1 f1 i1 => zm_X_i (zm_X_a i f1 rfl rfl rfl) ?_)
    have hp := hv hw
    obtain ⟨h2, l, e2, f2, i2, x2, n2, s2, m2, g2, b2, _⟩ := zm_see i1 (d + 5) i1.2.1.2.1
    dsimp only
    rw [zm_e (zm_here i1.1 _)]
    dsimp only
    rw [zm_e e2, zm_e (zm_gI i2.1 12), n2.2.2.2.2]
    refine zm_X_i x2 ?_
    refine zm_if (fun hlt => ?_) (fun _ => zm_rfX i2 _ 5)
    obtain ⟨n, en⟩ : ∃ n : Nat, p = n := ⟨p.toNat, by omega⟩
    subst en
    have h640 := zm_row640 g2 m2
    have rp := zm_rp_in (zm_sn (zv_I h2 348) l) (zm_row (zv_I h2 348) l) n (by omega)
    have rp2 := zm_rp_ge (zm_sn (zv_I h2 348) l) (zm_row (zv_I h2 348) l) n
    rw [zm_e (zm_rowPlace i2.1 _ n2 h640 hp (by omega))]
    dsimp only
    refine zm_if (fun _ => ?_) (fun _ => zm_if (fun _ => ?_) (fun _ => zm_rX0 i2))
    · rw [zm_e (zm_f6 i2.1), zm_e (zm_aI i2.1 zm_l352 rfl rp.1 (by omega))]
      exact zm_rX0 i2
    · rw [zm_e (zm_f7 i2.1), zm_e (zm_aI i2.1 zm_l353 rfl rp.1 (by omega))]
      exact zm_rX0 i2
  have l18 : zm_R (L9_blame_18 (d + 9) 347 p w 347 h) (zm_I fun _ h' => zm_X h h') := by
    rw [qL9_blame_18]
    exact l19 1 (fun q => by cases q)
  rw [qE9_blame]
  refine zm_if (fun _ => l18) (fun hp => ?_)
  exact zm_gb (zm_isIn _ w 0 2) (fun _ => l18) (fun _ => l19 0 (fun _ => by omega))
theorem zm_cutsOf_l {h : zv_H} {l : List Int} (d : Nat) (hh : zm_lh (zv_I h 348) l h) (w : zm_Wt (zv_I h 348)) (hl : ∀ t ∈ l, zm_st (zv_I h 348) t) (hn : l.length ≤ 48) (x y z : Int) : ∀ (m k : Nat) (a : Int), 1 ≤ k → k + m = l.length → ∃ r : Int, L9_cutsOf_14 (d + 1) 347 x y z a k h = some (some (zv_i r), h)
  | 0, k, a, h1, hi => ⟨a, by rw [qL9_cutsOf_14, zm_e (zm_gI hh.1 10), hh.2.2.1, if_neg (by omega)]⟩
  | m + 1, k, a, h1, hi => by
    have hM := hh.1
    have w1 : zv_w ((k : Int) + 1) = ((k + 1 : Nat) : Int) := by
      rw [zm_w (by omega)]
      rfl
    obtain ⟨t, ht, et⟩ := zm_lh_g hh hn (j := k) (by omega) (by omega)
    have tst := hl t ht
    have t48 := zm_st48 tst
    have t49 : t < ((49 : Nat) : Int) := by
      clear tst
      omega
    have nx : ∀ b : Int, ∃ r : Int, L9_cutsOf_14 (d + 1) 347 x y z b ((k + 1 : Nat) : Int) h = some (some (zv_i r), h) := fun b => zm_cutsOf_l d hh w hl hn x y z m (k + 1) b (by omega) (by omega)
    rw [qL9_cutsOf_14, zm_e (zm_gI hM 10), hh.2.2.1, if_pos (by omega), zm_e (zm_f5 hM), zm_e et, zm_e (zm_of hM d t48 (by decide)), w1]
    dsimp only
    by_cases c1 : zm_o (zv_I h 348) t 2 = 1
    · obtain ⟨mm, hmm, em⟩ := zm_ed_n w tst (Or.inr c1)
      rw [if_pos c1]
      clear tst c1
      have l49 : ∀ (n j : Nat) (b : Int), j + n = mm → ∃ r : Int, L9_cutsOf_49 (d + 1) 347 x y z b k t j h = some (some (zv_i r), h) := by
        intro n
        induction n with
        | zero =>
          intro j b hj
          rw [qL9_cutsOf_49, zm_e (zm_of hM d t48 (by decide))]
          dsimp only
          rw [em _ rfl, if_neg (by omega), w1]
          exact nx b
        | succ n ih =>
          intro j b hj
          have w2 : zv_w ((j : Int) + 1) = ((j + 1 : Nat) : Int) := by
            rw [zm_w (by omega)]
            rfl
          have w3 : zv_w (52 + zv_w (2 * (j : Int))) = 52 + 2 * (j : Int) := by
            rw [zm_w (x := 2 * (j : Int)) (by omega), zm_w (by omega)]
          have w4 : zv_w (52 + 2 * (j : Int) + 1) = 52 + 2 * (j : Int) + 1 := zm_w (by omega)
          have b1 : 0 ≤ 52 + 2 * (j : Int) ∧ 52 + 2 * (j : Int) < 76 := by omega
          have b2 : 0 ≤ 52 + 2 * (j : Int) + 1 ∧ 52 + 2 * (j : Int) + 1 < 76 := by omega
          have ih' := fun b => ih (j + 1) b (by omega)
          rw [qL9_cutsOf_49, zm_e (zm_of hM d t48 (by decide))]
          dsimp only
          rw [em _ rfl, if_pos (by omega), w3, w4, zm_e (zm_of hM d t48 b1), w2]
          dsimp only
          by_cases c2 : zm_o (zv_I h 348) t (52 + 2 * (j : Int)) = x
          · rw [if_pos c2, zm_e (zm_of hM d t48 b2)]
            dsimp only
            by_cases c3 : zm_o (zv_I h 348) t (52 + 2 * (j : Int) + 1) = y
            · rw [if_pos c3]
              by_cases c4 : z = 0
              · rw [if_pos c4, zm_e (zm_f8 hM), zm_e (zm_aB hM zm_l354 (Or.inl rfl) rfl t48.1 t49)]
                by_cases c5 : zv_I h 354 t.toNat = 0
                · rw [if_pos c5]
                  exact ih' b
                · rw [if_neg c5]
                  exact ih' _
              · rw [if_neg c4]
                exact ih' t
            · rw [if_neg c3]
              exact ih' b
          · rw [if_neg c2]
            exact ih' b
      exact l49 mm 0 a (Nat.zero_add _)
    · rw [if_neg c1]
      exact nx a
theorem zm_row_ {h : zv_H} (i : zm_MI h) (d : Nat) (p w : Int) : zm_R (C9_row (d + 10) 347 p w h) (fun q => zm_X h q.2) := by
  refine zm_cI (P := fun _ h' => zm_X h h') (lC9_row (zm_ob i.1)) ?_
  have l19 : ∀ v : Int, (v = 0 → 0 ≤ p) → zm_R (L9_row_19 (d + 9) 347 p w 347 v h) (zm_I fun _ h' => zm_X h h') := by
    intro v hv
    rw [qL9_row_19]
    refine zm_isq i (fun hw h1 f1 i1 => zm_X_i (zm_X_a i f1 rfl rfl rfl) ?_)
    have hp := hv hw
    obtain ⟨h2, l, e2, f2, i2, x2, n2, s2, m2, g2, b2, _⟩ := zm_see i1 (d + 5) i1.2.1.2.1
    dsimp only
    rw [zm_e (zm_here i1.1 _)]
    dsimp only
    rw [zm_e e2, zm_e (zm_gI i2.1 11), n2.2.1.1]
    refine zm_X_i x2 ?_
    refine zm_if (fun hlt => ?_) (fun _ => zm_rfX i2 _ 5)
    have h640 := zm_row640 g2 m2
    obtain ⟨n, en⟩ : ∃ n : Nat, p = n := ⟨p.toNat, by omega⟩
    subst en
    have j1 : (n : Int) < ((640 : Nat) : Int) := by omega
    obtain ⟨x, hx⟩ : ∃ x, (zm_row (zv_I h2 348) l)[n]? = some x := ⟨_, List.getElem?_eq_getElem (by omega)⟩
    have ok := zm_row_ok (fun t ht => zm_st48 (s2 t ht)) g2 x (List.mem_of_getElem? hx)
    refine zm_if (fun _ => zm_rX i2 ⟨_, zm_letterIn i2.1 rfl (d + 7) n2.2.1 h640 (k := n) hx ok.1 (by have := ok.2; omega)⟩) (fun _ => zm_if (fun _ => ?_) (fun _ => zm_if (fun _ => ?_) (fun _ => ?_)))
    · rw [zm_e (zm_f6 i2.1), zm_e (zm_aI i2.1 zm_l352 rfl hp j1)]
      exact zm_rX0 i2
    · rw [zm_e (zm_f9 i2.1), zm_e (zm_aB i2.1 zm_l355 (Or.inl rfl) rfl hp j1)]
      exact zm_if (fun _ => zm_rX0 i2) (fun _ => zm_rX0 i2)
    · rw [zm_e (zm_f6 i2.1), zm_e (zm_aI i2.1 zm_l352 rfl hp j1), zm_e (zm_f7 i2.1), zm_e (zm_aI i2.1 zm_l353 rfl hp j1)]
      have lp : 1 ≤ l.length := by
        cases l with
        | nil => cases g2.2.1
        | cons t b => exact Nat.le_add_left 1 _
      have l120 : ∀ z : Int, zm_R (L9_row_120 (d + 9) 347 (zv_I h2 352 ((n : Int)).toNat) (zv_I h2 353 ((n : Int)).toNat) z h2) (zm_I fun _ h' => zm_X h2 h') := by
        intro z
        have ec : ∃ r : Int, C9_cutsOf (d + 9) 347 (zv_I h2 352 ((n : Int)).toNat) (zv_I h2 353 ((n : Int)).toNat) z h2 = some (r, h2) := by
          have main : ∃ r : Int, E9_cutsOf (d + 8) 347 (zv_I h2 352 ((n : Int)).toNat) (zv_I h2 353 ((n : Int)).toNat) z h2 = some (some (zv_i r), h2) := by
            rw [qE9_cutsOf]
            by_cases c1 : z = 0
            · rw [if_pos c1]
              exact zm_cutsOf_l (d + 7) (zm_Sn_lh i2.1 n2) i2.2.1.1 s2 m2 _ _ _ (l.length - 1) 1 _ (Nat.le_refl _) (by omega)
            · rw [if_neg c1]
              exact zm_cutsOf_l (d + 7) (zm_Sn_lh i2.1 n2) i2.2.1.1 s2 m2 _ _ _ (l.length - 1) 1 _ (Nat.le_refl _) (by omega)
          obtain ⟨r, e⟩ := main
          exact ⟨r, lC9_cutsOf (zm_ob i2.1) e⟩
        rw [qL9_row_120]
        exact zm_rX i2 ec
      exact zm_if (fun _ => l120 1) (fun _ => l120 0)
  have l18 : zm_R (L9_row_18 (d + 9) 347 p w 347 h) (zm_I fun _ h' => zm_X h h') := by
    rw [qL9_row_18]
    exact l19 1 (fun q => by cases q)
  rw [qE9_row]
  refine zm_if (fun _ => l18) (fun hp => ?_)
  exact zm_gb (zm_isIn _ w 0 4) (fun _ => l18) (fun _ => l19 0 (fun _ => by omega))
theorem zm_visit {h : zv_H} (i : zm_MI h) (d : Nat) (n w : Int) : zm_R (C9_visit (d + 10) 347 n w h) (fun q => zm_X h q.2) := by
  refine zm_cI (P := fun _ h' => zm_X h h') (lC9_visit (zm_ob i.1)) ?_
  have l39 : ∀ v : Int, (v = 0 → (0 ≤ n ∧ n ≤ 39) ∧ 0 ≤ w ∧ w ≤ 1) → zm_R (L9_visit_39 (d + 9) 347 n w 347 v h) (zm_I fun _ h' => zm_X h h') := by
    intro v hv
    rw [qL9_visit_39]
    refine zm_isq i (fun hw h1 f1 i1 => zm_X_i (zm_X_a i f1 rfl rfl rfl) ?_)
    have hp := hv hw
    dsimp only
    rw [zm_e (zm_f0 i1.1), zm_w (x := 2 * n) (by omega), zm_w (x := 4156 + 2 * n) (by omega), zm_w (x := 4156 + 2 * n + w) (by omega), zm_e (zm_aI i1.1 zm_l348 rfl (by omega) (by omega))]
    exact zm_rX0 i1
  have l20 : zm_R (L9_visit_20 (d + 9) 347 n w 347 h) (zm_I fun _ h' => zm_X h h') := by
    rw [qL9_visit_20]
    exact l39 1 (fun q => by cases q)
  rw [qE9_visit]
  refine zm_gb (zm_isIn _ n 0 39) (fun _ => l20) (fun h1 => ?_)
  refine zm_gb (zm_isIn _ w 0 1) (fun _ => l20) (fun h2 => ?_)
  dsimp only
  rw [zm_e (zm_f0 i.1), zm_e (zm_aI i.1 zm_l348 rfl (by decide) (by decide))]
  exact zm_if (fun _ => l39 0 (fun _ => ⟨h1, h2⟩)) (fun _ => l39 5 (fun q => by cases q))
theorem zm_named {h : zv_H} (i : zm_MI h) (d : Nat) : zm_R (C9_named (d + 10) 347 h) (fun q => zm_X h q.2) := by
  refine zm_cI (P := fun _ h' => zm_X h h') (lC9_named (zm_ob i.1)) ?_
  have l19 : ∀ v : Int, zm_R (L9_named_19 (d + 9) 347 347 v h) (zm_I fun _ h' => zm_X h h') := by
    intro v
    rw [qL9_named_19]
    refine zm_isq i (fun hw h1 f1 i1 => zm_X_i (zm_X_a i f1 rfl rfl rfl) ?_)
    have h20 := i1.2.2.2.2.2.1
    have h3 := i1.2.1.2.2.1
    obtain ⟨u, eu⟩ := zm_packed i1.1 (d + 8) zm_l361 rfl (m := zv_I h1 347 20) (by omega) (by omega) (by decide)
    obtain ⟨k, ek, k0, k1⟩ := zm_nameAt i1.1 (d + 8) u h3
    dsimp only
    rw [zm_e (zm_f18 i1.1), zm_e (zm_gI i1.1 20), zm_e eu]
    dsimp only
    rw [zm_e ek]
    dsimp only
    refine zm_if (fun _ => zm_rfX i1 _ 5) (fun hk => ?_)
    rw [zm_e (zm_f0 i1.1), zm_w (x := 2 * k) (by omega), zm_w (x := 408 + 2 * k) (by omega), zm_w (x := 408 + 2 * k + 1) (by omega), zm_e (zm_aI i1.1 zm_l348 rfl (by omega) (by omega))]
    exact zm_rX0 i1
  rw [qE9_named, zm_e (zm_gI i.1 20)]
  exact zm_gb (zm_isIn _ _ 1 6) (fun _ => l19 1) (fun _ => l19 0)
theorem zm_leans {h : zv_H} (i : zm_MI h) (d : Nat) (s t : Int) : zm_R (C9_leans (d + 10) 347 s t h) (fun q => zm_X h q.2) := by
  refine zm_cI (P := fun _ h' => zm_X h h') (lC9_leans (zm_ob i.1)) ?_
  have l47 : ∀ v : Int, (v = 0 → (zm_st (zv_I h 348) s ∧ zm_ed (zv_I h 348) s) ∧ zm_st (zv_I h 348) t ∧ zm_ed (zv_I h 348) t) → zm_R (L9_leans_47 (d + 9) 347 s t 347 v h) (zm_I fun _ h' => zm_X h h') := by
    intro v hv
    rw [qL9_leans_47]
    refine zm_isq i (fun hw h1 f1 i1 => zm_X_i (zm_X_a i f1 rfl rfl rfl) ?_)
    obtain ⟨⟨a1, a2⟩, a3, a4⟩ := hv hw
    rw [← zm_F_a f1 348] at a1 a2 a3 a4
    obtain ⟨lt, hlt⟩ := zm_WL_of i1.2.1.1 _ a3
    obtain ⟨ls, hls⟩ := zm_WL_of i1.2.1.1 _ a1
    have lo : ∀ {x y : Int}, zm_st (zv_I h1 348) x → zm_ed (zv_I h1 348) x → zm_R ((C9_leansOn (d + 9) 347 x y h1).bind fun q => if q.1 = 0 then (some (some (zv_i 0), q.2) : zv_O) else some (some (zv_i 1), q.2)) (zm_I fun _ h' => zm_X h1 h') := by
      intro x y hx he
      obtain ⟨v, ev, _⟩ := zm_leansOn i1.1 (d + 7) i1.2.1.1 hx he y
      rw [zm_e ev]
      exact zm_if (fun _ => zm_rX0 i1) (fun _ => zm_rX0 i1)
    dsimp only
    refine zm_gb (zm_isOfLine i1.1 _ s hlt) (fun _ => ?_) (fun _ => lo a3 a4)
    exact zm_gb (zm_isOfLine i1.1 _ t hls) (fun _ => zm_rfX i1 _ 5) (fun _ => lo a1 a2)
  have l17 : zm_R (L9_leans_17 (d + 9) 347 s t 347 h) (zm_I fun _ h' => zm_X h h') := by
    rw [qL9_leans_17]
    exact l47 2 (fun q => by cases q)
  have l42 : zm_R (L9_leans_42 (d + 9) 347 s t 347 h) (zm_I fun _ h' => zm_X h h') := by
    rw [qL9_leans_42]
    exact l47 5 (fun q => by cases q)
  rw [qE9_leans]
  refine zm_gb (zm_isState i.1 _ s) (fun _ => l17) (fun hs => ?_)
  refine zm_gb (zm_isState i.1 _ t) (fun _ => l17) (fun ht => ?_)
  refine zm_if (fun _ => l42) (fun _ => ?_)
  refine zm_gb (zm_isEdit i.1 _ (zm_st48 hs)) (fun _ => l42) (fun hes => ?_)
  exact zm_gb (zm_isEdit i.1 _ (zm_st48 ht)) (fun _ => l42) (fun het => l47 0 (fun _ => ⟨⟨hs, hes⟩, ht, het⟩))
theorem zm_hand_l (d : Nat) {m : Nat} (hm : m ≤ 12) : ∀ (n i : Nat) (h : zv_H), i + n = m → zm_M h → zv_I h 347 20 = m → ∃ h', L9_hand_2 d 347 i h = L9_hand_2 d 347 m h' ∧ zm_F [360] [] h h'
  | 0, i, h, hi, _, _ => by
    have e : i = m := by omega
    subst e
    exact ⟨h, rfl, zm_F_r _ _ h⟩
  | n + 1, i, h, hi, hM, h20 => by
    rw [qL9_hand_2, zm_e (zm_gI hM 20), h20, if_pos (by omega), zm_e (zm_f17 hM), zm_e (zm_f18 hM), zm_e (zm_aI hM zm_l361 rfl (by omega) (by omega)), zm_e (zm_wI hM zm_l360 rfl (by omega) (by omega) _), zm_w (by omega)]
    generalize zv_I h 361 ((i : Int)).toNat = v0
    obtain ⟨h', i1, i2⟩ := zm_hand_l d hm n (i + 1) (zv_sI h 360 ((i : Int)).toNat v0) (by omega) hM h20
    exact ⟨h', i1, zm_F_t (zm_F_I (zm_F_r _ _ h) rfl _ _) i2⟩
theorem zm_hand {h : zv_H} (i : zm_MI h) (d : Nat) : ∃ h', C9_hand (d + 1) 347 h = some h' ∧ zm_F [360] [19] h h' ∧ zv_I h' 347 19 = zv_I h 347 20 := by
  have h20 := i.2.2.2.2.2.1
  obtain ⟨m, em⟩ : ∃ m : Nat, zv_I h 347 20 = m := ⟨(zv_I h 347 20).toNat, by omega⟩
  obtain ⟨h1, i1, f1⟩ := zm_hand_l d (m := m) (by omega) m 0 h (by omega) i.1 em
  have hM1 := zm_F_M f1 i.1
  have e20 : zv_I h1 347 20 = m := (zm_F_g f1 20).trans em
  refine ⟨zv_sI h1 347 19 m, lC9_hand (zm_ob i.1) ?_, zm_F_f (zm_F_s f1 rfl rfl) rfl _, by rw [zm_sgI, if_pos rfl, em]⟩
  rw [qE9_hand, show L9_hand_2 d 347 0 h = _ from i1, qL9_hand_2, zm_e (zm_gI hM1 20), e20, if_neg (by omega), zm_e (zm_gI hM1 20), e20, zm_e (zm_pI hM1 19 _)]
theorem zm_put {h : zv_H} (i : zm_MI h) (d : Nat) (p : Int) : zm_R (C9_put (d + 10) 347 p h) (fun q => zm_X h q.2) := by
  refine zm_cI (P := fun _ h' => zm_X h h') (lC9_put (zm_ob i.1)) ?_
  have f : zm_F [] [3, 4] h (zv_sI (zv_sI h 347 4 0) 347 3 0) := zm_F_f (zm_F_f (zm_F_r _ _ h) rfl _) rfl _
  have x1 := zm_X_a i f rfl rfl rfl
  obtain ⟨h2, e2, f2, q2⟩ := zm_hand x1.2 (d + 8)
  have x2 := zm_X_a x1.2 f2 rfl rfl rfl
  have h20 := x1.2.2.2.2.2.2.1
  obtain ⟨m, em⟩ : ∃ m : Nat, zv_I (zv_sI (zv_sI h 347 4 0) 347 3 0) 347 20 = m := ⟨(zv_I (zv_sI (zv_sI h 347 4 0) 347 3 0) 347 20).toNat, by omega⟩
  rw [qE9_put, zm_e (zm_is i.1 _ 0)]
  dsimp only
  rw [zm_e e2]
  refine zm_X_i x1 (zm_X_i x2 (zm_rXf x2.2 (A := [348, 351, 352, 353, 354, 355, 358, 359]) (B := [3, 10, 11, 12]) (zm_mono (zm_putNow x2.2.1 rfl x2.2.2.1 (d + 3) (m := m) (by omega) (q2.trans em) p) (fun q hq => ⟨hq.1, hq.2.1⟩)) rfl rfl))
/-- is(0), and a call that keeps all -/
theorem zm_is0 {h : zv_H} (i : zm_MI h) (d : Nat) {o : zv_H → Option (Int × zv_H)} {A B : List Nat} (k : ∀ h1 : zv_H, zm_MI h1 → zm_R (o h1) fun q => zm_F A B h1 q.2 ∧ zm_W (zv_I q.2 348)) (hA : (A.all fun r => List.contains [348, 349, 350, 351, 352, 353, 354, 355, 356, 357, 358, 359, 360, 361, 362, 363, 364, 365, 366, 370, 371, 372] r) = true) (hB : (B.all fun r => List.contains [3, 4, 10, 11, 12, 19, 24] r) = true) : zm_R ((C9_is (d + 1) 347 0 h).bind fun q1 => (o q1.2).bind fun q2 => (some (some (zv_i q2.1), q2.2) : zv_O)) (zm_I fun _ h' => zm_X h h') := by
  have f : zm_F [] [3, 4] h (zv_sI (zv_sI h 347 4 0) 347 3 0) := zm_F_f (zm_F_f (zm_F_r _ _ h) rfl _) rfl _
  have x1 := zm_X_a i f rfl rfl rfl
  rw [zm_e (zm_is i.1 _ 0)]
  exact zm_X_i x1 (zm_rXf x1.2 (k _ x1.2) hA hB)
theorem zm_cut {h : zv_H} (i : zm_MI h) (d : Nat) (p n : Int) (hp : p < 2147483648) : zm_R (C9_cut (d + 10) 347 p n h) (fun q => zm_X h q.2) := by
  refine zm_cI (P := fun _ h' => zm_X h h') (lC9_cut (zm_ob i.1)) ?_
  rw [qE9_cut]
  exact zm_is0 i _ (o := fun g => C9_cutNow (d + 9) 347 p n g) (A := [348, 351, 352, 353, 354, 355, 358, 359]) (B := [3, 10, 11, 12]) (fun h1 i1 => zm_mono (zm_cutNow i1.1 rfl i1.2.1 (d + 3) p n hp) (fun q hq => ⟨hq.1, hq.2.1⟩)) rfl rfl
theorem zm_W_1 {c c' : Nat → Int} (w : zm_W c) (o : ∀ k : Nat, k ≠ 1 → c' k = c k) : zm_W c' := zm_W_alt w (fun k h1 _ => o k (by omega)) (by rw [o 0 (by decide)]; exact w.2.1) (by rw [o 3 (by decide)]; exact w.2.2.1) (o 4 (by decide)) (fun k h1 _ => o k (by omega)) (by rw [o 5 (by decide)]; exact w.2.2.2.2.2)
theorem zm_wait {h : zv_H} (i : zm_MI h) (d : Nat) (n : Int) : zm_R (C9_wait (d + 10) 347 n h) (fun q => zm_X h q.2) := by
  refine zm_cI (P := fun _ h' => zm_X h h') (lC9_wait (zm_ob i.1)) ?_
  have l17 : ∀ v : Int, zm_R (L9_wait_17 (d + 9) 347 n 347 v h) (zm_I fun _ h' => zm_X h h') := by
    intro v
    rw [qL9_wait_17]
    refine zm_isq i (fun hw h1 f1 i1 => zm_X_i (zm_X_a i f1 rfl rfl rfl) ?_)
    dsimp only
    rw [zm_e (zm_f0 i1.1), zm_e (zm_aI i1.1 zm_l348 rfl (by decide) (by decide)), zm_e (zm_wI i1.1 zm_l348 rfl (by decide) (by decide) _)]
    have f2 : zm_F [348] [] h1 (zv_sI h1 348 (Int.toNat 1) (zv_w (zv_I h1 348 (Int.toNat 1) + n))) := zm_F_I (zm_F_r _ _ h1) rfl _ _
    have e2 : zv_I (zv_sI h1 348 (Int.toNat 1) (zv_w (zv_I h1 348 (Int.toNat 1) + n))) 348 = zm_u (zv_I h1 348) 1 (zv_w (zv_I h1 348 (Int.toNat 1) + n)) := zm_ss _ _ _ _
    generalize zv_sI h1 348 (Int.toNat 1) (zv_w (zv_I h1 348 (Int.toNat 1) + n)) = h2 at f2 e2
    have hM2 := zm_F_M f2 i1.1
    rw [zm_e (zm_f0 hM2), zm_e (zm_aI hM2 zm_l348 rfl (by decide) (by decide))]
    exact zm_iI (zm_X_of i1 f2 rfl rfl (zm_W_1 i1.2.1 (fun k hk => by rw [e2, zm_u_o _ _ hk])))
  rw [qE9_wait]
  exact zm_gb (zm_isIn _ n 0 999) (fun _ => l17 1) (fun _ => l17 0)
theorem zm_undo {h : zv_H} (i : zm_MI h) (d : Nat) : zm_R (C9_undo (d + 10) 347 h) (fun q => zm_X h q.2) := by
  refine zm_cI (P := fun _ h' => zm_X h h') (lC9_undo (zm_ob i.1)) ?_
  rw [qE9_undo]
  exact zm_is0 i _ (o := fun g => C9_undoNow (d + 9) 347 g) (fun h1 i1 => zm_undoNow i1.1 rfl i1.2.1 (d + 6)) rfl rfl
theorem zm_redo {h : zv_H} (i : zm_MI h) (d : Nat) : zm_R (C9_redo (d + 10) 347 h) (fun q => zm_X h q.2) := by
  refine zm_cI (P := fun _ h' => zm_X h h') (lC9_redo (zm_ob i.1)) ?_
  rw [qE9_redo]
  exact zm_is0 i _ (o := fun g => C9_redoNow (d + 9) 347 g) (fun h1 i1 => zm_redoNow i1.1 rfl i1.2.1 (d + 4)) rfl rfl
theorem zm_go {h : zv_H} (i : zm_MI h) (d : Nat) (s : Int) : zm_R (C9_go (d + 10) 347 s h) (fun q => zm_X h q.2) := by
  refine zm_cI (P := fun _ h' => zm_X h h') (lC9_go (zm_ob i.1)) ?_
  rw [qE9_go]
  exact zm_is0 i _ (o := fun g => C9_goNow (d + 9) 347 s g) (fun h1 i1 => zm_goNow i1.1 rfl i1.2.1 (d + 4) s) rfl rfl
theorem zm_name {h : zv_H} (i : zm_MI h) (d : Nat) : zm_R (C9_name (d + 10) 347 h) (fun q => zm_X h q.2) := by
  refine zm_cI (P := fun _ h' => zm_X h h') (lC9_name (zm_ob i.1)) ?_
  have f : zm_F [] [3, 4] h (zv_sI (zv_sI h 347 4 0) 347 3 0) := zm_F_f (zm_F_f (zm_F_r _ _ h) rfl _) rfl _
  have x1 := zm_X_a i f rfl rfl rfl
  obtain ⟨h2, e2, f2, q2⟩ := zm_hand x1.2 (d + 8)
  have x2 := zm_X_a x1.2 f2 rfl rfl rfl
  rw [qE9_name, zm_e (zm_is i.1 _ 0)]
  dsimp only
  rw [zm_e e2]
  exact zm_X_i x1 (zm_X_i x2 (zm_rXf x2.2 (zm_nameNow x2.2.1 rfl x2.2.2.1 (d + 6)) rfl rfl))
theorem zm_withdraw {h : zv_H} (i : zm_MI h) (d : Nat) (s : Int) : zm_R (C9_withdraw (d + 10) 347 s h) (fun q => zm_X h q.2) := by
  refine zm_cI (P := fun _ h' => zm_X h h') (lC9_withdraw (zm_ob i.1)) ?_
  rw [qE9_withdraw]
  exact zm_is0 i _ (o := fun g => C9_turnNow (d + 9) 347 s 2 g) (fun h1 i1 => zm_turnNow i1.1 rfl i1.2.1 (d + 2) (Or.inl rfl) s) rfl rfl
theorem zm_restore {h : zv_H} (i : zm_MI h) (d : Nat) (s : Int) : zm_R (C9_restore (d + 10) 347 s h) (fun q => zm_X h q.2) := by
  refine zm_cI (P := fun _ h' => zm_X h h') (lC9_restore (zm_ob i.1)) ?_
  rw [qE9_restore]
  exact zm_is0 i _ (o := fun g => C9_turnNow (d + 9) 347 s 3 g) (fun h1 i1 => zm_turnNow i1.1 rfl i1.2.1 (d + 2) (Or.inr rfl) s) rfl rfl
theorem zm_carry {h : zv_H} (i : zm_MI h) (d : Nat) (s : Int) : zm_R (C9_carry (d + 10) 347 s h) (fun q => zm_X h q.2) := by
  refine zm_cI (P := fun _ h' => zm_X h h') (lC9_carry (zm_ob i.1)) ?_
  rw [qE9_carry]
  exact zm_is0 i _ (o := fun g => C9_carryNow (d + 9) 347 s g) (A := [348, 351, 352, 353, 354, 355, 358, 359, 360, 362]) (B := [3, 10, 11, 12, 19]) (fun h1 i1 => zm_mono (zm_carryNow i1.1 rfl i1.2.1 d s) (fun q hq => ⟨hq.1, hq.2.1⟩)) rfl rfl
theorem zm_merge {h : zv_H} (i : zm_MI h) (d : Nat) (s : Int) : zm_R (C9_merge (d + 10) 347 s h) (fun q => zm_X h q.2) := by
  refine zm_cI (P := fun _ h' => zm_X h h') (lC9_merge (zm_ob i.1)) ?_
  rw [qE9_merge]
  exact zm_is0 i _ (o := fun g => C9_mergeNow (d + 9) 347 s g) (A := [348, 351, 352, 353, 354, 355, 358, 359, 360, 362, 363, 364]) (B := [3, 10, 11, 12, 19, 24]) (fun h1 i1 => zm_mono (zm_mergeNow i1.1 rfl i1.2.1 d s) (fun q hq => ⟨hq.1, hq.2.1⟩)) rfl rfl
theorem zm_prune {h : zv_H} (i : zm_MI h) (d : Nat) (n : Int) : zm_R (C9_prune (d + 10) 347 n h) (fun q => zm_X h q.2) := by
  refine zm_cI (P := fun _ h' => zm_X h h') (lC9_prune (zm_ob i.1)) ?_
  rw [qE9_prune]
  exact zm_is0 i _ (o := fun g => C9_pruneNow (d + 9) 347 n g) (fun h1 i1 => zm_pruneNow i1.1 rfl i1.2.1 (d + 4) n) rfl rfl
theorem zm_unname67 (d : Nat) {m : Nat} (hm : m ≤ 12) : ∀ (n : Nat) (i : Int) (h : zv_H), zm_M h → zv_I h 348 3 = m → 0 ≤ i → 2 * (m : Int) - i ≤ n → ∃ (r : Int) (h' : zv_H), L9_unname_67 d 347 i h = some (some (zv_i r), h') ∧ zm_F [348] [] h h' ∧ ∀ k : Nat, (k < 408 ∨ 432 ≤ k) → zv_I h' 348 k = zv_I h 348 k
  | n, i, h, hM, h3, i0, hi => by
    rw [qL9_unname_67, zm_e (zm_f0 hM), zm_e (zm_aI hM zm_l348 rfl (by decide) (by decide)), show zv_I h 348 (Int.toNat 3) = _ from h3, zm_w (x := 2 * (m : Int)) (by omega)]
    by_cases c1 : i < 2 * (m : Int)
    · cases n with
      | zero => exact absurd c1 (by omega)
      | succ n =>
        rw [if_pos c1, zm_e (zm_f0 hM), zm_e (zm_f0 hM), zm_w (x := 408 + i) (by omega), zm_w (x := 408 + i + 2) (by omega), zm_e (zm_aI hM zm_l348 rfl (by omega) (by omega)), zm_e (zm_wI hM zm_l348 rfl (by omega) (by omega) _), zm_w (x := i + 1) (by omega)]
        generalize zv_I h 348 (408 + i + 2).toNat = v0
        have e1 : zv_I (zv_sI h 348 (408 + i).toNat v0) 348 = zm_u (zv_I h 348) (408 + i).toNat v0 := zm_ss _ _ _ _
        obtain ⟨r, h', i1, i2, i3⟩ := zm_unname67 d hm n (i + 1) (zv_sI h 348 (408 + i).toNat v0) hM (by rw [e1, zm_u_o _ _ (by omega)]; exact h3) (by omega) (by omega)
        exact ⟨r, h', i1, zm_F_t (zm_F_I (zm_F_r _ _ h) rfl _ _) i2, fun k hk => by rw [i3 k hk, e1, zm_u_o _ _ (by omega)]⟩
    · rw [if_neg c1, zm_e (zm_f0 hM), zm_e (zm_aI hM zm_l348 rfl (by decide) (by decide))]
      exact ⟨_, h, rfl, zm_F_r _ _ h, fun _ _ => rfl⟩
theorem zm_unname {h : zv_H} (i : zm_MI h) (d : Nat) : zm_R (C9_unname (d + 10) 347 h) (fun q => zm_X h q.2) := by
  refine zm_cI (P := fun _ h' => zm_X h h') (lC9_unname (zm_ob i.1)) ?_
  have l19 : ∀ v : Int, zm_R (L9_unname_19 (d + 9) 347 347 v h) (zm_I fun _ h' => zm_X h h') := by
    intro v
    rw [qL9_unname_19]
    refine zm_isq i (fun hw h1 f1 i1 => zm_X_i (zm_X_a i f1 rfl rfl rfl) ?_)
    have h20 := i1.2.2.2.2.2.1
    have h3 := i1.2.1.2.2.1
    obtain ⟨u, eu⟩ := zm_packed i1.1 (d + 8) zm_l361 rfl (m := zv_I h1 347 20) (by omega) (by omega) (by decide)
    obtain ⟨k, ek, k0, k1⟩ := zm_nameAt i1.1 (d + 8) u h3
    dsimp only
    rw [zm_e (zm_f18 i1.1), zm_e (zm_gI i1.1 20), zm_e eu]
    dsimp only
    rw [zm_e ek]
    dsimp only
    refine zm_if (fun _ => zm_rfX i1 _ 5) (fun hk => ?_)
    rw [zm_e (zm_f0 i1.1), zm_e (zm_aI i1.1 zm_l348 rfl (by decide) (by decide)), show zv_I h1 348 (Int.toNat 3) = zv_I h1 348 3 from rfl, zm_w (x := zv_I h1 348 3 - 1) (by omega), zm_e (zm_wI i1.1 zm_l348 rfl (by decide) (by decide) _), zm_w (x := 2 * k) (by omega)]
    have f2 : zm_F [348] [] h1 (zv_sI h1 348 (Int.toNat 3) (zv_I h1 348 3 - 1)) := zm_F_I (zm_F_r _ _ h1) rfl _ _
    have e2 : zv_I (zv_sI h1 348 (Int.toNat 3) (zv_I h1 348 3 - 1)) 348 = zm_u (zv_I h1 348) 3 (zv_I h1 348 3 - 1) := zm_ss _ _ _ _
    generalize zv_sI h1 348 (Int.toNat 3) (zv_I h1 348 3 - 1) = h2 at f2 e2
    obtain ⟨m, em⟩ : ∃ m : Nat, zv_I h1 348 3 - 1 = m := ⟨(zv_I h1 348 3 - 1).toNat, by omega⟩
    obtain ⟨r, h', i1', i2, i3⟩ := zm_unname67 (d + 9) (m := m) (by omega) 100 (2 * k) h2 (zm_F_M f2 i1.1) (by rw [e2, zm_u_s, em]) (by omega) (by omega)
    rw [i1']
    have o : ∀ n : Nat, (n < 408 ∨ 432 ≤ n) → n ≠ 3 → zv_I h' 348 n = zv_I h1 348 n := fun n h1 h2 => by rw [i3 n h1, e2, zm_u_o _ _ h2]
    have w1 := i1.2.1
    refine zm_iI (zm_X_of i1 (zm_F_t f2 i2) rfl rfl (zm_W_alt w1 (fun n n0 _ => o n (Or.inr n0) (by omega)) (by rw [o 0 (Or.inl (by decide)) (by decide)]; exact w1.2.1) ?_ (o 4 (Or.inl (by decide)) (by decide)) (fun n n0 n1 => o n (Or.inl n1) (by omega)) (by rw [o 5 (Or.inl (by decide)) (by decide)]; exact w1.2.2.2.2.2)))
    rw [i3 3 (Or.inl (by decide)), e2, zm_u_s]
    omega
  rw [qE9_unname, zm_e (zm_gI i.1 20)]
  exact zm_gb (zm_isIn _ _ 1 6) (fun _ => l19 1) (fun _ => l19 0)
end
/-! 81.pub3 -/
section
theorem zm_common_l {h : zv_H} (hM : zm_M h) (d : Nat) {t : Int} {lt : List Int} (hlt : zm_Ln (zv_I h 348) lt t) (x : Int) : ∀ {l : List Int} {s : Int}, zm_Ln (zv_I h 348) l s → l.find? (fun u => lt.contains u) = some x → L9_commonOf_2 (d + 2) 347 t s h = some (some (zv_i x), h)
  | [], _, _, hz => by cases hz
  | u :: l, s, hl, hz => by
    obtain ⟨⟨e, hu⟩, hl'⟩ := hl
    subst e
    rw [qL9_commonOf_2, zm_e (zm_isOfLine hM d s hlt)]
    dsimp only
    by_cases c1 : s ∈ lt
    · rw [List.find?_cons_of_pos (List.contains_iff_mem.mpr c1)] at hz
      rw [if_pos c1, if_neg (by decide), Option.some.inj hz]
    · rw [List.find?_cons_of_neg (fun q => c1 (List.contains_iff_mem.mp q))] at hz
      rw [if_neg c1, if_pos rfl, zm_e (zm_of hM _ hu (by decide))]
      exact zm_common_l hM d hlt x hl' hz
/-- the nearest of both lines, how deep it is, how long the way is -/
theorem zm_way3 {h : zv_H} (i : zm_MI h) {s t : Int} (hs : zm_st (zv_I h 348) s) (ht : zm_st (zv_I h 348) t) : ∃ (x n : Int) (ls lt : List Int), (∀ d, C9_commonOf (d + 3) 347 s t h = some (x, h)) ∧ (∀ d, C9_depthOf (d + 2) 347 x h = some (n, h)) ∧ (∀ d, C9_depthOf (d + 2) 347 s h = some ((ls.length : Int), h)) ∧ (∀ d, C9_wayMany (d + 4) 347 s t h = some ((ls.length : Int) + lt.length - 2 * n, h)) ∧ zm_Ln (zv_I h 348) (s :: ls) s ∧ zm_Ln (zv_I h 348) (t :: lt) t ∧ 0 ≤ n ∧ n ≤ ls.length ∧ n ≤ lt.length ∧ ls.length ≤ 47 ∧ lt.length ≤ 47 := by
  obtain ⟨ls, a1, a2, _⟩ := zm_W_l i.2.1.1 hs
  obtain ⟨lt, b1, b2, _⟩ := zm_W_l i.2.1.1 ht
  have hM := i.1
  have h0 : ∃ x, (s :: ls).find? (fun u => (t :: lt).contains u) = some x := by
    cases e : (s :: ls).find? (fun u => (t :: lt).contains u) with
    | some x => exact ⟨x, rfl⟩
    | none =>
      have h1 := List.find?_eq_none.mp e 0 (zm_Lw_0 a1.2.1)
      exact absurd (List.contains_iff_mem.mpr (zm_Lw_0 b1.2.1)) h1
  obtain ⟨x, hx⟩ := h0
  have x1 : x ∈ s :: ls := List.mem_of_find?_eq_some hx
  have x2 : x ∈ t :: lt := List.contains_iff_mem.mp (List.find?_some hx)
  obtain ⟨p, q, e1, e2⟩ := zm_Ln_s a1.1 x x1
  obtain ⟨p', q', e1', e2'⟩ := zm_Ln_s b1.1 x x2
  have eq : q = q' := (List.cons.inj (zm_Ln_u e2 e2')).2
  have len1 := congrArg List.length e1
  have len2 := congrArg List.length e1'
  rw [List.length_append, List.length_cons, List.length_cons] at len1 len2
  have cm : ∀ d, C9_commonOf (d + 3) 347 s t h = some (x, h) := fun d => lC9_commonOf (zm_ob hM) (by rw [qE9_commonOf]; exact zm_common_l hM d b1.1 x a1.1 hx)
  have dx : ∀ d, C9_depthOf (d + 2) 347 x h = some ((q.length : Int), h) := fun d => zm_depthOf hM d e2 (by clear hs ht; omega)
  have ds : ∀ d, C9_depthOf (d + 2) 347 s h = some ((ls.length : Int), h) := fun d => zm_depthOf hM d a1.1 (by clear hs ht; omega)
  have dt : ∀ d, C9_depthOf (d + 2) 347 t h = some ((lt.length : Int), h) := fun d => zm_depthOf hM d b1.1 (by clear hs ht; omega)
  rw [← eq] at len2
  refine ⟨x, q.length, ls, lt, cm, dx, ds, fun d => lC9_wayMany (zm_ob hM) ?_, a1.1, b1.1, by clear hs ht; omega, by clear hs ht; omega, by clear hs ht; omega, a2, b2⟩
  rw [qE9_wayMany, zm_e (ds (d + 1))]
  dsimp only
  rw [zm_e (dt (d + 1))]
  dsimp only
  rw [zm_e (cm d)]
  dsimp only
  rw [zm_e (dx (d + 1))]
  dsimp only
  rw [zm_w (x := (ls.length : Int) + lt.length) (by clear hs ht; omega), zm_w (x := 2 * (q.length : Int)) (by clear hs ht; omega), zm_w (by clear hs ht; omega)]
theorem zm_common {h : zv_H} (i : zm_MI h) (d : Nat) (s t : Int) : zm_R (C9_common (d + 10) 347 s t h) (fun q => zm_X h q.2) := by
  refine zm_cI (P := fun _ h' => zm_X h h') (lC9_common (zm_ob i.1)) ?_
  have l22 : ∀ v : Int, (v = 0 → zm_st (zv_I h 348) s ∧ zm_st (zv_I h 348) t) → zm_R (L9_common_22 (d + 9) 347 s t 347 v h) (zm_I fun _ h' => zm_X h h') := by
    intro v hv
    rw [qL9_common_22]
    refine zm_isq i (fun hw h1 f1 i1 => zm_X_i (zm_X_a i f1 rfl rfl rfl) ?_)
    obtain ⟨a1, a2⟩ := hv hw
    rw [← zm_F_a f1 348] at a1 a2
    obtain ⟨x, n, ls, lt, cm, _⟩ := zm_way3 i1 a1 a2
    exact zm_rX i1 ⟨x, cm (d + 6)⟩
  have l21 : zm_R (L9_common_21 (d + 9) 347 s t 347 h) (zm_I fun _ h' => zm_X h h') := by
    rw [qL9_common_21]
    exact l22 2 (fun q => by cases q)
  rw [qE9_common]
  refine zm_gb (zm_isState i.1 _ s) (fun _ => l21) (fun hs => ?_)
  exact zm_gb (zm_isState i.1 _ t) (fun _ => l21) (fun ht => l22 0 (fun _ => ⟨hs, ht⟩))
theorem zm_way105 {h : zv_H} (hM : zm_M h) (d : Nat) : ∀ (n : Nat) {l : List Int} {s : Int}, zm_Ln (zv_I h 348) l s → n < l.length → n ≤ 100 → ∃ r : Int, L9_way_105 (d + 1) 347 s n h = some (some (zv_i r), h)
  | 0, l, s, _, _, _ => ⟨s, by rw [qL9_way_105, if_pos (by omega)]⟩
  | n + 1, l, s, hl, hn, h1 => by
    cases l with
    | nil => exact absurd hn (Nat.not_lt_zero _)
    | cons t b =>
      obtain ⟨⟨e, ht⟩, hl'⟩ := hl
      subst e
      rw [List.length_cons] at hn
      have w1 : zv_w (((n + 1 : Nat) : Int) + -1) = (n : Int) := by
        rw [zm_w (by omega)]
        omega
      rw [qL9_way_105, if_neg (by omega), zm_e (zm_of hM d ht (by decide)), w1]
      exact zm_way105 hM d n hl' (by omega) (by omega)
theorem zm_way {h : zv_H} (i : zm_MI h) (d : Nat) (s t p : Int) : zm_R (C9_way (d + 10) 347 s t p h) (fun q => zm_X h q.2) := by
  refine zm_cI (P := fun _ h' => zm_X h h') (lC9_way (zm_ob i.1)) ?_
  have l30 : ∀ v : Int, (v = 0 → 0 ≤ p ∧ zm_st (zv_I h 348) s ∧ zm_st (zv_I h 348) t) → zm_R (L9_way_30 (d + 9) 347 s t p 347 v h) (zm_I fun _ h' => zm_X h h') := by
    intro v hv
    rw [qL9_way_30]
    refine zm_isq i (fun hw h1 f1 i1 => zm_X_i (zm_X_a i f1 rfl rfl rfl) ?_)
    obtain ⟨hp, a1, a2⟩ := hv hw
    rw [← zm_F_a f1 348] at a1 a2
    obtain ⟨x, n, ls, lt, cm, dx, ds, wm, L1, L2, n0, n1, n2, m1, m2⟩ := zm_way3 i1 a1 a2
    clear a1 a2
    dsimp only
    rw [zm_e (ds (d + 7))]
    dsimp only
    rw [zm_e (cm (d + 6))]
    dsimp only
    rw [zm_e (dx (d + 7))]
    dsimp only
    rw [zm_e (wm (d + 5))]
    dsimp only
    rw [zm_w (x := (ls.length : Int) - n) (by omega)]
    refine zm_if (fun hle => ?_) (fun _ => zm_rfX i1 _ 5)
    have fin : ∀ {o : zv_O}, (∃ r : Int, o = some (some (zv_i r), h1)) → zm_R o (zm_I fun _ h' => zm_X h1 h') := by
      intro o ho
      obtain ⟨r, er⟩ := ho
      rw [er]
      exact zm_rX0 i1
    have l87 : ∀ u : Int, (p ≤ (ls.length : Int) - n → u = s) → (¬ p ≤ (ls.length : Int) - n → u = t) → zm_R (L9_way_87 (d + 9) 347 p ((ls.length : Int) - n) ((ls.length : Int) + lt.length - 2 * n) u h1) (zm_I fun _ h' => zm_X h1 h') := by
      intro u h1' h2'
      rw [qL9_way_87]
      refine zm_if (fun c => ?_) (fun c => ?_)
      · rw [h1' c]
        obtain ⟨m, em⟩ : ∃ m : Nat, p = m := ⟨p.toNat, by omega⟩
        subst em
        exact fin (zm_way105 i1.1 (d + 8) m L1 (by rw [List.length_cons]; omega) (by omega))
      · rw [h2' c, zm_w (x := (ls.length : Int) + lt.length - 2 * n - p) (by omega)]
        obtain ⟨m, em⟩ : ∃ m : Nat, (ls.length : Int) + lt.length - 2 * n - p = m := ⟨((ls.length : Int) + lt.length - 2 * n - p).toNat, by omega⟩
        rw [em]
        exact fin (zm_way105 i1.1 (d + 8) m L2 (by rw [List.length_cons]; omega) (by omega))
    exact zm_if (fun c => l87 s (fun _ => rfl) (fun q => absurd c q)) (fun c => l87 t (fun q => absurd q c) (fun _ => rfl))
  have l25 : zm_R (L9_way_25 (d + 9) 347 s t p 347 h) (zm_I fun _ h' => zm_X h h') := by
    rw [qL9_way_25]
    exact l30 2 (fun q => by cases q)
  rw [qE9_way]
  refine zm_if (fun _ => l30 1 (fun q => by cases q)) (fun hp => ?_)
  refine zm_gb (zm_isState i.1 _ s) (fun _ => l25) (fun hs => ?_)
  exact zm_gb (zm_isState i.1 _ t) (fun _ => l25) (fun ht => l30 0 (fun _ => ⟨by clear hs ht; omega, hs, ht⟩))
theorem zm_keysOf_l (d : Nat) {len : Nat} (hn : len ≤ 640) : ∀ (m k : Nat) (a : Int) (h : zv_H), k + m = len → 0 ≤ a → a ≤ k → zm_M h → zv_I h 347 11 = len → ∃ (r : Int) (h' : zv_H), L9_keysOf_9 d 347 a k h = some (some (zv_i r), h') ∧ zm_F [370] [] h h' ∧ 0 ≤ r ∧ r ≤ 640
  | 0, k, a, h, hk, a0, a1, hM, h11 => ⟨a, h, by rw [qL9_keysOf_9, zm_e (zm_gI hM 11), h11, if_neg (by omega)], zm_F_r _ _ h, a0, by omega⟩
  | m + 1, k, a, h, hk, a0, a1, hM, h11 => by
    have w1 : zv_w ((k : Int) + 1) = ((k + 1 : Nat) : Int) := by
      rw [zm_w (by omega)]
      rfl
    rw [qL9_keysOf_9, zm_e (zm_gI hM 11), h11, if_pos (by omega), zm_e (zm_f9 hM), zm_e (zm_aB hM zm_l355 (Or.inl rfl) rfl (by omega) (by omega)), w1]
    by_cases c1 : zv_I h 355 ((k : Int)).toNat = 0
    · rw [if_pos c1]
      exact zm_keysOf_l d hn m (k + 1) a h (by omega) a0 (by omega) hM h11
    · rw [if_neg c1, zm_e (zm_f44 hM), zm_e (zm_f6 hM), zm_e (zm_aI hM zm_l352 rfl (by omega) (by omega)), zm_e (zm_f7 hM), zm_e (zm_aI hM zm_l353 rfl (by omega) (by omega)), zm_e (zm_wI hM zm_l370 rfl (by omega) (by omega) _), zm_w (x := a + 1) (by omega)]
      generalize zv_w (zv_w (64 * zv_I h 352 ((k : Int)).toNat) + zv_I h 353 ((k : Int)).toNat) = v0
      obtain ⟨r, h', i1, i2, i3⟩ := zm_keysOf_l d hn m (k + 1) (a + 1) (zv_sI h 370 a.toNat v0) (by omega) (by omega) (by omega) hM h11
      exact ⟨r, h', i1, zm_F_t (zm_F_I (zm_F_r _ _ h) rfl _ _) i2, i3⟩
theorem zm_keptOf_l {h : zv_H} (d : Nat) {len : Nat} (hn : len ≤ 640) (hM : zm_M h) (h11 : zv_I h 347 11 = len) {n : Nat} (hn2 : n ≤ 640) : ∀ (m k : Nat) (a : Int), k + m = len → ∃ r : Int, L9_keptOf_17 d 347 n a k h = some (some (zv_i r), h)
  | 0, k, a, hk => ⟨a, by rw [qL9_keptOf_17, zm_e (zm_gI hM 11), h11, if_neg (by omega)]⟩
  | m + 1, k, a, hk => by
    have w1 : zv_w ((k : Int) + 1) = ((k + 1 : Nat) : Int) := by
      rw [zm_w (by omega)]
      rfl
    have nx := fun b => zm_keptOf_l d hn hM h11 hn2 m (k + 1) b (by omega)
    have l42 : ∀ (q j : Nat) (b : Int), j + q = n → ∃ r : Int, L9_keptOf_42 d 347 n b k j h = some (some (zv_i r), h) := by
      intro q
      induction q with
      | zero =>
        intro j b hj
        rw [qL9_keptOf_42, if_neg (by omega), w1]
        exact nx b
      | succ q ih =>
        intro j b hj
        have w2 : zv_w ((j : Int) + 1) = ((j + 1 : Nat) : Int) := by
          rw [zm_w (by omega)]
          rfl
        rw [qL9_keptOf_42, if_pos (by omega), zm_e (zm_f44 hM), zm_e (zm_aI hM zm_l370 rfl (by omega) (by omega)), zm_e (zm_f6 hM), zm_e (zm_aI hM zm_l352 rfl (by omega) (by omega)), zm_e (zm_f7 hM), zm_e (zm_aI hM zm_l353 rfl (by omega) (by omega)), w2]
        by_cases c1 : zv_I h 370 ((j : Int)).toNat = zv_w (zv_w (64 * zv_I h 352 ((k : Int)).toNat) + zv_I h 353 ((k : Int)).toNat)
        · rw [if_pos c1]
          exact ih (j + 1) _ (by omega)
        · rw [if_neg c1]
          exact ih (j + 1) _ (by omega)
    rw [qL9_keptOf_17, zm_e (zm_gI hM 11), h11, if_pos (by omega), zm_e (zm_f9 hM), zm_e (zm_aB hM zm_l355 (Or.inl rfl) rfl (by omega) (by omega)), w1]
    by_cases c1 : zv_I h 355 ((k : Int)).toNat = 0
    · rw [if_pos c1]
      exact nx a
    · rw [if_neg c1]
      exact l42 n 0 a (Nat.zero_add _)
theorem zm_keptOf {h : zv_H} (i : zm_MI h) (d : Nat) {s t : Int} (hs : zm_st (zv_I h 348) s) (ht : zm_st (zv_I h 348) t) : ∃ (r : Int) (h' : zv_H), C9_keptOf (d + 6) 347 s t h = some (r, h') ∧ zm_X h h' ∧ zv_I h' 348 = zv_I h 348 := by
  obtain ⟨h1, l, e1, f1, i1, x1, n1, s1, m1, g1, b1, c1⟩ := zm_see i d hs
  have l640 := zm_row640 g1 m1
  obtain ⟨r, h2, e2, f2, r0, r1⟩ := zm_keysOf_l (d + 4) l640 (zm_row (zv_I h1 348) l).length 0 0 h1 (Nat.zero_add _) (by decide) (by decide) i1.1 n1.2.1.1
  have x2 := zm_X_a i1 f2 rfl rfl rfl
  have ek : C9_keysOf (d + 5) 347 s h = some (r, h2) := lC9_keysOf (zm_ob i.1) (by rw [qE9_keysOf, zm_e e1]; exact e2)
  have c2 : zv_I h2 348 = zv_I h 348 := (zm_F_a f2 348).trans c1
  obtain ⟨h3, l3, e3, f3, i3, x3, n3, s3, m3, g3, b3, c3⟩ := zm_see x2.2 (d + 1) (s := t) (by rw [c2]; exact ht)
  obtain ⟨n, en⟩ : ∃ n : Nat, r = n := ⟨r.toNat, by clear hs ht; omega⟩
  subst en
  obtain ⟨v, ev⟩ := zm_keptOf_l (d + 5) (zm_row640 g3 m3) i3.1 n3.2.1.1 (n := n) (by clear hs ht; omega) (zm_row (zv_I h3 348) l3).length 0 0 (Nat.zero_add _)
  refine ⟨v, h3, lC9_keptOf (zm_ob i.1) ?_, zm_X_t x1 (zm_X_t x2 x3), c3.trans c2⟩
  rw [qE9_keptOf, zm_e ek]
  dsimp only
  rw [zm_e e3]
  exact ev
/-- a document goes into cells -/
theorem zm_cp {h : zv_H} (i : zm_MI h) (d : Nat) {s : Int} (hs : zm_st (zv_I h 348) s) {r : Nat} (hr : r = 356 ∨ r = 357) : ∃ (n : Nat) (h' : zv_H), C9_copies (d + 5) 347 s r h = some ((n : Int), h') ∧ zm_X h h' ∧ n ≤ 120 ∧ zv_I h' 348 = zv_I h 348 := by
  obtain ⟨l, a1, a2, a3, a4⟩ := zm_W_l i.2.1.1 hs
  obtain ⟨⟨n, h1⟩, e1, en, f1, n1, _⟩ := zm_copies i.1 rfl d (fun t ht => zm_st48 (a1.2.1.2.2 t ht)) a3 (by rw [List.length_cons]; clear hs; omega) (zm_sees_st i.1 rfl d a1 a2 a3 a4) hr
  dsimp only at en f1
  have b := a1.2.2.2.2.2.2
  refine ⟨((zm_row (zv_I h 348) (s :: l)).filter (zm_sn (zv_I h 348) (s :: l))).length, h1, by rw [e1, en], ?_, b, ?_⟩
  · rcases hr with q | q
    · subst q
      exact zm_X_a i f1 rfl rfl rfl
    · subst q
      exact zm_X_a i f1 rfl rfl rfl
  · rcases hr with q | q
    · subst q
      exact zm_F_a f1 348
    · subst q
      exact zm_F_a f1 348
theorem zm_differ_l {h : zv_H} (hM : zm_M h) (d : Nat) {a b : Nat} (ha : a ≤ 120) (hb : b ≤ 120) : ∀ m k : Nat, k + m = a → ∃ r : Int, L9_differ_24 d 347 a b k h = some (some (zv_i r), h)
  | m, k, hk => by
    have l60 : ∃ r : Int, L9_differ_60 d a b k h = some (some (zv_i r), h) := by
      rw [qL9_differ_60]
      by_cases c1 : (k : Int) = a
      · rw [if_pos c1]
        by_cases c2 : (k : Int) = b
        · rw [if_pos c2]
          exact ⟨_, rfl⟩
        · rw [if_neg c2]
          exact ⟨_, rfl⟩
      · rw [if_neg c1]
        exact ⟨_, rfl⟩
    rw [qL9_differ_24]
    by_cases c1 : (k : Int) < a
    · rw [if_pos c1]
      by_cases c2 : (k : Int) < b
      · rw [if_pos c2, zm_e (zm_f13 hM), zm_e (zm_aI hM zm_l356 rfl (by omega) (by omega)), zm_e (zm_f14 hM), zm_e (zm_aI hM zm_l357 rfl (by omega) (by omega))]
        by_cases c3 : zv_I h 356 ((k : Int)).toNat = zv_I h 357 ((k : Int)).toNat
        · rw [if_pos c3, zm_w (by omega)]
          cases m with
          | zero => exact absurd c1 (by omega)
          | succ m => exact zm_differ_l hM d ha hb m (k + 1) (by omega)
        · rw [if_neg c3]
          exact l60
      · rw [if_neg c2]
        exact l60
    · rw [if_neg c1]
      exact l60
theorem zm_differ {h : zv_H} (i : zm_MI h) (d : Nat) {s t : Int} (hs : zm_st (zv_I h 348) s) (ht : zm_st (zv_I h 348) t) : ∃ (r : Int) (h' : zv_H), C9_differ (d + 6) 347 s t h = some (r, h') ∧ zm_X h h' ∧ zv_I h' 348 = zv_I h 348 := by
  obtain ⟨a, h1, e1, x1, a1, c1⟩ := zm_cp i d hs (Or.inl rfl)
  obtain ⟨b, h2, e2, x2, b1, c2⟩ := zm_cp x1.2 d (s := t) (by rw [c1]; exact ht) (Or.inr rfl)
  obtain ⟨r, er⟩ := zm_differ_l x2.2.1 (d + 5) a1 b1 a 0 (Nat.zero_add _)
  refine ⟨r, h2, lC9_differ (zm_ob i.1) ?_, zm_X_t x1 x2, c2.trans c1⟩
  rw [qE9_differ, zm_e (zm_f13 i.1), zm_e e1]
  dsimp only
  rw [zm_e (zm_f14 x1.2.1), zm_e e2]
  exact er
theorem zm_lettersX {h : zv_H} (i : zm_MI h) (d : Nat) {s : Int} (hs : zm_st (zv_I h 348) s) : ∃ (r : Int) (h' : zv_H), C9_lettersOf (d + 5) 347 s h = some (r, h') ∧ zm_X h h' := by
  obtain ⟨l, a1, a2, a3, a4⟩ := zm_W_l i.2.1.1 hs
  obtain ⟨⟨n, h2⟩, e2, en, f2, n2⟩ := zm_lettersOf i.1 d (zm_sees_st i.1 rfl d a1 a2 a3 a4)
  exact ⟨n, h2, e2, zm_X_a i f2 rfl rfl rfl⟩
theorem zm_between {h : zv_H} (i : zm_MI h) (d : Nat) (s t w : Int) : zm_R (C9_between (d + 10) 347 s t w h) (fun q => zm_X h q.2) := by
  refine zm_cI (P := fun _ h' => zm_X h h') (lC9_between (zm_ob i.1)) ?_
  have l35 : ∀ v : Int, (v = 0 → zm_st (zv_I h 348) s ∧ zm_st (zv_I h 348) t) → zm_R (L9_between_35 (d + 9) 347 s t w 347 v h) (zm_I fun _ h' => zm_X h h') := by
    intro v hv
    rw [qL9_between_35]
    refine zm_isq i (fun hw h1 f1 i1 => zm_X_i (zm_X_a i f1 rfl rfl rfl) ?_)
    obtain ⟨a1, a2⟩ := hv hw
    rw [← zm_F_a f1 348] at a1 a2
    dsimp only
    refine zm_if (fun _ => ?_) (fun _ => ?_)
    · obtain ⟨r, h2, e2, x2, _⟩ := zm_differ i1 (d + 3) a1 a2
      rw [zm_e e2]
      exact zm_iI x2
    · obtain ⟨r, h2, e2, x2, c2⟩ := zm_keptOf i1 (d + 3) a1 a2
      rw [zm_e e2]
      refine zm_X_i x2 ?_
      refine zm_if (fun _ => zm_rX0 x2.2) (fun _ => zm_if (fun _ => ?_) (fun _ => ?_))
      · obtain ⟨r3, h3, e3, x3⟩ := zm_lettersX x2.2 (d + 4) (s := s) (by rw [c2]; exact a1)
        rw [zm_e e3]
        exact zm_iI x3
      · obtain ⟨r3, h3, e3, x3⟩ := zm_lettersX x2.2 (d + 4) (s := t) (by rw [c2]; exact a2)
        rw [zm_e e3]
        exact zm_iI x3
  have l30 : zm_R (L9_between_30 (d + 9) 347 s t w 347 h) (zm_I fun _ h' => zm_X h h') := by
    rw [qL9_between_30]
    exact l35 2 (fun q => by cases q)
  rw [qE9_between]
  refine zm_gb (zm_isIn _ w 0 3) (fun _ => l35 1 (fun q => by cases q)) (fun _ => ?_)
  refine zm_gb (zm_isState i.1 _ s) (fun _ => l30) (fun hs => ?_)
  exact zm_gb (zm_isState i.1 _ t) (fun _ => l30) (fun ht => l35 0 (fun _ => ⟨hs, ht⟩))
theorem zm_least67 (d : Nat) {a b : Nat} (ha : a ≤ 120) (hb : b ≤ 120) {r : Nat} (hr : r ≤ a) : ∀ (m k : Nat) (h : zv_H), k + m = b + 1 → zm_M h → ∃ h', L9_least_67 d 347 a b 121 r k h = L9_least_58 d 347 a b 121 ((r + 1 : Nat) : Int) h' ∧ zm_F [371] [] h h'
  | 0, k, h, hk, hM => ⟨h, by rw [qL9_least_67, if_neg (by omega), zm_w (by omega)]; rfl, zm_F_r _ _ h⟩
  | m + 1, k, h, hk, hM => by
    have w1 : zv_w ((k : Int) + 1) = ((k + 1 : Nat) : Int) := by
      rw [zm_w (by omega)]
      rfl
    have w2 : zv_w (zv_w (121 * (r : Int)) + k) = 121 * (r : Int) + k := by
      rw [zm_w (x := 121 * (r : Int)) (by omega), zm_w (by omega)]
    have wr : ∀ v : Int, ∃ h', ((zv_wI h 371 (121 * (r : Int) + k) v).bind fun g => L9_least_67 d 347 a b 121 r ((k + 1 : Nat) : Int) g) = L9_least_58 d 347 a b 121 ((r + 1 : Nat) : Int) h' ∧ zm_F [371] [] h h' := by
      intro v
      rw [zm_e (zm_wI hM zm_l371 rfl (by omega) (by omega) v)]
      obtain ⟨h', i1, i2⟩ := zm_least67 d ha hb hr m (k + 1) (zv_sI h 371 (121 * (r : Int) + k).toNat v) (by omega) hM
      exact ⟨h', i1, zm_F_t (zm_F_I (zm_F_r _ _ h) rfl _ _) i2⟩
    rw [qL9_least_67, if_pos (by omega), w1, w2]
    by_cases c1 : (r : Int) ≤ 0
    · rw [if_pos c1, zm_e (zm_f45 hM)]
      exact wr 0
    · rw [if_neg c1]
      by_cases c2 : (k : Int) ≤ 0
      · rw [if_pos c2, zm_e (zm_f45 hM)]
        exact wr 0
      · rw [if_neg c2, zm_w (x := (r : Int) - 1) (by omega), zm_w (x := 121 * ((r : Int) - 1)) (by omega), zm_w (x := 121 * ((r : Int) - 1) + k) (by omega), zm_w (x := 121 * (r : Int) + k - 1) (by omega), zm_w (x := (k : Int) - 1) (by omega), zm_w (x := 121 * ((r : Int) - 1) + k - 1) (by omega)]
        rw [zm_e (zm_f45 hM), zm_e (zm_aI hM zm_l371 rfl (by omega) (by omega)), zm_e (zm_f45 hM), zm_e (zm_aI hM zm_l371 rfl (by omega) (by omega)), zm_e (zm_f13 hM), zm_e (zm_aI hM zm_l356 rfl (by omega) (by omega)), zm_e (zm_f14 hM), zm_e (zm_aI hM zm_l357 rfl (by omega) (by omega))]
        by_cases c3 : zv_I h 356 ((r : Int) - 1).toNat = zv_I h 357 ((k : Int) - 1).toNat
        · rw [if_pos c3, zm_e (zm_f45 hM), zm_e (zm_aI hM zm_l371 rfl (by omega) (by omega)), zm_e (zm_f45 hM)]
          exact wr _
        · rw [if_neg c3]
          by_cases c4 : zv_I h 371 (121 * ((r : Int) - 1) + k).toNat ≤ zv_I h 371 (121 * (r : Int) + k - 1).toNat
          · rw [if_pos c4, zm_e (zm_f45 hM)]
            exact wr _
          · rw [if_neg c4, zm_e (zm_f45 hM)]
            exact wr _
theorem zm_least58 (d : Nat) {a b : Nat} (ha : a ≤ 120) (hb : b ≤ 120) : ∀ (m r : Nat) (h : zv_H), r + m = a + 1 → zm_M h → ∃ (v : Int) (h' : zv_H), L9_least_58 d 347 a b 121 r h = some (some (zv_i v), h') ∧ zm_F [371] [] h h'
  | 0, r, h, hr, hM => by
    rw [qL9_least_58, if_neg (by omega), zm_e (zm_f45 hM), zm_w (x := 121 * (a : Int)) (by omega), zm_w (x := 121 * (a : Int) + b) (by omega), zm_e (zm_aI hM zm_l371 rfl (by omega) (by omega))]
    exact ⟨_, h, rfl, zm_F_r _ _ h⟩
  | m + 1, r, h, hr, hM => by
    obtain ⟨h1, i1, f1⟩ := zm_least67 d ha hb (r := r) (by omega) (b + 1) 0 h (by omega) hM
    obtain ⟨v, h2, i2, f2⟩ := zm_least58 d ha hb m (r + 1) h1 (by omega) (zm_F_M f1 hM)
    rw [qL9_least_58, if_pos (by omega), show L9_least_67 d 347 a b 121 r 0 h = _ from i1]
    exact ⟨v, h2, i2, zm_F_t f1 f2⟩
theorem zm_least {h : zv_H} (i : zm_MI h) (d : Nat) (s t : Int) : zm_R (C9_least (d + 10) 347 s t h) (fun q => zm_X h q.2) := by
  refine zm_cI (P := fun _ h' => zm_X h h') (lC9_least (zm_ob i.1)) ?_
  have l22 : ∀ v : Int, (v = 0 → zm_st (zv_I h 348) s ∧ zm_st (zv_I h 348) t) → zm_R (L9_least_22 (d + 9) 347 s t 347 v h) (zm_I fun _ h' => zm_X h h') := by
    intro v hv
    rw [qL9_least_22]
    refine zm_isq i (fun hw h1 f1 i1 => zm_X_i (zm_X_a i f1 rfl rfl rfl) ?_)
    obtain ⟨a1, a2⟩ := hv hw
    rw [← zm_F_a f1 348] at a1 a2
    obtain ⟨a, h2, e2, x2, p2, c2⟩ := zm_cp i1 (d + 4) a1 (Or.inl rfl)
    obtain ⟨b, h3, e3, x3, p3, c3⟩ := zm_cp x2.2 (d + 4) (s := t) (by rw [c2]; exact a2) (Or.inr rfl)
    obtain ⟨v, h4, e4, f4⟩ := zm_least58 (d + 9) p2 p3 (a + 1) 0 h3 (Nat.zero_add _) x3.2.1
    dsimp only
    rw [zm_e (zm_f13 i1.1), zm_e e2]
    dsimp only
    rw [zm_e (zm_f14 x2.2.1), zm_e e3]
    dsimp only
    rw [show L9_least_58 (d + 9) 347 a b 121 0 h3 = _ from e4]
    exact zm_iI (zm_X_t x2 (zm_X_t x3 (zm_X_a x3.2 f4 rfl rfl rfl)))
  have l21 : zm_R (L9_least_21 (d + 9) 347 s t 347 h) (zm_I fun _ h' => zm_X h h') := by
    rw [qL9_least_21]
    exact l22 2 (fun q => by cases q)
  rw [qE9_least]
  refine zm_gb (zm_isState i.1 _ s) (fun _ => l21) (fun hs => ?_)
  exact zm_gb (zm_isState i.1 _ t) (fun _ => l21) (fun ht => l22 0 (fun _ => ⟨hs, ht⟩))
end
/-! 82.pub4 -/
section
theorem zm_merges25 (d : Nat) (s w : Int) : ∀ (n i : Nat) (h : zv_H), i + n = 4236 → zm_M h → (∀ k : Nat, k < i → zv_I h 350 k = zv_I h 348 k) → ∃ h', L9_merges_25 d 347 s w i h = L9_merges_25 d 347 s w 4236 h' ∧ zm_F [350] [] h h' ∧ (∀ k : Nat, k < 4236 → zv_I h' 350 k = zv_I h 348 k)
  | 0, i, h, hi, _, hk => by
    have e : i = 4236 := by omega
    subst e
    exact ⟨h, rfl, zm_F_r _ _ h, hk⟩
  | n + 1, i, h, hi, hM, hk => by
    rw [qL9_merges_25, if_pos (by omega), zm_e (zm_f2 hM), zm_e (zm_f0 hM), zm_e (zm_aI hM zm_l348 rfl (by omega) (by omega)), zm_e (zm_wI hM zm_l350 rfl (by omega) (by omega) _), zm_w (by omega)]
    obtain ⟨h', i1, i2, i3⟩ := zm_merges25 d s w n (i + 1) (zv_sI h 350 ((i : Int)).toNat (zv_I h 348 ((i : Int)).toNat)) (by omega) hM (fun k hk2 => by
      rw [zm_ss, zm_so h _ _]
      by_cases q : k = i
      · rw [q, show ((i : Int)).toNat = i by omega, zm_u_s]
      · rw [zm_u_o _ _ (by omega)]
        exact hk k (by omega))
    exact ⟨h', i1, zm_F_t (zm_F_I (zm_F_r _ _ h) rfl _ _) i2, fun k hk => by rw [i3 k hk, zm_so h _ _]⟩
theorem zm_merges94 (d : Nat) (v : Int) : ∀ (n i : Nat) (h : zv_H), i + n = 4236 → zm_M h → (∀ k : Nat, k < i → zv_I h 348 k = zv_I h 350 k) → ∃ h', L9_merges_94 d 347 v i h = some (some (zv_i v), h') ∧ zm_F [348] [] h h' ∧ (∀ k : Nat, k < 4236 → zv_I h' 348 k = zv_I h 350 k)
  | 0, i, h, hi, _, hk => by
    have e : i = 4236 := by omega
    subst e
    exact ⟨h, by rw [qL9_merges_94, if_neg (by decide)], zm_F_r _ _ h, hk⟩
  | n + 1, i, h, hi, hM, hk => by
    rw [qL9_merges_94, if_pos (by omega), zm_e (zm_f0 hM), zm_e (zm_f2 hM), zm_e (zm_aI hM zm_l350 rfl (by omega) (by omega)), zm_e (zm_wI hM zm_l348 rfl (by omega) (by omega) _), zm_w (by omega)]
    obtain ⟨h', i1, i2, i3⟩ := zm_merges94 d v n (i + 1) (zv_sI h 348 ((i : Int)).toNat (zv_I h 350 ((i : Int)).toNat)) (by omega) hM (fun k hk2 => by
      rw [zm_ss, zm_so h _ _]
      by_cases q : k = i
      · rw [q, show ((i : Int)).toNat = i by omega, zm_u_s]
      · rw [zm_u_o _ _ (by omega)]
        exact hk k (by omega))
    exact ⟨h', i1, zm_F_t (zm_F_I (zm_F_r _ _ h) rfl _ _) i2, fun k hk => by rw [i3 k hk, zm_so h _ _]⟩
theorem zm_merges {h : zv_H} (i : zm_MI h) (d : Nat) (s w : Int) : zm_R (C9_merges (d + 10) 347 s w h) (fun q => zm_X h q.2) := by
  refine zm_cI (P := fun _ h' => zm_X h h') (lC9_merges (zm_ob i.1)) ?_
  have l15 : ∀ v : Int, zm_R (L9_merges_15 (d + 9) 347 s w 347 v h) (zm_I fun _ h' => zm_X h h') := by
    intro v
    rw [qL9_merges_15]
    refine zm_isq i (fun hw h1 f1 i1 => zm_X_i (zm_X_a i f1 rfl rfl rfl) ?_)
    obtain ⟨h2, e2, f2, k2⟩ := zm_merges25 (d + 9) s w 4236 0 h1 rfl i1.1 (fun k hk => by omega)
    have x2 := zm_X_a i1 f2 rfl rfl rfl
    obtain ⟨⟨n, h3⟩, e3, f3, w3, q3⟩ := zm_mergeNow x2.2.1 rfl x2.2.2.1 d s
    dsimp only at f3 w3 q3
    have x3 := zm_X_of x2.2 f3 rfl rfl w3
    have p3 : ∀ k : Nat, k < 4236 → zv_I h3 350 k = zv_I h1 348 k := fun k hk => by rw [zm_F_a f3 350]; exact k2 k hk
    have fin : ∀ (v : Int) (h4 : zv_H), zm_X h3 h4 → zv_I h4 350 = zv_I h3 350 → zm_R (L9_merges_94 (d + 9) 347 v 0 h4) (zm_I fun _ h' => zm_X h3 h') := by
      intro v h4 x4 e4
      obtain ⟨h5, e5, f5, k5⟩ := zm_merges94 (d + 9) v 4236 0 h4 rfl x4.2.1 (fun k hk => by omega)
      rw [show L9_merges_94 (d + 9) 347 v 0 h4 = _ from e5]
      exact zm_iI (zm_X_t x4 (zm_X_of x4.2 f5 rfl rfl (zm_W_eq i1.2.1 (fun k hk => by rw [k5 k hk, e4]; exact p3 k hk))))
    dsimp only
    rw [show L9_merges_25 (d + 9) 347 s w 0 h1 = _ from e2, qL9_merges_25, if_neg (by decide), zm_e e3]
    dsimp only
    refine zm_X_i x2 (zm_X_i x3 ?_)
    have r3 := zm_F_r [] [] h3
    have xr : zm_X h3 h3 := zm_X_a x3.2 r3 rfl rfl rfl
    refine zm_if (fun _ => zm_rX0 x3.2) (fun _ => zm_if (fun _ => fin n h3 xr rfl) (fun _ => zm_if (fun _ => ?_) (fun _ => ?_)))
    · rw [zm_e (zm_gI x3.2.1 24)]
      exact fin _ h3 xr rfl
    · rw [zm_e (zm_here x3.2.1 _)]
      dsimp only
      obtain ⟨l, a1, a2, a3, a4⟩ := zm_W_l x3.2.2.1.1 x3.2.2.1.2.1
      obtain ⟨⟨n4, h4⟩, e4, _, f4, _⟩ := zm_lettersOf x3.2.1 (d + 4) (zm_sees_st x3.2.1 rfl (d + 4) a1 a2 a3 a4)
      dsimp only at f4
      rw [zm_e e4]
      exact fin n4 h4 (zm_X_a x3.2 f4 rfl rfl rfl) (zm_F_a f4 350)
  rw [qE9_merges]
  exact zm_gb (zm_isIn _ w 0 2) (fun _ => l15 1) (fun _ => l15 0)
/-! what is told -/
theorem zm_tells {h : zv_H} (hM : zm_M h) (d : Nat) (v : Int) (h47 : 0 ≤ zv_I h 347 47 ∧ zv_I h 347 47 < 200) : ∃ h', C9_tells (d + 1) 347 v h = some h' ∧ zm_F [372] [47] h h' ∧ zv_I h' 347 47 = zv_I h 347 47 + 1 := by
  have main : ∃ h', E9_tells d 347 v h = some (none, h') ∧ zm_F [372] [47] h h' ∧ zv_I h' 347 47 = zv_I h 347 47 + 1 := by
    rw [qE9_tells, zm_e (zm_f46 hM), zm_e (zm_gI hM 47), zm_e (zm_wI hM zm_l372 rfl h47.1 (by omega) _)]
    have f1 : zm_F [372] [47] h (zv_sI h 372 (zv_I h 347 47).toNat v) := zm_F_I (zm_F_r _ _ h) rfl _ _
    have e1 : zv_I (zv_sI h 372 (zv_I h 347 47).toNat v) 347 47 = zv_I h 347 47 := rfl
    have hM1 := zm_F_M f1 hM
    rw [zm_e (zm_gI hM1 47), e1, zm_w (by omega), zm_e (zm_pI hM1 47 _)]
    exact ⟨_, rfl, zm_F_f f1 rfl _, by rw [zm_sgI, if_pos rfl]⟩
  obtain ⟨h', e, q⟩ := main
  exact ⟨h', lC9_tells (zm_ob hM) e, q⟩
theorem zm_tellsNumber {h : zv_H} (hM : zm_M h) (d : Nat) (v : Int) (h47 : 0 ≤ zv_I h 347 47 ∧ zv_I h 347 47 < 199) : ∃ h', C9_tellsNumber (d + 2) 347 v h = some h' ∧ zm_F [372] [47] h h' ∧ zv_I h 347 47 + 1 ≤ zv_I h' 347 47 ∧ zv_I h' 347 47 ≤ zv_I h 347 47 + 2 := by
  have l17 : ∀ g : zv_H, zm_M g → (0 ≤ zv_I g 347 47 ∧ zv_I g 347 47 < 200) → ∃ h', L9_tellsNumber_17 (d + 1) 347 v g = some (none, h') ∧ zm_F [372] [47] g h' ∧ zv_I h' 347 47 = zv_I g 347 47 + 1 := by
    intro g hg h2
    obtain ⟨h', e, f, q⟩ := zm_tells hg d (zv_w (48 + v.tmod 10)) h2
    rw [qL9_tellsNumber_17, zm_e e]
    exact ⟨h', rfl, f, q⟩
  have main : ∃ h', E9_tellsNumber (d + 1) 347 v h = some (none, h') ∧ zm_F [372] [47] h h' ∧ zv_I h 347 47 + 1 ≤ zv_I h' 347 47 ∧ zv_I h' 347 47 ≤ zv_I h 347 47 + 2 := by
    rw [qE9_tellsNumber]
    by_cases c1 : v ≤ 9
    · obtain ⟨h', e, f, q⟩ := l17 h hM (by omega)
      rw [if_pos c1]
      exact ⟨h', e, f, by omega, by omega⟩
    · obtain ⟨h1, e1, f1, q1⟩ := zm_tells hM d (zv_w (48 + zv_w (v.tdiv 10))) (by omega)
      obtain ⟨h', e, f, q⟩ := l17 h1 (zm_F_M f1 hM) (by omega)
      rw [if_neg c1, zm_e e1]
      exact ⟨h', e, zm_F_t f1 f, by omega, by omega⟩
  obtain ⟨h', e, q⟩ := main
  exact ⟨h', lC9_tellsNumber (zm_ob hM) e, q⟩
theorem zm_tellsNames_l (d : Nat) {m : Nat} (hm : m ≤ 12) : ∀ (n k : Nat) (h : zv_H), k + n = m → zm_M h → zv_I h 348 3 = m → 0 ≤ zv_I h 347 47 → zv_I h 347 47 ≤ 10 * k → ∃ h', L9_tellsNames_2 (d + 2) 347 k h = some (none, h') ∧ zm_F [372] [47] h h' ∧ 0 ≤ zv_I h' 347 47 ∧ zv_I h' 347 47 ≤ 10 * m
  | 0, k, h, hk, hM, h3, q0, q1 => ⟨h, by rw [qL9_tellsNames_2, zm_e (zm_f0 hM), zm_e (zm_aI hM zm_l348 rfl (by decide) (by decide)), show zv_I h 348 (Int.toNat 3) = _ from h3, if_neg (by omega)], zm_F_r _ _ h, q0, by omega⟩
  | n + 1, k, h, hk, hM, h3, q0, q1 => by
    have w1 : zv_w ((k : Int) + 1) = ((k + 1 : Nat) : Int) := by
      rw [zm_w (by omega)]
      rfl
    have w2 : zv_w (408 + zv_w (2 * (k : Int))) = 408 + 2 * (k : Int) := by
      rw [zm_w (x := 2 * (k : Int)) (by omega), zm_w (by omega)]
    have w3 : zv_w (408 + 2 * (k : Int) + 1) = 408 + 2 * (k : Int) + 1 := zm_w (by omega)
    -- the letters, then the number
    have l38 : ∀ (b : Nat) (v : Int) (g : zv_H), b ≤ 6 → zm_F [372] [47] h g → 0 ≤ zv_I g 347 47 → zv_I g 347 47 + b ≤ 10 * k + 7 → ∃ h', L9_tellsNames_38 (d + 2) 347 k v (5 * (b : Int) - 5) g = some (none, h') ∧ zm_F [372] [47] h h' ∧ 0 ≤ zv_I h' 347 47 ∧ zv_I h' 347 47 ≤ 10 * m := by
      intro b
      induction b with
      | zero =>
        intro v g hb fg g0 g1
        have hMg := zm_F_M fg hM
        obtain ⟨h4, e4, f4, s4⟩ := zm_tells hMg (d + 1) 61 (by omega)
        have hM4 := zm_F_M f4 hMg
        obtain ⟨h5, e5, f5, s5, s6⟩ := zm_tellsNumber hM4 d (zv_I h4 348 (408 + 2 * (k : Int) + 1).toNat) (by omega)
        have F5 : zm_F [372] [47] h h5 := zm_F_t fg (zm_F_t f4 f5)
        obtain ⟨h6, e6, f6, s7, s8⟩ := zm_tellsNames_l d hm n (k + 1) h5 (by omega) (zm_F_M F5 hM) (by rw [zm_F_a F5 348]; exact h3) (by omega) (by omega)
        rw [qL9_tellsNames_38, if_pos (by omega), zm_e e4, zm_e (zm_f0 hM4), w2, w3, zm_e (zm_aI hM4 zm_l348 rfl (by omega) (by omega)), zm_e e5, w1]
        exact ⟨h6, e6, zm_F_t F5 f6, s7, s8⟩
      | succ b ih =>
        intro v g hb fg g0 g1
        have hMg := zm_F_M fg hM
        have w4 : zv_w (5 * ((b + 1 : Nat) : Int) - 5 + -5) = 5 * (b : Int) - 5 := by
          rw [zm_w (by omega)]
          omega
        rw [qL9_tellsNames_38, if_neg (by omega), w4]
        by_cases c1 : zv_shr v (5 * ((b + 1 : Nat) : Int) - 5) ≤ 0
        · rw [if_pos c1]
          exact ih v g (by omega) fg g0 (by omega)
        · obtain ⟨h4, e4, f4, s4⟩ := zm_tells hMg (d + 1) (zv_w (96 + zv_and (zv_shr v (5 * ((b + 1 : Nat) : Int) - 5)) 31)) (by omega)
          rw [if_neg c1, zm_e e4]
          exact ih v h4 (by omega) (zm_F_t fg f4) (by omega) (by omega)
    rw [qL9_tellsNames_2, zm_e (zm_f0 hM), zm_e (zm_aI hM zm_l348 rfl (by decide) (by decide)), show zv_I h 348 (Int.toNat 3) = _ from h3, if_pos (by omega), w2]
    by_cases c1 : (k : Int) ≤ 0
    · rw [if_pos c1, zm_e (zm_f0 hM), zm_e (zm_aI hM zm_l348 rfl (by omega) (by omega))]
      exact l38 6 _ h (by omega) (zm_F_r _ _ h) q0 (by omega)
    · obtain ⟨h4, e4, f4, s4⟩ := zm_tells hM (d + 1) 32 (by omega)
      have hM4 := zm_F_M f4 hM
      rw [if_neg c1, zm_e e4, zm_e (zm_f0 hM4), zm_e (zm_aI hM4 zm_l348 rfl (by omega) (by omega))]
      exact l38 6 _ h4 (by omega) f4 (by omega) (by omega)
theorem zm_X_o {h h' : zv_H} {A : List Nat} (i : zm_MI h) (f : zm_F A [3, 4, 10, 11, 12, 47] h h') (hA : (A.all fun r => List.contains [348, 349, 350, 351, 352, 353, 354, 355, 356, 357, 358, 359, 360, 361, 362, 363, 364, 365, 366, 370, 371, 372] r) = true) (h348 : A.contains 348 = false) (b : 0 ≤ zv_I h' 347 47 ∧ zv_I h' 347 47 ≤ 200) : zm_X h h' := by
  obtain ⟨i1, i2, i3, i4, i5, i6, i7⟩ := i
  refine ⟨zm_F_s f hA rfl, zm_F_M f i1, by rw [zm_F_a f 348 h348]; exact i2, zm_K_F i3 f, by rw [zm_F_g f 27]; exact i4, by rw [zm_F_g f 35]; exact i5, by rw [zm_F_g f 20]; exact i6, b⟩
theorem zm_tell118 (d : Nat) {h : zv_H} (i : zm_MI h) (w : Int) (h0 : w = 2 → zv_I h 347 47 = 0) : zm_R (L9_tell_118 (d + 3) 347 w h) (zm_I fun _ h' => zm_X h h') := by
  rw [qL9_tell_118]
  refine zm_if (fun c => ?_) (fun _ => ?_)
  · have h3 := i.2.1.2.2.1
    obtain ⟨m, em⟩ : ∃ m : Nat, zv_I h 348 3 = m := ⟨(zv_I h 348 3).toNat, by omega⟩
    have z := h0 c
    obtain ⟨h1, e1, f1, q0, q1⟩ := zm_tellsNames_l d (m := m) (by omega) m 0 h (Nat.zero_add _) i.1 em (by omega) (by omega)
    have e : C9_tellsNames (d + 3) 347 h = some h1 := lC9_tellsNames (zm_ob i.1) (by rw [qE9_tellsNames]; exact e1)
    rw [zm_e e, zm_e (zm_gI (zm_F_M f1 i.1) 47)]
    exact zm_iI (zm_X_o i (A := [372]) (zm_F_s f1 rfl rfl) rfl rfl (by omega))
  · rw [zm_e (zm_gI i.1 47)]
    exact zm_rX0 i
theorem zm_tell79 (d : Nat) (w : Int) {c : Nat → Int} {l : List Int} (hn : l.length ≤ 48) : ∀ (m k : Nat) (h : zv_H), k + m = l.length → zm_MI h → zm_lh c l h → (w = 2 → zv_I h 347 47 = 0) → (w = 1 → zv_I h 347 47 ≤ 3 * k) → zm_R (L9_tell_79 (d + 3) 347 w k h) (zm_I fun _ h' => zm_X h h')
  | 0, k, h, hk, i, hh, h0, h1 => by
    rw [qL9_tell_79, zm_e (zm_gI i.1 10), hh.2.2.1, if_neg (by omega)]
    exact zm_tell118 d i w h0
  | m + 1, k, h, hk, i, hh, h0, h1 => by
    have w1 : zv_w ((k : Int) + 1) = ((k + 1 : Nat) : Int) := by
      rw [zm_w (by omega)]
      rfl
    have i7 := i.2.2.2.2.2.2
    rw [qL9_tell_79, zm_e (zm_gI i.1 10), hh.2.2.1, if_pos (by omega)]
    refine zm_if (fun c1 => ?_) (fun _ => zm_tell118 d i w h0)
    have q1 := h1 c1
    have l102 : ∀ g : zv_H, zm_X h g → zm_lh c l g → zv_I g 347 47 ≤ 3 * (k : Int) + 1 → zm_R (L9_tell_102 (d + 3) 347 w k g) (zm_I fun _ h' => zm_X h h') := by
      intro g xg hg g1
      have ig := xg.2
      have g7 := ig.2.2.2.2.2.2
      obtain ⟨t, _, et⟩ := zm_lh_g hg hn (j := k) (by omega) (by omega)
      obtain ⟨h5, e5, f5, s5, s6⟩ := zm_tellsNumber ig.1 (d + 1) t (by omega)
      have x5 := zm_X_o ig (A := [372]) (zm_F_s f5 rfl rfl) rfl rfl (by omega)
      rw [qL9_tell_102, zm_e (zm_f5 ig.1), zm_e et, zm_e e5, w1]
      exact zm_X_i xg (zm_X_i x5 (zm_tell79 d w hn m (k + 1) h5 (by omega) x5.2 (zm_lh_F hg f5) (fun q => by rw [q] at c1; cases c1) (fun _ => by omega)))
    refine zm_if (fun _ => l102 h (zm_X_a (A := []) (B := []) i (zm_F_r _ _ h) rfl rfl rfl) hh (by omega)) (fun _ => ?_)
    obtain ⟨h4, e4, f4, s4⟩ := zm_tells i.1 (d + 2) 60 (by omega)
    rw [zm_e e4]
    exact l102 h4 (zm_X_o i (A := [372]) (zm_F_s f4 rfl rfl) rfl rfl (by omega)) (zm_lh_F hh f4) (by omega)
theorem zm_tell38 (d : Nat) (w : Int) {c : Nat → Int} {l : List Int} (hn : l.length ≤ 48) (g : zm_G0 c l) (hl : ∀ t ∈ l, 0 ≤ t ∧ t ≤ 48) (hb : ((zm_row c l).filter (zm_sn c l)).length ≤ 120) : ∀ (b a : List (Int × Int)), a ++ b = zm_row c l → ∀ h : zv_H, zm_MI h → zv_I h 348 = c → zm_Sn h c l → (w ≠ 0 → zv_I h 347 47 = 0) → (w = 0 → zv_I h 347 47 = (a.filter (zm_sn c l)).length) → zm_R (L9_tell_38 (d + 3) 347 w a.length h) (zm_I fun _ h' => zm_X h h')
  | [], a, e, h, i, hc, n, h0, h1 => by
    have lp : 0 + l.length = l.length := Nat.zero_add _
    rw [List.append_nil] at e
    rw [qL9_tell_38, zm_e (zm_gI i.1 11), n.2.1.1, if_neg (by rw [e]; exact Int.lt_irrefl _)]
    exact zm_tell79 d w hn l.length 0 h lp i ⟨i.1, hc, n.1.1, n.1.2⟩ (fun q => h0 (by rw [q]; decide)) (fun q => by rw [h0 (by rw [q]; decide)]; exact Int.le_refl _)
  | x :: b, a, e, h, i, hc, n, h0, h1 => by
    have h640 := zm_row640 g hn
    have hlen : (zm_row c l).length = a.length + (b.length + 1) := by rw [← e, List.length_append, List.length_cons]
    have hx : (zm_row c l)[a.length]? = some x := by
      rw [← e, List.getElem?_append_right (Nat.le_refl _), Nat.sub_self]
      rfl
    have e' : (a ++ [x]) ++ b = zm_row c l := by
      rw [List.append_assoc]
      exact e
    have w1 : zv_w ((a.length : Int) + 1) = (((a ++ [x]).length : Nat) : Int) := by
      rw [zm_w (by omega), List.length_append]
      rfl
    rw [qL9_tell_38, zm_e (zm_gI i.1 11), n.2.1.1, if_pos (by omega)]
    refine zm_if (fun c0 => ?_) (fun c0 => zm_tell79 d w hn l.length 0 h (Nat.zero_add _) i ⟨i.1, hc, n.1.1, n.1.2⟩ (fun _ => h0 c0) (fun _ => by rw [h0 c0]; exact Int.le_refl _))
    have q1 := h1 c0
    rw [zm_e (zm_f9 i.1), zm_e (zm_aB i.1 zm_l355 (Or.inl rfl) rfl (by omega) (by omega)), show ((a.length : Int)).toNat = a.length by omega, n.2.2.2.1 _ x hx, w1]
    by_cases c1 : zm_sn c l x = true
    · have ok := zm_row_ok hl g x (List.mem_of_getElem? hx)
      have hfa : (a.filter (zm_sn c l)).length + 1 ≤ 120 := by
        have : ((zm_row c l).filter (zm_sn c l)).length = (a.filter (zm_sn c l)).length + (1 + (b.filter (zm_sn c l)).length) := by
          rw [← e, List.filter_append, List.length_append, List.filter_cons_of_pos c1, List.length_cons]
          omega
        omega
      rw [if_pos c1, if_neg (by decide), zm_e (zm_letterIn i.1 hc (d + 1) n.2.1 h640 hx ok.1 (by have := ok.2; omega))]
      dsimp only
      obtain ⟨h4, e4, f4, s4⟩ := zm_tells i.1 (d + 2) (zv_w (97 + zm_lt c x)) (by omega)
      have x4 := zm_X_o i (A := [372]) (zm_F_s f4 rfl rfl) rfl rfl (by omega)
      rw [zm_e e4]
      refine zm_X_i x4 (zm_tell38 d w hn g hl hb b (a ++ [x]) e' h4 x4.2 ((zm_F_a f4 348).trans hc) (zm_Sn_F n f4) (fun q => absurd c0 q) (fun _ => ?_))
      rw [s4, q1, List.filter_append, List.length_append, List.filter_cons_of_pos c1]
      rfl
    · rw [if_neg c1, if_pos rfl]
      refine zm_tell38 d w hn g hl hb b (a ++ [x]) e' h i hc n (fun q => absurd c0 q) (fun _ => ?_)
      rw [q1, List.filter_append, List.length_append, List.filter_cons_of_neg c1]
      rfl
theorem zm_tell {h : zv_H} (i : zm_MI h) (d : Nat) (w : Int) : zm_R (C9_tell (d + 10) 347 w h) (fun q => zm_X h q.2) := by
  refine zm_cI (P := fun _ h' => zm_X h h') (lC9_tell (zm_ob i.1)) ?_
  have l15 : ∀ v : Int, zm_R (L9_tell_15 (d + 9) 347 w 347 v h) (zm_I fun _ h' => zm_X h h') := by
    intro v
    rw [qL9_tell_15]
    refine zm_isq i (fun hw h1 f1 i1 => zm_X_i (zm_X_a i f1 rfl rfl rfl) ?_)
    dsimp only
    rw [zm_e (zm_pI i1.1 47 0)]
    have f2 : zm_F [] [3, 4, 10, 11, 12, 47] h1 (zv_sI h1 347 47 0) := zm_F_f (zm_F_r _ _ h1) rfl _
    have e2 : zv_I (zv_sI h1 347 47 0) 347 47 = 0 := by rw [zm_sgI, if_pos rfl]
    generalize zv_sI h1 347 47 0 = h2 at f2 e2
    have x2 := zm_X_o i1 f2 rfl rfl (by rw [e2]; decide)
    have i2 := x2.2
    obtain ⟨h3, l, e3, f3, i3, x3, n3, s3, m3, g3, b3, c3⟩ := zm_see i2 (d + 5) i2.2.1.2.1
    rw [zm_e (zm_here i2.1 _)]
    dsimp only
    rw [zm_e e3]
    refine zm_X_i x2 (zm_X_i x3 ?_)
    have z : zv_I h3 347 47 = 0 := (zm_F_g f3 47).trans e2
    exact zm_tell38 (d + 6) w m3 g3 (fun t ht => zm_st48 (s3 t ht)) b3 (zm_row (zv_I h3 348) l) [] rfl h3 i3 rfl n3 (fun _ => z) (fun _ => z)
  rw [qE9_tell]
  exact zm_gb (zm_isIn _ w 0 2) (fun _ => l15 1) (fun _ => l15 0)
theorem zm_out {h : zv_H} (i : zm_MI h) (d : Nat) (n : Int) : zm_R (C9_out (d + 10) 347 n h) (fun q => zm_X h q.2) := by
  refine zm_cI (P := fun _ h' => zm_X h h') (lC9_out (zm_ob i.1)) ?_
  have i7 := i.2.2.2.2.2.2
  have l22 : ∀ v : Int, (v = 0 → 0 ≤ n ∧ n < 200) → zm_R (L9_out_22 (d + 9) 347 n 347 v h) (zm_I fun _ h' => zm_X h h') := by
    intro v hv
    rw [qL9_out_22]
    refine zm_isq i (fun hw h1 f1 i1 => zm_X_i (zm_X_a i f1 rfl rfl rfl) ?_)
    have hn := hv hw
    dsimp only
    rw [zm_e (zm_f46 i1.1), zm_e (zm_aI i1.1 zm_l372 rfl hn.1 (by omega))]
    exact zm_rX0 i1
  rw [qE9_out]
  refine zm_if (fun _ => l22 1 (fun q => by cases q)) (fun c1 => ?_)
  rw [zm_e (zm_gI i.1 47)]
  exact zm_if (fun c2 => l22 0 (fun _ => by omega)) (fun _ => l22 5 (fun q => by cases q))
end
/-! 83.pub5 -/
section
/-- the letters that what is tried would leave -/
theorem zm_let48 {h : zv_H} (i : zm_MI h) (d : Nat) {act : Int} (ha : act = 2 ∨ act = 3) : ∃ (r : Int) (h' : zv_H), ((C9_triesNames (d + 6) 347 act h).bind fun q3 => (C9_lettersOf (d + 6) 347 48 q3.2).bind fun q4 => (some (some (zv_i q4.1), q4.2) : zv_O)) = some (some (zv_i r), h') ∧ zm_X h h' := by
  obtain ⟨⟨many, h2⟩, e2, f2, tr, m0, m1⟩ := zm_triesNames i.1 rfl i.2.1 (d + 1) act
  dsimp only at f2 tr m0 m1
  have w2 := zm_Tr_W tr i.2.1
  have x2 := zm_X_of i f2 rfl rfl w2
  have hM2 := x2.2.1
  generalize hc2 : zv_I h2 348 = c2 at tr w2
  obtain ⟨l, hl, hl2, g, gt⟩ := zm_W_l i.2.1.1 i.2.1.2.1
  have hagl : ∀ t ∈ zv_I h 348 0 :: l, zm_ag (zv_I h 348) c2 t := fun t ht => by
    have hst := hl.2.1.2.2 t ht
    exact zm_Tr_ag tr hst.1.1 hst.1.2
  have n48 : ¬ (48 : Int) ∈ zv_I h 348 0 :: l := fun q => by
    have := (hl.2.1.2.2 48 q).1
    omega
  have hLn : zm_Ln c2 (48 :: zv_I h 348 0 :: l) 48 := by
    refine ⟨by decide, ?_⟩
    rw [tr.2.1]
    exact zm_Ln_cg hagl hl.1
  have ned : ¬ zm_ed c2 48 := by
    intro q
    have h3 := tr.2.2.1
    rcases q with q | q
    · rw [h3] at q
      omega
    · rw [h3] at q
      omega
  have g48 : zm_G0 c2 (48 :: zv_I h 348 0 :: l) := by
    obtain ⟨a1, a2, a3, a4, a5⟩ := g
    have a0 := hagl 0 (List.mem_of_getLast? a2)
    refine ⟨List.nodup_cons.mpr ⟨n48, a1⟩, by rw [List.getLast?_cons_cons]; exact a2, by rw [a0 5 (by decide) (by decide) (by decide)]; exact a3, by rw [a0 2 (by decide) (by decide) (by decide)]; exact a4, fun t ht h0 he => ?_⟩
    rcases List.mem_cons.mp ht with q | q
    · rw [q] at he
      exact absurd he ned
    · rw [hagl t q 5 (by decide) (by decide) (by decide)]
      exact a5 t q h0 ((zm_ed_cg (hagl t q)).mp he)
  have gt48 : ∀ t ∈ 48 :: zv_I h 348 0 :: l, zm_o c2 t 2 = 1 → ∀ p ∈ zm_tk c2 t, p ∈ zm_row c2 (48 :: zv_I h 348 0 :: l) := by
    intro t ht hk p hp
    rcases List.mem_cons.mp ht with q | q
    · rw [q] at hk
      exact absurd (Or.inr hk) ned
    · rw [hagl t q 2 (by decide) (by decide) (by decide)] at hk
      rw [zm_tk_cg (hagl t q) (zm_cut12 g t q hk)] at hp
      rw [zm_row_c c2 48 (List.cons_ne_nil _ _), if_neg (fun q => ned (Or.inl q)), zm_row_cg hagl]
      exact gt t q hk p hp
  have ln : (48 :: zv_I h 348 0 :: l).length ≤ 49 := by
    rw [List.length_cons, List.length_cons]
    omega
  obtain ⟨⟨n, h3⟩, e3, en, f3, _⟩ := zm_lettersOf hM2 (d + 1) (zm_sees hM2 hc2 (d + 1) (by decide) hLn ln g48 gt48)
  dsimp only at f3
  exact ⟨n, h3, by rw [zm_e e2]; dsimp only; rw [zm_e e3], zm_X_t x2 (zm_X_a x2.2 f3 rfl rfl rfl)⟩
theorem zm_leaning154 {h : zv_H} (hM : zm_M h) (d : Nat) {len : Nat} (hn : len ≤ 640) (h11 : zv_I h 347 11 = len) (hby : ∀ k : Nat, k < len → 0 ≤ zv_I h 352 k ∧ zv_I h 352 k ≤ 48) (w : Int) : ∀ (m k : Nat) (a : Int), k + m = len → ∃ r : Int, L9_leaning_154 d 347 w a k h = some (some (zv_i r), h)
  | 0, k, a, hk => ⟨a, by rw [qL9_leaning_154, zm_e (zm_gI hM 11), h11, if_neg (by omega)]⟩
  | m + 1, k, a, hk => by
    have w1 : zv_w ((k : Int) + 1) = ((k + 1 : Nat) : Int) := by
      rw [zm_w (by omega)]
      rfl
    have nx := fun b => zm_leaning154 hM d hn h11 hby w m (k + 1) b (by omega)
    have hb := hby k (by omega)
    rw [qL9_leaning_154, zm_e (zm_gI hM 11), h11, if_pos (by omega)]
    by_cases c1 : w = 2
    · rw [if_pos c1, zm_e (zm_f9 hM), zm_e (zm_aB hM zm_l355 (Or.inl rfl) rfl (by omega) (by omega)), w1]
      by_cases c2 : zv_I h 355 ((k : Int)).toNat = 0
      · rw [if_pos c2]
        exact nx _
      · rw [if_neg c2, zm_e (zm_f25 hM), zm_e (zm_f6 hM), zm_e (zm_aI hM zm_l352 rfl (by omega) (by omega)), show ((k : Int)).toNat = k by omega, zm_e (zm_aB hM zm_l365 (Or.inl rfl) rfl hb.1 (by omega))]
        by_cases c3 : zv_I h 365 (zv_I h 352 k).toNat = 0
        · rw [if_pos c3]
          exact nx _
        · rw [if_neg c3]
          exact nx _
    · rw [if_neg c1]
      exact ⟨a, rfl⟩
theorem zm_leaning89 {h : zv_H} {l : List Int} (d : Nat) (hh : zm_lh (zv_I h 348) l h) (hl : ∀ t ∈ l, zm_st (zv_I h 348) t) (hn : l.length ≤ 48) {len : Nat} (hn6 : len ≤ 640) (h11 : zv_I h 347 11 = len) (hby : ∀ k : Nat, k < len → 0 ≤ zv_I h 352 k ∧ zv_I h 352 k ≤ 48) (w : Int) : ∀ (m k : Nat) (a : Int), k + m = l.length → ∃ r : Int, L9_leaning_89 d 347 w a k h = some (some (zv_i r), h)
  | 0, k, a, hk => by
    rw [qL9_leaning_89, zm_e (zm_gI hh.1 10), hh.2.2.1, if_neg (by omega)]
    exact zm_leaning154 hh.1 d hn6 h11 hby w len 0 a (Nat.zero_add _)
  | m + 1, k, a, hk => by
    have hM := hh.1
    have w1 : zv_w ((k : Int) + 1) = ((k + 1 : Nat) : Int) := by
      rw [zm_w (by omega)]
      rfl
    obtain ⟨t, ht, et⟩ := zm_lh_g hh hn (j := k) (by omega) (by omega)
    have t48 := zm_st48 (hl t ht)
    have t49 : t < ((49 : Nat) : Int) := by omega
    have nx := fun b => zm_leaning89 d hh hl hn hn6 h11 hby w m (k + 1) b (by omega)
    rw [qL9_leaning_89, zm_e (zm_gI hM 10), hh.2.2.1, if_pos (by omega)]
    by_cases c1 : w < 2
    · rw [if_pos c1, zm_e (zm_f25 hM), zm_e (zm_f5 hM), zm_e et, zm_e (zm_aB hM zm_l365 (Or.inl rfl) rfl t48.1 t49), w1]
      by_cases c2 : zv_I h 365 t.toNat = 0
      · rw [if_pos c2]
        exact nx _
      · rw [if_neg c2]
        by_cases c3 : w = 0
        · rw [if_pos c3]
          exact nx _
        · rw [if_neg c3, zm_e (zm_f8 hM), zm_e (zm_f5 hM), zm_e et, zm_e (zm_aB hM zm_l354 (Or.inl rfl) rfl t48.1 t49)]
          by_cases c4 : zv_I h 354 t.toNat = 0
          · rw [if_pos c4]
            exact nx _
          · rw [if_neg c4]
            exact nx _
    · rw [if_neg c1]
      exact zm_leaning154 hM d hn6 h11 hby w len 0 a (Nat.zero_add _)
/-- marks, with what it leaves of the row -/
theorem zm_marksS {h : zv_H} (i : zm_MI h) (d : Nat) (s back : Int) : ∃ (h' : zv_H) (l : List Int), C9_marks (d + 5) 347 s back h = some h' ∧ zm_X h h' ∧ zm_Sn h' (zv_I h' 348) l ∧ (∀ t ∈ l, zm_st (zv_I h' 348) t) ∧ l.length ≤ 48 ∧ zm_G0 (zv_I h' 348) l := by
  have hM := i.1
  obtain ⟨l, hl, hl2, g, gt⟩ := zm_W_l i.2.1.1 i.2.1.2.1
  obtain ⟨h1, e1, f1, hSn⟩ := zm_sees_st hM rfl d hl hl2 g gt
  have hM1 := zm_F_M f1 hM
  have c1 : zv_I h1 348 = zv_I h 348 := zm_F_a f1 348
  have hh : zm_lh (zv_I h 348) (zv_I h 348 0 :: l) h1 := ⟨hM1, c1, hSn.1.1, hSn.1.2⟩
  obtain ⟨h2, i1, f2⟩ := zm_marks10 (d + 4) s back 48 0 h1 rfl hM1
  have hh2 := zm_lh_F hh f2
  have ln : (zv_I h 348 0 :: l).length ≤ 48 := by
    rw [List.length_cons]
    omega
  have l1 : 1 + l.length = (zv_I h 348 0 :: l).length := by
    rw [List.length_cons, Nat.add_comm]
  obtain ⟨h3, k1, f3⟩ := zm_marks40 (d + 2) i.2.1.1 hl.2.1.2.2 ln back l.length 1 h2 l1 (Nat.le_refl _) hh2
  have F : zm_F [351, 352, 353, 354, 355, 365] [10, 11, 12] h h3 := zm_F_t (zm_F_s f1 rfl rfl) (zm_F_t (zm_F_s f2 rfl rfl) (zm_F_s f3 rfl rfl))
  have ec : zv_I h3 348 = zv_I h 348 := zm_F_a F 348
  refine ⟨h3, zv_I h 348 0 :: l, lC9_marks (zm_ob hM) ?_, zm_X_a i F rfl rfl rfl, ?_⟩
  · rw [qE9_marks, zm_e (zm_here hM _)]
    dsimp only
    rw [zm_e e1, show L9_marks_10 (d + 4) 347 s back 0 h1 = _ from i1, qL9_marks_10, if_neg (by decide), show L9_marks_40 (d + 4) 347 back 1 h2 = _ from k1]
  · rw [ec]
    exact ⟨zm_Sn_F (zm_Sn_F hSn f2) f3, hl.2.1.2.2, ln, g⟩
theorem zm_leaning {h : zv_H} (i : zm_MI h) (d : Nat) (s w : Int) : zm_R (C9_leaning (d + 10) 347 s w h) (fun q => zm_X h q.2) := by
  refine zm_cI (P := fun _ h' => zm_X h h') (lC9_leaning (zm_ob i.1)) ?_
  have l52 : ∀ v : Int, zm_R (L9_leaning_52 (d + 9) 347 s w 347 v h) (zm_I fun _ h' => zm_X h h') := by
    intro v
    rw [qL9_leaning_52]
    refine zm_isq i (fun hw h1 f1 i1 => zm_X_i (zm_X_a i f1 rfl rfl rfl) ?_)
    obtain ⟨h2, l, e2, x2, n2, s2, m2, g2⟩ := zm_marksS i1 (d + 4) s 0
    dsimp only
    rw [zm_e e2]
    refine zm_X_i x2 ?_
    refine zm_if (fun _ => ?_) (fun _ => ?_)
    · obtain ⟨r, h3, e3, x3⟩ := zm_let48 x2.2 (d + 3) (act := 2) (Or.inl rfl)
      rw [e3]
      exact zm_iI x3
    · have hp : 1 ≤ l.length := by
        cases l with
        | nil => cases g2.2.1
        | cons t b => exact Nat.le_add_left 1 _
      obtain ⟨r, er⟩ := zm_leaning89 (d + 9) (zm_Sn_lh x2.2.1 n2) s2 m2 (zm_row640 g2 m2) n2.2.1.1 (fun k hk => by
        obtain ⟨x, hx⟩ : ∃ x, (zm_row (zv_I h2 348) l)[k]? = some x := ⟨_, List.getElem?_eq_getElem hk⟩
        rw [(n2.2.1.2 k x hx).1]
        exact (zm_row_ok (fun t ht => zm_st48 (s2 t ht)) g2 x (List.mem_of_getElem? hx)).1) w (l.length - 1) 1 0 (by omega)
      rw [show L9_leaning_89 (d + 9) 347 w 0 1 h2 = _ from er]
      exact zm_rX0 x2.2
  have l46 : zm_R (L9_leaning_46 (d + 9) 347 s w 347 h) (zm_I fun _ h' => zm_X h h') := by
    rw [qL9_leaning_46]
    exact l52 7
  rw [qE9_leaning]
  refine zm_gb (zm_isIn _ w 0 3) (fun _ => l52 1) (fun _ => ?_)
  refine zm_gb (zm_isState i.1 _ s) (fun _ => l52 2) (fun hs => ?_)
  dsimp only
  rw [zm_e (zm_here i.1 _)]
  dsimp only
  obtain ⟨l, hl⟩ := zm_WL_of i.2.1.1 _ i.2.1.2.1
  refine zm_gb (zm_isOfLine i.1 _ s hl) (fun _ => l46) (fun _ => ?_)
  exact zm_gb (zm_isEdit i.1 _ (zm_st48 hs)) (fun _ => l46) (fun _ => l52 0)
theorem zm_placeIn_l {h : zv_H} (hM : zm_M h) (d : Nat) {n m : Nat} (hn : n ≤ 120) (hm : m ≤ 12) (h20 : zv_I h 347 20 = m) : ∀ (q p : Nat), p + q = n + 1 → ∃ r : Int, L9_placeIn_12 d 347 n p h = some (some (zv_i r), h)
  | 0, p, hp => by
    rw [qL9_placeIn_12, zm_e (zm_gI hM 20), h20, zm_w (by omega), if_neg (by omega)]
    exact ⟨_, rfl⟩
  | q + 1, p, hp => by
    have w1 : zv_w ((p : Int) + 1) = ((p + 1 : Nat) : Int) := by
      rw [zm_w (by omega)]
      rfl
    rw [qL9_placeIn_12, zm_e (zm_gI hM 20), h20, zm_w (by omega)]
    by_cases c1 : (p : Int) + m ≤ n
    · have l74 : ∀ b : Int, ∃ r : Int, L9_placeIn_74 d 347 n p b h = some (some (zv_i r), h) := by
        intro b
        rw [qL9_placeIn_74, w1]
        by_cases c2 : b = 0
        · rw [if_pos c2]
          exact zm_placeIn_l hM d hn hm h20 q (p + 1) (by omega)
        · rw [if_neg c2]
          exact ⟨_, rfl⟩
      have l28 : ∀ (u k : Nat) (b : Int), k + u = m → ∃ r : Int, L9_placeIn_28 d 347 n p b k h = some (some (zv_i r), h) := by
        intro u
        induction u with
        | zero =>
          intro k b hk
          rw [qL9_placeIn_28, zm_e (zm_gI hM 20), h20, if_neg (by omega)]
          exact l74 b
        | succ u ih =>
          intro k b hk
          have w2 : zv_w ((k : Int) + 1) = ((k + 1 : Nat) : Int) := by
            rw [zm_w (by omega)]
            rfl
          rw [qL9_placeIn_28, zm_e (zm_gI hM 20), h20, if_pos (by omega)]
          by_cases c2 : b = 0
          · rw [if_pos c2]
            exact l74 b
          · rw [if_neg c2, zm_e (zm_f13 hM), zm_w (x := (p : Int) + k) (by omega), zm_e (zm_aI hM zm_l356 rfl (by omega) (by omega)), zm_e (zm_f18 hM), zm_e (zm_aI hM zm_l361 rfl (by omega) (by omega)), w2]
            by_cases c3 : zv_I h 356 ((p : Int) + k).toNat = zv_I h 361 ((k : Int)).toNat
            · rw [if_pos c3]
              exact ih (k + 1) 1 (by omega)
            · rw [if_neg c3]
              exact ih (k + 1) 0 (by omega)
      rw [if_pos c1]
      exact l28 m 0 1 (Nat.zero_add _)
    · rw [if_neg c1]
      exact ⟨_, rfl⟩
theorem zm_placeIn {h : zv_H} (i : zm_MI h) (d : Nat) {s : Int} (hs : zm_st (zv_I h 348) s) : ∃ (r : Int) (h' : zv_H), C9_placeIn (d + 6) 347 s h = some (r, h') ∧ zm_X h h' ∧ zv_I h' 348 = zv_I h 348 := by
  obtain ⟨n, h1, e1, x1, n1, c1⟩ := zm_cp i d hs (Or.inl rfl)
  have h20 := x1.2.2.2.2.2.2.1
  obtain ⟨m, em⟩ : ∃ m : Nat, zv_I h1 347 20 = m := ⟨(zv_I h1 347 20).toNat, by clear hs; omega⟩
  obtain ⟨r, er⟩ := zm_placeIn_l x1.2.1 (d + 5) n1 (m := m) (by clear hs; omega) em (n + 1) 0 (Nat.zero_add _)
  refine ⟨r, h1, lC9_placeIn (zm_ob i.1) ?_, x1, c1⟩
  rw [qE9_placeIn, zm_e (zm_f13 i.1), zm_e e1]
  exact er
theorem zm_find {h : zv_H} (i : zm_MI h) (d : Nat) (w : Int) : zm_R (C9_find (d + 10) 347 w h) (fun q => zm_X h q.2) := by
  refine zm_cI (P := fun _ h' => zm_X h h') (lC9_find (zm_ob i.1)) ?_
  have l107 : ∀ (v : Int) (g : zv_H), zm_MI g → zm_R (L9_find_107 (d + 9) 347 v g) (zm_I fun _ h' => zm_X g h') := by
    intro v g ig
    rw [qL9_find_107]
    exact zm_if (fun _ => zm_rfX ig _ 5) (fun _ => zm_rX0 ig)
  have l81 : ∀ (a b : Int) (g : zv_H), zm_MI g → zm_R (L9_find_81 (d + 9) 347 w a b g) (zm_I fun _ h' => zm_X g h') := by
    intro a b g ig
    rw [qL9_find_81]
    refine zm_if (fun _ => ?_) (fun _ => zm_if (fun _ => l107 a g ig) (fun _ => l107 b g ig))
    rw [zm_e (zm_here ig.1 _)]
    dsimp only
    obtain ⟨r, h2, e2, x2, _⟩ := zm_placeIn ig (d + 3) ig.2.1.2.1
    rw [zm_e e2]
    exact zm_X_i x2 (l107 r h2 x2.2)
  have l38 : ∀ (m : Nat) (k a b : Int) (g : zv_H), k + 1 = m → k ≤ 47 → zm_MI g → zm_R (L9_find_38 (d + 9) 347 w a b k g) (zm_I fun _ h' => zm_X g h') := by
    intro m
    induction m with
    | zero =>
      intro k a b g hk h47 ig
      rw [qL9_find_38, if_pos (by omega)]
      exact l81 a b g ig
    | succ m ih =>
      intro k a b g hk h47 ig
      have w1 : zv_w (k + -1) = k - 1 := by
        rw [zm_w (by omega)]
        omega
      have k1 : k - 1 + 1 = m := by omega
      have k2 : k - 1 ≤ 47 := by omega
      rw [qL9_find_38, if_neg (by omega), w1]
      refine zm_if (fun _ => ?_) (fun _ => l81 a b g ig)
      refine zm_gb (zm_isState ig.1 _ k) (fun _ => ih (k - 1) a b g k1 k2 ig) (fun hs => ?_)
      dsimp only
      obtain ⟨r, h2, e2, x2, _⟩ := zm_placeIn ig (d + 3) hs
      rw [zm_e e2]
      refine zm_X_i x2 ?_
      exact zm_if (fun _ => ih (k - 1) a b h2 k1 k2 x2.2) (fun _ => ih (k - 1) _ k h2 k1 k2 x2.2)
  have l22 : ∀ v : Int, zm_R (L9_find_22 (d + 9) 347 w 347 v h) (zm_I fun _ h' => zm_X h h') := by
    intro v
    rw [qL9_find_22]
    exact zm_isq i (fun hw h1 f1 i1 => zm_X_i (zm_X_a i f1 rfl rfl rfl) (l38 48 47 0 (-1) h1 (by decide) (by decide) i1))
  have l21 : zm_R (L9_find_21 (d + 9) 347 w 347 h) (zm_I fun _ h' => zm_X h h') := by
    rw [qL9_find_21]
    exact l22 1
  rw [qE9_find]
  refine zm_gb (zm_isIn _ w 0 2) (fun _ => l21) (fun _ => ?_)
  dsimp only
  rw [zm_e (zm_gI i.1 20)]
  exact zm_if (fun _ => l21) (fun _ => l22 0)
theorem zm_first {h : zv_H} (i : zm_MI h) (d : Nat) : zm_R (C9_first (d + 10) 347 h) (fun q => zm_X h q.2) := by
  refine zm_cI (P := fun _ h' => zm_X h h') (lC9_first (zm_ob i.1)) ?_
  have f : zm_F [] [3, 4] h (zv_sI (zv_sI h 347 4 0) 347 3 0) := zm_F_f (zm_F_f (zm_F_r _ _ h) rfl _) rfl _
  have x1 := zm_X_a i f rfl rfl rfl
  obtain ⟨v, ev, _⟩ := zm_firstOut x1.2.1 rfl x1.2.2.1.2.2.1 (d + 5)
  rw [qE9_first, zm_e (zm_is i.1 _ 0)]
  dsimp only
  rw [zm_e ev]
  exact zm_X_i x1 (zm_if (fun _ => zm_rfX x1.2 _ 5) (fun _ => zm_rX0 x1.2))
theorem zm_twin {h : zv_H} (i : zm_MI h) (d : Nat) (s : Int) : zm_R (C9_twin (d + 10) 347 s h) (fun q => zm_X h q.2) := by
  refine zm_cI (P := fun _ h' => zm_X h h') (lC9_twin (zm_ob i.1)) ?_
  have l24 : ∀ (m k : Nat) (g : zv_H), k + m = 48 → zm_MI g → zm_st (zv_I g 348) s → zm_R (L9_twin_24 (d + 9) 347 s k g) (zm_I fun _ h' => zm_X g h') := by
    intro m
    induction m with
    | zero =>
      intro k g hk ig hs
      rw [qL9_twin_24, if_neg (by clear hs; omega)]
      exact zm_rfX ig _ 5
    | succ m ih =>
      intro k g hk ig hs
      have w1 : zv_w ((k : Int) + 1) = ((k + 1 : Nat) : Int) := by
        rw [zm_w (by clear hs; omega)]
        rfl
      have k1 : (k + 1) + m = 48 := by
        clear hs
        omega
      rw [qL9_twin_24, if_pos (by clear hs; omega), w1]
      refine zm_gb (zm_isState ig.1 _ k) (fun _ => ih (k + 1) g k1 ig hs) (fun hk2 => ?_)
      dsimp only
      refine zm_if (fun _ => ih (k + 1) g k1 ig hs) (fun _ => ?_)
      obtain ⟨r, h2, e2, x2, c2⟩ := zm_differ ig (d + 3) hk2 hs
      rw [zm_e e2]
      refine zm_X_i x2 ?_
      exact zm_if (fun _ => zm_rX0 x2.2) (fun _ => ih (k + 1) h2 k1 x2.2 (by rw [c2]; exact hs))
  have l14 : ∀ v : Int, (v = 0 → zm_st (zv_I h 348) s) → zm_R (L9_twin_14 (d + 9) 347 s 347 v h) (zm_I fun _ h' => zm_X h h') := by
    intro v hv
    rw [qL9_twin_14]
    exact zm_isq i (fun hw h1 f1 i1 => zm_X_i (zm_X_a i f1 rfl rfl rfl) (l24 48 0 h1 (Nat.zero_add _) i1 (by rw [zm_F_a f1 348]; exact hv hw)))
  rw [qE9_twin]
  exact zm_gb (zm_isState i.1 _ s) (fun _ => l14 2 (fun q => by cases q)) (fun hs => l14 0 (fun _ => hs))
theorem zm_back {h : zv_H} (i : zm_MI h) (d : Nat) (n : Int) : zm_R (C9_back (d + 10) 347 n h) (fun q => zm_X h q.2) := by
  refine zm_cI (P := fun _ h' => zm_X h h') (lC9_back (zm_ob i.1)) ?_
  have l31 : ∀ (g : zv_H), zm_MI g → n ≤ 48 → ∀ (m k : Nat) (s : Int), n ≤ ((k + m : Nat) : Int) → k ≤ 100 → zm_st (zv_I g 348) s → zm_R (L9_back_31 (d + 9) 347 n s k g) (zm_I fun _ h' => zm_X g h') := by
    intro g ig hn m
    induction m with
    | zero =>
      intro k s hk k1 hs
      rw [qL9_back_31, if_neg (by clear hs; omega)]
      exact zm_rX0 ig
    | succ m ih =>
      intro k s hk k1 hs
      rw [qL9_back_31]
      refine zm_if (fun hlt => ?_) (fun _ => zm_rX0 ig)
      refine zm_if (fun _ => zm_rfX ig _ 5) (fun h0 => ?_)
      obtain ⟨p1, p2⟩ := zm_fp ig.2.1.1 hs h0
      have w1 : zv_w ((k : Int) + 1) = ((k + 1 : Nat) : Int) := by
        clear hs p1 p2
        rw [zm_w (by omega)]
        rfl
      rw [zm_e (zm_of ig.1 _ (zm_st48 hs) (by decide))]
      dsimp only
      rw [zm_e (zm_of ig.1 _ (zm_st48 p1) (by decide)), w1]
      exact ih (k + 1) _ (by clear hs p1 p2; omega) (by clear hs p1 p2; omega) p2
  have l16 : ∀ v : Int, (v = 0 → 1 ≤ n ∧ n ≤ 48) → zm_R (L9_back_16 (d + 9) 347 n 347 v h) (zm_I fun _ h' => zm_X h h') := by
    intro v hv
    rw [qL9_back_16]
    refine zm_isq i (fun hw h1 f1 i1 => zm_X_i (zm_X_a i f1 rfl rfl rfl) ?_)
    have hn := hv hw
    dsimp only
    rw [zm_e (zm_here i1.1 _)]
    exact l31 h1 i1 hn.2 48 0 _ (by omega) (by decide) i1.2.1.2.1
  rw [qE9_back]
  exact zm_gb (zm_isIn _ n 1 48) (fun _ => l16 1 (fun q => by cases q)) (fun hn => l16 0 (fun _ => hn))
theorem zm_status {h : zv_H} (i : zm_MI h) (d : Nat) : zm_R (C9_status (d + 10) 347 h) (fun q => zm_X h q.2) := by
  refine zm_cI (P := fun _ h' => zm_X h h') (lC9_status (zm_ob i.1)) ?_
  have f : zm_F [] [4] h (zv_sI h 347 4 0) := zm_F_f (zm_F_r _ _ h) rfl _
  rw [qE9_status, zm_e (zm_pI i.1 4 0), zm_e (zm_gI (zm_F_M f i.1) 3)]
  exact zm_iI (zm_X_a i f rfl rfl rfl)
theorem zm_fault {h : zv_H} (i : zm_MI h) (d : Nat) (n : Int) : zm_R (C9_fault (d + 10) 347 n h) (fun q => zm_X h q.2) := by
  refine zm_cI (P := fun _ h' => zm_X h h') (lC9_fault (zm_ob i.1)) ?_
  have f : zm_F [] [4] h (zv_sI h 347 4 0) := zm_F_f (zm_F_r _ _ h) rfl _
  have x := zm_X_a i f rfl rfl rfl
  rw [qE9_fault, zm_e (zm_pI i.1 4 0)]
  refine zm_if (fun _ => ?_) (fun _ => zm_if (fun _ => ?_) (fun _ => zm_iI x))
  · rw [zm_e (zm_gI x.2.1 28)]
    exact zm_iI x
  · rw [zm_e (zm_gI x.2.1 29)]
    exact zm_iI x
end
/-! 84.type -/
section
/-! ===== the reference: type, feed ===== -/
theorem zm_X_20 {h h' : zv_H} {A : List Nat} (i : zm_MI h) (f : zm_F A [4, 20] h h') (hA : (A.all fun r => List.contains [348, 349, 350, 351, 352, 353, 354, 355, 356, 357, 358, 359, 360, 361, 362, 363, 364, 365, 366, 370, 371, 372] r) = true) (h348 : A.contains 348 = false) (b : 0 ≤ zv_I h' 347 20 ∧ zv_I h' 347 20 ≤ 12) : zm_X h h' := by
  obtain ⟨i1, i2, i3, i4, i5, i6, i7⟩ := i
  exact ⟨zm_F_s f hA rfl, zm_F_M f i1, by rw [zm_F_a f 348 h348]; exact i2, zm_K_F i3 f, by rw [zm_F_g f 27]; exact i4, by rw [zm_F_g f 35]; exact i5, b, by rw [zm_F_g f 47]; exact i7⟩
theorem zm_type103 (d : Nat) {n : Nat} (hn : n ≤ 12) : ∀ (m k : Nat) (h : zv_H), k + m = n → zm_M h → ∃ h', L9_type_103 d 347 n k h = some (some (zv_i n), h') ∧ zm_F [361] [20] h h' ∧ zv_I h' 347 20 = n
  | 0, k, h, hk, hM => by
    rw [qL9_type_103, if_neg (by omega), zm_e (zm_pI hM 20 _)]
    exact ⟨_, rfl, zm_F_f (zm_F_r _ _ h) rfl _, by rw [zm_sgI, if_pos rfl]⟩
  | m + 1, k, h, hk, hM => by
    rw [qL9_type_103, if_pos (by omega), zm_e (zm_f18 hM), zm_e (zm_f17 hM), zm_e (zm_aI hM zm_l360 rfl (by omega) (by omega)), zm_e (zm_wI hM zm_l361 rfl (by omega) (by omega) _), zm_w (by omega)]
    generalize zv_I h 360 ((k : Int)).toNat = v0
    obtain ⟨h', i1, i2, i3⟩ := zm_type103 d hn m (k + 1) (zv_sI h 361 ((k : Int)).toNat v0) (by omega) hM
    exact ⟨h', i1, zm_F_t (zm_F_I (zm_F_r _ _ h) rfl _ _) i2, i3⟩
/-- a letter of the word told in two ints -/
def zm_tl (a b : Int) (k : Nat) : Int := zv_and (zv_ushr (if (k : Int) < 6 then a else b) (zv_w (5 * ((k : Int).tmod 6)))) 31
/-- how many letters, -1 where one is none -/
def zm_ty (a b : Int) : Nat → Nat → Int
  | 0, k => k
  | m + 1, k => if zm_tl a b k ≤ 26 then (if zm_tl a b k ≤ 0 then k else zm_ty a b m (k + 1)) else -1
theorem zm_type13 (d : Nat) (a b : Int) : ∀ (m k : Nat) (h : zv_H), k + m = 12 → zm_MI h → zm_R (L9_type_13 d 347 a b k 1 k h) (zm_I fun v h' => zm_X h h' ∧ v = zm_ty a b m k)
  | 0, k, h, hk, i => by
    obtain ⟨h', e, f, q⟩ := zm_type103 d (n := k) (by omega) k 0 h (Nat.zero_add _) i.1
    rw [qL9_type_13, if_neg (by omega), show L9_type_103 d 347 k 0 h = _ from e]
    exact zm_iI ⟨zm_X_20 i (A := [361]) (zm_F_s f rfl rfl) rfl rfl (by omega), rfl⟩
  | m + 1, k, h, hk, i => by
    have w1 : zv_w ((k : Int) + 1) = ((k + 1 : Nat) : Int) := by
      rw [zm_w (by omega)]
      rfl
    have w0 : zv_w ((k : Int) + 0) = (k : Int) := by
      rw [zm_w (by omega), Int.add_zero]
    have l37 : ∀ e : Int, e = (if (k : Int) < 6 then a else b) → zm_R (L9_type_37 d 347 a b k k e h) (zm_I fun v h' => zm_X h h' ∧ v = zm_ty a b (m + 1) k) := by
      intro e he
      have ev : zv_and (zv_ushr e (zv_w (5 * ((k : Int).tmod 6)))) 31 = zm_tl a b k := by
        rw [he]
        rfl
      have et : zm_ty a b (m + 1) k = if zm_tl a b k ≤ 26 then (if zm_tl a b k ≤ 0 then (k : Int) else zm_ty a b m (k + 1)) else -1 := rfl
      rw [qL9_type_37, ev, et]
      by_cases c1 : zm_tl a b k ≤ 26
      · rw [if_pos c1, if_pos c1]
        have wr : zm_X h (zv_sI h 360 ((k : Int)).toNat (zv_w (zm_tl a b k - 1))) := zm_X_a (A := [360]) (B := []) i (zm_F_I (zm_F_r _ _ h) rfl _ _) rfl rfl rfl
        by_cases c2 : zm_tl a b k ≤ 0
        · rw [if_pos c2, if_pos c2, qL9_type_69, zm_e (zm_f17 i.1), zm_e (zm_wI i.1 zm_l360 rfl (by omega) (by omega) _), if_pos rfl, w0, w1]
          generalize zv_sI h 360 ((k : Int)).toNat (zv_w (zm_tl a b k - 1)) = h1 at wr
          obtain ⟨h', e, f, q⟩ := zm_type103 d (n := k) (by omega) k 0 h1 (Nat.zero_add _) wr.2.1
          have fin : zm_R (L9_type_103 d 347 k 0 h1) (zm_I fun v h' => zm_X h h' ∧ v = (k : Int)) := by
            rw [show L9_type_103 d 347 k 0 h1 = _ from e]
            exact zm_iI ⟨zm_X_t wr (zm_X_20 wr.2 (A := [361]) (zm_F_s f rfl rfl) rfl rfl (by omega)), rfl⟩
          rw [qL9_type_13]
          exact zm_if (fun _ => by rw [if_pos rfl]; exact fin) (fun _ => fin)
        · rw [if_neg c2, if_neg c2, qL9_type_69, zm_e (zm_f17 i.1), zm_e (zm_wI i.1 zm_l360 rfl (by omega) (by omega) _), if_neg (by decide), w1]
          refine zm_mono (zm_type13 d a b m (k + 1) _ (by omega) wr.2) ?_
          rintro ⟨ov, h'⟩ ⟨v, ev, x, q⟩
          exact ⟨v, ev, zm_X_t wr x, q⟩
      · rw [if_neg c1, if_neg c1]
        exact zm_iI ⟨zm_X_a (A := []) (B := []) i (zm_F_r _ _ h) rfl rfl rfl, rfl⟩
    rw [qL9_type_13, if_pos (by omega), if_neg (by decide)]
    by_cases c1 : (k : Int) < 6
    · rw [if_pos c1]
      exact l37 a (by rw [if_pos c1])
    · rw [if_neg c1]
      exact l37 b (by rw [if_neg c1])
theorem zm_type {h : zv_H} (i : zm_MI h) (d : Nat) (a b : Int) : zm_R (C9_type (d + 10) 347 a b h) (fun q => zm_X h q.2 ∧ q.1 = zm_ty a b 12 0) := by
  refine zm_cI (P := fun v h' => zm_X h h' ∧ v = zm_ty a b 12 0) (lC9_type (zm_ob i.1)) ?_
  have f : zm_F [] [4] h (zv_sI h 347 4 0) := zm_F_f (zm_F_r _ _ h) rfl _
  have x := zm_X_a i f rfl rfl rfl
  rw [qE9_type, zm_e (zm_pI i.1 4 0)]
  refine zm_mono (zm_type13 (d + 9) a b 12 0 _ rfl x.2) ?_
  rintro ⟨ov, h'⟩ ⟨v, ev, y, q⟩
  exact ⟨v, ev, zm_X_t x y, q⟩
theorem zm_lays_l (d : Nat) (v : Int) : ∀ (m : Nat) (h : zv_H), m ≤ 4 → zm_M h → 0 ≤ zv_I h 347 27 → zv_I h 347 27 + m ≤ 700 → ∃ h', L9_lays_3 d 347 v (8 * (m : Int) - 8) h = some (none, h') ∧ zm_F [366] [27] h h' ∧ zv_I h' 347 27 = zv_I h 347 27 + m
  | 0, h, hm, hM, h0, h1 => ⟨h, by rw [qL9_lays_3, if_pos (by omega)], zm_F_r _ _ h, by omega⟩
  | m + 1, h, hm, hM, h0, h1 => by
    have w1 : zv_w (8 * ((m + 1 : Nat) : Int) - 8 + -8) = 8 * (m : Int) - 8 := by
      rw [zm_w (by omega)]
      omega
    rw [qL9_lays_3, if_neg (by omega), zm_e (zm_f26 hM), zm_e (zm_gI hM 27), zm_e (zm_wB4 hM zm_l366 rfl h0 (by omega) _), w1]
    generalize zv_i2b (zv_i2b (zv_shr v (8 * ((m + 1 : Nat) : Int) - 8))) = x0
    have f1 : zm_F [366] [27] h (zv_sI h 366 (zv_I h 347 27).toNat x0) := zm_F_I (zm_F_r _ _ h) rfl _ _
    have e1 : zv_I (zv_sI h 366 (zv_I h 347 27).toNat x0) 347 27 = zv_I h 347 27 := rfl
    generalize zv_sI h 366 (zv_I h 347 27).toNat x0 = h2 at f1 e1
    have hM1 := zm_F_M f1 hM
    rw [zm_e (zm_gI hM1 27), e1, zm_w (by omega), zm_e (zm_pI hM1 27 _)]
    have f2 : zm_F [366] [27] h2 (zv_sI h2 347 27 (zv_I h 347 27 + 1)) := zm_F_f (zm_F_r _ _ h2) rfl _
    have e2 : zv_I (zv_sI h2 347 27 (zv_I h 347 27 + 1)) 347 27 = zv_I h 347 27 + 1 := by rw [zm_sgI, if_pos rfl]
    obtain ⟨h', i1, i2, i3⟩ := zm_lays_l d v m (zv_sI h2 347 27 (zv_I h 347 27 + 1)) (by omega) (zm_F_M f2 hM1) (by omega) (by omega)
    exact ⟨h', i1, zm_F_t f1 (zm_F_t f2 i2), by omega⟩
theorem zm_lays {h : zv_H} (hM : zm_M h) (d : Nat) (v : Int) (h0 : 0 ≤ zv_I h 347 27) (h1 : zv_I h 347 27 ≤ 696) : ∃ h', C9_lays (d + 1) 347 v h = some h' ∧ zm_F [366] [27] h h' ∧ zv_I h' 347 27 = zv_I h 347 27 + 4 := by
  obtain ⟨h', e, f, q⟩ := zm_lays_l d v 4 h (Nat.le_refl _) hM h0 (by omega)
  refine ⟨h', lC9_lays (zm_ob hM) ?_, f, q⟩
  rw [qE9_lays]
  exact e
/-- what feed answers -/
def zm_fd (n : Int) : Int := if n + 20 ≤ 700 then n + 20 else -1
theorem zm_feed {h : zv_H} (i : zm_MI h) (d : Nat) (a b c e f : Int) : ∃ h', C9_feed (d + 10) 347 a b c e f h = some (zm_fd (zv_I h 347 27), h') ∧ zm_F [366] [4, 27] h h' ∧ zm_MI h' ∧ zv_I h' 347 27 = if zv_I h 347 27 + 20 ≤ 700 then zv_I h 347 27 + 20 else zv_I h 347 27 := by
  have f0 : zm_F [366] [4, 27] h (zv_sI h 347 4 0) := zm_F_f (zm_F_r _ _ h) rfl _
  have i4 := i.2.2.2.1
  have z0 : zv_I (zv_sI h 347 4 0) 347 27 = zv_I h 347 27 := by rw [zm_sgI, if_neg (by decide)]
  have mi : ∀ h' : zv_H, zm_F [366] [4, 27] h h' → (0 ≤ zv_I h' 347 27 ∧ zv_I h' 347 27 ≤ 700) → zm_MI h' := by
    intro h' g hb
    obtain ⟨i1, i2, i3, i4, i5, i6, i7⟩ := i
    exact ⟨zm_F_M g i1, by rw [zm_F_a g 348]; exact i2, zm_K_F i3 g, hb, by rw [zm_F_g g 35]; exact i5, by rw [zm_F_g g 20]; exact i6, by rw [zm_F_g g 47]; exact i7⟩
  have main : ∃ h', E9_feed (d + 9) 347 a b c e f h = some (some (zv_i (zm_fd (zv_I h 347 27))), h') ∧ zm_F [366] [4, 27] h h' ∧ zm_MI h' ∧ zv_I h' 347 27 = if zv_I h 347 27 + 20 ≤ 700 then zv_I h 347 27 + 20 else zv_I h 347 27 := by
    rw [qE9_feed, zm_e (zm_pI i.1 4 0)]
    generalize zv_sI h 347 4 0 = h0 at f0 z0
    have M0 := zm_F_M f0 i.1
    rw [zm_e (zm_gI M0 27), z0, zm_w (by omega)]
    unfold zm_fd
    by_cases c1 : zv_I h 347 27 + 20 ≤ 700
    · obtain ⟨h1, e1, f1, q1⟩ := zm_lays M0 (d + 8) a (by omega) (by omega)
      have M1 := zm_F_M f1 M0
      obtain ⟨h2, e2, f2, q2⟩ := zm_lays M1 (d + 8) b (by omega) (by omega)
      have M2 := zm_F_M f2 M1
      obtain ⟨h3, e3, f3, q3⟩ := zm_lays M2 (d + 8) c (by omega) (by omega)
      have M3 := zm_F_M f3 M2
      obtain ⟨h4, e4, f4, q4⟩ := zm_lays M3 (d + 8) e (by omega) (by omega)
      have M4 := zm_F_M f4 M3
      obtain ⟨h5, e5, f5, q5⟩ := zm_lays M4 (d + 8) f (by omega) (by omega)
      have M5 := zm_F_M f5 M4
      have F : zm_F [366] [4, 27] h h5 := zm_F_t f0 (zm_F_t (zm_F_s f1 rfl rfl) (zm_F_t (zm_F_s f2 rfl rfl) (zm_F_t (zm_F_s f3 rfl rfl) (zm_F_t (zm_F_s f4 rfl rfl) (zm_F_s f5 rfl rfl)))))
      rw [if_pos c1, if_pos c1, if_pos c1, zm_e e1, zm_e e2, zm_e e3, zm_e e4, zm_e e5, zm_e (zm_gI M5 27)]
      have q : zv_I h5 347 27 = zv_I h 347 27 + 20 := by omega
      exact ⟨h5, by rw [q], F, mi h5 F (by omega), q⟩
    · rw [if_neg c1, if_neg c1, if_neg c1]
      exact ⟨h0, rfl, f0, mi h0 f0 (by omega), z0⟩
  obtain ⟨h', e, q⟩ := main
  exact ⟨h', lC9_feed (zm_ob i.1) e, q⟩
end
