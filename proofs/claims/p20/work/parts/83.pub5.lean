/-- the letters that what is tried would leave -/
theorem zm_let48 {h : zv_H} (i : zm_MI h) (d : Nat) {act : Int} (ha : act = 2 ∨ act = 3) : ∃ (r : Int) (h' : zv_H), ((C9_triesNames (d + 6) 347 act h).bind fun q3 => (C9_lettersOf (d + 6) 347 48 q3.2).bind fun q4 => (some (some (zv_i q4.1), q4.2) : zv_O)) = some (some (zv_i r), h') ∧ zm_X h h' := by
  obtain ⟨⟨many, h2⟩, e2, f2, tr, m0, m1⟩ := zm_triesNames i.1 rfl i.2.1 (d + 1) act
  dsimp only at f2 tr m0 m1
  have w2 := zm_Tr_W tr i.2.1
  have x2 := zm_X_of i f2 rfl rfl w2
  have hM2 := x2.2.1
  generalize hc2 : zv_I h2 348 = c2 at tr w2
  obtain ⟨l, hl, hl2, g, gt⟩ := zm_W_l i.2.1.1 i.2.1.2.1
  have hagl : ∀ t ∈ zv_I h 348 0 :: l, zm_ag (zv_I h 348) c2 t := fun t ht => by
    have hst := hl.2.1.2.2 t ht
    exact zm_Tr_ag tr hst.1.1 hst.1.2
  have n48 : ¬ (48 : Int) ∈ zv_I h 348 0 :: l := fun q => by
    have := (hl.2.1.2.2 48 q).1
    omega
  have hLn : zm_Ln c2 (48 :: zv_I h 348 0 :: l) 48 := by
    refine ⟨by decide, ?_⟩
    rw [tr.2.1]
    exact zm_Ln_cg hagl hl.1
  have ned : ¬ zm_ed c2 48 := by
    intro q
    have h3 := tr.2.2.1
    rcases q with q | q
    · rw [h3] at q
      omega
    · rw [h3] at q
      omega
  have g48 : zm_G0 c2 (48 :: zv_I h 348 0 :: l) := by
    obtain ⟨a1, a2, a3, a4, a5⟩ := g
    have a0 := hagl 0 (List.mem_of_getLast? a2)
    refine ⟨List.nodup_cons.mpr ⟨n48, a1⟩, by rw [List.getLast?_cons_cons]; exact a2, by rw [a0 5 (by decide) (by decide) (by decide)]; exact a3, by rw [a0 2 (by decide) (by decide) (by decide)]; exact a4, fun t ht h0 he => ?_⟩
    rcases List.mem_cons.mp ht with q | q
    · rw [q] at he
      exact absurd he ned
    · rw [hagl t q 5 (by decide) (by decide) (by decide)]
      exact a5 t q h0 ((zm_ed_cg (hagl t q)).mp he)
  have gt48 : ∀ t ∈ 48 :: zv_I h 348 0 :: l, zm_o c2 t 2 = 1 → ∀ p ∈ zm_tk c2 t, p ∈ zm_row c2 (48 :: zv_I h 348 0 :: l) := by
    intro t ht hk p hp
    rcases List.mem_cons.mp ht with q | q
    · rw [q] at hk
      exact absurd (Or.inr hk) ned
    · rw [hagl t q 2 (by decide) (by decide) (by decide)] at hk
      rw [zm_tk_cg (hagl t q) (zm_cut12 g t q hk)] at hp
      rw [zm_row_c c2 48 (List.cons_ne_nil _ _), if_neg (fun q => ned (Or.inl q)), zm_row_cg hagl]
      exact gt t q hk p hp
  have ln : (48 :: zv_I h 348 0 :: l).length ≤ 49 := by
    rw [List.length_cons, List.length_cons]
    omega
  obtain ⟨⟨n, h3⟩, e3, en, f3, _⟩ := zm_lettersOf hM2 (d + 1) (zm_sees hM2 hc2 (d + 1) (by decide) hLn ln g48 gt48)
  dsimp only at f3
  exact ⟨n, h3, by rw [zm_e e2]; dsimp only; rw [zm_e e3], zm_X_t x2 (zm_X_a x2.2 f3 rfl rfl rfl)⟩
theorem zm_leaning154 {h : zv_H} (hM : zm_M h) (d : Nat) {len : Nat} (hn : len ≤ 640) (h11 : zv_I h 347 11 = len) (hby : ∀ k : Nat, k < len → 0 ≤ zv_I h 352 k ∧ zv_I h 352 k ≤ 48) (w : Int) : ∀ (m k : Nat) (a : Int), k + m = len → ∃ r : Int, L9_leaning_154 d 347 w a k h = some (some (zv_i r), h)
  | 0, k, a, hk => ⟨a, by rw [qL9_leaning_154, zm_e (zm_gI hM 11), h11, if_neg (by omega)]⟩
  | m + 1, k, a, hk => by
    have w1 : zv_w ((k : Int) + 1) = ((k + 1 : Nat) : Int) := by
      rw [zm_w (by omega)]
      rfl
    have nx := fun b => zm_leaning154 hM d hn h11 hby w m (k + 1) b (by omega)
    have hb := hby k (by omega)
    rw [qL9_leaning_154, zm_e (zm_gI hM 11), h11, if_pos (by omega)]
    by_cases c1 : w = 2
    · rw [if_pos c1, zm_e (zm_f9 hM), zm_e (zm_aB hM zm_l355 (Or.inl rfl) rfl (by omega) (by omega)), w1]
      by_cases c2 : zv_I h 355 ((k : Int)).toNat = 0
      · rw [if_pos c2]
        exact nx _
      · rw [if_neg c2, zm_e (zm_f25 hM), zm_e (zm_f6 hM), zm_e (zm_aI hM zm_l352 rfl (by omega) (by omega)), show ((k : Int)).toNat = k by omega, zm_e (zm_aB hM zm_l365 (Or.inl rfl) rfl hb.1 (by omega))]
        by_cases c3 : zv_I h 365 (zv_I h 352 k).toNat = 0
        · rw [if_pos c3]
          exact nx _
        · rw [if_neg c3]
          exact nx _
    · rw [if_neg c1]
      exact ⟨a, rfl⟩
theorem zm_leaning89 {h : zv_H} {l : List Int} (d : Nat) (hh : zm_lh (zv_I h 348) l h) (hl : ∀ t ∈ l, zm_st (zv_I h 348) t) (hn : l.length ≤ 48) {len : Nat} (hn6 : len ≤ 640) (h11 : zv_I h 347 11 = len) (hby : ∀ k : Nat, k < len → 0 ≤ zv_I h 352 k ∧ zv_I h 352 k ≤ 48) (w : Int) : ∀ (m k : Nat) (a : Int), k + m = l.length → ∃ r : Int, L9_leaning_89 d 347 w a k h = some (some (zv_i r), h)
  | 0, k, a, hk => by
    rw [qL9_leaning_89, zm_e (zm_gI hh.1 10), hh.2.2.1, if_neg (by omega)]
    exact zm_leaning154 hh.1 d hn6 h11 hby w len 0 a (Nat.zero_add _)
  | m + 1, k, a, hk => by
    have hM := hh.1
    have w1 : zv_w ((k : Int) + 1) = ((k + 1 : Nat) : Int) := by
      rw [zm_w (by omega)]
      rfl
    obtain ⟨t, ht, et⟩ := zm_lh_g hh hn (j := k) (by omega) (by omega)
    have t48 := zm_st48 (hl t ht)
    have t49 : t < ((49 : Nat) : Int) := by omega
    have nx := fun b => zm_leaning89 d hh hl hn hn6 h11 hby w m (k + 1) b (by omega)
    rw [qL9_leaning_89, zm_e (zm_gI hM 10), hh.2.2.1, if_pos (by omega)]
    by_cases c1 : w < 2
    · rw [if_pos c1, zm_e (zm_f25 hM), zm_e (zm_f5 hM), zm_e et, zm_e (zm_aB hM zm_l365 (Or.inl rfl) rfl t48.1 t49), w1]
      by_cases c2 : zv_I h 365 t.toNat = 0
      · rw [if_pos c2]
        exact nx _
      · rw [if_neg c2]
        by_cases c3 : w = 0
        · rw [if_pos c3]
          exact nx _
        · rw [if_neg c3, zm_e (zm_f8 hM), zm_e (zm_f5 hM), zm_e et, zm_e (zm_aB hM zm_l354 (Or.inl rfl) rfl t48.1 t49)]
          by_cases c4 : zv_I h 354 t.toNat = 0
          · rw [if_pos c4]
            exact nx _
          · rw [if_neg c4]
            exact nx _
    · rw [if_neg c1]
      exact zm_leaning154 hM d hn6 h11 hby w len 0 a (Nat.zero_add _)
/-- marks, with what it leaves of the row -/
theorem zm_marksS {h : zv_H} (i : zm_MI h) (d : Nat) (s back : Int) : ∃ (h' : zv_H) (l : List Int), C9_marks (d + 5) 347 s back h = some h' ∧ zm_X h h' ∧ zm_Sn h' (zv_I h' 348) l ∧ (∀ t ∈ l, zm_st (zv_I h' 348) t) ∧ l.length ≤ 48 ∧ zm_G0 (zv_I h' 348) l := by
  have hM := i.1
  obtain ⟨l, hl, hl2, g, gt⟩ := zm_W_l i.2.1.1 i.2.1.2.1
  obtain ⟨h1, e1, f1, hSn⟩ := zm_sees_st hM rfl d hl hl2 g gt
  have hM1 := zm_F_M f1 hM
  have c1 : zv_I h1 348 = zv_I h 348 := zm_F_a f1 348
  have hh : zm_lh (zv_I h 348) (zv_I h 348 0 :: l) h1 := ⟨hM1, c1, hSn.1.1, hSn.1.2⟩
  obtain ⟨h2, i1, f2⟩ := zm_marks10 (d + 4) s back 48 0 h1 rfl hM1
  have hh2 := zm_lh_F hh f2
  have ln : (zv_I h 348 0 :: l).length ≤ 48 := by
    rw [List.length_cons]
    omega
  have l1 : 1 + l.length = (zv_I h 348 0 :: l).length := by
    rw [List.length_cons, Nat.add_comm]
  obtain ⟨h3, k1, f3⟩ := zm_marks40 (d + 2) i.2.1.1 hl.2.1.2.2 ln back l.length 1 h2 l1 (Nat.le_refl _) hh2
  have F : zm_F [351, 352, 353, 354, 355, 365] [10, 11, 12] h h3 := zm_F_t (zm_F_s f1 rfl rfl) (zm_F_t (zm_F_s f2 rfl rfl) (zm_F_s f3 rfl rfl))
  have ec : zv_I h3 348 = zv_I h 348 := zm_F_a F 348
  refine ⟨h3, zv_I h 348 0 :: l, lC9_marks (zm_ob hM) ?_, zm_X_a i F rfl rfl rfl, ?_⟩
  · rw [qE9_marks, zm_e (zm_here hM _)]
    dsimp only
    rw [zm_e e1, show L9_marks_10 (d + 4) 347 s back 0 h1 = _ from i1, qL9_marks_10, if_neg (by decide), show L9_marks_40 (d + 4) 347 back 1 h2 = _ from k1]
  · rw [ec]
    exact ⟨zm_Sn_F (zm_Sn_F hSn f2) f3, hl.2.1.2.2, ln, g⟩
theorem zm_leaning {h : zv_H} (i : zm_MI h) (d : Nat) (s w : Int) : zm_R (C9_leaning (d + 10) 347 s w h) (fun q => zm_X h q.2) := by
  refine zm_cI (P := fun _ h' => zm_X h h') (lC9_leaning (zm_ob i.1)) ?_
  have l52 : ∀ v : Int, zm_R (L9_leaning_52 (d + 9) 347 s w 347 v h) (zm_I fun _ h' => zm_X h h') := by
    intro v
    rw [qL9_leaning_52]
    refine zm_isq i (fun hw h1 f1 i1 => zm_X_i (zm_X_a i f1 rfl rfl rfl) ?_)
    obtain ⟨h2, l, e2, x2, n2, s2, m2, g2⟩ := zm_marksS i1 (d + 4) s 0
    dsimp only
    rw [zm_e e2]
    refine zm_X_i x2 ?_
    refine zm_if (fun _ => ?_) (fun _ => ?_)
    · obtain ⟨r, h3, e3, x3⟩ := zm_let48 x2.2 (d + 3) (act := 2) (Or.inl rfl)
      rw [e3]
      exact zm_iI x3
    · have hp : 1 ≤ l.length := by
        cases l with
        | nil => cases g2.2.1
        | cons t b => exact Nat.le_add_left 1 _
      obtain ⟨r, er⟩ := zm_leaning89 (d + 9) (zm_Sn_lh x2.2.1 n2) s2 m2 (zm_row640 g2 m2) n2.2.1.1 (fun k hk => by
        obtain ⟨x, hx⟩ : ∃ x, (zm_row (zv_I h2 348) l)[k]? = some x := ⟨_, List.getElem?_eq_getElem hk⟩
        rw [(n2.2.1.2 k x hx).1]
        exact (zm_row_ok (fun t ht => zm_st48 (s2 t ht)) g2 x (List.mem_of_getElem? hx)).1) w (l.length - 1) 1 0 (by omega)
      rw [show L9_leaning_89 (d + 9) 347 w 0 1 h2 = _ from er]
      exact zm_rX0 x2.2
  have l46 : zm_R (L9_leaning_46 (d + 9) 347 s w 347 h) (zm_I fun _ h' => zm_X h h') := by
    rw [qL9_leaning_46]
    exact l52 7
  rw [qE9_leaning]
  refine zm_gb (zm_isIn _ w 0 3) (fun _ => l52 1) (fun _ => ?_)
  refine zm_gb (zm_isState i.1 _ s) (fun _ => l52 2) (fun hs => ?_)
  dsimp only
  rw [zm_e (zm_here i.1 _)]
  dsimp only
  obtain ⟨l, hl⟩ := zm_WL_of i.2.1.1 _ i.2.1.2.1
  refine zm_gb (zm_isOfLine i.1 _ s hl) (fun _ => l46) (fun _ => ?_)
  exact zm_gb (zm_isEdit i.1 _ (zm_st48 hs)) (fun _ => l46) (fun _ => l52 0)
theorem zm_placeIn_l {h : zv_H} (hM : zm_M h) (d : Nat) {n m : Nat} (hn : n ≤ 120) (hm : m ≤ 12) (h20 : zv_I h 347 20 = m) : ∀ (q p : Nat), p + q = n + 1 → ∃ r : Int, L9_placeIn_12 d 347 n p h = some (some (zv_i r), h)
  | 0, p, hp => by
    rw [qL9_placeIn_12, zm_e (zm_gI hM 20), h20, zm_w (by omega), if_neg (by omega)]
    exact ⟨_, rfl⟩
  | q + 1, p, hp => by
    have w1 : zv_w ((p : Int) + 1) = ((p + 1 : Nat) : Int) := by
      rw [zm_w (by omega)]
      rfl
    rw [qL9_placeIn_12, zm_e (zm_gI hM 20), h20, zm_w (by omega)]
    by_cases c1 : (p : Int) + m ≤ n
    · have l74 : ∀ b : Int, ∃ r : Int, L9_placeIn_74 d 347 n p b h = some (some (zv_i r), h) := by
        intro b
        rw [qL9_placeIn_74, w1]
        by_cases c2 : b = 0
        · rw [if_pos c2]
          exact zm_placeIn_l hM d hn hm h20 q (p + 1) (by omega)
        · rw [if_neg c2]
          exact ⟨_, rfl⟩
      have l28 : ∀ (u k : Nat) (b : Int), k + u = m → ∃ r : Int, L9_placeIn_28 d 347 n p b k h = some (some (zv_i r), h) := by
        intro u
        induction u with
        | zero =>
          intro k b hk
          rw [qL9_placeIn_28, zm_e (zm_gI hM 20), h20, if_neg (by omega)]
          exact l74 b
        | succ u ih =>
          intro k b hk
          have w2 : zv_w ((k : Int) + 1) = ((k + 1 : Nat) : Int) := by
            rw [zm_w (by omega)]
            rfl
          rw [qL9_placeIn_28, zm_e (zm_gI hM 20), h20, if_pos (by omega)]
          by_cases c2 : b = 0
          · rw [if_pos c2]
            exact l74 b
          · rw [if_neg c2, zm_e (zm_f13 hM), zm_w (x := (p : Int) + k) (by omega), zm_e (zm_aI hM zm_l356 rfl (by omega) (by omega)), zm_e (zm_f18 hM), zm_e (zm_aI hM zm_l361 rfl (by omega) (by omega)), w2]
            by_cases c3 : zv_I h 356 ((p : Int) + k).toNat = zv_I h 361 ((k : Int)).toNat
            · rw [if_pos c3]
              exact ih (k + 1) 1 (by omega)
            · rw [if_neg c3]
              exact ih (k + 1) 0 (by omega)
      rw [if_pos c1]
      exact l28 m 0 1 (Nat.zero_add _)
    · rw [if_neg c1]
      exact ⟨_, rfl⟩
theorem zm_placeIn {h : zv_H} (i : zm_MI h) (d : Nat) {s : Int} (hs : zm_st (zv_I h 348) s) : ∃ (r : Int) (h' : zv_H), C9_placeIn (d + 6) 347 s h = some (r, h') ∧ zm_X h h' ∧ zv_I h' 348 = zv_I h 348 := by
  obtain ⟨n, h1, e1, x1, n1, c1⟩ := zm_cp i d hs (Or.inl rfl)
  have h20 := x1.2.2.2.2.2.2.1
  obtain ⟨m, em⟩ : ∃ m : Nat, zv_I h1 347 20 = m := ⟨(zv_I h1 347 20).toNat, by clear hs; omega⟩
  obtain ⟨r, er⟩ := zm_placeIn_l x1.2.1 (d + 5) n1 (m := m) (by clear hs; omega) em (n + 1) 0 (Nat.zero_add _)
  refine ⟨r, h1, lC9_placeIn (zm_ob i.1) ?_, x1, c1⟩
  rw [qE9_placeIn, zm_e (zm_f13 i.1), zm_e e1]
  exact er
theorem zm_find {h : zv_H} (i : zm_MI h) (d : Nat) (w : Int) : zm_R (C9_find (d + 10) 347 w h) (fun q => zm_X h q.2) := by
  refine zm_cI (P := fun _ h' => zm_X h h') (lC9_find (zm_ob i.1)) ?_
  have l107 : ∀ (v : Int) (g : zv_H), zm_MI g → zm_R (L9_find_107 (d + 9) 347 v g) (zm_I fun _ h' => zm_X g h') := by
    intro v g ig
    rw [qL9_find_107]
    exact zm_if (fun _ => zm_rfX ig _ 5) (fun _ => zm_rX0 ig)
  have l81 : ∀ (a b : Int) (g : zv_H), zm_MI g → zm_R (L9_find_81 (d + 9) 347 w a b g) (zm_I fun _ h' => zm_X g h') := by
    intro a b g ig
    rw [qL9_find_81]
    refine zm_if (fun _ => ?_) (fun _ => zm_if (fun _ => l107 a g ig) (fun _ => l107 b g ig))
    rw [zm_e (zm_here ig.1 _)]
    dsimp only
    obtain ⟨r, h2, e2, x2, _⟩ := zm_placeIn ig (d + 3) ig.2.1.2.1
    rw [zm_e e2]
    exact zm_X_i x2 (l107 r h2 x2.2)
  have l38 : ∀ (m : Nat) (k a b : Int) (g : zv_H), k + 1 = m → k ≤ 47 → zm_MI g → zm_R (L9_find_38 (d + 9) 347 w a b k g) (zm_I fun _ h' => zm_X g h') := by
    intro m
    induction m with
    | zero =>
      intro k a b g hk h47 ig
      rw [qL9_find_38, if_pos (by omega)]
      exact l81 a b g ig
    | succ m ih =>
      intro k a b g hk h47 ig
      have w1 : zv_w (k + -1) = k - 1 := by
        rw [zm_w (by omega)]
        omega
      have k1 : k - 1 + 1 = m := by omega
      have k2 : k - 1 ≤ 47 := by omega
      rw [qL9_find_38, if_neg (by omega), w1]
      refine zm_if (fun _ => ?_) (fun _ => l81 a b g ig)
      refine zm_gb (zm_isState ig.1 _ k) (fun _ => ih (k - 1) a b g k1 k2 ig) (fun hs => ?_)
      dsimp only
      obtain ⟨r, h2, e2, x2, _⟩ := zm_placeIn ig (d + 3) hs
      rw [zm_e e2]
      refine zm_X_i x2 ?_
      exact zm_if (fun _ => ih (k - 1) a b h2 k1 k2 x2.2) (fun _ => ih (k - 1) _ k h2 k1 k2 x2.2)
  have l22 : ∀ v : Int, zm_R (L9_find_22 (d + 9) 347 w 347 v h) (zm_I fun _ h' => zm_X h h') := by
    intro v
    rw [qL9_find_22]
    exact zm_isq i (fun hw h1 f1 i1 => zm_X_i (zm_X_a i f1 rfl rfl rfl) (l38 48 47 0 (-1) h1 (by decide) (by decide) i1))
  have l21 : zm_R (L9_find_21 (d + 9) 347 w 347 h) (zm_I fun _ h' => zm_X h h') := by
    rw [qL9_find_21]
    exact l22 1
  rw [qE9_find]
  refine zm_gb (zm_isIn _ w 0 2) (fun _ => l21) (fun _ => ?_)
  dsimp only
  rw [zm_e (zm_gI i.1 20)]
  exact zm_if (fun _ => l21) (fun _ => l22 0)
theorem zm_first {h : zv_H} (i : zm_MI h) (d : Nat) : zm_R (C9_first (d + 10) 347 h) (fun q => zm_X h q.2) := by
  refine zm_cI (P := fun _ h' => zm_X h h') (lC9_first (zm_ob i.1)) ?_
  have f : zm_F [] [3, 4] h (zv_sI (zv_sI h 347 4 0) 347 3 0) := zm_F_f (zm_F_f (zm_F_r _ _ h) rfl _) rfl _
  have x1 := zm_X_a i f rfl rfl rfl
  obtain ⟨v, ev, _⟩ := zm_firstOut x1.2.1 rfl x1.2.2.1.2.2.1 (d + 5)
  rw [qE9_first, zm_e (zm_is i.1 _ 0)]
  dsimp only
  rw [zm_e ev]
  exact zm_X_i x1 (zm_if (fun _ => zm_rfX x1.2 _ 5) (fun _ => zm_rX0 x1.2))
theorem zm_twin {h : zv_H} (i : zm_MI h) (d : Nat) (s : Int) : zm_R (C9_twin (d + 10) 347 s h) (fun q => zm_X h q.2) := by
  refine zm_cI (P := fun _ h' => zm_X h h') (lC9_twin (zm_ob i.1)) ?_
  have l24 : ∀ (m k : Nat) (g : zv_H), k + m = 48 → zm_MI g → zm_st (zv_I g 348) s → zm_R (L9_twin_24 (d + 9) 347 s k g) (zm_I fun _ h' => zm_X g h') := by
    intro m
    induction m with
    | zero =>
      intro k g hk ig hs
      rw [qL9_twin_24, if_neg (by clear hs; omega)]
      exact zm_rfX ig _ 5
    | succ m ih =>
      intro k g hk ig hs
      have w1 : zv_w ((k : Int) + 1) = ((k + 1 : Nat) : Int) := by
        rw [zm_w (by clear hs; omega)]
        rfl
      have k1 : (k + 1) + m = 48 := by
        clear hs
        omega
      rw [qL9_twin_24, if_pos (by clear hs; omega), w1]
      refine zm_gb (zm_isState ig.1 _ k) (fun _ => ih (k + 1) g k1 ig hs) (fun hk2 => ?_)
      dsimp only
      refine zm_if (fun _ => ih (k + 1) g k1 ig hs) (fun _ => ?_)
      obtain ⟨r, h2, e2, x2, c2⟩ := zm_differ ig (d + 3) hk2 hs
      rw [zm_e e2]
      refine zm_X_i x2 ?_
      exact zm_if (fun _ => zm_rX0 x2.2) (fun _ => ih (k + 1) h2 k1 x2.2 (by rw [c2]; exact hs))
  have l14 : ∀ v : Int, (v = 0 → zm_st (zv_I h 348) s) → zm_R (L9_twin_14 (d + 9) 347 s 347 v h) (zm_I fun _ h' => zm_X h h') := by
    intro v hv
    rw [qL9_twin_14]
    exact zm_isq i (fun hw h1 f1 i1 => zm_X_i (zm_X_a i f1 rfl rfl rfl) (l24 48 0 h1 (Nat.zero_add _) i1 (by rw [zm_F_a f1 348]; exact hv hw)))
  rw [qE9_twin]
  exact zm_gb (zm_isState i.1 _ s) (fun _ => l14 2 (fun q => by cases q)) (fun hs => l14 0 (fun _ => hs))
theorem zm_back {h : zv_H} (i : zm_MI h) (d : Nat) (n : Int) : zm_R (C9_back (d + 10) 347 n h) (fun q => zm_X h q.2) := by
  refine zm_cI (P := fun _ h' => zm_X h h') (lC9_back (zm_ob i.1)) ?_
  have l31 : ∀ (g : zv_H), zm_MI g → n ≤ 48 → ∀ (m k : Nat) (s : Int), n ≤ ((k + m : Nat) : Int) → k ≤ 100 → zm_st (zv_I g 348) s → zm_R (L9_back_31 (d + 9) 347 n s k g) (zm_I fun _ h' => zm_X g h') := by
    intro g ig hn m
    induction m with
    | zero =>
      intro k s hk k1 hs
      rw [qL9_back_31, if_neg (by clear hs; omega)]
      exact zm_rX0 ig
    | succ m ih =>
      intro k s hk k1 hs
      rw [qL9_back_31]
      refine zm_if (fun hlt => ?_) (fun _ => zm_rX0 ig)
      refine zm_if (fun _ => zm_rfX ig _ 5) (fun h0 => ?_)
      obtain ⟨p1, p2⟩ := zm_fp ig.2.1.1 hs h0
      have w1 : zv_w ((k : Int) + 1) = ((k + 1 : Nat) : Int) := by
        clear hs p1 p2
        rw [zm_w (by omega)]
        rfl
      rw [zm_e (zm_of ig.1 _ (zm_st48 hs) (by decide))]
      dsimp only
      rw [zm_e (zm_of ig.1 _ (zm_st48 p1) (by decide)), w1]
      exact ih (k + 1) _ (by clear hs p1 p2; omega) (by clear hs p1 p2; omega) p2
  have l16 : ∀ v : Int, (v = 0 → 1 ≤ n ∧ n ≤ 48) → zm_R (L9_back_16 (d + 9) 347 n 347 v h) (zm_I fun _ h' => zm_X h h') := by
    intro v hv
    rw [qL9_back_16]
    refine zm_isq i (fun hw h1 f1 i1 => zm_X_i (zm_X_a i f1 rfl rfl rfl) ?_)
    have hn := hv hw
    dsimp only
    rw [zm_e (zm_here i1.1 _)]
    exact l31 h1 i1 hn.2 48 0 _ (by omega) (by decide) i1.2.1.2.1
  rw [qE9_back]
  exact zm_gb (zm_isIn _ n 1 48) (fun _ => l16 1 (fun q => by cases q)) (fun hn => l16 0 (fun _ => hn))
theorem zm_status {h : zv_H} (i : zm_MI h) (d : Nat) : zm_R (C9_status (d + 10) 347 h) (fun q => zm_X h q.2) := by
  refine zm_cI (P := fun _ h' => zm_X h h') (lC9_status (zm_ob i.1)) ?_
  have f : zm_F [] [4] h (zv_sI h 347 4 0) := zm_F_f (zm_F_r _ _ h) rfl _
  rw [qE9_status, zm_e (zm_pI i.1 4 0), zm_e (zm_gI (zm_F_M f i.1) 3)]
  exact zm_iI (zm_X_a i f rfl rfl rfl)
theorem zm_fault {h : zv_H} (i : zm_MI h) (d : Nat) (n : Int) : zm_R (C9_fault (d + 10) 347 n h) (fun q => zm_X h q.2) := by
  refine zm_cI (P := fun _ h' => zm_X h h') (lC9_fault (zm_ob i.1)) ?_
  have f : zm_F [] [4] h (zv_sI h 347 4 0) := zm_F_f (zm_F_r _ _ h) rfl _
  have x := zm_X_a i f rfl rfl rfl
  rw [qE9_fault, zm_e (zm_pI i.1 4 0)]
  refine zm_if (fun _ => ?_) (fun _ => zm_if (fun _ => ?_) (fun _ => zm_iI x))
  · rw [zm_e (zm_gI x.2.1 28)]
    exact zm_iI x
  · rw [zm_e (zm_gI x.2.1 29)]
    exact zm_iI x
