/-! ===== the tie: TOKENS, the class: the next one ===== -/
abbrev zt_sgn (x : Int) : Prop := (59 ≤ x ∧ x ≤ 62) ∨ x = 91 ∨ x = 93
/-- the next TOKEN behind e: from f, of kind t (4: none), up to E -/
def zt_tkn (T : Nat → Int) (n e f t E : Nat) : Prop := zt_up zt_bk T n e f ∧ ((t = 0 ∧ f = n ∧ E = n) ∨ (f < n ∧ ((t = 1 ∧ zt_sm (T f) ∧ zt_up zt_sm T n f E) ∨ (t = 2 ∧ zt_dg (T f) ∧ zt_up zt_dg T n f E ∧ E ≤ f + 3) ∨ (t = 3 ∧ ¬ zt_sm (T f) ∧ ¬ zt_dg (T f) ∧ zt_sgn (T f) ∧ E = f + 1) ∨ (t = 4 ∧ ((zt_dg (T f) ∧ zt_up zt_dg T n f E ∧ f + 3 < E) ∨ (¬ zt_sm (T f) ∧ ¬ zt_dg (T f) ∧ ¬ zt_sgn (T f) ∧ E = f + 1))))))
/-- it stands in the class's cells -/
def zt_tkc (T : Nat → Int) (g g' : zv_H) (f t E : Nat) : Prop := zv_I g' 5 5 = f ∧ ((t = 4 ∧ zv_I g' 5 8 = 1 ∧ zv_I g' 5 9 = f) ∨ (t ≠ 4 ∧ zv_I g' 5 4 = t ∧ zv_I g' 5 6 = E ∧ (t = 2 → zv_I g' 5 7 = zt_nv T f (E - f)) ∧ (t = 3 → zv_I g' 5 7 = T f) ∧ zv_I g' 5 8 = zv_I g 5 8 ∧ zv_I g' 5 9 = zv_I g 5 9))
section
variable {T : Nat → Int} {n : Nat}
theorem zt_sgn302 {d : Nat} {g : zv_H} (gL : zt_L g) {x : Int} (h7 : zv_I g 5 7 = x) : L3_next_302 (d + 1) 5 g = if x = 91 ∨ x = 93 then some (some (zv_i 1), g) else some (some (zv_i 0), zv_sI (zv_sI g 5 8 1) 5 9 (zv_I g 5 5)) := by
  rw [qL3_next_302, zm_e (zl_gI gL zt_lay5 7), h7]
  by_cases c : x = 91
  · rw [if_pos c, if_pos (Or.inl c)]
  · rw [if_neg c, zm_e (zl_gI gL zt_lay5 7), h7]
    by_cases c2 : x = 93
    · rw [if_pos c2, if_pos (Or.inr c2)]
    · rw [if_neg c2, if_neg (fun q => q.elim c c2), zm_e (zt_fail gL 1)]
      rfl
theorem zt_next58 {d : Nat} {e f : Nat} (u : zt_up zt_bk T n e f) {g : zv_H} (X : zt_tx T n g) (h5 : zv_I g 5 5 = f) : ∃ (t E : Nat) (g' : zv_H), zt_tkn T n e f t E ∧ L3_next_58 (d + 1) 5 g = some (some (zv_i (if t = 4 then 0 else 1)), g') ∧ zt_rf g g' ∧ zt_tkc T g g' f t E := by
  have gL := zt_tx_L X
  have n7 := zt_tx_n X
  have f7 : f ≤ 700 := Nat.le_trans u.2.1 n7
  have s1 : zt_rf g (zv_sI g 5 6 (f : Int)) := zt_rf_s (zt_rf_r g) (by decide) _
  have X1 := zt_tx_r X s1
  have s2 : zt_rf g (zv_sI (zv_sI g 5 6 (f : Int)) 5 7 (zt_at8 T n f)) := zt_rf_s s1 (by decide) _
  have X2 := zt_tx_r X s2
  have gL2 := zt_tx_L X2
  have n2 : ∀ k, k ≠ 6 → k ≠ 7 → zv_I (zv_sI (zv_sI g 5 6 (f : Int)) 5 7 (zt_at8 T n f)) 5 k = zv_I g 5 k := fun k k6 k7 => by
    rw [zy_In _ _ (fun q => k7 q.2), zy_In _ _ (fun q => k6 q.2)]
  have n26 : zv_I (zv_sI (zv_sI g 5 6 (f : Int)) 5 7 (zt_at8 T n f)) 5 6 = f := by
    rw [zy_In _ _ (fun q => absurd q.2 (by decide)), zy_I]
  have n27 : zv_I (zv_sI (zv_sI g 5 6 (f : Int)) 5 7 (zt_at8 T n f)) 5 7 = zt_at8 T n f := zy_I _ _ _ _
  have top : ∀ {R : zv_O}, (if zt_at8 T n f = -1 then (some (some (zv_i 1), zv_sI (zv_sI (zv_sI g 5 6 (f : Int)) 5 7 (zt_at8 T n f)) 5 4 0) : zv_O) else (if zt_sm (zt_at8 T n f) then L3_next_108 (d + 1) 5 (zv_sI (zv_sI (zv_sI g 5 6 (f : Int)) 5 7 (zt_at8 T n f)) 5 4 1) else (if zt_dg (zt_at8 T n f) then L3_next_168 (d + 1) 5 (zv_sI (zv_sI (zv_sI (zv_sI g 5 6 (f : Int)) 5 7 (zt_at8 T n f)) 5 4 2) 5 7 0) else (if zt_at8 T n f < 59 then L3_next_302 (d + 1) 5 (zv_sI (zv_sI (zv_sI (zv_sI g 5 6 (f : Int)) 5 7 (zt_at8 T n f)) 5 4 3) 5 6 ((f + 1 : Nat) : Int)) else (if zt_at8 T n f ≤ 62 then (some (some (zv_i 1), zv_sI (zv_sI (zv_sI (zv_sI g 5 6 (f : Int)) 5 7 (zt_at8 T n f)) 5 4 3) 5 6 ((f + 1 : Nat) : Int)) : zv_O) else L3_next_302 (d + 1) 5 (zv_sI (zv_sI (zv_sI (zv_sI g 5 6 (f : Int)) 5 7 (zt_at8 T n f)) 5 4 3) 5 6 ((f + 1 : Nat) : Int))))))) = R → L3_next_58 (d + 1) 5 g = R := fun {R} hR => by
    rw [qL3_next_58, zm_e (zl_gI gL zt_lay5 5), h5, zm_e (zl_pI gL zt_lay5 6 _), zm_e (zl_gI (g := zv_sI g 5 6 (f : Int)) gL zt_lay5 5), zy_In _ _ (fun q => absurd q.2 (by decide)), h5, zm_e (zt_byteAt X1 f f7)]
    dsimp only
    rw [zm_e (zl_pI (g := zv_sI g 5 6 (f : Int)) gL zt_lay5 7 _), zm_e (zl_gI gL2 zt_lay5 7), n27]
    by_cases c0 : zt_at8 T n f = -1
    · rw [if_pos c0] at hR ⊢
      rw [zm_e (zl_pI gL2 zt_lay5 4 _)]
      exact hR
    · rw [if_neg c0] at hR ⊢
      rw [zm_e (zl_gI gL2 zt_lay5 7), n27, zm_e (zt_isSmall _)]
      dsimp only
      by_cases c1 : zt_sm (zt_at8 T n f)
      · rw [if_pos c1] at hR ⊢
        rw [if_neg (by decide), zm_e (zl_pI gL2 zt_lay5 4 _)]
        exact hR
      · rw [if_neg c1] at hR ⊢
        rw [if_pos rfl, zm_e (zl_gI gL2 zt_lay5 7), n27, zm_e (zt_isDigit _)]
        dsimp only
        by_cases c2 : zt_dg (zt_at8 T n f)
        · rw [if_pos c2] at hR ⊢
          rw [if_neg (by decide), zm_e (zl_pI gL2 zt_lay5 4 _), zm_e (zl_pI (g := zv_sI (zv_sI (zv_sI g 5 6 (f : Int)) 5 7 (zt_at8 T n f)) 5 4 2) gL2 zt_lay5 7 _)]
          exact hR
        · rw [if_neg c2] at hR ⊢
          have gL3 : zt_L (zv_sI (zv_sI (zv_sI g 5 6 (f : Int)) 5 7 (zt_at8 T n f)) 5 4 3) := gL2
          have gL4 : zt_L (zv_sI (zv_sI (zv_sI (zv_sI g 5 6 (f : Int)) 5 7 (zt_at8 T n f)) 5 4 3) 5 6 ((f + 1 : Nat) : Int)) := gL2
          have e6 : zv_I (zv_sI (zv_sI (zv_sI g 5 6 (f : Int)) 5 7 (zt_at8 T n f)) 5 4 3) 5 6 = f := by rw [zy_In _ _ (fun q => absurd q.2 (by decide)), n26]
          have e7 : zv_I (zv_sI (zv_sI (zv_sI (zv_sI g 5 6 (f : Int)) 5 7 (zt_at8 T n f)) 5 4 3) 5 6 ((f + 1 : Nat) : Int)) 5 7 = zt_at8 T n f := by rw [zy_In _ _ (fun q => absurd q.2 (by decide)), zy_In _ _ (fun q => absurd q.2 (by decide)), n27]
          rw [if_pos rfl, zm_e (zl_pI gL2 zt_lay5 4 _), zm_e (zl_gI gL3 zt_lay5 6), e6, zt_tkw f7, zm_e (zl_pI gL3 zt_lay5 6 _), zm_e (zl_gI gL4 zt_lay5 7), e7]
          by_cases c3 : zt_at8 T n f < 59
          · rw [if_pos c3] at hR ⊢
            exact hR
          · rw [if_neg c3] at hR ⊢
            rw [zm_e (zl_gI gL4 zt_lay5 7), e7]
            exact hR
  by_cases fn : f < n
  · have e8 : zt_at8 T n f = T f := if_pos fn
    have tb := zt_tx_b X f fn
    rw [e8] at top n27 n2 n26 X2 gL2 s2
    have c0 : ¬ T f = -1 := fun q => by rw [q] at tb; exact absurd tb.1 (by decide)
    rw [if_neg c0] at top
    by_cases c1 : zt_sm (T f)
    · rw [if_pos c1] at top
      have s3 := zt_rf_s s2 (k := 4) (by decide) 1
      obtain ⟨E, g', y1, y2, y3, y4, y5⟩ := zt_next108 (d := d) (T := T) (n - f) f (zv_sI (zv_sI (zv_sI g 5 6 (f : Int)) 5 7 (T f)) 5 4 1) (Nat.add_sub_cancel' u.2.1) (zt_tx_r X s3) (by rw [zy_In _ _ (fun q => absurd q.2 (by decide)), n26])
      have z : ∀ k, k ≠ 6 → k ≠ 7 → k ≠ 4 → zv_I g' 5 k = zv_I g 5 k := fun k k6 k7 k4 => (y5 k k6).trans ((zy_In _ _ (fun q => k4 q.2)).trans (n2 k k6 k7))
      exact ⟨1, E, g', ⟨u, Or.inr ⟨fn, Or.inl ⟨rfl, c1, y2⟩⟩⟩, top y1, zt_rf_t s3 y3, (z 5 (by decide) (by decide) (by decide)).trans h5, Or.inr ⟨by decide, (y5 4 (by decide)).trans (zy_I _ _ _ _), y4, fun q => absurd q (by decide), fun q => absurd q (by decide), z 8 (by decide) (by decide) (by decide), z 9 (by decide) (by decide) (by decide)⟩⟩
    · rw [if_neg c1] at top
      by_cases c2 : zt_dg (T f)
      · rw [if_pos c2] at top
        have s3 := zt_rf_s (zt_rf_s s2 (k := 4) (by decide) 2) (k := 7) (by decide) 0
        have z : ∀ k, k ≠ 6 → k ≠ 7 → k ≠ 4 → zv_I (zv_sI (zv_sI (zv_sI (zv_sI g 5 6 (f : Int)) 5 7 (T f)) 5 4 2) 5 7 0) 5 k = zv_I g 5 k := fun k k6 k7 k4 => (zy_In _ _ (fun q => k7 q.2)).trans ((zy_In _ _ (fun q => k4 q.2)).trans (n2 k k6 k7))
        obtain ⟨E, g', y1, y2, y3, y4, y5⟩ := zt_next168 (d := d) (T := T) (f := f) (n - f) 0 (zv_sI (zv_sI (zv_sI (zv_sI g 5 6 (f : Int)) 5 7 (T f)) 5 4 2) 5 7 0) (Nat.add_sub_cancel' u.2.1) (by decide) (zt_tx_r X s3) ((z 5 (by decide) (by decide) (by decide)).trans h5) (by rw [zy_In _ _ (fun q => absurd q.2 (by decide)), zy_In _ _ (fun q => absurd q.2 (by decide)), n26]; rfl) (zy_I _ _ _ _) (fun i h1 h2 => absurd h2 (Nat.not_lt.mpr h1))
        have y3' : zv_I g' 5 4 = 2 := y3.trans ((zy_In _ _ (fun q => absurd q.2 (by decide))).trans (zy_I _ _ _ _))
        rcases y5 with ⟨w1, w2, w3, w4, w5, w6⟩ | ⟨w1, w2, w3, w4⟩
        · exact ⟨2, E, g', ⟨u, Or.inr ⟨fn, Or.inr (Or.inl ⟨rfl, c2, y1, w1⟩)⟩⟩, top w2, zt_rf_t s3 y2, y4, Or.inr ⟨by decide, y3', w3, fun _ => w4, fun q => absurd q (by decide), w5.trans (z 8 (by decide) (by decide) (by decide)), w6.trans (z 9 (by decide) (by decide) (by decide))⟩⟩
        · exact ⟨4, E, g', ⟨u, Or.inr ⟨fn, Or.inr (Or.inr (Or.inr ⟨rfl, Or.inl ⟨c2, y1, w1⟩⟩))⟩⟩, top w2, zt_rf_t s3 y2, y4, Or.inl ⟨rfl, w3, w4⟩⟩
      · rw [if_neg c2] at top
        have s3 := zt_rf_s (zt_rf_s s2 (k := 4) (by decide) 3) (k := 6) (by decide) ((f + 1 : Nat) : Int)
        have gL3 : zt_L (zv_sI (zv_sI (zv_sI (zv_sI g 5 6 (f : Int)) 5 7 (T f)) 5 4 3) 5 6 ((f + 1 : Nat) : Int)) := gL2
        have z : ∀ k, k ≠ 6 → k ≠ 7 → k ≠ 4 → zv_I (zv_sI (zv_sI (zv_sI (zv_sI g 5 6 (f : Int)) 5 7 (T f)) 5 4 3) 5 6 ((f + 1 : Nat) : Int)) 5 k = zv_I g 5 k := fun k k6 k7 k4 => (zy_In _ _ (fun q => k6 q.2)).trans ((zy_In _ _ (fun q => k4 q.2)).trans (n2 k k6 k7))
        have z7 : zv_I (zv_sI (zv_sI (zv_sI (zv_sI g 5 6 (f : Int)) 5 7 (T f)) 5 4 3) 5 6 ((f + 1 : Nat) : Int)) 5 7 = T f := by rw [zy_In _ _ (fun q => absurd q.2 (by decide)), zy_In _ _ (fun q => absurd q.2 (by decide)), n27]
        have z4 : zv_I (zv_sI (zv_sI (zv_sI (zv_sI g 5 6 (f : Int)) 5 7 (T f)) 5 4 3) 5 6 ((f + 1 : Nat) : Int)) 5 4 = 3 := by rw [zy_In _ _ (fun q => absurd q.2 (by decide)), zy_I]
        have e302 := zt_sgn302 (d := d) gL3 z7
        have z5 := (z 5 (by decide) (by decide) (by decide)).trans h5
        have yes : zt_sgn (T f) → L3_next_58 (d + 1) 5 g = some (some (zv_i 1), zv_sI (zv_sI (zv_sI (zv_sI g 5 6 (f : Int)) 5 7 (T f)) 5 4 3) 5 6 ((f + 1 : Nat) : Int)) → ∃ (t E : Nat) (g' : zv_H), zt_tkn T n e f t E ∧ L3_next_58 (d + 1) 5 g = some (some (zv_i (if t = 4 then 0 else 1)), g') ∧ zt_rf g g' ∧ zt_tkc T g g' f t E := fun sg go => ⟨3, f + 1, _, ⟨u, Or.inr ⟨fn, Or.inr (Or.inr (Or.inl ⟨rfl, c1, c2, sg, rfl⟩))⟩⟩, go, s3, z5, Or.inr ⟨by decide, z4, zy_I _ _ _ _, fun q => absurd q (by decide), fun _ => z7, z 8 (by decide) (by decide) (by decide), z 9 (by decide) (by decide) (by decide)⟩⟩
        have no : ¬ zt_sgn (T f) → L3_next_58 (d + 1) 5 g = L3_next_302 (d + 1) 5 (zv_sI (zv_sI (zv_sI (zv_sI g 5 6 (f : Int)) 5 7 (T f)) 5 4 3) 5 6 ((f + 1 : Nat) : Int)) → ∃ (t E : Nat) (g' : zv_H), zt_tkn T n e f t E ∧ L3_next_58 (d + 1) 5 g = some (some (zv_i (if t = 4 then 0 else 1)), g') ∧ zt_rf g g' ∧ zt_tkc T g g' f t E := fun sg go => by
          rw [e302, if_neg (fun q => sg (Or.inr q))] at go
          refine ⟨4, f + 1, _, ⟨u, Or.inr ⟨fn, Or.inr (Or.inr (Or.inr ⟨rfl, Or.inr ⟨c1, c2, sg, rfl⟩⟩))⟩⟩, go, zt_rf_t s3 (zt_rf_fail _ 1), ?_, Or.inl ⟨rfl, ?_, ?_⟩⟩
          · rw [zy_In _ _ (fun q => absurd q.2 (by decide)), zy_In _ _ (fun q => absurd q.2 (by decide))]; exact z5
          · rw [zy_In _ _ (fun q => absurd q.2 (by decide)), zy_I]
          · rw [zy_I]; exact z5
        by_cases c3 : T f < 59
        · rw [if_pos c3] at top
          by_cases c4 : T f = 91 ∨ T f = 93
          · rw [if_pos c4] at e302
            exact yes (Or.inr c4) (top e302)
          · exact no (fun q => q.elim (fun w => absurd c3 (Int.not_lt.mpr w.1)) c4) (top rfl)
        · rw [if_neg c3] at top
          by_cases c5 : T f ≤ 62
          · rw [if_pos c5] at top
            exact yes (Or.inl ⟨Int.not_lt.mp c3, c5⟩) (top rfl)
          · rw [if_neg c5] at top
            by_cases c4 : T f = 91 ∨ T f = 93
            · rw [if_pos c4] at e302
              exact yes (Or.inr c4) (top e302)
            · exact no (fun q => q.elim (fun w => c5 w.2) c4) (top rfl)
  · have e8 : zt_at8 T n f = -1 := if_neg fn
    have en : f = n := Nat.le_antisymm u.2.1 (Nat.not_lt.mp fn)
    rw [e8] at top n27 n2 n26 X2 gL2 s2
    rw [if_pos rfl] at top
    have s3 := zt_rf_s s2 (k := 4) (by decide) 0
    have z : ∀ k, k ≠ 6 → k ≠ 7 → k ≠ 4 → zv_I (zv_sI (zv_sI (zv_sI g 5 6 (f : Int)) 5 7 (-1)) 5 4 0) 5 k = zv_I g 5 k := fun k k6 k7 k4 => (zy_In _ _ (fun q => k4 q.2)).trans (n2 k k6 k7)
    exact ⟨0, n, _, ⟨u, Or.inl ⟨rfl, en, rfl⟩⟩, top rfl, s3, (z 5 (by decide) (by decide) (by decide)).trans h5, Or.inr ⟨by decide, zy_I _ _ _ _, by rw [zy_In _ _ (fun q => absurd q.2 (by decide)), n26, en], fun q => absurd q (by decide), fun q => absurd q (by decide), z 8 (by decide) (by decide) (by decide), z 9 (by decide) (by decide) (by decide)⟩⟩
theorem zt_next {d : Nat} {e : Nat} (he : e ≤ n) {g : zv_H} (X : zt_tx T n g) (h6 : zv_I g 5 6 = e) : ∃ (f t E : Nat) (g' : zv_H), zt_tkn T n e f t E ∧ C3_next (d + 2) 5 g = some ((if t = 4 then 0 else 1), g') ∧ zt_rf g g' ∧ zt_tkc T g g' f t E := by
  have gL := zt_tx_L X
  have s1 : zt_rf g (zv_sI g 5 5 (e : Int)) := zt_rf_s (zt_rf_r g) (by decide) _
  obtain ⟨f, g1, y1, y2, y3, y4, y5⟩ := zt_next8 (d := d) (n - e) e (zv_sI g 5 5 (e : Int)) (Nat.add_sub_cancel' he) (zt_tx_r X s1) (zy_I _ _ _ _)
  obtain ⟨t, E, g', w1, w2, w3, w4⟩ := zt_next58 (d := d) y2 (zt_tx_r X (zt_rf_t s1 y3)) y4
  have z : ∀ k, k ≠ 5 → zv_I g1 5 k = zv_I g 5 k := fun k hk => (y5 k hk).trans (zy_In _ _ (fun q => hk q.2))
  refine ⟨f, t, E, g', w1, lC3_next (zl_ob gL zt_lay5) ?_, zt_rf_t (zt_rf_t s1 y3) w3, w4.1, ?_⟩
  · rw [qE3_next, zm_e (zl_gI gL zt_lay5 6), h6, zm_e (zl_pI gL zt_lay5 5 _), y1]
    exact w2
  · rcases w4.2 with q | ⟨q1, q2, q3, q4, q5, q6, q7⟩
    · exact Or.inl q
    · exact Or.inr ⟨q1, q2, q3, q4, q5, q6.trans (z 8 (by decide)), q7.trans (z 9 (by decide))⟩
end
