/-! A57.tokc -/
section
/-! ===== the tie: TOKENS, the class ===== -/
/-- the text, in the class's cells -/
def zt_tx (T : Nat → Int) (n : Nat) (g : zv_H) : Prop := (zt_L g) ∧ (n ≤ 700) ∧ (zv_I g 5 3 = n) ∧ (∀ i : Nat, i < n → zv_I g 6 i = T i) ∧ (∀ i : Nat, i < n → 0 ≤ T i ∧ T i ≤ 255)
theorem zt_tx_L {T : Nat → Int} {n : Nat} {g : zv_H} (t : zt_tx T n g) : zt_L g := t.1
theorem zt_tx_n {T : Nat → Int} {n : Nat} {g : zv_H} (t : zt_tx T n g) : n ≤ 700 := t.2.1
theorem zt_tx_l {T : Nat → Int} {n : Nat} {g : zv_H} (t : zt_tx T n g) : zv_I g 5 3 = n := t.2.2.1
theorem zt_tx_t {T : Nat → Int} {n : Nat} {g : zv_H} (t : zt_tx T n g) : ∀ i : Nat, i < n → zv_I g 6 i = T i := t.2.2.2.1
theorem zt_tx_b {T : Nat → Int} {n : Nat} {g : zv_H} (t : zt_tx T n g) : ∀ i : Nat, i < n → 0 ≤ T i ∧ T i ≤ 255 := t.2.2.2.2
/-- but for the TOKEN that is looked at, and the fault -/
def zt_rf (g : zv_H) (g' : zv_H) : Prop := (g'.1 = g.1) ∧ (g'.2.2 = g.2.2) ∧ (∀ r k, ¬ (r = 5 ∧ 4 ≤ k ∧ k ≤ 9) → zv_I g' r k = zv_I g r k)
theorem zt_rf_n {g : zv_H} {g' : zv_H} (t : zt_rf g g') : g'.1 = g.1 := t.1
theorem zt_rf_q {g : zv_H} {g' : zv_H} (t : zt_rf g g') : g'.2.2 = g.2.2 := t.2.1
theorem zt_rf_i {g : zv_H} {g' : zv_H} (t : zt_rf g g') : ∀ r k, ¬ (r = 5 ∧ 4 ≤ k ∧ k ≤ 9) → zv_I g' r k = zv_I g r k := t.2.2
theorem zt_rf_r (g : zv_H) : zt_rf g g := ⟨rfl, rfl, fun _ _ _ => rfl⟩
theorem zt_rf_t {g g1 g2 : zv_H} (f : zt_rf g g1) (h : zt_rf g1 g2) : zt_rf g g2 := ⟨h.1.trans f.1, h.2.1.trans f.2.1, fun r k q => (h.2.2 r k q).trans (f.2.2 r k q)⟩
theorem zt_rf_s {g g1 : zv_H} (f : zt_rf g g1) {k : Nat} (hk : 4 ≤ k ∧ k ≤ 9) (v : Int) : zt_rf g (zv_sI g1 5 k v) := ⟨f.1, f.2.1, fun r k' q => (zy_In _ _ (fun z => q ⟨z.1, by rw [z.2]; exact hk⟩)).trans (f.2.2 r k' q)⟩
theorem zt_tx_r {T : Nat → Int} {n : Nat} {g g' : zv_H} (X : zt_tx T n g) (f : zt_rf g g') : zt_tx T n g' := by
  refine ⟨?_, zt_tx_n X, (zt_rf_i f _ _ (fun q => absurd q.2.1 (by decide))).trans (zt_tx_l X), fun i hi => (zt_rf_i f _ _ (fun q => absurd q.1 (by decide))).trans (zt_tx_t X i hi), zt_tx_b X⟩
  have gL := zt_tx_L X
  refine ⟨?_, fun r k h1 h2 => ?_, fun a i h1 h2 => ?_⟩
  · have := gL.1
    unfold zv_n at *
    rw [zt_rf_n f]
    exact this
  · unfold zv_R
    rw [zt_rf_q f]
    exact gL.2.1 r k h1 h2
  · unfold zv_R
    rw [zt_rf_q f]
    exact gL.2.2 a i h1 h2
abbrev zt_sm (x : Int) : Prop := 97 ≤ x ∧ x ≤ 122
abbrev zt_dg (x : Int) : Prop := 48 ≤ x ∧ x ≤ 57
abbrev zt_bk (x : Int) : Prop := x = 32 ∨ x = 10
/-- the byte there, or none -/
def zt_at8 (T : Nat → Int) (n i : Nat) : Int := if i < n then T i else -1
theorem zt_lay5 : zv_lay 5 = (1, 3) := rfl
theorem zt_lay6 : zv_lay 6 = (2, 700) := rfl
section
variable {T : Nat → Int} {n : Nat} {g : zv_H}
theorem zt_byteAt {d : Nat} (X : zt_tx T n g) (i : Nat) (h : i ≤ 700) : C3_byteAt (d + 1) 5 (i : Int) g = some (zt_at8 T n i, g) := by
  have gL := zt_tx_L X
  have n7 := zt_tx_n X
  refine lC3_byteAt (zl_ob gL zt_lay5) ?_
  rw [qE3_byteAt, if_neg (Int.not_lt.mpr (Int.natCast_nonneg _)), zm_e (zl_gI gL zt_lay5 3), zt_tx_l X]
  unfold zt_at8
  by_cases c : i < n
  · have i7 : (i : Int) < ((700 : Nat) : Int) := Int.ofNat_lt.mpr (Nat.lt_of_lt_of_le c n7)
    rw [if_pos (Int.ofNat_lt.mpr c), if_pos (show (i : Int) < 700 from i7), zm_e (zl_gF gL zt_lay5 0 1), if_pos c, zm_e (zl_aI gL zt_lay6 (Int.natCast_nonneg _) i7), Int.toNat_natCast, zt_tx_t X i c]
  · rw [if_neg (fun q => c (Int.ofNat_lt.mp q)), if_neg c]
theorem zt_isSmall {d : Nat} (x : Int) : C3_isSmall (d + 1) x g = some (if zt_sm x then 1 else 0, g) := by
  refine lC3_isSmall ?_
  rw [qE3_isSmall]
  unfold zt_sm
  by_cases c : x < 97
  · rw [if_pos c, if_neg (fun q => absurd q.1 (Int.not_le.mpr c))]
  · rw [if_neg c]
    by_cases c2 : x ≤ 122
    · rw [if_pos c2, if_pos ⟨Int.not_lt.mp c, c2⟩]
    · rw [if_neg c2, if_neg (fun q => c2 q.2)]
theorem zt_isDigit {d : Nat} (x : Int) : C3_isDigit (d + 1) x g = some (if zt_dg x then 1 else 0, g) := by
  refine lC3_isDigit ?_
  rw [qE3_isDigit]
  unfold zt_dg
  by_cases c : x < 48
  · rw [if_pos c, if_neg (fun q => absurd q.1 (Int.not_le.mpr c))]
  · rw [if_neg c]
    by_cases c2 : x ≤ 57
    · rw [if_pos c2, if_pos ⟨Int.not_lt.mp c, c2⟩]
    · rw [if_neg c2, if_neg (fun q => c2 q.2)]
/-- from e on all are so, up to f, and there none is -/
def zt_up (P : Int → Prop) (T : Nat → Int) (n e f : Nat) : Prop := e ≤ f ∧ f ≤ n ∧ (∀ i : Nat, e ≤ i → i < f → P (T i)) ∧ (f < n → ¬ P (T f))
theorem zt_up_u {P : Int → Prop} {e f f' : Nat} (h : zt_up P T n e f) (h' : zt_up P T n e f') : f = f' := by
  obtain ⟨a1, a2, a3, a4⟩ := h
  obtain ⟨b1, b2, b3, b4⟩ := h'
  rcases Nat.lt_trichotomy f f' with q | q | q
  · exact absurd (b3 f a1 q) (a4 (Nat.lt_of_lt_of_le q b2))
  · exact q
  · exact absurd (a3 f' b1 q) (b4 (Nat.lt_of_lt_of_le q a2))
theorem zt_up_0 {P : Int → Prop} {e : Nat} (he : e ≤ n) (h : e < n → ¬ P (T e)) : zt_up P T n e e := ⟨Nat.le_refl _, he, fun i h1 h2 => absurd h2 (Nat.not_lt.mpr h1), h⟩
theorem zt_up_s {P : Int → Prop} {e f : Nat} (h0 : P (T e)) (h : zt_up P T n (e + 1) f) : zt_up P T n e f := by
  refine ⟨Nat.le_of_succ_le h.1, h.2.1, fun i h1 h2 => ?_, h.2.2.2⟩
  by_cases z : i = e
  · rw [z]; exact h0
  · exact h.2.2.1 i (Nat.lt_of_le_of_ne h1 (fun q => z q.symm)) h2
theorem zt_tkw {i : Nat} (h : i ≤ 700) : zv_w ((i : Int) + 1) = ((i + 1 : Nat) : Int) := by
  rw [zm_w (by omega)]
  rfl
/-- the class passes the blanks -/
theorem zt_next8 {d : Nat} : ∀ (m e : Nat) (g : zv_H), e + m = n → zt_tx T n g → zv_I g 5 5 = e → ∃ (f : Nat) (g' : zv_H), L3_next_8 (d + 1) 5 g = L3_next_58 (d + 1) 5 g' ∧ zt_up zt_bk T n e f ∧ zt_rf g g' ∧ zv_I g' 5 5 = f ∧ ∀ k, k ≠ 5 → zv_I g' 5 k = zv_I g 5 k := by
  intro m
  induction m with
  | zero =>
    intro e g he X h5
    have en : e = n := he
    have gL := zt_tx_L X
    refine ⟨e, g, ?_, zt_up_0 (Nat.le_of_eq en) (fun q => absurd q (by rw [en]; exact Nat.lt_irrefl _)), zt_rf_r g, h5, fun _ _ => rfl⟩
    rw [qL3_next_8, zm_e (zl_gI gL zt_lay5 5), h5, zm_e (zl_gI gL zt_lay5 3), zt_tx_l X, en, if_neg (Int.lt_irrefl _)]
  | succ m ih =>
    intro e g he X h5
    have gL := zt_tx_L X
    have n7 := zt_tx_n X
    have en : e < n := by omega
    have e7 : e ≤ 700 := by omega
    have ba := zt_byteAt (d := d) X e e7
    have eb : zt_at8 T n e = T e := if_pos en
    rw [eb] at ba
    have st : zt_rf g (zv_sI g 5 5 ((e + 1 : Nat) : Int)) := zt_rf_s (zt_rf_r g) (by decide) _
    by_cases c : zt_bk (T e)
    · obtain ⟨f, g', y1, y2, y3, y4, y5⟩ := ih (e + 1) (zv_sI g 5 5 ((e + 1 : Nat) : Int)) (by omega) (zt_tx_r X st) (zy_I _ _ _ _)
      refine ⟨f, g', ?_, zt_up_s c y2, zt_rf_t st y3, y4, fun k hk => (y5 k hk).trans (zy_In _ _ (fun q => hk q.2))⟩
      rw [qL3_next_8, zm_e (zl_gI gL zt_lay5 5), h5, zm_e (zl_gI gL zt_lay5 3), zt_tx_l X, if_pos (Int.ofNat_lt.mpr en), zm_e (zl_gI gL zt_lay5 5), h5, zm_e ba]
      dsimp only
      rcases c with c | c
      · rw [if_pos c, zm_e (zl_gI gL zt_lay5 5), h5, zt_tkw e7, zm_e (zl_pI gL zt_lay5 5 _)]
        exact y1
      · rw [if_neg (by rw [c]; decide), zm_e (zl_gI gL zt_lay5 5), h5, zm_e ba]
        dsimp only
        rw [if_pos c, zm_e (zl_gI gL zt_lay5 5), h5, zt_tkw e7, zm_e (zl_pI gL zt_lay5 5 _)]
        exact y1
    · refine ⟨e, g, ?_, zt_up_0 (Nat.le_of_lt en) (fun _ => c), zt_rf_r g, h5, fun _ _ => rfl⟩
      rw [qL3_next_8, zm_e (zl_gI gL zt_lay5 5), h5, zm_e (zl_gI gL zt_lay5 3), zt_tx_l X, if_pos (Int.ofNat_lt.mpr en), zm_e (zl_gI gL zt_lay5 5), h5, zm_e ba]
      dsimp only
      rw [if_neg (fun q => c (Or.inl q)), zm_e (zl_gI gL zt_lay5 5), h5, zm_e ba]
      dsimp only
      rw [if_neg (fun q => c (Or.inr q))]
/-- the class passes a word -/
theorem zt_next108 {d : Nat} : ∀ (m e : Nat) (g : zv_H), e + m = n → zt_tx T n g → zv_I g 5 6 = e → ∃ (f : Nat) (g' : zv_H), L3_next_108 (d + 1) 5 g = some (some (zv_i 1), g') ∧ zt_up zt_sm T n e f ∧ zt_rf g g' ∧ zv_I g' 5 6 = f ∧ ∀ k, k ≠ 6 → zv_I g' 5 k = zv_I g 5 k := by
  intro m
  induction m with
  | zero =>
    intro e g he X h5
    have en : e = n := he
    have gL := zt_tx_L X
    refine ⟨e, g, ?_, zt_up_0 (Nat.le_of_eq en) (fun q => absurd q (by rw [en]; exact Nat.lt_irrefl _)), zt_rf_r g, h5, fun _ _ => rfl⟩
    rw [qL3_next_108, zm_e (zl_gI gL zt_lay5 6), h5, zm_e (zl_gI gL zt_lay5 3), zt_tx_l X, en, if_neg (Int.lt_irrefl _)]
  | succ m ih =>
    intro e g he X h5
    have gL := zt_tx_L X
    have n7 := zt_tx_n X
    have en : e < n := by omega
    have e7 : e ≤ 700 := by omega
    have ba := zt_byteAt (d := d) X e e7
    have eb : zt_at8 T n e = T e := if_pos en
    rw [eb] at ba
    have sm := zt_isSmall (d := d) (g := g) (T e)
    have st : zt_rf g (zv_sI g 5 6 ((e + 1 : Nat) : Int)) := zt_rf_s (zt_rf_r g) (by decide) _
    by_cases c : zt_sm (T e)
    · rw [if_pos c] at sm
      obtain ⟨f, g', y1, y2, y3, y4, y5⟩ := ih (e + 1) (zv_sI g 5 6 ((e + 1 : Nat) : Int)) (by omega) (zt_tx_r X st) (zy_I _ _ _ _)
      refine ⟨f, g', ?_, zt_up_s c y2, zt_rf_t st y3, y4, fun k hk => (y5 k hk).trans (zy_In _ _ (fun q => hk q.2))⟩
      rw [qL3_next_108, zm_e (zl_gI gL zt_lay5 6), h5, zm_e (zl_gI gL zt_lay5 3), zt_tx_l X, if_pos (Int.ofNat_lt.mpr en), zm_e (zl_gI gL zt_lay5 6), h5, zm_e ba]
      dsimp only
      rw [zm_e sm]
      dsimp only
      rw [if_neg (by decide), zm_e (zl_gI gL zt_lay5 6), h5, zt_tkw e7, zm_e (zl_pI gL zt_lay5 6 _)]
      exact y1
    · rw [if_neg c] at sm
      refine ⟨e, g, ?_, zt_up_0 (Nat.le_of_lt en) (fun _ => c), zt_rf_r g, h5, fun _ _ => rfl⟩
      rw [qL3_next_108, zm_e (zl_gI gL zt_lay5 6), h5, zm_e (zl_gI gL zt_lay5 3), zt_tx_l X, if_pos (Int.ofNat_lt.mpr en), zm_e (zl_gI gL zt_lay5 6), h5, zm_e ba]
      dsimp only
      rw [zm_e sm]
      dsimp only
      rw [if_pos rfl]
end
end
/-! A58.tokc2 -/
section
/-! ===== the tie: TOKENS, the class: numbers, any TOKEN ===== -/
/-- the number that so many digits give -/
def zt_nv (T : Nat → Int) (f : Nat) : Nat → Int
  | 0 => 0
  | j + 1 => zt_nv T f j * 10 + T (f + j) - 48
def zt_nb : Nat → Int
  | 0 => 0
  | j + 1 => 10 * zt_nb j + 9
theorem zt_nv_b {T : Nat → Int} {f : Nat} : ∀ (j : Nat), (∀ i : Nat, f ≤ i → i < f + j → zt_dg (T i)) → 0 ≤ zt_nv T f j ∧ zt_nv T f j ≤ zt_nb j
  | 0, _ => ⟨Int.le_refl _, Int.le_refl _⟩
  | j + 1, h => by
    have ih := zt_nv_b j (fun i h1 h2 => h i h1 (Nat.lt_succ_of_lt h2))
    have hd := h (f + j) (Nat.le_add_right _ _) (Nat.lt_succ_self _)
    unfold zt_dg at hd
    show 0 ≤ zt_nv T f j * 10 + T (f + j) - 48 ∧ zt_nv T f j * 10 + T (f + j) - 48 ≤ 10 * zt_nb j + 9
    generalize zt_nv T f j = v at *
    generalize T (f + j) = t at *
    generalize zt_nb j = b at *
    omega
theorem zt_nb3 : ∀ j : Nat, j ≤ 3 → zt_nb j ≤ 999
  | 0, _ => by decide
  | 1, _ => by decide
  | 2, _ => by decide
  | 3, _ => by decide
  | j + 4, h => absurd h (by omega)
theorem zt_up_ex (P : Int → Prop) (T : Nat → Int) (n : Nat) : ∀ (m e : Nat), e + m = n → ∃ f, zt_up P T n e f := by
  intro m
  induction m with
  | zero =>
    intro e he
    have en : e = n := he
    exact ⟨e, zt_up_0 (Nat.le_of_eq en) (fun q => absurd q (by rw [en]; exact Nat.lt_irrefl _))⟩
  | succ m ih =>
    intro e he
    by_cases c : P (T e)
    · obtain ⟨f, hf⟩ := ih (e + 1) (by omega)
      exact ⟨f, zt_up_s c hf⟩
    · exact ⟨e, zt_up_0 (by omega) (fun _ => c)⟩
/-- behind some that are so: the rest -/
theorem zt_up_j {P : Int → Prop} {T : Nat → Int} {n f : Nat} : ∀ (j E : Nat), (∀ i : Nat, f ≤ i → i < f + j → P (T i)) → zt_up P T n (f + j) E → zt_up P T n f E := fun j E h u => ⟨Nat.le_trans (Nat.le_add_right _ _) u.1, u.2.1, fun i h1 h2 => by
  by_cases c : i < f + j
  · exact h i h1 c
  · exact u.2.2.1 i (Nat.not_lt.mp c) h2, u.2.2.2⟩
theorem zt_nw1 {v t : Int} (h0 : 0 ≤ v) (h1 : v ≤ 999) (h2 : zt_dg t) : zv_w (zv_w (zv_w (v * 10) + t) - 48) = v * 10 + t - 48 := by
  unfold zt_dg at h2
  rw [zm_w (x := v * 10) (by omega), zm_w (x := v * 10 + t) (by omega), zm_w (by omega)]
theorem zt_nw2 {f j : Nat} (h : j ≤ 4) (hf : f + j ≤ 700) : zv_w (((f + j : Nat) : Int) - (f : Int)) = (j : Int) := by
  rw [zm_w (by omega)]
  omega
section
variable {T : Nat → Int} {n : Nat}
theorem zt_fail {d : Nat} {g : zv_H} (gL : zt_L g) (w : Int) : C3_fail (d + 1) 5 w g = some (0, zv_sI (zv_sI g 5 8 w) 5 9 (zv_I g 5 5)) := by
  refine lC3_fail (zl_ob gL zt_lay5) ?_
  rw [qE3_fail, zm_e (zl_pI gL zt_lay5 8 w), zm_e (zl_gI (g := zv_sI g 5 8 w) gL zt_lay5 5), zy_In _ _ (fun q => absurd q.2 (by decide)), zm_e (zl_pI (g := zv_sI g 5 8 w) gL zt_lay5 9 _)]
theorem zt_rf_fail (g : zv_H) (w : Int) : zt_rf g (zv_sI (zv_sI g 5 8 w) 5 9 (zv_I g 5 5)) := zt_rf_s (zt_rf_s (zt_rf_r g) (by decide) _) (by decide) _
/-- behind the digits -/
theorem zt_next242 {d : Nat} {g : zv_H} {f j : Nat} (gL : zt_L g) (h5 : zv_I g 5 5 = f) (h6 : zv_I g 5 6 = ((f + j : Nat) : Int)) (j4 : j ≤ 4) (fj : f + j ≤ 700) : L3_next_242 (d + 1) 5 g = if j ≤ 3 then some (some (zv_i 1), g) else some (some (zv_i 0), zv_sI (zv_sI g 5 8 1) 5 9 (zv_I g 5 5)) := by
  rw [qL3_next_242, zm_e (zl_gI gL zt_lay5 6), h6, zm_e (zl_gI gL zt_lay5 5), h5, zt_nw2 j4 fj]
  by_cases c : j ≤ 3
  · rw [if_pos (show (j : Int) ≤ 3 from Int.ofNat_le.mpr c), if_pos c]
  · rw [if_neg (show ¬ (j : Int) ≤ 3 from fun q => c (Int.ofNat_le.mp q)), if_neg c, zm_e (zt_fail gL 1), h5]
    rfl
theorem zt_next168 {d : Nat} {f : Nat} : ∀ (m j : Nat) (g : zv_H), f + j + m = n → j ≤ 4 → zt_tx T n g → zv_I g 5 5 = f → zv_I g 5 6 = ((f + j : Nat) : Int) → zv_I g 5 7 = zt_nv T f j → (∀ i : Nat, f ≤ i → i < f + j → zt_dg (T i)) → ∃ (E : Nat) (g' : zv_H), zt_up zt_dg T n f E ∧ zt_rf g g' ∧ zv_I g' 5 4 = zv_I g 5 4 ∧ zv_I g' 5 5 = f ∧ ((E ≤ f + 3 ∧ L3_next_168 (d + 1) 5 g = some (some (zv_i 1), g') ∧ zv_I g' 5 6 = E ∧ zv_I g' 5 7 = zt_nv T f (E - f) ∧ zv_I g' 5 8 = zv_I g 5 8 ∧ zv_I g' 5 9 = zv_I g 5 9) ∨ (f + 3 < E ∧ L3_next_168 (d + 1) 5 g = some (some (zv_i 0), g') ∧ zv_I g' 5 8 = 1 ∧ zv_I g' 5 9 = f)) := by
  intro m
  induction m with
  | zero =>
    intro j g he j4 X h5 h6 h7 hd
    have en : f + j = n := he
    have gL := zt_tx_L X
    have n7 := zt_tx_n X
    have u : zt_up zt_dg T n f (f + j) := zt_up_j j _ hd (zt_up_0 (Nat.le_of_eq en) (fun q => absurd q (by rw [en]; exact Nat.lt_irrefl _)))
    have go : L3_next_168 (d + 1) 5 g = L3_next_242 (d + 1) 5 g := by
      rw [qL3_next_168, zm_e (zl_gI gL zt_lay5 6), h6, zm_e (zl_gI gL zt_lay5 3), zt_tx_l X, en, if_neg (Int.lt_irrefl _)]
    rw [go, zt_next242 gL h5 h6 j4 (by omega)]
    by_cases c : j ≤ 3
    · rw [if_pos c]
      exact ⟨f + j, g, u, zt_rf_r g, rfl, h5, Or.inl ⟨Nat.add_le_add_left c f, rfl, h6, by rw [Nat.add_sub_cancel_left]; exact h7, rfl, rfl⟩⟩
    · rw [if_neg c]
      refine ⟨f + j, _, u, zt_rf_fail g 1, ?_, ?_, Or.inr ⟨Nat.add_lt_add_left (Nat.not_le.mp c) f, rfl, ?_, ?_⟩⟩
      · rw [zy_In _ _ (fun q => absurd q.2 (by decide)), zy_In _ _ (fun q => absurd q.2 (by decide))]
      · rw [zy_In _ _ (fun q => absurd q.2 (by decide)), zy_In _ _ (fun q => absurd q.2 (by decide))]; exact h5
      · rw [zy_In _ _ (fun q => absurd q.2 (by decide)), zy_I]
      · rw [zy_I]; exact h5
  | succ m ih =>
    intro j g he j4 X h5 h6 h7 hd
    have gL := zt_tx_L X
    have n7 := zt_tx_n X
    have en : f + j < n := by omega
    have e7 : f + j ≤ 700 := by omega
    have stop : ∀ E : Nat, zt_up zt_dg T n f E → (j ≤ 3 → E = f + j) → (¬ j ≤ 3 → f + 3 < E) → L3_next_168 (d + 1) 5 g = L3_next_242 (d + 1) 5 g → ∃ (E : Nat) (g' : zv_H), zt_up zt_dg T n f E ∧ zt_rf g g' ∧ zv_I g' 5 4 = zv_I g 5 4 ∧ zv_I g' 5 5 = f ∧ ((E ≤ f + 3 ∧ L3_next_168 (d + 1) 5 g = some (some (zv_i 1), g') ∧ zv_I g' 5 6 = E ∧ zv_I g' 5 7 = zt_nv T f (E - f) ∧ zv_I g' 5 8 = zv_I g 5 8 ∧ zv_I g' 5 9 = zv_I g 5 9) ∨ (f + 3 < E ∧ L3_next_168 (d + 1) 5 g = some (some (zv_i 0), g') ∧ zv_I g' 5 8 = 1 ∧ zv_I g' 5 9 = f)) := fun E u u3 u4 go => by
      rw [go, zt_next242 gL h5 h6 j4 e7]
      by_cases c : j ≤ 3
      · rw [if_pos c]
        have eE := u3 c
        subst eE
        exact ⟨f + j, g, u, zt_rf_r g, rfl, h5, Or.inl ⟨Nat.add_le_add_left c f, rfl, h6, by rw [Nat.add_sub_cancel_left]; exact h7, rfl, rfl⟩⟩
      · rw [if_neg c]
        refine ⟨E, _, u, zt_rf_fail g 1, ?_, ?_, Or.inr ⟨u4 c, rfl, ?_, ?_⟩⟩
        · rw [zy_In _ _ (fun q => absurd q.2 (by decide)), zy_In _ _ (fun q => absurd q.2 (by decide))]
        · rw [zy_In _ _ (fun q => absurd q.2 (by decide)), zy_In _ _ (fun q => absurd q.2 (by decide))]; exact h5
        · rw [zy_In _ _ (fun q => absurd q.2 (by decide)), zy_I]
        · rw [zy_I]; exact h5
    have ba := zt_byteAt (d := d) X (f + j) e7
    have eb : zt_at8 T n (f + j) = T (f + j) := if_pos en
    rw [eb] at ba
    have dg := zt_isDigit (d := d) (g := g) (T (f + j))
    by_cases c3 : j ≤ 3
    · by_cases c : zt_dg (T (f + j))
      · rw [if_pos c] at dg
        have vb := zt_nv_b j hd
        have wv := zt_nw1 vb.1 (Int.le_trans vb.2 (zt_nb3 j c3)) c
        have st : zt_rf g (zv_sI (zv_sI g 5 7 (zt_nv T f j * 10 + T (f + j) - 48)) 5 6 ((f + j + 1 : Nat) : Int)) := zt_rf_s (zt_rf_s (zt_rf_r g) (by decide) _) (by decide) _
        have ne : ∀ k, k ≠ 6 → k ≠ 7 → zv_I (zv_sI (zv_sI g 5 7 (zt_nv T f j * 10 + T (f + j) - 48)) 5 6 ((f + j + 1 : Nat) : Int)) 5 k = zv_I g 5 k := fun k k6 k7 => by
          rw [zy_In _ _ (fun q => k6 q.2), zy_In _ _ (fun q => k7 q.2)]
        obtain ⟨E, g', y1, y2, y3, y4, y5⟩ := ih (j + 1) _ (by omega) (Nat.succ_le_succ c3) (zt_tx_r X st) ((ne 5 (by decide) (by decide)).trans h5) (zy_I _ _ _ _) (by rw [zy_In _ _ (fun q => absurd q.2 (by decide)), zy_I]; rfl) (fun i h1 h2 => by
          by_cases z : i = f + j
          · rw [z]; exact c
          · exact hd i h1 (by omega))
        have go : L3_next_168 (d + 1) 5 g = L3_next_168 (d + 1) 5 (zv_sI (zv_sI g 5 7 (zt_nv T f j * 10 + T (f + j) - 48)) 5 6 ((f + j + 1 : Nat) : Int)) := by
          rw [qL3_next_168, zm_e (zl_gI gL zt_lay5 6), h6, zm_e (zl_gI gL zt_lay5 3), zt_tx_l X, if_pos (Int.ofNat_lt.mpr en), zm_e (zl_gI gL zt_lay5 6), h6, zm_e (zl_gI gL zt_lay5 5), h5, zt_nw2 j4 e7, if_pos (show (j : Int) ≤ 3 from Int.ofNat_le.mpr c3), zm_e (zl_gI gL zt_lay5 6), h6, zm_e ba]
          dsimp only
          rw [zm_e dg]
          dsimp only
          rw [if_neg (by decide), zm_e (zl_gI gL zt_lay5 7), h7, zm_e (zl_gI gL zt_lay5 6), h6, zm_e ba]
          dsimp only
          rw [wv, zm_e (zl_pI gL zt_lay5 7 _), zm_e (zl_gI (g := zv_sI g 5 7 (zt_nv T f j * 10 + T (f + j) - 48)) gL zt_lay5 6), zy_In _ _ (fun q => absurd q.2 (by decide)), h6, zt_tkw e7, zm_e (zl_pI (g := zv_sI g 5 7 (zt_nv T f j * 10 + T (f + j) - 48)) gL zt_lay5 6 _)]
        rw [go]
        refine ⟨E, g', y1, zt_rf_t st y2, y3.trans (ne 4 (by decide) (by decide)), y4, ?_⟩
        rcases y5 with ⟨z1, z2, z3, z4, z5, z6⟩ | z
        · exact Or.inl ⟨z1, z2, z3, z4, z5.trans (ne 8 (by decide) (by decide)), z6.trans (ne 9 (by decide) (by decide))⟩
        · exact Or.inr z
      · rw [if_neg c] at dg
        refine stop (f + j) (zt_up_j j _ hd (zt_up_0 (Nat.le_of_lt en) (fun _ => c))) (fun _ => rfl) (fun q => absurd c3 q) ?_
        rw [qL3_next_168, zm_e (zl_gI gL zt_lay5 6), h6, zm_e (zl_gI gL zt_lay5 3), zt_tx_l X, if_pos (Int.ofNat_lt.mpr en), zm_e (zl_gI gL zt_lay5 6), h6, zm_e (zl_gI gL zt_lay5 5), h5, zt_nw2 j4 e7, if_pos (show (j : Int) ≤ 3 from Int.ofNat_le.mpr c3), zm_e (zl_gI gL zt_lay5 6), h6, zm_e ba]
        dsimp only
        rw [zm_e dg]
        dsimp only
        rw [if_pos rfl]
    · obtain ⟨E, hE⟩ := zt_up_ex zt_dg T n (m + 1) (f + j) he
      refine stop E (zt_up_j j _ hd hE) (fun q => absurd q c3) (fun _ => Nat.lt_of_lt_of_le (Nat.add_lt_add_left (Nat.not_le.mp c3) f) hE.1) ?_
      rw [qL3_next_168, zm_e (zl_gI gL zt_lay5 6), h6, zm_e (zl_gI gL zt_lay5 3), zt_tx_l X, if_pos (Int.ofNat_lt.mpr en), zm_e (zl_gI gL zt_lay5 6), h6, zm_e (zl_gI gL zt_lay5 5), h5, zt_nw2 j4 e7, if_neg (show ¬ (j : Int) ≤ 3 from fun q => c3 (Int.ofNat_le.mp q))]
end
end
/-! A59.tokc3 -/
section
/-! ===== the tie: TOKENS, the class: the next one ===== -/
abbrev zt_sgn (x : Int) : Prop := (59 ≤ x ∧ x ≤ 62) ∨ x = 91 ∨ x = 93
/-- the next TOKEN behind e: from f, of kind t (4: none), up to E -/
def zt_tkn (T : Nat → Int) (n e f t E : Nat) : Prop := zt_up zt_bk T n e f ∧ ((t = 0 ∧ f = n ∧ E = n) ∨ (f < n ∧ ((t = 1 ∧ zt_sm (T f) ∧ zt_up zt_sm T n f E) ∨ (t = 2 ∧ zt_dg (T f) ∧ zt_up zt_dg T n f E ∧ E ≤ f + 3) ∨ (t = 3 ∧ ¬ zt_sm (T f) ∧ ¬ zt_dg (T f) ∧ zt_sgn (T f) ∧ E = f + 1) ∨ (t = 4 ∧ ((zt_dg (T f) ∧ zt_up zt_dg T n f E ∧ f + 3 < E) ∨ (¬ zt_sm (T f) ∧ ¬ zt_dg (T f) ∧ ¬ zt_sgn (T f) ∧ E = f + 1))))))
/-- it stands in the class's cells -/
def zt_tkc (T : Nat → Int) (g g' : zv_H) (f t E : Nat) : Prop := zv_I g' 5 5 = f ∧ ((t = 4 ∧ zv_I g' 5 8 = 1 ∧ zv_I g' 5 9 = f) ∨ (t ≠ 4 ∧ zv_I g' 5 4 = t ∧ zv_I g' 5 6 = E ∧ (t = 2 → zv_I g' 5 7 = zt_nv T f (E - f)) ∧ (t = 3 → zv_I g' 5 7 = T f) ∧ zv_I g' 5 8 = zv_I g 5 8 ∧ zv_I g' 5 9 = zv_I g 5 9))
section
variable {T : Nat → Int} {n : Nat}
theorem zt_sgn302 {d : Nat} {g : zv_H} (gL : zt_L g) {x : Int} (h7 : zv_I g 5 7 = x) : L3_next_302 (d + 1) 5 g = if x = 91 ∨ x = 93 then some (some (zv_i 1), g) else some (some (zv_i 0), zv_sI (zv_sI g 5 8 1) 5 9 (zv_I g 5 5)) := by
  rw [qL3_next_302, zm_e (zl_gI gL zt_lay5 7), h7]
  by_cases c : x = 91
  · rw [if_pos c, if_pos (Or.inl c)]
  · rw [if_neg c, zm_e (zl_gI gL zt_lay5 7), h7]
    by_cases c2 : x = 93
    · rw [if_pos c2, if_pos (Or.inr c2)]
    · rw [if_neg c2, if_neg (fun q => q.elim c c2), zm_e (zt_fail gL 1)]
      rfl
theorem zt_next58 {d : Nat} {e f : Nat} (u : zt_up zt_bk T n e f) {g : zv_H} (X : zt_tx T n g) (h5 : zv_I g 5 5 = f) : ∃ (t E : Nat) (g' : zv_H), zt_tkn T n e f t E ∧ L3_next_58 (d + 1) 5 g = some (some (zv_i (if t = 4 then 0 else 1)), g') ∧ zt_rf g g' ∧ zt_tkc T g g' f t E := by
  have gL := zt_tx_L X
  have n7 := zt_tx_n X
  have f7 : f ≤ 700 := Nat.le_trans u.2.1 n7
  have s1 : zt_rf g (zv_sI g 5 6 (f : Int)) := zt_rf_s (zt_rf_r g) (by decide) _
  have X1 := zt_tx_r X s1
  have s2 : zt_rf g (zv_sI (zv_sI g 5 6 (f : Int)) 5 7 (zt_at8 T n f)) := zt_rf_s s1 (by decide) _
  have X2 := zt_tx_r X s2
  have gL2 := zt_tx_L X2
  have n2 : ∀ k, k ≠ 6 → k ≠ 7 → zv_I (zv_sI (zv_sI g 5 6 (f : Int)) 5 7 (zt_at8 T n f)) 5 k = zv_I g 5 k := fun k k6 k7 => by
    rw [zy_In _ _ (fun q => k7 q.2), zy_In _ _ (fun q => k6 q.2)]
  have n26 : zv_I (zv_sI (zv_sI g 5 6 (f : Int)) 5 7 (zt_at8 T n f)) 5 6 = f := by
    rw [zy_In _ _ (fun q => absurd q.2 (by decide)), zy_I]
  have n27 : zv_I (zv_sI (zv_sI g 5 6 (f : Int)) 5 7 (zt_at8 T n f)) 5 7 = zt_at8 T n f := zy_I _ _ _ _
  have top : ∀ {R : zv_O}, (if zt_at8 T n f = -1 then (some (some (zv_i 1), zv_sI (zv_sI (zv_sI g 5 6 (f : Int)) 5 7 (zt_at8 T n f)) 5 4 0) : zv_O) else (if zt_sm (zt_at8 T n f) then L3_next_108 (d + 1) 5 (zv_sI (zv_sI (zv_sI g 5 6 (f : Int)) 5 7 (zt_at8 T n f)) 5 4 1) else (if zt_dg (zt_at8 T n f) then L3_next_168 (d + 1) 5 (zv_sI (zv_sI (zv_sI (zv_sI g 5 6 (f : Int)) 5 7 (zt_at8 T n f)) 5 4 2) 5 7 0) else (if zt_at8 T n f < 59 then L3_next_302 (d + 1) 5 (zv_sI (zv_sI (zv_sI (zv_sI g 5 6 (f : Int)) 5 7 (zt_at8 T n f)) 5 4 3) 5 6 ((f + 1 : Nat) : Int)) else (if zt_at8 T n f ≤ 62 then (some (some (zv_i 1), zv_sI (zv_sI (zv_sI (zv_sI g 5 6 (f : Int)) 5 7 (zt_at8 T n f)) 5 4 3) 5 6 ((f + 1 : Nat) : Int)) : zv_O) else L3_next_302 (d + 1) 5 (zv_sI (zv_sI (zv_sI (zv_sI g 5 6 (f : Int)) 5 7 (zt_at8 T n f)) 5 4 3) 5 6 ((f + 1 : Nat) : Int))))))) = R → L3_next_58 (d + 1) 5 g = R := fun {R} hR => by
    rw [qL3_next_58, zm_e (zl_gI gL zt_lay5 5), h5, zm_e (zl_pI gL zt_lay5 6 _), zm_e (zl_gI (g := zv_sI g 5 6 (f : Int)) gL zt_lay5 5), zy_In _ _ (fun q => absurd q.2 (by decide)), h5, zm_e (zt_byteAt X1 f f7)]
    dsimp only
    rw [zm_e (zl_pI (g := zv_sI g 5 6 (f : Int)) gL zt_lay5 7 _), zm_e (zl_gI gL2 zt_lay5 7), n27]
    by_cases c0 : zt_at8 T n f = -1
    · rw [if_pos c0] at hR ⊢
      rw [zm_e (zl_pI gL2 zt_lay5 4 _)]
      exact hR
    · rw [if_neg c0] at hR ⊢
      rw [zm_e (zl_gI gL2 zt_lay5 7), n27, zm_e (zt_isSmall _)]
      dsimp only
      by_cases c1 : zt_sm (zt_at8 T n f)
      · rw [if_pos c1] at hR ⊢
        rw [if_neg (by decide), zm_e (zl_pI gL2 zt_lay5 4 _)]
        exact hR
      · rw [if_neg c1] at hR ⊢
        rw [if_pos rfl, zm_e (zl_gI gL2 zt_lay5 7), n27, zm_e (zt_isDigit _)]
        dsimp only
        by_cases c2 : zt_dg (zt_at8 T n f)
        · rw [if_pos c2] at hR ⊢
          rw [if_neg (by decide), zm_e (zl_pI gL2 zt_lay5 4 _), zm_e (zl_pI (g := zv_sI (zv_sI (zv_sI g 5 6 (f : Int)) 5 7 (zt_at8 T n f)) 5 4 2) gL2 zt_lay5 7 _)]
          exact hR
        · rw [if_neg c2] at hR ⊢
          have gL3 : zt_L (zv_sI (zv_sI (zv_sI g 5 6 (f : Int)) 5 7 (zt_at8 T n f)) 5 4 3) := gL2
          have gL4 : zt_L (zv_sI (zv_sI (zv_sI (zv_sI g 5 6 (f : Int)) 5 7 (zt_at8 T n f)) 5 4 3) 5 6 ((f + 1 : Nat) : Int)) := gL2
          have e6 : zv_I (zv_sI (zv_sI (zv_sI g 5 6 (f : Int)) 5 7 (zt_at8 T n f)) 5 4 3) 5 6 = f := by rw [zy_In _ _ (fun q => absurd q.2 (by decide)), n26]
          have e7 : zv_I (zv_sI (zv_sI (zv_sI (zv_sI g 5 6 (f : Int)) 5 7 (zt_at8 T n f)) 5 4 3) 5 6 ((f + 1 : Nat) : Int)) 5 7 = zt_at8 T n f := by rw [zy_In _ _ (fun q => absurd q.2 (by decide)), zy_In _ _ (fun q => absurd q.2 (by decide)), n27]
          rw [if_pos rfl, zm_e (zl_pI gL2 zt_lay5 4 _), zm_e (zl_gI gL3 zt_lay5 6), e6, zt_tkw f7, zm_e (zl_pI gL3 zt_lay5 6 _), zm_e (zl_gI gL4 zt_lay5 7), e7]
          by_cases c3 : zt_at8 T n f < 59
          · rw [if_pos c3] at hR ⊢
            exact hR
          · rw [if_neg c3] at hR ⊢
            rw [zm_e (zl_gI gL4 zt_lay5 7), e7]
            exact hR
  by_cases fn : f < n
  · have e8 : zt_at8 T n f = T f := if_pos fn
    have tb := zt_tx_b X f fn
    rw [e8] at top n27 n2 n26 X2 gL2 s2
    have c0 : ¬ T f = -1 := fun q => by rw [q] at tb; exact absurd tb.1 (by decide)
    rw [if_neg c0] at top
    by_cases c1 : zt_sm (T f)
    · rw [if_pos c1] at top
      have s3 := zt_rf_s s2 (k := 4) (by decide) 1
      obtain ⟨E, g', y1, y2, y3, y4, y5⟩ := zt_next108 (d := d) (T := T) (n - f) f (zv_sI (zv_sI (zv_sI g 5 6 (f : Int)) 5 7 (T f)) 5 4 1) (Nat.add_sub_cancel' u.2.1) (zt_tx_r X s3) (by rw [zy_In _ _ (fun q => absurd q.2 (by decide)), n26])
      have z : ∀ k, k ≠ 6 → k ≠ 7 → k ≠ 4 → zv_I g' 5 k = zv_I g 5 k := fun k k6 k7 k4 => (y5 k k6).trans ((zy_In _ _ (fun q => k4 q.2)).trans (n2 k k6 k7))
      exact ⟨1, E, g', ⟨u, Or.inr ⟨fn, Or.inl ⟨rfl, c1, y2⟩⟩⟩, top y1, zt_rf_t s3 y3, (z 5 (by decide) (by decide) (by decide)).trans h5, Or.inr ⟨by decide, (y5 4 (by decide)).trans (zy_I _ _ _ _), y4, fun q => absurd q (by decide), fun q => absurd q (by decide), z 8 (by decide) (by decide) (by decide), z 9 (by decide) (by decide) (by decide)⟩⟩
    · rw [if_neg c1] at top
      by_cases c2 : zt_dg (T f)
      · rw [if_pos c2] at top
        have s3 := zt_rf_s (zt_rf_s s2 (k := 4) (by decide) 2) (k := 7) (by decide) 0
        have z : ∀ k, k ≠ 6 → k ≠ 7 → k ≠ 4 → zv_I (zv_sI (zv_sI (zv_sI (zv_sI g 5 6 (f : Int)) 5 7 (T f)) 5 4 2) 5 7 0) 5 k = zv_I g 5 k := fun k k6 k7 k4 => (zy_In _ _ (fun q => k7 q.2)).trans ((zy_In _ _ (fun q => k4 q.2)).trans (n2 k k6 k7))
        obtain ⟨E, g', y1, y2, y3, y4, y5⟩ := zt_next168 (d := d) (T := T) (f := f) (n - f) 0 (zv_sI (zv_sI (zv_sI (zv_sI g 5 6 (f : Int)) 5 7 (T f)) 5 4 2) 5 7 0) (Nat.add_sub_cancel' u.2.1) (by decide) (zt_tx_r X s3) ((z 5 (by decide) (by decide) (by decide)).trans h5) (by rw [zy_In _ _ (fun q => absurd q.2 (by decide)), zy_In _ _ (fun q => absurd q.2 (by decide)), n26]; rfl) (zy_I _ _ _ _) (fun i h1 h2 => absurd h2 (Nat.not_lt.mpr h1))
        have y3' : zv_I g' 5 4 = 2 := y3.trans ((zy_In _ _ (fun q => absurd q.2 (by decide))).trans (zy_I _ _ _ _))
        rcases y5 with ⟨w1, w2, w3, w4, w5, w6⟩ | ⟨w1, w2, w3, w4⟩
        · exact ⟨2, E, g', ⟨u, Or.inr ⟨fn, Or.inr (Or.inl ⟨rfl, c2, y1, w1⟩)⟩⟩, top w2, zt_rf_t s3 y2, y4, Or.inr ⟨by decide, y3', w3, fun _ => w4, fun q => absurd q (by decide), w5.trans (z 8 (by decide) (by decide) (by decide)), w6.trans (z 9 (by decide) (by decide) (by decide))⟩⟩
        · exact ⟨4, E, g', ⟨u, Or.inr ⟨fn, Or.inr (Or.inr (Or.inr ⟨rfl, Or.inl ⟨c2, y1, w1⟩⟩))⟩⟩, top w2, zt_rf_t s3 y2, y4, Or.inl ⟨rfl, w3, w4⟩⟩
      · rw [if_neg c2] at top
        have s3 := zt_rf_s (zt_rf_s s2 (k := 4) (by decide) 3) (k := 6) (by decide) ((f + 1 : Nat) : Int)
        have gL3 : zt_L (zv_sI (zv_sI (zv_sI (zv_sI g 5 6 (f : Int)) 5 7 (T f)) 5 4 3) 5 6 ((f + 1 : Nat) : Int)) := gL2
        have z : ∀ k, k ≠ 6 → k ≠ 7 → k ≠ 4 → zv_I (zv_sI (zv_sI (zv_sI (zv_sI g 5 6 (f : Int)) 5 7 (T f)) 5 4 3) 5 6 ((f + 1 : Nat) : Int)) 5 k = zv_I g 5 k := fun k k6 k7 k4 => (zy_In _ _ (fun q => k6 q.2)).trans ((zy_In _ _ (fun q => k4 q.2)).trans (n2 k k6 k7))
        have z7 : zv_I (zv_sI (zv_sI (zv_sI (zv_sI g 5 6 (f : Int)) 5 7 (T f)) 5 4 3) 5 6 ((f + 1 : Nat) : Int)) 5 7 = T f := by rw [zy_In _ _ (fun q => absurd q.2 (by decide)), zy_In _ _ (fun q => absurd q.2 (by decide)), n27]
        have z4 : zv_I (zv_sI (zv_sI (zv_sI (zv_sI g 5 6 (f : Int)) 5 7 (T f)) 5 4 3) 5 6 ((f + 1 : Nat) : Int)) 5 4 = 3 := by rw [zy_In _ _ (fun q => absurd q.2 (by decide)), zy_I]
        have e302 := zt_sgn302 (d := d) gL3 z7
        have z5 := (z 5 (by decide) (by decide) (by decide)).trans h5
        have yes : zt_sgn (T f) → L3_next_58 (d + 1) 5 g = some (some (zv_i 1), zv_sI (zv_sI (zv_sI (zv_sI g 5 6 (f : Int)) 5 7 (T f)) 5 4 3) 5 6 ((f + 1 : Nat) : Int)) → ∃ (t E : Nat) (g' : zv_H), zt_tkn T n e f t E ∧ L3_next_58 (d + 1) 5 g = some (some (zv_i (if t = 4 then 0 else 1)), g') ∧ zt_rf g g' ∧ zt_tkc T g g' f t E := fun sg go => ⟨3, f + 1, _, ⟨u, Or.inr ⟨fn, Or.inr (Or.inr (Or.inl ⟨rfl, c1, c2, sg, rfl⟩))⟩⟩, go, s3, z5, Or.inr ⟨by decide, z4, zy_I _ _ _ _, fun q => absurd q (by decide), fun _ => z7, z 8 (by decide) (by decide) (by decide), z 9 (by decide) (by decide) (by decide)⟩⟩
        have no : ¬ zt_sgn (T f) → L3_next_58 (d + 1) 5 g = L3_next_302 (d + 1) 5 (zv_sI (zv_sI (zv_sI (zv_sI g 5 6 (f : Int)) 5 7 (T f)) 5 4 3) 5 6 ((f + 1 : Nat) : Int)) → ∃ (t E : Nat) (g' : zv_H), zt_tkn T n e f t E ∧ L3_next_58 (d + 1) 5 g = some (some (zv_i (if t = 4 then 0 else 1)), g') ∧ zt_rf g g' ∧ zt_tkc T g g' f t E := fun sg go => by
          rw [e302, if_neg (fun q => sg (Or.inr q))] at go
          refine ⟨4, f + 1, _, ⟨u, Or.inr ⟨fn, Or.inr (Or.inr (Or.inr ⟨rfl, Or.inr ⟨c1, c2, sg, rfl⟩⟩))⟩⟩, go, zt_rf_t s3 (zt_rf_fail _ 1), ?_, Or.inl ⟨rfl, ?_, ?_⟩⟩
          · rw [zy_In _ _ (fun q => absurd q.2 (by decide)), zy_In _ _ (fun q => absurd q.2 (by decide))]; exact z5
          · rw [zy_In _ _ (fun q => absurd q.2 (by decide)), zy_I]
          · rw [zy_I]; exact z5
        by_cases c3 : T f < 59
        · rw [if_pos c3] at top
          by_cases c4 : T f = 91 ∨ T f = 93
          · rw [if_pos c4] at e302
            exact yes (Or.inr c4) (top e302)
          · exact no (fun q => q.elim (fun w => absurd c3 (Int.not_lt.mpr w.1)) c4) (top rfl)
        · rw [if_neg c3] at top
          by_cases c5 : T f ≤ 62
          · rw [if_pos c5] at top
            exact yes (Or.inl ⟨Int.not_lt.mp c3, c5⟩) (top rfl)
          · rw [if_neg c5] at top
            by_cases c4 : T f = 91 ∨ T f = 93
            · rw [if_pos c4] at e302
              exact yes (Or.inr c4) (top e302)
            · exact no (fun q => q.elim (fun w => c5 w.2) c4) (top rfl)
  · have e8 : zt_at8 T n f = -1 := if_neg fn
    have en : f = n := Nat.le_antisymm u.2.1 (Nat.not_lt.mp fn)
    rw [e8] at top n27 n2 n26 X2 gL2 s2
    rw [if_pos rfl] at top
    have s3 := zt_rf_s s2 (k := 4) (by decide) 0
    have z : ∀ k, k ≠ 6 → k ≠ 7 → k ≠ 4 → zv_I (zv_sI (zv_sI (zv_sI g 5 6 (f : Int)) 5 7 (-1)) 5 4 0) 5 k = zv_I g 5 k := fun k k6 k7 k4 => (zy_In _ _ (fun q => k4 q.2)).trans (n2 k k6 k7)
    exact ⟨0, n, _, ⟨u, Or.inl ⟨rfl, en, rfl⟩⟩, top rfl, s3, (z 5 (by decide) (by decide) (by decide)).trans h5, Or.inr ⟨by decide, zy_I _ _ _ _, by rw [zy_In _ _ (fun q => absurd q.2 (by decide)), n26, en], fun q => absurd q (by decide), fun q => absurd q (by decide), z 8 (by decide) (by decide) (by decide), z 9 (by decide) (by decide) (by decide)⟩⟩
theorem zt_next {d : Nat} {e : Nat} (he : e ≤ n) {g : zv_H} (X : zt_tx T n g) (h6 : zv_I g 5 6 = e) : ∃ (f t E : Nat) (g' : zv_H), zt_tkn T n e f t E ∧ C3_next (d + 2) 5 g = some ((if t = 4 then 0 else 1), g') ∧ zt_rf g g' ∧ zt_tkc T g g' f t E := by
  have gL := zt_tx_L X
  have s1 : zt_rf g (zv_sI g 5 5 (e : Int)) := zt_rf_s (zt_rf_r g) (by decide) _
  obtain ⟨f, g1, y1, y2, y3, y4, y5⟩ := zt_next8 (d := d) (n - e) e (zv_sI g 5 5 (e : Int)) (Nat.add_sub_cancel' he) (zt_tx_r X s1) (zy_I _ _ _ _)
  obtain ⟨t, E, g', w1, w2, w3, w4⟩ := zt_next58 (d := d) y2 (zt_tx_r X (zt_rf_t s1 y3)) y4
  have z : ∀ k, k ≠ 5 → zv_I g1 5 k = zv_I g 5 k := fun k hk => (y5 k hk).trans (zy_In _ _ (fun q => hk q.2))
  refine ⟨f, t, E, g', w1, lC3_next (zl_ob gL zt_lay5) ?_, zt_rf_t (zt_rf_t s1 y3) w3, w4.1, ?_⟩
  · rw [qE3_next, zm_e (zl_gI gL zt_lay5 6), h6, zm_e (zl_pI gL zt_lay5 5 _), y1]
    exact w2
  · rcases w4.2 with q | ⟨q1, q2, q3, q4, q5, q6, q7⟩
    · exact Or.inl q
    · exact Or.inr ⟨q1, q2, q3, q4, q5, q6.trans (z 8 (by decide)), q7.trans (z 9 (by decide))⟩
end
end
/-! A60.tokr -/
section
/-! ===== the tie: TOKENS, the reference ===== -/
def zt_sb (x : Int) : Int := if x < 128 then x else x - 256
/-- the text, in the reference's cells -/
def zt_ty (T : Nat → Int) (n : Nat) (h : zv_H) : Prop := (zm_M h) ∧ (n ≤ 700) ∧ (zv_I h 347 36 = n) ∧ (∀ i : Nat, i < n → zv_I h 366 i = zt_sb (T i)) ∧ (∀ i : Nat, i < n → 0 ≤ T i ∧ T i ≤ 255)
theorem zt_ty_M {T : Nat → Int} {n : Nat} {h : zv_H} (t : zt_ty T n h) : zm_M h := t.1
theorem zt_ty_n {T : Nat → Int} {n : Nat} {h : zv_H} (t : zt_ty T n h) : n ≤ 700 := t.2.1
theorem zt_ty_l {T : Nat → Int} {n : Nat} {h : zv_H} (t : zt_ty T n h) : zv_I h 347 36 = n := t.2.2.1
theorem zt_ty_t {T : Nat → Int} {n : Nat} {h : zv_H} (t : zt_ty T n h) : ∀ i : Nat, i < n → zv_I h 366 i = zt_sb (T i) := t.2.2.2.1
theorem zt_ty_b {T : Nat → Int} {n : Nat} {h : zv_H} (t : zt_ty T n h) : ∀ i : Nat, i < n → 0 ≤ T i ∧ T i ≤ 255 := t.2.2.2.2
/-- the word that is looked at, as a number: so many letters -/
def zt_cdw (T : Nat → Int) (f : Nat) : Nat → Int64
  | 0 => Int64.ofNat 0
  | j + 1 => (27 : Int64) * zt_cdw T f j + zv_i2l (T (f + j)) - 96
theorem zt_sb_in {x a b : Int} (h : 0 ≤ x ∧ x ≤ 255) (h1 : 0 ≤ a) (h2 : b ≤ 127) : (a ≤ zt_sb x ∧ zt_sb x ≤ b) ↔ (a ≤ x ∧ x ≤ b) := by
  unfold zt_sb
  by_cases c : x < 128
  · rw [if_pos c]
  · rw [if_neg c]
    omega
theorem zt_sb_eq {x a : Int} (h : 0 ≤ x ∧ x ≤ 255) (h1 : 0 ≤ a ∧ a ≤ 127) : zt_sb x = a ↔ x = a := by
  unfold zt_sb
  by_cases c : x < 128
  · rw [if_pos c]
  · rw [if_neg c]
    omega
theorem zt_sb_lt {x : Int} (h : x < 128) : zt_sb x = x := if_pos h
section
variable {T : Nat → Int} {n : Nat} {h : zv_H}
theorem zt_ty_r {h' : zv_H} (Y : zt_ty T n h) (f : zm_rF h h') : zt_ty T n h' := ⟨zm_F_M f (zt_ty_M Y), zt_ty_n Y, (zm_F_g f 36).trans (zt_ty_l Y), fun i hi => by rw [zm_F_a f 366]; exact zt_ty_t Y i hi, zt_ty_b Y⟩
theorem zt_isOf {d : Nat} (Y : zt_ty T n h) {a b : Int} (h1 : 0 ≤ a) (h2 : b ≤ 127) (x : Nat) : C9_isOf (d + 2) 347 (x : Int) a b h = some (if x < n ∧ a ≤ T x ∧ T x ≤ b then 1 else 0, h) := by
  have e36 := zt_ty_l Y
  rw [zm_isOf (zt_ty_M Y) d (Int.natCast_nonneg _) (by rw [e36]; exact Int.ofNat_le.mpr (zt_ty_n Y)) a b, e36, Int.toNat_natCast]
  by_cases c : x < n
  · rw [zt_ty_t Y x c]
    by_cases c2 : a ≤ T x ∧ T x ≤ b
    · rw [if_pos ⟨Int.ofNat_lt.mpr c, (zt_sb_in (zt_ty_b Y x c) h1 h2).mpr c2⟩, if_pos ⟨c, c2⟩]
    · rw [if_neg (fun q => c2 ((zt_sb_in (zt_ty_b Y x c) h1 h2).mp q.2)), if_neg (fun q => c2 q.2)]
  · rw [if_neg (fun q => c (Int.ofNat_lt.mp q.1)), if_neg (fun q => c q.1)]
theorem zt_aB8 (Y : zt_ty T n h) {x : Nat} (hx : x < n) : zv_aB h 366 (x : Int) = some (zt_sb (T x)) := by
  rw [zm_aB (zt_ty_M Y) zm_l366 (Or.inr rfl) rfl (Int.natCast_nonneg _) (Int.ofNat_lt.mpr (Nat.lt_of_lt_of_le hx (zt_ty_n Y))), Int.toNat_natCast, zt_ty_t Y x hx]
/-- the reference passes the blanks -/
theorem zt_rd8 {d : Nat} : ∀ (m e : Nat) (h : zv_H), e + m = n → zt_ty T n h → zv_I h 347 32 = e → ∃ (f : Nat) (h' : zv_H), L9_reads_8 d 347 h = L9_reads_60 d 347 h' ∧ zt_up zt_bk T n e f ∧ zm_rF h h' ∧ zv_I h' 347 32 = f := by
  intro m
  induction m with
  | zero =>
    intro e h he Y h5
    have en : e = n := he
    have hM := zt_ty_M Y
    refine ⟨e, h, ?_, zt_up_0 (Nat.le_of_eq en) (fun q => absurd q (by rw [en]; exact Nat.lt_irrefl _)), zm_F_r _ _ h, h5⟩
    rw [qL9_reads_8, zm_e (zm_gI hM 32), h5, zm_e (zm_gI hM 36), zt_ty_l Y, en, if_neg (Int.lt_irrefl _)]
  | succ m ih =>
    intro e h he Y h5
    have hM := zt_ty_M Y
    have n7 := zt_ty_n Y
    have en : e < n := by omega
    have e7 : e ≤ 700 := by omega
    have ba := zt_aB8 Y en
    have tb := zt_ty_b Y e en
    have st : zm_rF h (zv_sI h 347 32 ((e + 1 : Nat) : Int)) := zm_rF_f (zm_F_r _ _ h) (Or.inl rfl) _
    have go : zt_bk (T e) → L9_reads_8 d 347 h = L9_reads_8 d 347 (zv_sI h 347 32 ((e + 1 : Nat) : Int)) := fun c => by
      rw [qL9_reads_8, zm_e (zm_gI hM 32), h5, zm_e (zm_gI hM 36), zt_ty_l Y, if_pos (Int.ofNat_lt.mpr en), zm_e (zm_f26 hM), zm_e (zm_gI hM 32), h5, zm_e ba]
      by_cases c1 : T e = 10
      · rw [if_pos ((zt_sb_eq tb (by decide)).mpr c1), zm_e (zm_gI hM 32), h5, zt_tkw e7, zm_e (zm_pI hM 32 _)]
      · rw [if_neg (fun q => c1 ((zt_sb_eq tb (by decide)).mp q)), zm_e (zm_f26 hM), zm_e (zm_gI hM 32), h5, zm_e ba, if_pos ((zt_sb_eq tb (by decide)).mpr (c.resolve_right c1)), zm_e (zm_gI hM 32), h5, zt_tkw e7, zm_e (zm_pI hM 32 _)]
    by_cases c : zt_bk (T e)
    · obtain ⟨f, h', y1, y2, y3, y4⟩ := ih (e + 1) (zv_sI h 347 32 ((e + 1 : Nat) : Int)) (by omega) (zt_ty_r Y st) (zy_I _ _ _ _)
      exact ⟨f, h', (go c).trans y1, zt_up_s c y2, zm_rF_t st y3, y4⟩
    · refine ⟨e, h, ?_, zt_up_0 (Nat.le_of_lt en) (fun _ => c), zm_F_r _ _ h, h5⟩
      rw [qL9_reads_8, zm_e (zm_gI hM 32), h5, zm_e (zm_gI hM 36), zt_ty_l Y, if_pos (Int.ofNat_lt.mpr en), zm_e (zm_f26 hM), zm_e (zm_gI hM 32), h5, zm_e ba, if_neg (fun q => c (Or.inr ((zt_sb_eq tb (by decide)).mp q))), zm_e (zm_f26 hM), zm_e (zm_gI hM 32), h5, zm_e ba, if_neg (fun q => c (Or.inl ((zt_sb_eq tb (by decide)).mp q)))]
theorem zt_tkd {f x : Nat} (h1 : f ≤ x) (h2 : x ≤ 701) : zv_w ((x : Int) - (f : Int)) = ((x - f : Nat) : Int) := by
  rw [zm_w (by omega)]
  omega
/-- the reference passes a word -/
theorem zt_rd146 {d f : Nat} : ∀ (m x : Nat) (h : zv_H), x + m = n → f ≤ x → zt_ty T n h → zv_I h 347 32 = f → zv_I h 347 33 = x → zv_J h 347 38 = zt_cdw T f (min (x - f) 9) → (∀ i : Nat, f ≤ i → i < x → zt_sm (T i)) → ∃ (E : Nat) (h' : zv_H), L9_reads_146 (d + 2) 347 h = some (none, h') ∧ zt_up zt_sm T n f E ∧ zm_rF h h' ∧ zv_I h' 347 32 = f ∧ zv_I h' 347 33 = E ∧ zv_I h' 347 34 = zv_I h 347 34 ∧ zv_J h' 347 38 = zt_cdw T f (min (E - f) 9) := by
  intro m
  have stop : ∀ (x : Nat) (h : zv_H), f ≤ x → x ≤ n → zt_ty T n h → zv_I h 347 32 = f → zv_I h 347 33 = x → zv_J h 347 38 = zt_cdw T f (min (x - f) 9) → (∀ i : Nat, f ≤ i → i < x → zt_sm (T i)) → (x < n → ¬ zt_sm (T x)) → ∃ (E : Nat) (h' : zv_H), L9_reads_146 (d + 2) 347 h = some (none, h') ∧ zt_up zt_sm T n f E ∧ zm_rF h h' ∧ zv_I h' 347 32 = f ∧ zv_I h' 347 33 = E ∧ zv_I h' 347 34 = zv_I h 347 34 ∧ zv_J h' 347 38 = zt_cdw T f (min (E - f) 9) := by
    intro x h fx xn Y h2 h3 hJ hs c
    have hM := zt_ty_M Y
    refine ⟨x, h, ?_, ⟨fx, xn, hs, c⟩, zm_F_r _ _ h, h2, h3, rfl, hJ⟩
    have is := zt_isOf (d := d) Y (a := 97) (b := 122) (by decide) (by decide) x
    rw [if_neg (fun q => c q.1 q.2)] at is
    rw [qL9_reads_146, zm_e (zm_gI hM 33), h3, zm_e is]
    dsimp only
    rw [if_pos rfl]
  induction m with
  | zero =>
    intro x h he fx Y h2 h3 hJ hs
    have en : x = n := he
    exact stop x h fx (Nat.le_of_eq en) Y h2 h3 hJ hs (fun q => absurd q (by rw [en]; exact Nat.lt_irrefl _))
  | succ m ih =>
    intro x h he fx Y h2 h3 hJ hs
    have hM := zt_ty_M Y
    have n7 := zt_ty_n Y
    have xn : x < n := by omega
    have x7 : x ≤ 700 := by omega
    by_cases c : zt_sm (T x)
    · have is := zt_isOf (d := d) Y (a := 97) (b := 122) (by decide) (by decide) x
      rw [if_pos ⟨xn, c⟩] at is
      have e128 : T x < 128 := Int.lt_of_le_of_lt c.2 (by decide)
      have ba := zt_aB8 Y xn
      rw [zt_sb_lt e128] at ba
      have hs' : ∀ i : Nat, f ≤ i → i < x + 1 → zt_sm (T i) := fun i h1 h2 => by
        by_cases z : i = x
        · rw [z]; exact c
        · exact hs i h1 (by omega)
      have nx : ∀ v : Int64, v = zt_cdw T f (min (x + 1 - f) 9) → ∃ (E : Nat) (h' : zv_H), L9_reads_146 (d + 2) 347 (zv_sI (zv_sJ h 347 38 v) 347 33 ((x + 1 : Nat) : Int)) = some (none, h') ∧ zt_up zt_sm T n f E ∧ zm_rF h h' ∧ zv_I h' 347 32 = f ∧ zv_I h' 347 33 = E ∧ zv_I h' 347 34 = zv_I h 347 34 ∧ zv_J h' 347 38 = zt_cdw T f (min (E - f) 9) := fun v hv => by
        have st : zm_rF h (zv_sI (zv_sJ h 347 38 v) 347 33 ((x + 1 : Nat) : Int)) := zm_rF_f (zm_F_k (zm_F_r _ _ h) rfl _) (Or.inr (Or.inl rfl)) _
        obtain ⟨E, h', y1, y2, y3, y4, y5, y6, y7⟩ := ih (x + 1) _ (by omega) (Nat.le_succ_of_le fx) (zt_ty_r Y st) ((zy_In _ _ (fun q => absurd q.2 (by decide))).trans h2) (zy_I _ _ _ _) ((zm_sJJ h v).trans hv) hs'
        exact ⟨E, h', y1, y2, zm_rF_t st y3, y4, y5, y6.trans (zy_In _ _ (fun q => absurd q.2 (by decide))), y7⟩
      have hM1 : ∀ v : Int64, zm_M (zv_sJ h 347 38 v) := fun v => zm_F_M (zm_F_k (zm_F_r [] [38] h) rfl v) hM
      have e33 : ∀ v : Int64, zv_I (zv_sJ h 347 38 v) 347 33 = x := fun _ => h3
      by_cases c9 : x - f < 9
      · obtain ⟨E, h', y1, y2⟩ := nx ((27 : Int64) * zv_J h 347 38 + zv_i2l (T x) - 96) (by
          rw [hJ, Nat.min_eq_left (Nat.le_of_lt c9), Nat.min_eq_left (show x + 1 - f ≤ 9 by omega), show x + 1 - f = (x - f) + 1 by omega]
          show _ = (27 : Int64) * zt_cdw T f (x - f) + zv_i2l (T (f + (x - f))) - 96
          rw [Nat.add_sub_cancel' fx])
        refine ⟨E, h', ?_, y2⟩
        rw [qL9_reads_146, zm_e (zm_gI hM 33), h3, zm_e is]
        dsimp only
        rw [if_neg (by decide), zm_e (zm_gI hM 33), h3, zm_e (zm_gI hM 32), h2, zt_tkd fx (Nat.le_succ_of_le x7), if_pos (show ((x - f : Nat) : Int) < 9 from Int.ofNat_lt.mpr c9), zm_e (zm_gJ hM 38), zm_e (zm_f26 hM), zm_e (zm_gI hM 33), h3, zm_e ba, zm_e (zm_pJ hM 38 _), zm_e (zm_gI (hM1 _) 33), e33, zt_tkw x7, zm_e (zm_pI (hM1 _) 33 _)]
        exact y1
      · obtain ⟨E, h', y1, y2⟩ := nx (zv_J h 347 38) (by
          rw [hJ, Nat.min_eq_right (Nat.not_lt.mp c9), Nat.min_eq_right (show 9 ≤ x + 1 - f by omega)])
        refine ⟨E, h', ?_, y2⟩
        rw [qL9_reads_146, zm_e (zm_gI hM 33), h3, zm_e is]
        dsimp only
        rw [if_neg (by decide), zm_e (zm_gI hM 33), h3, zm_e (zm_gI hM 32), h2, zt_tkd fx (Nat.le_succ_of_le x7), if_neg (show ¬ ((x - f : Nat) : Int) < 9 from fun q => c9 (Int.ofNat_lt.mp q)), zm_e (zm_gJ hM 38), zm_e (zm_pJ hM 38 _), zm_e (zm_gI (hM1 _) 33), e33, zt_tkw x7, zm_e (zm_pI (hM1 _) 33 _)]
        exact y1
    · exact stop x h fx (Nat.le_of_lt xn) Y h2 h3 hJ hs (fun _ => c)
end
end
/-! A61.tokr2 -/
section
/-! ===== the tie: TOKENS, the reference: signs, numbers, any ===== -/
theorem zt_getD_mem {l : List Int} {i : Nat} (hi : i < l.length) : l.getD i 0 ∈ l := by
  rw [List.getD_eq_getElem?_getD, List.getElem?_eq_getElem hi]
  exact List.getElem_mem hi
theorem zt_mem_getD {l : List Int} {v : Int} (h : v ∈ l) : ∃ j, j < l.length ∧ l.getD j 0 = v := by
  obtain ⟨j, hj, e⟩ := List.mem_iff_getElem.mp h
  refine ⟨j, hj, ?_⟩
  rw [List.getD_eq_getElem?_getD, List.getElem?_eq_getElem hj]
  exact e
theorem zt_iox {r : Nat} (h : zv_H) (d : Nat) (hr : 1000000 ≤ r ∧ r < 1000024) {m : Nat} (hm : m = (zm_tx r).length) (v : Int) : ∀ n i : Nat, i + n = m → (∀ j : Nat, j < i → (zm_tx r).getD j 0 ≠ v) → ∃ u : Int, L14_indexOfChar_7 d (r + 100) m v i h = some (some (zv_i u), h) ∧ (u < 0 ↔ ¬ v ∈ zm_tx r) := by
  intro n
  induction n with
  | zero =>
    intro i hi no
    have im : i = m := hi
    refine ⟨-1, by rw [qL14_indexOfChar_7, im, if_neg (Int.lt_irrefl _)], fun _ q => ?_, fun _ => by decide⟩
    obtain ⟨j, hj, e⟩ := zt_mem_getD q
    exact no j (by rw [im, hm]; exact hj) e
  | succ n ih =>
    intro i hi no
    have h2 := (zm_tx_l (r := r)).1
    rw [← hm] at h2
    have iM : i < m := by clear hr hm no; omega
    have il : i < (zm_tx r).length := by rw [← hm]; exact iM
    have w1 : zv_w ((i : Int) + 1) = ((i + 1 : Nat) : Int) := zt_tkw (Nat.le_trans (Nat.le_of_lt iM) (Nat.le_trans h2 (by decide)))
    rw [qL14_indexOfChar_7, if_pos (Int.ofNat_lt.mpr iM), zm_e (zm_taB h hr (Int.natCast_nonneg _) (Int.ofNat_lt.mpr il)), Int.toNat_natCast]
    by_cases c1 : (zm_tx r).getD i 0 = v
    · rw [if_pos c1]
      refine ⟨i, rfl, fun q => absurd q (Int.not_lt.mpr (Int.natCast_nonneg _)), fun q => absurd ?_ q⟩
      rw [← c1]
      exact zt_getD_mem il
    · rw [if_neg c1, w1]
      exact ih (i + 1) (by clear hr hm no c1; omega) (fun j hj => by
        by_cases z : j = i
        · rw [z]; exact c1
        · exact no j (Nat.lt_of_le_of_ne (Nat.le_of_lt_succ hj) z))
theorem zt_jIndexOf {r : Nat} (h : zv_H) (d : Nat) (hr : 1000000 ≤ r ∧ r < 1000024) (ch : Int) : ∃ u : Int, C13_indexOf (d + 4) r ch h = some (u, h) ∧ (u < 0 ↔ ¬ ((0 ≤ ch ∧ ch ≤ 255) ∧ zv_i2b ch ∈ zm_tx r)) := by
  have h2 := (zm_tx_l (r := r)).1
  have can : C14_canEncode (d + 1) ch h = some ((if 0 ≤ ch ∧ ch ≤ 255 then 1 else 0), h) := by
    refine lC14_canEncode ?_
    rw [qE14_canEncode]
    by_cases c1 : ch < 0
    · rw [if_pos c1, if_neg (fun q => absurd q.1 (Int.not_le.mpr c1))]
    · rw [if_neg c1]
      by_cases c2 : ch ≤ 255
      · rw [if_pos c2, if_pos ⟨Int.not_lt.mp c1, c2⟩]
      · rw [if_neg c2, if_neg (fun q => c2 q.2)]
  have e1 : ∃ u : Int, C14_indexOf (d + 2) (r + 100) ch 0 ((zm_tx r).length : Int) h = some (u, h) ∧ (u < 0 ↔ ¬ ((0 ≤ ch ∧ ch ≤ 255) ∧ zv_i2b ch ∈ zm_tx r)) := by
    have main : ∃ u : Int, E14_indexOf (d + 1) (r + 100) ch 0 ((zm_tx r).length : Int) h = some (some (zv_i u), h) ∧ (u < 0 ↔ ¬ ((0 ≤ ch ∧ ch ≤ 255) ∧ zv_i2b ch ∈ zm_tx r)) := by
      rw [qE14_indexOf, zm_e can]
      dsimp only
      by_cases c0 : 0 ≤ ch ∧ ch ≤ 255
      · rw [if_pos c0, if_neg (by decide), zm_e (zm_tal h hr), Int.max_self, Int.min_self]
        by_cases c2 : (0 : Int) < (zm_tx r).length
        · obtain ⟨u, eu, iu⟩ := zt_iox h d hr (m := (zm_tx r).length) rfl (zv_i2b ch) (zm_tx r).length 0 (Nat.zero_add _) (fun j hj => absurd hj (Nat.not_lt_zero _))
          have e3 : C14_indexOfChar (d + 1) (r + 100) ch 0 ((zm_tx r).length : Int) h = some (u, h) := by
            refine lC14_indexOfChar ?_
            rw [qE14_indexOfChar]
            exact eu
          rw [if_pos c2, zm_e e3]
          exact ⟨u, rfl, iu.trans ⟨fun q w => q w.2, fun q w => q ⟨c0, w⟩⟩⟩
        · rw [if_neg c2]
          refine ⟨-1, rfl, fun _ q => ?_, fun _ => by decide⟩
          have := List.length_pos_of_mem q.2
          omega
      · rw [if_neg c0, if_pos rfl]
        exact ⟨-1, rfl, fun _ q => c0 q.1, fun _ => by decide⟩
    obtain ⟨u, e, i⟩ := main
    exact ⟨u, lC14_indexOf e, i⟩
  obtain ⟨u, eu, iu⟩ := e1
  have e2 : C13_indexOf2 (d + 3) r ch 0 h = some (u, h) := by
    refine lC13_indexOf2 hr ?_
    rw [qE13_indexOf2, zm_e (zm_isLatin1 h _ hr)]
    dsimp only
    rw [if_neg (by decide), zm_e (zm_tV hr), zm_e (zm_slen h d hr)]
    dsimp only
    rw [zm_e eu]
  refine ⟨u, lC13_indexOf hr ?_, iu⟩
  rw [qE13_indexOf, zm_e e2]
theorem zt_sgn_d : ∀ x : Nat, x ≤ 255 → (((0 ≤ zv_i2c (zt_sb x) ∧ zv_i2c (zt_sb x) ≤ 255) ∧ zv_i2b (zv_i2c (zt_sb x)) ∈ zm_tx 1000023) ↔ zt_sgn x) := by decide +kernel
section
variable {T : Nat → Int} {n : Nat}
theorem zt_nv10 (v t : Int) : 10 * v + t - 48 = v * 10 + t - 48 := by rw [Int.mul_comm]
theorem zt_nw3 {v t : Int} (h0 : 0 ≤ v) (h1 : v ≤ 999) (h2 : zt_dg t) : zv_w (zv_w (zv_w (10 * v) + t) - 48) = v * 10 + t - 48 := by
  unfold zt_dg at h2
  rw [zm_w (x := 10 * v) (by omega), zm_w (x := 10 * v + t) (by omega), zm_w (by omega)]
  omega
/-- the reference passes a number -/
theorem zt_rd250 {d f : Nat} : ∀ (m x : Nat) (h : zv_H), x + m = n → f ≤ x → zt_ty T n h → zv_I h 347 32 = f → zv_I h 347 33 = x → zv_I h 347 35 = zt_nv T f (min (x - f) 3) → (∀ i : Nat, f ≤ i → i < x → zt_dg (T i)) → ∃ (E : Nat) (h' : zv_H), L9_reads_250 (d + 2) 347 h = some (none, h') ∧ zt_up zt_dg T n f E ∧ zm_rF h h' ∧ zv_I h' 347 32 = f ∧ zv_I h' 347 33 = E ∧ zv_I h' 347 34 = (if E ≤ f + 3 then 2 else 4) ∧ zv_I h' 347 35 = zt_nv T f (min (E - f) 3) := by
  intro m
  have stop : ∀ (x : Nat) (h : zv_H), f ≤ x → x ≤ n → zt_ty T n h → zv_I h 347 32 = f → zv_I h 347 33 = x → zv_I h 347 35 = zt_nv T f (min (x - f) 3) → (∀ i : Nat, f ≤ i → i < x → zt_dg (T i)) → (x < n → ¬ zt_dg (T x)) → ∃ (E : Nat) (h' : zv_H), L9_reads_250 (d + 2) 347 h = some (none, h') ∧ zt_up zt_dg T n f E ∧ zm_rF h h' ∧ zv_I h' 347 32 = f ∧ zv_I h' 347 33 = E ∧ zv_I h' 347 34 = (if E ≤ f + 3 then 2 else 4) ∧ zv_I h' 347 35 = zt_nv T f (min (E - f) 3) := by
    intro x h fx xn Y h2 h3 hv hs c
    have hM := zt_ty_M Y
    have n7 := zt_ty_n Y
    have is := zt_isOf (d := d) Y (a := 48) (b := 57) (by decide) (by decide) x
    rw [if_neg (fun q => c q.1 q.2)] at is
    have top : L9_reads_250 (d + 2) 347 h = some (none, zv_sI h 347 34 (if x ≤ f + 3 then 2 else 4)) := by
      rw [qL9_reads_250, zm_e (zm_gI hM 33), h3, zm_e is]
      dsimp only
      rw [if_pos rfl, zm_e (zm_gI hM 33), h3, zm_e (zm_gI hM 32), h2, zt_tkd fx (Nat.le_trans xn (Nat.le_succ_of_le n7))]
      by_cases c3 : x ≤ f + 3
      · rw [if_pos (show ((x - f : Nat) : Int) ≤ 3 by omega), if_pos c3, zm_e (zm_pI hM 34 _)]
      · rw [if_neg (show ¬ ((x - f : Nat) : Int) ≤ 3 by omega), if_neg c3, zm_e (zm_pI hM 34 _)]
    refine ⟨x, _, top, ⟨fx, xn, hs, c⟩, zm_rF_f (zm_F_r _ _ h) (Or.inr (Or.inr (Or.inl rfl))) _, ?_, ?_, zy_I _ _ _ _, ?_⟩
    · rw [zy_In _ _ (fun q => absurd q.2 (by decide))]; exact h2
    · rw [zy_In _ _ (fun q => absurd q.2 (by decide))]; exact h3
    · rw [zy_In _ _ (fun q => absurd q.2 (by decide))]; exact hv
  induction m with
  | zero =>
    intro x h he fx Y h2 h3 hv hs
    have en : x = n := he
    exact stop x h fx (Nat.le_of_eq en) Y h2 h3 hv hs (fun q => absurd q (by rw [en]; exact Nat.lt_irrefl _))
  | succ m ih =>
    intro x h he fx Y h2 h3 hv hs
    have hM := zt_ty_M Y
    have n7 := zt_ty_n Y
    have xn : x < n := by omega
    have x7 : x ≤ 700 := by omega
    by_cases c : zt_dg (T x)
    · have is := zt_isOf (d := d) Y (a := 48) (b := 57) (by decide) (by decide) x
      rw [if_pos ⟨xn, c⟩] at is
      have e128 : T x < 128 := Int.lt_of_le_of_lt c.2 (by decide)
      have ba := zt_aB8 Y xn
      rw [zt_sb_lt e128] at ba
      have hs' : ∀ i : Nat, f ≤ i → i < x + 1 → zt_dg (T i) := fun i h1 h2 => by
        by_cases z : i = x
        · rw [z]; exact c
        · exact hs i h1 (by omega)
      have nx : ∀ v : Int, v = zt_nv T f (min (x + 1 - f) 3) → ∃ (E : Nat) (h' : zv_H), L9_reads_250 (d + 2) 347 (zv_sI (zv_sI h 347 35 v) 347 33 ((x + 1 : Nat) : Int)) = some (none, h') ∧ zt_up zt_dg T n f E ∧ zm_rF h h' ∧ zv_I h' 347 32 = f ∧ zv_I h' 347 33 = E ∧ zv_I h' 347 34 = (if E ≤ f + 3 then 2 else 4) ∧ zv_I h' 347 35 = zt_nv T f (min (E - f) 3) := fun v hv' => by
        have st : zm_rF h (zv_sI (zv_sI h 347 35 v) 347 33 ((x + 1 : Nat) : Int)) := zm_rF_f (zm_rF_f (zm_F_r _ _ h) (Or.inr (Or.inr (Or.inr rfl))) _) (Or.inr (Or.inl rfl)) _
        obtain ⟨E, h', y1, y2, y3, y4⟩ := ih (x + 1) _ (by omega) (Nat.le_succ_of_le fx) (zt_ty_r Y st) ((zy_In _ _ (fun q => absurd q.2 (by decide))).trans ((zy_In _ _ (fun q => absurd q.2 (by decide))).trans h2)) (zy_I _ _ _ _) ((zy_In _ _ (fun q => absurd q.2 (by decide))).trans ((zy_I _ _ _ _).trans hv')) hs'
        exact ⟨E, h', y1, y2, zm_rF_t st y3, y4⟩
      have hM1 : ∀ v : Int, zm_M (zv_sI h 347 35 v) := fun v => hM
      have e33 : ∀ v : Int, zv_I (zv_sI h 347 35 v) 347 33 = x := fun v => (zy_In _ _ (fun q => absurd q.2 (by decide))).trans h3
      by_cases c3 : x - f < 3
      · have vb := zt_nv_b (T := T) (f := f) (x - f) (fun i h1 h2 => hs i h1 (by rw [Nat.add_sub_cancel' fx] at h2; exact h2))
        have hv2 : zv_I h 347 35 = zt_nv T f (x - f) := by rw [hv, Nat.min_eq_left (Nat.le_of_lt c3)]
        have w3 := zt_nw3 vb.1 (Int.le_trans vb.2 (zt_nb3 _ (Nat.le_of_lt c3))) c
        obtain ⟨E, h', y1, y2⟩ := nx (zt_nv T f (x - f) * 10 + T x - 48) (by
          rw [Nat.min_eq_left (show x + 1 - f ≤ 3 by omega), show x + 1 - f = (x - f) + 1 by omega]
          show _ = zt_nv T f (x - f) * 10 + T (f + (x - f)) - 48
          rw [Nat.add_sub_cancel' fx])
        refine ⟨E, h', ?_, y2⟩
        rw [qL9_reads_250, zm_e (zm_gI hM 33), h3, zm_e is]
        dsimp only
        rw [if_neg (by decide), zm_e (zm_gI hM 33), h3, zm_e (zm_gI hM 32), h2, zt_tkd fx (Nat.le_succ_of_le x7), if_pos (show ((x - f : Nat) : Int) < 3 from Int.ofNat_lt.mpr c3), zm_e (zm_gI hM 35), hv2, zm_e (zm_f26 hM), zm_e (zm_gI hM 33), h3, zm_e ba, w3, zm_e (zm_pI hM 35 _), zm_e (zm_gI (hM1 _) 33), e33, zt_tkw x7, zm_e (zm_pI (hM1 _) 33 _)]
        exact y1
      · obtain ⟨E, h', y1, y2⟩ := nx (zv_I h 347 35) (by
          rw [hv, Nat.min_eq_right (Nat.not_lt.mp c3), Nat.min_eq_right (show 3 ≤ x + 1 - f by omega)])
        refine ⟨E, h', ?_, y2⟩
        rw [qL9_reads_250, zm_e (zm_gI hM 33), h3, zm_e is]
        dsimp only
        rw [if_neg (by decide), zm_e (zm_gI hM 33), h3, zm_e (zm_gI hM 32), h2, zt_tkd fx (Nat.le_succ_of_le x7), if_neg (show ¬ ((x - f : Nat) : Int) < 3 from fun q => c3 (Int.ofNat_lt.mp q)), zm_e (zm_gI hM 35), zm_e (zm_pI hM 35 _), zm_e (zm_gI (hM1 _) 33), e33, zt_tkw x7, zm_e (zm_pI (hM1 _) 33 _)]
        exact y1
    · exact stop x h fx (Nat.le_of_lt xn) Y h2 h3 hv hs (fun _ => c)
end
end
/-! A62.tokr3 -/
section
/-! ===== the tie: TOKENS, the reference: the next one; one TOKEN for both ===== -/
/-- it stands in the reference's cells -/
def zt_tkr (T : Nat → Int) (h' : zv_H) (f t E : Nat) : Prop := zv_I h' 347 32 = f ∧ zv_I h' 347 34 = t ∧ (t ≠ 0 → zv_I h' 347 33 = E) ∧ (t = 2 → zv_I h' 347 35 = zt_nv T f (E - f)) ∧ (t = 1 → zv_J h' 347 38 = zt_cdw T f (min (E - f) 9))
theorem zt_sm_x {x : Int} (h : zt_sm x) : ¬ zt_dg x ∧ ¬ zt_sgn x := by unfold zt_sm zt_dg zt_sgn at *; omega
theorem zt_dg_x {x : Int} (h : zt_dg x) : ¬ zt_sm x ∧ ¬ zt_sgn x := by unfold zt_sm zt_dg zt_sgn at *; omega
section
variable {T : Nat → Int} {n : Nat}
theorem zt_tkn_u {e f t E f' t' E' : Nat} (h : zt_tkn T n e f t E) (h' : zt_tkn T n e f' t' E') : f = f' ∧ t = t' ∧ E = E' := by
  have ef := zt_up_u h.1 h'.1
  subst ef
  refine ⟨rfl, ?_⟩
  rcases h.2 with ⟨a1, a2, a3⟩ | ⟨an, a⟩
  · rcases h'.2 with ⟨b1, b2, b3⟩ | ⟨bn, b⟩
    · exact ⟨a1.trans b1.symm, a3.trans b3.symm⟩
    · rw [a2] at bn; exact absurd bn (Nat.lt_irrefl _)
  · rcases h'.2 with ⟨b1, b2, b3⟩ | ⟨bn, b⟩
    · rw [b2] at an; exact absurd an (Nat.lt_irrefl _)
    · rcases a with ⟨a1, a2, a3⟩ | ⟨a1, a2, a3, a4⟩ | ⟨a1, a2, a3, a4, a5⟩ | ⟨a1, ⟨a2, a3, a4⟩ | ⟨a2, a3, a4, a5⟩⟩
      · rcases b with ⟨b1, b2, b3⟩ | ⟨b1, b2, b3, b4⟩ | ⟨b1, b2, b3, b4, b5⟩ | ⟨b1, ⟨b2, b3, b4⟩ | ⟨b2, b3, b4, b5⟩⟩
        · exact ⟨a1.trans b1.symm, zt_up_u a3 b3⟩
        · exact absurd b2 (zt_sm_x a2).1
        · exact absurd a2 b2
        · exact absurd b2 (zt_sm_x a2).1
        · exact absurd a2 b2
      · rcases b with ⟨b1, b2, b3⟩ | ⟨b1, b2, b3, b4⟩ | ⟨b1, b2, b3, b4, b5⟩ | ⟨b1, ⟨b2, b3, b4⟩ | ⟨b2, b3, b4, b5⟩⟩
        · exact absurd b2 (zt_dg_x a2).1
        · exact ⟨a1.trans b1.symm, zt_up_u a3 b3⟩
        · exact absurd a2 b3
        · have := zt_up_u a3 b3
          rw [this] at a4
          exact absurd b4 (Nat.not_lt.mpr a4)
        · exact absurd a2 b3
      · rcases b with ⟨b1, b2, b3⟩ | ⟨b1, b2, b3, b4⟩ | ⟨b1, b2, b3, b4, b5⟩ | ⟨b1, ⟨b2, b3, b4⟩ | ⟨b2, b3, b4, b5⟩⟩
        · exact absurd b2 a2
        · exact absurd b2 a3
        · exact ⟨a1.trans b1.symm, a5.trans b5.symm⟩
        · exact absurd b2 a3
        · exact absurd a4 b4
      · rcases b with ⟨b1, b2, b3⟩ | ⟨b1, b2, b3, b4⟩ | ⟨b1, b2, b3, b4, b5⟩ | ⟨b1, ⟨b2, b3, b4⟩ | ⟨b2, b3, b4, b5⟩⟩
        · exact absurd b2 (zt_dg_x a2).1
        · have := zt_up_u a3 b3
          rw [this] at a4
          exact absurd a4 (Nat.not_lt.mpr b4)
        · exact absurd a2 b3
        · exact ⟨a1.trans b1.symm, zt_up_u a3 b3⟩
        · exact absurd a2 b3
      · rcases b with ⟨b1, b2, b3⟩ | ⟨b1, b2, b3, b4⟩ | ⟨b1, b2, b3, b4, b5⟩ | ⟨b1, ⟨b2, b3, b4⟩ | ⟨b2, b3, b4, b5⟩⟩
        · exact absurd b2 a2
        · exact absurd b2 a3
        · exact absurd b4 a4
        · exact absurd b2 a3
        · exact ⟨a1.trans b1.symm, a5.trans b5.symm⟩
/-- behind the sign's look-up -/
theorem zt_rd110 {d e f : Nat} (u : zt_up zt_bk T n e f) {h : zv_H} (Y : zt_ty T n h) (h2 : zv_I h 347 32 = f) (h3 : zv_I h 347 33 = ((f + 1 : Nat) : Int)) {v : Nat} (hv : (v = 0 ∧ f = n) ∨ (f < n ∧ ((v = 3 ∧ zt_sgn (T f)) ∨ (v = 4 ∧ ¬ zt_sgn (T f))))) : ∃ (t E : Nat) (h' : zv_H), zt_tkn T n e f t E ∧ L9_reads_110 (d + 4) 347 347 (v : Int) h = some (none, h') ∧ zm_rF h h' ∧ zt_tkr T h' f t E := by
  have hM := zt_ty_M Y
  have n7 := zt_ty_n Y
  have s1 : zm_rF h (zv_sI h 347 34 (v : Int)) := zm_rF_f (zm_F_r _ _ h) (Or.inr (Or.inr (Or.inl rfl))) _
  have Y1 := zt_ty_r Y s1
  have hM1 := zt_ty_M Y1
  have i2 : zv_I (zv_sI h 347 34 (v : Int)) 347 32 = f := (zy_In _ _ (fun q => absurd q.2 (by decide))).trans h2
  have i3 : zv_I (zv_sI h 347 34 (v : Int)) 347 33 = ((f + 1 : Nat) : Int) := (zy_In _ _ (fun q => absurd q.2 (by decide))).trans h3
  have is := zt_isOf (d := d + 2) Y1 (a := 97) (b := 122) (by decide) (by decide) f
  have ig := zt_isOf (d := d + 2) Y1 (a := 48) (b := 57) (by decide) (by decide) f
  have other : ¬ (f < n ∧ zt_sm (T f)) → ¬ (f < n ∧ zt_dg (T f)) → L9_reads_110 (d + 4) 347 347 (v : Int) h = some (none, zv_sI h 347 34 (v : Int)) := fun c1 c2 => by
    rw [if_neg c1] at is
    rw [if_neg c2] at ig
    rw [qL9_reads_110, zm_e (zm_pI hM 34 _), zm_e (zm_gI hM1 32), i2, zm_e is]
    dsimp only
    rw [if_pos rfl, zm_e (zm_gI hM1 32), i2, zm_e ig]
    dsimp only
    rw [if_pos rfl]
  rcases hv with ⟨v0, fn⟩ | ⟨fn, hv⟩
  · have nl : ¬ f < n := by rw [fn]; exact Nat.lt_irrefl _
    refine ⟨0, n, _, ⟨u, Or.inl ⟨rfl, fn, rfl⟩⟩, other (fun q => nl q.1) (fun q => nl q.1), s1, i2, ?_, fun q => absurd rfl q, fun q => absurd q (by decide), fun q => absurd q (by decide)⟩
    rw [zy_I, v0]
  · by_cases c1 : zt_sm (T f)
    · rw [if_pos ⟨fn, c1⟩] at is
      have s2 : zm_rF h (zv_sI (zv_sJ (zv_sI (zv_sI h 347 34 (v : Int)) 347 34 1) 347 38 (Int64.ofNat 0)) 347 33 (f : Int)) := zm_rF_f (zm_F_k (zm_rF_f s1 (Or.inr (Or.inr (Or.inl rfl))) 1) rfl _) (Or.inr (Or.inl rfl)) _
      have hMa : zm_M (zv_sI (zv_sI h 347 34 (v : Int)) 347 34 1) := hM1
      have hMb : zm_M (zv_sJ (zv_sI (zv_sI h 347 34 (v : Int)) 347 34 1) 347 38 (Int64.ofNat 0)) := zm_F_M (zm_F_k (zm_F_r [] [38] _) rfl _) hMa
      have j2 : zv_I (zv_sJ (zv_sI (zv_sI h 347 34 (v : Int)) 347 34 1) 347 38 (Int64.ofNat 0)) 347 32 = f := (show zv_I (zv_sI (zv_sI h 347 34 (v : Int)) 347 34 1) 347 32 = _ from zy_In _ _ (fun q => absurd q.2 (by decide))).trans i2
      obtain ⟨E, h', y1, y2, y3, y4, y5, y6, y7⟩ := zt_rd146 (d := d + 2) (f := f) (n - f) f (zv_sI (zv_sJ (zv_sI (zv_sI h 347 34 (v : Int)) 347 34 1) 347 38 (Int64.ofNat 0)) 347 33 (f : Int)) (Nat.add_sub_cancel' u.2.1) (Nat.le_refl _) (zt_ty_r Y s2) ((zy_In _ _ (fun q => absurd q.2 (by decide))).trans j2) (zy_I _ _ _ _) (by rw [Nat.sub_self, Nat.zero_min]; exact zm_sJJ _ _) (fun i h1 h2 => absurd h2 (Nat.not_lt.mpr h1))
      refine ⟨1, E, h', ⟨u, Or.inr ⟨fn, Or.inl ⟨rfl, c1, y2⟩⟩⟩, ?_, zm_rF_t s2 y3, y4, ?_, fun _ => y5, fun q => absurd q (by decide), fun _ => y7⟩
      · rw [qL9_reads_110, zm_e (zm_pI hM 34 _), zm_e (zm_gI hM1 32), i2, zm_e is]
        dsimp only
        rw [if_neg (by decide), zm_e (zm_pI hM1 34 _), zm_e (zm_pJ hMa 38 _), zm_e (zm_gI hMb 32), j2, zm_e (zm_pI hMb 33 _)]
        exact y1
      · rw [y6, zy_In _ _ (fun q => absurd q.2 (by decide))]
        show zv_I (zv_sI (zv_sI h 347 34 (v : Int)) 347 34 1) 347 34 = _
        exact zy_I _ _ _ _
    · rw [if_neg (fun q => c1 q.2)] at is
      by_cases c2 : zt_dg (T f)
      · rw [if_pos ⟨fn, c2⟩] at ig
        have s2 : zm_rF h (zv_sI (zv_sI (zv_sI h 347 34 (v : Int)) 347 35 0) 347 33 (f : Int)) := zm_rF_f (zm_rF_f s1 (Or.inr (Or.inr (Or.inr rfl))) 0) (Or.inr (Or.inl rfl)) _
        have hMa : zm_M (zv_sI (zv_sI h 347 34 (v : Int)) 347 35 0) := hM1
        have j2 : zv_I (zv_sI (zv_sI h 347 34 (v : Int)) 347 35 0) 347 32 = f := (zy_In _ _ (fun q => absurd q.2 (by decide))).trans i2
        obtain ⟨E, h', y1, y2, y3, y4, y5, y6, y7⟩ := zt_rd250 (d := d + 2) (f := f) (n - f) f (zv_sI (zv_sI (zv_sI h 347 34 (v : Int)) 347 35 0) 347 33 (f : Int)) (Nat.add_sub_cancel' u.2.1) (Nat.le_refl _) (zt_ty_r Y s2) ((zy_In _ _ (fun q => absurd q.2 (by decide))).trans j2) (zy_I _ _ _ _) (by rw [Nat.sub_self, Nat.zero_min, zy_In _ _ (fun q => absurd q.2 (by decide))]; exact zy_I _ _ _ _) (fun i h1 h2 => absurd h2 (Nat.not_lt.mpr h1))
        have go : L9_reads_110 (d + 4) 347 347 (v : Int) h = some (none, h') := by
          rw [qL9_reads_110, zm_e (zm_pI hM 34 _), zm_e (zm_gI hM1 32), i2, zm_e is]
          dsimp only
          rw [if_pos rfl, zm_e (zm_gI hM1 32), i2, zm_e ig]
          dsimp only
          rw [if_neg (by decide), zm_e (zm_pI hM1 35 _), zm_e (zm_gI hMa 32), j2, zm_e (zm_pI hMa 33 _)]
          exact y1
        by_cases c3 : E ≤ f + 3
        · rw [if_pos c3] at y6
          refine ⟨2, E, h', ⟨u, Or.inr ⟨fn, Or.inr (Or.inl ⟨rfl, c2, y2, c3⟩)⟩⟩, go, zm_rF_t s2 y3, y4, y6, fun _ => y5, fun _ => ?_, fun q => absurd q (by decide)⟩
          rw [y7, Nat.min_eq_left (Nat.sub_le_iff_le_add'.mpr c3)]
        · rw [if_neg c3] at y6
          exact ⟨4, E, h', ⟨u, Or.inr ⟨fn, Or.inr (Or.inr (Or.inr ⟨rfl, Or.inl ⟨c2, y2, Nat.not_le.mp c3⟩⟩))⟩⟩, go, zm_rF_t s2 y3, y4, y6, fun _ => y5, fun q => absurd q (by decide), fun q => absurd q (by decide)⟩
      · have go := other (fun q => c1 q.2) (fun q => c2 q.2)
        have i4 : zv_I (zv_sI h 347 34 (v : Int)) 347 34 = (v : Int) := zy_I _ _ _ _
        rcases hv with ⟨v3, sg⟩ | ⟨v4, sg⟩
        · exact ⟨3, f + 1, _, ⟨u, Or.inr ⟨fn, Or.inr (Or.inr (Or.inl ⟨rfl, c1, c2, sg, rfl⟩))⟩⟩, go, s1, i2, by rw [i4, v3], fun _ => i3, fun q => absurd q (by decide), fun q => absurd q (by decide)⟩
        · exact ⟨4, f + 1, _, ⟨u, Or.inr ⟨fn, Or.inr (Or.inr (Or.inr ⟨rfl, Or.inr ⟨c1, c2, sg, rfl⟩⟩))⟩⟩, go, s1, i2, by rw [i4, v4], fun _ => i3, fun q => absurd q (by decide), fun q => absurd q (by decide)⟩
theorem zt_reads {d e : Nat} (he : e ≤ n) {h : zv_H} (Y : zt_ty T n h) (h3 : zv_I h 347 33 = e) : ∃ (f t E : Nat) (h' : zv_H), zt_tkn T n e f t E ∧ C9_reads (d + 5) 347 h = some h' ∧ zm_rF h h' ∧ zt_tkr T h' f t E := by
  have hM := zt_ty_M Y
  have n7 := zt_ty_n Y
  have s1 : zm_rF h (zv_sI h 347 32 (e : Int)) := zm_rF_f (zm_F_r _ _ h) (Or.inl rfl) _
  obtain ⟨f, h1, y1, y2, y3, y4⟩ := zt_rd8 (d := d + 4) (n - e) e (zv_sI h 347 32 (e : Int)) (Nat.add_sub_cancel' he) (zt_ty_r Y s1) (zy_I _ _ _ _)
  have Y1 := zt_ty_r Y (zm_rF_t s1 y3)
  have hM1 := zt_ty_M Y1
  have f7 : f ≤ 700 := Nat.le_trans y2.2.1 n7
  have s2 : zm_rF h1 (zv_sI h1 347 33 ((f + 1 : Nat) : Int)) := zm_rF_f (zm_F_r _ _ h1) (Or.inr (Or.inl rfl)) _
  have Y2 := zt_ty_r Y1 s2
  have hM2 := zt_ty_M Y2
  have i2 : zv_I (zv_sI h1 347 33 ((f + 1 : Nat) : Int)) 347 32 = f := (zy_In _ _ (fun q => absurd q.2 (by decide))).trans y4
  have i3 : zv_I (zv_sI h1 347 33 ((f + 1 : Nat) : Int)) 347 33 = ((f + 1 : Nat) : Int) := zy_I _ _ _ _
  have fin : ∀ v : Nat, ((v = 0 ∧ f = n) ∨ (f < n ∧ ((v = 3 ∧ zt_sgn (T f)) ∨ (v = 4 ∧ ¬ zt_sgn (T f))))) → L9_reads_60 (d + 4) 347 h1 = L9_reads_110 (d + 4) 347 347 (v : Int) (zv_sI h1 347 33 ((f + 1 : Nat) : Int)) → ∃ (f t E : Nat) (h' : zv_H), zt_tkn T n e f t E ∧ C9_reads (d + 5) 347 h = some h' ∧ zm_rF h h' ∧ zt_tkr T h' f t E := fun v hv go => by
    obtain ⟨t, E, h', w1, w2, w3, w4⟩ := zt_rd110 (d := d) y2 Y2 i2 i3 hv
    refine ⟨f, t, E, h', w1, lC9_reads (zm_ob hM) ?_, zm_rF_t (zm_rF_t (zm_rF_t s1 y3) s2) w3, w4⟩
    rw [qE9_reads, zm_e (zm_gI hM 33), h3, zm_e (zm_pI hM 32 _), y1, go]
    exact w2
  by_cases fn : f < n
  · have tb := zt_ty_b Y f fn
    obtain ⟨x, ex⟩ : ∃ x : Nat, T f = x := ⟨(T f).toNat, (Int.toNat_of_nonneg tb.1).symm⟩
    have x255 : x ≤ 255 := by rw [ex] at tb; exact Int.ofNat_le.mp tb.2
    obtain ⟨u, eu, iu⟩ := zt_jIndexOf (zv_sI h1 347 33 ((f + 1 : Nat) : Int)) d (r := 1000023) (by decide) (zv_i2c (zt_sb (T f)))
    have sg := zt_sgn_d x x255
    rw [← ex] at sg
    have top : L9_reads_60 (d + 4) 347 h1 = if u < 0 then L9_reads_110 (d + 4) 347 347 4 (zv_sI h1 347 33 ((f + 1 : Nat) : Int)) else L9_reads_110 (d + 4) 347 347 3 (zv_sI h1 347 33 ((f + 1 : Nat) : Int)) := by
      rw [qL9_reads_60, zm_e (zm_gI hM1 32), y4, zt_tkw f7, zm_e (zm_pI hM1 33 _), zm_e (zm_gI hM2 32), i2, zm_e (zm_gI hM2 36), zt_ty_l Y2, if_pos (Int.ofNat_lt.mpr fn), zm_e (zm_f26 hM2), zm_e (zm_gI hM2 32), i2, zm_e (zt_aB8 Y2 fn), zm_e eu]
    by_cases c : u < 0
    · rw [if_pos c] at top
      exact fin 4 (Or.inr ⟨fn, Or.inr ⟨rfl, fun q => iu.mp c (sg.mpr q)⟩⟩) top
    · rw [if_neg c] at top
      exact fin 3 (Or.inr ⟨fn, Or.inl ⟨rfl, Classical.byContradiction (fun q => c (iu.mpr (fun w => q (sg.mp w))))⟩⟩) top
  · refine fin 0 (Or.inl ⟨rfl, Nat.le_antisymm y2.2.1 (Nat.not_lt.mp fn)⟩) ?_
    rw [qL9_reads_60, zm_e (zm_gI hM1 32), y4, zt_tkw f7, zm_e (zm_pI hM1 33 _), zm_e (zm_gI hM2 32), i2, zm_e (zm_gI hM2 36), zt_ty_l Y2, if_neg (fun q => fn (Int.ofNat_lt.mp q))]
    rfl
/-- one TOKEN, for both -/
theorem zj_next {d D e : Nat} (he : e ≤ n) {g h : zv_H} (X : zt_tx T n g) (Y : zt_ty T n h) (h6 : zv_I g 5 6 = e) (h33 : zv_I h 347 33 = e) : ∃ (f t E : Nat) (g' h' : zv_H), zt_tkn T n e f t E ∧ C3_next (d + 2) 5 g = some ((if t = 4 then 0 else 1), g') ∧ C9_reads (D + 5) 347 h = some h' ∧ zt_rf g g' ∧ zm_rF h h' ∧ zt_tkc T g g' f t E ∧ zt_tkr T h' f t E := by
  obtain ⟨f, t, E, g', a1, a2, a3, a4⟩ := zt_next (d := d) he X h6
  obtain ⟨f', t', E', h', b1, b2, b3, b4⟩ := zt_reads (d := D) he Y h33
  obtain ⟨e1, e2, e3⟩ := zt_tkn_u a1 b1
  subst e1
  subst e2
  subst e3
  exact ⟨f, t, E, g', h', a1, a2, b2, a3, b3, a4, b4⟩
end
end
/-! A63.rd -/
section
/-! ===== the tie: the two readers ===== -/
/-- what the reference's must leaves -/
def zt_ms (v w : Int) (h : zv_H) : zv_H := if v = 0 ∧ zv_I h 347 30 ≤ 0 then zv_sI (zv_sI h 347 30 (if w = 2 ∧ zv_I h 347 34 = 4 then 1 else w)) 347 31 (zv_I h 347 32) else h
theorem zt_must {d : Nat} {h : zv_H} (hM : zm_M h) (v w : Int) : C9_must (d + 1) 347 v w h = some (zt_ms v w h) := by
  refine lC9_must (zm_ob hM) ?_
  unfold zt_ms
  rw [qE9_must]
  have fin : ∀ x : Int, ((zv_pI h 347 9 30 x).bind fun g3 => (zv_gI g3 347 9 32).bind fun v4 => (zv_pI g3 347 9 31 v4).bind fun g5 => (some (none, g5) : zv_O)) = some (none, zv_sI (zv_sI h 347 30 x) 347 31 (zv_I h 347 32)) := fun x => by
    have hM1 : zm_M (zv_sI h 347 30 x) := hM
    rw [zm_e (zm_pI hM 30 _), zm_e (zm_gI hM1 32), zy_In _ _ (fun q => absurd q.2 (by decide)), zm_e (zm_pI hM1 31 _)]
  by_cases c1 : v = 0
  · rw [if_pos c1, zm_e (zm_gI hM 30)]
    by_cases c2 : zv_I h 347 30 ≤ 0
    · rw [if_pos c2, if_pos (show v = 0 ∧ zv_I h 347 30 ≤ 0 from ⟨c1, c2⟩)]
      by_cases c3 : w = 2
      · rw [if_pos c3, zm_e (zm_gI hM 34)]
        by_cases c4 : zv_I h 347 34 = 4
        · rw [if_pos c4, if_pos (show w = 2 ∧ zv_I h 347 34 = 4 from ⟨c3, c4⟩)]
          exact fin 1
        · rw [if_neg c4, if_neg (show ¬ (w = 2 ∧ zv_I h 347 34 = 4) from fun q => c4 q.2)]
          exact fin w
      · rw [if_neg c3, if_neg (show ¬ (w = 2 ∧ zv_I h 347 34 = 4) from fun q => c3 q.1)]
        exact fin w
    · rw [if_neg c2, if_neg (show ¬ (v = 0 ∧ zv_I h 347 30 ≤ 0) from fun q => c2 q.2)]
  · rw [if_neg c1, if_neg (show ¬ (v = 0 ∧ zv_I h 347 30 ≤ 0) from fun q => c1 q.1)]
/-- behind a fault nothing is written -/
theorem zt_ms_f {v w : Int} {h : zv_H} (hf : 0 < zv_I h 347 30) : zt_ms v w h = h := if_neg (fun q => absurd hf (Int.not_lt.mpr q.2))
theorem zt_ms_1 {v w : Int} {h : zv_H} (hv : v ≠ 0) : zt_ms v w h = h := if_neg (fun q => hv q.1)
theorem zt_ms_0 {w : Int} {h : zv_H} (hf : zv_I h 347 30 = 0) : zt_ms 0 w h = zv_sI (zv_sI h 347 30 (if w = 2 ∧ zv_I h 347 34 = 4 then 1 else w)) 347 31 (zv_I h 347 32) := if_pos ⟨rfl, by rw [hf]; exact Int.le_refl _⟩
theorem zt_ms_F (v w : Int) (h : zv_H) : zm_F [] [30, 31] h (zt_ms v w h) := by
  unfold zt_ms
  by_cases c : v = 0 ∧ zv_I h 347 30 ≤ 0
  · rw [if_pos c]
    exact zm_F_f (zm_F_f (zm_F_r _ _ h) rfl _) rfl _
  · rw [if_neg c]
    exact zm_F_r _ _ h
/-- both look at one TOKEN, no fault -/
def zt_gd (T : Nat → Int) (n : Nat) (g : zv_H) (k : zv_H) (f : Nat) (y : Nat) (E : Nat) : Prop := (zt_tx T n g) ∧ (zt_ty T n k) ∧ (∃ e, zt_tkn T n e f y E) ∧ (y ≠ 4) ∧ (zv_I g 5 5 = f) ∧ (zv_I g 5 4 = y) ∧ (zv_I g 5 6 = E) ∧ (y = 2 → zv_I g 5 7 = zt_nv T f (E - f)) ∧ (y = 3 → zv_I g 5 7 = T f) ∧ (zt_tkr T k f y E) ∧ (zv_I g 5 8 = 0) ∧ (zv_I k 347 30 = 0) ∧ (zv_I g 5 9 = -1)
theorem zt_gd_X {T : Nat → Int} {n : Nat} {g : zv_H} {k : zv_H} {f : Nat} {y : Nat} {E : Nat} (t : zt_gd T n g k f y E) : zt_tx T n g := t.1
theorem zt_gd_Y {T : Nat → Int} {n : Nat} {g : zv_H} {k : zv_H} {f : Nat} {y : Nat} {E : Nat} (t : zt_gd T n g k f y E) : zt_ty T n k := t.2.1
theorem zt_gd_k {T : Nat → Int} {n : Nat} {g : zv_H} {k : zv_H} {f : Nat} {y : Nat} {E : Nat} (t : zt_gd T n g k f y E) : ∃ e, zt_tkn T n e f y E := t.2.2.1
theorem zt_gd_t4 {T : Nat → Int} {n : Nat} {g : zv_H} {k : zv_H} {f : Nat} {y : Nat} {E : Nat} (t : zt_gd T n g k f y E) : y ≠ 4 := t.2.2.2.1
theorem zt_gd_c5 {T : Nat → Int} {n : Nat} {g : zv_H} {k : zv_H} {f : Nat} {y : Nat} {E : Nat} (t : zt_gd T n g k f y E) : zv_I g 5 5 = f := t.2.2.2.2.1
theorem zt_gd_c4 {T : Nat → Int} {n : Nat} {g : zv_H} {k : zv_H} {f : Nat} {y : Nat} {E : Nat} (t : zt_gd T n g k f y E) : zv_I g 5 4 = y := t.2.2.2.2.2.1
theorem zt_gd_c6 {T : Nat → Int} {n : Nat} {g : zv_H} {k : zv_H} {f : Nat} {y : Nat} {E : Nat} (t : zt_gd T n g k f y E) : zv_I g 5 6 = E := t.2.2.2.2.2.2.1
theorem zt_gd_c2 {T : Nat → Int} {n : Nat} {g : zv_H} {k : zv_H} {f : Nat} {y : Nat} {E : Nat} (t : zt_gd T n g k f y E) : y = 2 → zv_I g 5 7 = zt_nv T f (E - f) := t.2.2.2.2.2.2.2.1
theorem zt_gd_c3 {T : Nat → Int} {n : Nat} {g : zv_H} {k : zv_H} {f : Nat} {y : Nat} {E : Nat} (t : zt_gd T n g k f y E) : y = 3 → zv_I g 5 7 = T f := t.2.2.2.2.2.2.2.2.1
theorem zt_gd_r {T : Nat → Int} {n : Nat} {g : zv_H} {k : zv_H} {f : Nat} {y : Nat} {E : Nat} (t : zt_gd T n g k f y E) : zt_tkr T k f y E := t.2.2.2.2.2.2.2.2.2.1
theorem zt_gd_f1 {T : Nat → Int} {n : Nat} {g : zv_H} {k : zv_H} {f : Nat} {y : Nat} {E : Nat} (t : zt_gd T n g k f y E) : zv_I g 5 8 = 0 := t.2.2.2.2.2.2.2.2.2.2.1
theorem zt_gd_f2 {T : Nat → Int} {n : Nat} {g : zv_H} {k : zv_H} {f : Nat} {y : Nat} {E : Nat} (t : zt_gd T n g k f y E) : zv_I k 347 30 = 0 := t.2.2.2.2.2.2.2.2.2.2.2.1
theorem zt_gd_f9 {T : Nat → Int} {n : Nat} {g : zv_H} {k : zv_H} {f : Nat} {y : Nat} {E : Nat} (t : zt_gd T n g k f y E) : zv_I g 5 9 = -1 := t.2.2.2.2.2.2.2.2.2.2.2.2
/-- a fault, told on both or about to be told -/
def zt_bd (T : Nat → Int) (n : Nat) (g : zv_H) (k : zv_H) : Prop := (zt_tx T n g) ∧ (zt_ty T n k) ∧ (0 < zv_I g 5 8) ∧ ((zv_I g 5 8 = 1 ∧ zv_I k 347 30 = 0 ∧ zv_I k 347 34 = 4 ∧ zv_I g 5 9 = zv_I k 347 32) ∨ (zv_I k 347 30 = zv_I g 5 8 ∧ zv_I k 347 31 = zv_I g 5 9))
theorem zt_bd_X {T : Nat → Int} {n : Nat} {g : zv_H} {k : zv_H} (t : zt_bd T n g k) : zt_tx T n g := t.1
theorem zt_bd_Y {T : Nat → Int} {n : Nat} {g : zv_H} {k : zv_H} (t : zt_bd T n g k) : zt_ty T n k := t.2.1
theorem zt_bd_f0 {T : Nat → Int} {n : Nat} {g : zv_H} {k : zv_H} (t : zt_bd T n g k) : 0 < zv_I g 5 8 := t.2.2.1
theorem zt_bd_f {T : Nat → Int} {n : Nat} {g : zv_H} {k : zv_H} (t : zt_bd T n g k) : (zv_I g 5 8 = 1 ∧ zv_I k 347 30 = 0 ∧ zv_I k 347 34 = 4 ∧ zv_I g 5 9 = zv_I k 347 32) ∨ (zv_I k 347 30 = zv_I g 5 8 ∧ zv_I k 347 31 = zv_I g 5 9) := t.2.2.2
section
variable {T : Nat → Int} {n : Nat} {g k : zv_H} {f t E : Nat}
theorem zt_tkn_E {e : Nat} (h : zt_tkn T n e f t E) : E ≤ n := by
  rcases h.2 with ⟨a1, a2, a3⟩ | ⟨an, ⟨a1, a2, a3⟩ | ⟨a1, a2, a3, a4⟩ | ⟨a1, a2, a3, a4, a5⟩ | ⟨a1, ⟨a2, a3, a4⟩ | ⟨a2, a3, a4, a5⟩⟩⟩
  · exact Nat.le_of_eq a3
  · exact a3.2.1
  · exact a3.2.1
  · rw [a5]; exact an
  · exact a3.2.1
  · rw [a5]; exact an
/-- the next one, for both -/
theorem zj_nx {d D : Nat} (G : zt_gd T n g k f t E) (t0 : t ≠ 0) : ∃ (b : Int) (g' k' : zv_H), C3_next (d + 2) 5 g = some (b, g') ∧ C9_reads (D + 5) 347 k = some k' ∧ zt_rf g g' ∧ zm_rF k k' ∧ ((b = 1 ∧ ∃ f' t' E', zt_gd T n g' k' f' t' E') ∨ (b = 0 ∧ zt_bd T n g' k')) := by
  obtain ⟨e0, hk⟩ := zt_gd_k G
  obtain ⟨f', t', E', g', k', a1, a2, a3, a4, a5, a6, a7⟩ := zj_next (d := d) (D := D) (zt_tkn_E hk) (zt_gd_X G) (zt_gd_Y G) (zt_gd_c6 G) ((zt_gd_r G).2.2.1 t0)
  have X' := zt_tx_r (zt_gd_X G) a4
  have Y' := zt_ty_r (zt_gd_Y G) a5
  have f30 : zv_I k' 347 30 = 0 := (zm_F_g a5 30).trans (zt_gd_f2 G)
  refine ⟨_, g', k', a2, a3, a4, a5, ?_⟩
  rcases a6.2 with ⟨q1, q2, q3⟩ | ⟨q1, q2, q3, q4, q5, q6, q7⟩
  · rw [if_pos q1]
    exact Or.inr ⟨rfl, X', Y', by rw [q2]; decide, Or.inl ⟨q2, f30, by rw [a7.2.1, q1]; rfl, q3.trans a7.1.symm⟩⟩
  · rw [if_neg q1]
    exact Or.inl ⟨rfl, f', t', E', X', Y', ⟨_, a1⟩, q1, a6.1, q2, q3, q4, q5, a7, q6.trans (zt_gd_f1 G), f30, q7.trans (zt_gd_f9 G)⟩
/-- both fail here -/
theorem zj_fail (G : zt_gd T n g k f t E) {w : Int} (hw : 0 < w) : zt_bd T n (zv_sI (zv_sI g 5 8 w) 5 9 (zv_I g 5 5)) (zt_ms 0 w k) := by
  have r := zt_gd_r G
  have e4 : ¬ (w = 2 ∧ zv_I k 347 34 = 4) := fun q => zt_gd_t4 G (by
    have := r.2.1.symm.trans q.2
    exact Int.ofNat.inj this)
  have F := zt_ms_F 0 w k
  have Y' : zt_ty T n (zt_ms 0 w k) := ⟨zm_F_M F (zt_ty_M (zt_gd_Y G)), zt_ty_n (zt_gd_Y G), (zm_F_g F 36).trans (zt_ty_l (zt_gd_Y G)), fun i hi => by rw [zm_F_a F 366]; exact zt_ty_t (zt_gd_Y G) i hi, zt_ty_b (zt_gd_Y G)⟩
  have g8 : zv_I (zv_sI (zv_sI g 5 8 w) 5 9 (zv_I g 5 5)) 5 8 = w := by rw [zy_In _ _ (fun q => absurd q.2 (by decide)), zy_I]
  have g9 : zv_I (zv_sI (zv_sI g 5 8 w) 5 9 (zv_I g 5 5)) 5 9 = f := by rw [zy_I]; exact zt_gd_c5 G
  refine ⟨zt_tx_r (zt_gd_X G) (zt_rf_fail g w), Y', by rw [g8]; exact hw, Or.inr ⟨?_, ?_⟩⟩
  · rw [zt_ms_0 (zt_gd_f2 G), if_neg e4, g8, zy_In _ _ (fun q => absurd q.2 (by decide)), zy_I]
  · rw [zt_ms_0 (zt_gd_f2 G), g9, zy_I]
    exact r.1
theorem zt_isSignC {d : Nat} (G : zt_gd T n g k f t E) (x : Int) : C3_isSign (d + 1) 5 x g = some (if t = 3 ∧ T f = x then 1 else 0, g) := by
  have gL := zt_tx_L (zt_gd_X G)
  refine lC3_isSign (zl_ob gL zt_lay5) ?_
  rw [qE3_isSign, zm_e (zl_gI gL zt_lay5 4), zt_gd_c4 G]
  by_cases c : t = 3
  · rw [if_pos (show (t : Int) = 3 by rw [c]; rfl), zm_e (zl_gI gL zt_lay5 7), zt_gd_c3 G c]
    by_cases c2 : T f = x
    · rw [if_pos c2, if_pos ⟨c, c2⟩]
    · rw [if_neg c2, if_neg (fun q => c2 q.2)]
  · rw [if_neg (show ¬ (t : Int) = 3 from fun q => c (Int.ofNat.inj q)), if_neg (fun q => c q.1)]
theorem zt_isSignR {d : Nat} (G : zt_gd T n g k f t E) {x : Int} (hx : 0 ≤ x ∧ x ≤ 127) : C9_isSign (d + 1) 347 x k = some (if t = 3 ∧ T f = x then 1 else 0, k) := by
  have hM := zt_ty_M (zt_gd_Y G)
  have r := zt_gd_r G
  refine lC9_isSign (zm_ob hM) ?_
  rw [qE9_isSign, zm_e (zm_gI hM 30), zt_gd_f2 G, if_pos rfl, zm_e (zm_gI hM 34), r.2.1]
  by_cases c : t = 3
  · obtain ⟨e0, hk⟩ := zt_gd_k G
    have fn : f < n := by
      rcases hk.2 with ⟨a1, _⟩ | ⟨an, _⟩
      · rw [c] at a1; exact absurd a1 (by decide)
      · exact an
    rw [if_pos (show (t : Int) = 3 by rw [c]; rfl), zm_e (zm_f26 hM), zm_e (zm_gI hM 32), r.1, zm_e (zt_aB8 (zt_gd_Y G) fn)]
    have eq := zt_sb_eq (zt_ty_b (zt_gd_Y G) f fn) hx
    by_cases c2 : T f = x
    · rw [if_pos (eq.mpr c2), if_pos ⟨c, c2⟩]
    · rw [if_neg (fun q => c2 (eq.mp q)), if_neg (fun q => c2 q.2)]
  · rw [if_neg (show ¬ (t : Int) = 3 from fun q => c (Int.ofNat.inj q)), if_neg (fun q => c q.1)]
end
end
/-! A64.take -/
section
/-! ===== the tie: signs and numbers taken ===== -/
section
variable {T : Nat → Int} {n : Nat} {g k : zv_H} {f t E : Nat}
theorem zt_takesR1 {D : Nat} (G : zt_gd T n g k f t E) {x : Int} (hx : 0 ≤ x ∧ x ≤ 127) (h : t = 3 ∧ T f = x) {k' : zv_H} (e : C9_reads (D + 5) 347 k = some k') : C9_takes (D + 6) 347 x k = some k' := by
  have hM := zt_ty_M (zt_gd_Y G)
  have es := zt_isSignR (d := D + 4) G hx
  rw [if_pos h] at es
  refine lC9_takes (zm_ob hM) ?_
  rw [qE9_takes, zm_e es]
  dsimp only
  rw [zm_e (zt_must hM 1 2), zt_ms_1 (by decide), zm_e (zm_gI hM 30), zt_gd_f2 G, if_pos rfl, zm_e e]
theorem zt_takesR0 {D : Nat} (G : zt_gd T n g k f t E) {x : Int} (hx : 0 ≤ x ∧ x ≤ 127) (h : ¬ (t = 3 ∧ T f = x)) : C9_takes (D + 6) 347 x k = some (zt_ms 0 2 k) := by
  have hM := zt_ty_M (zt_gd_Y G)
  have es := zt_isSignR (d := D + 4) G hx
  rw [if_neg h] at es
  have hM2 := zm_F_M (zt_ms_F 0 2 k) hM
  have bd := zj_fail G (w := 2) (by decide)
  have e30 : ¬ zv_I (zt_ms 0 2 k) 347 30 = 0 := by
    rcases zt_bd_f bd with q | q
    · have e4 : ¬ ((2 : Int) = 2 ∧ zv_I k 347 34 = 4) := fun q => zt_gd_t4 G (Int.ofNat.inj ((zt_gd_r G).2.1.symm.trans q.2))
      rw [zt_ms_0 (zt_gd_f2 G), if_neg e4, zy_In _ _ (fun q => absurd q.2 (by decide)), zy_I]
      decide
    · rw [q.1]
      exact fun z => absurd (zt_bd_f0 bd) (by rw [z]; decide)
  refine lC9_takes (zm_ob hM) ?_
  rw [qE9_takes, zm_e es]
  dsimp only
  rw [zm_e (zt_must hM 0 2), zm_e (zm_gI hM2 30), if_neg e30]
/-- taken, or both fail -/
theorem zj_takes {d D : Nat} (G : zt_gd T n g k f t E) {x : Int} (hx : 0 ≤ x ∧ x ≤ 127) : (t = 3 ∧ T f = x ∧ ∃ (b : Int) (g' k' : zv_H), C3_isSign (d + 1) 5 x g = some (1, g) ∧ C3_next (d + 2) 5 g = some (b, g') ∧ C9_takes (D + 6) 347 x k = some k' ∧ zt_rf g g' ∧ zm_rF k k' ∧ ((b = 1 ∧ ∃ f' t' E', zt_gd T n g' k' f' t' E') ∨ (b = 0 ∧ zt_bd T n g' k'))) ∨ (¬ (t = 3 ∧ T f = x) ∧ ∃ (g' k' : zv_H), C3_isSign (d + 1) 5 x g = some (0, g) ∧ C3_fail (d + 1) 5 2 g = some (0, g') ∧ C9_takes (D + 6) 347 x k = some k' ∧ zt_rf g g' ∧ zm_F [] [30, 31] k k' ∧ zt_bd T n g' k') := by
  have es := zt_isSignC (d := d) G x
  by_cases h : t = 3 ∧ T f = x
  · rw [if_pos h] at es
    obtain ⟨b, g', k', a1, a2, a3, a4, a5⟩ := zj_nx (d := d) (D := D) G (by rw [h.1]; decide)
    exact Or.inl ⟨h.1, h.2, b, g', k', es, a1, zt_takesR1 G hx h a2, a3, a4, a5⟩
  · rw [if_neg h] at es
    exact Or.inr ⟨h, _, _, es, zt_fail (zt_tx_L (zt_gd_X G)) 2, zt_takesR0 G hx h, zt_rf_fail g 2, zt_ms_F 0 2 k, zj_fail G (by decide)⟩
/-- a number taken, or both fail -/
theorem zj_number {d D : Nat} (G : zt_gd T n g k f t E) : (t = 2 ∧ ∃ (b : Int) (g' k' : zv_H), zv_I g 5 7 = zt_nv T f (E - f) ∧ C3_next (d + 2) 5 g = some (b, g') ∧ C9_takesNumber (D + 6) 347 k = some (zt_nv T f (E - f), k') ∧ zt_rf g g' ∧ zm_rF k k' ∧ ((b = 1 ∧ ∃ f' t' E', zt_gd T n g' k' f' t' E') ∨ (b = 0 ∧ zt_bd T n g' k'))) ∨ (t ≠ 2 ∧ ∃ (v : Int) (g' k' : zv_H), C3_fail (d + 1) 5 2 g = some (0, g') ∧ C9_takesNumber (D + 6) 347 k = some (v, k') ∧ zt_rf g g' ∧ zm_F [] [30, 31] k k' ∧ zt_bd T n g' k') := by
  have hM := zt_ty_M (zt_gd_Y G)
  have r := zt_gd_r G
  by_cases h : t = 2
  · obtain ⟨b, g', k', a1, a2, a3, a4, a5⟩ := zj_nx (d := d) (D := D) G (by rw [h]; decide)
    refine Or.inl ⟨h, b, g', k', zt_gd_c2 G h, a1, lC9_takesNumber (zm_ob hM) ?_, a3, a4, a5⟩
    rw [qE9_takesNumber, zm_e (zm_gI hM 34), r.2.1, if_pos (show (t : Int) = 2 by rw [h]; rfl), qL9_takesNumber_14, zm_e (zt_must hM 1 2), zt_ms_1 (by decide), zm_e (zm_gI hM 35), r.2.2.2.1 h, zm_e (zm_gI hM 30), zt_gd_f2 G, if_pos rfl, zm_e a2]
  · have hM2 := zm_F_M (zt_ms_F 0 2 k) hM
    have bd := zj_fail G (w := 2) (by decide)
    have e4 : ¬ ((2 : Int) = 2 ∧ zv_I k 347 34 = 4) := fun q => zt_gd_t4 G (Int.ofNat.inj (r.2.1.symm.trans q.2))
    have e30 : ¬ zv_I (zt_ms 0 2 k) 347 30 = 0 := by
      rw [zt_ms_0 (zt_gd_f2 G), if_neg e4, zy_In _ _ (fun q => absurd q.2 (by decide)), zy_I]
      decide
    refine Or.inr ⟨h, zv_I (zt_ms 0 2 k) 347 35, _, _, zt_fail (zt_tx_L (zt_gd_X G)) 2, lC9_takesNumber (zm_ob hM) ?_, zt_rf_fail g 2, zt_ms_F 0 2 k, bd⟩
    rw [qE9_takesNumber, zm_e (zm_gI hM 34), r.2.1, if_neg (show ¬ (t : Int) = 2 from fun q => h (Int.ofNat.inj q)), qL9_takesNumber_14, zm_e (zt_must hM 0 2), zm_e (zm_gI hM2 35), zm_e (zm_gI hM2 30), if_neg e30]
/-- behind a fault the reference takes nothing -/
theorem zt_bd_ms (B : zt_bd T n g k) : zt_bd T n g (zt_ms 0 2 k) ∧ 0 < zv_I (zt_ms 0 2 k) 347 30 := by
  have F := zt_ms_F 0 2 k
  have Y' : zt_ty T n (zt_ms 0 2 k) := ⟨zm_F_M F (zt_ty_M (zt_bd_Y B)), zt_ty_n (zt_bd_Y B), (zm_F_g F 36).trans (zt_ty_l (zt_bd_Y B)), fun i hi => by rw [zm_F_a F 366]; exact zt_ty_t (zt_bd_Y B) i hi, zt_ty_b (zt_bd_Y B)⟩
  rcases zt_bd_f B with ⟨q1, q2, q3, q4⟩ | ⟨q1, q2⟩
  · have e30 : zv_I (zt_ms 0 2 k) 347 30 = 1 := by
      rw [zt_ms_0 q2, if_pos (show (2 : Int) = 2 ∧ zv_I k 347 34 = 4 from ⟨rfl, q3⟩), zy_In _ _ (fun q => absurd q.2 (by decide)), zy_I]
    have e31 : zv_I (zt_ms 0 2 k) 347 31 = zv_I k 347 32 := by
      rw [zt_ms_0 q2, zy_I]
    exact ⟨⟨zt_bd_X B, Y', zt_bd_f0 B, Or.inr ⟨e30.trans q1.symm, e31.trans q4.symm⟩⟩, by rw [e30]; decide⟩
  · have p : 0 < zv_I k 347 30 := by rw [q1]; exact zt_bd_f0 B
    rw [zt_ms_f p]
    exact ⟨B, p⟩
end
end
