/-! ===== the tie: TOKENS, the class ===== -/
/-- the text, in the class's cells -/
def zt_tx (T : Nat → Int) (n : Nat) (g : zv_H) : Prop := (zt_L g) ∧ (n ≤ 700) ∧ (zv_I g 5 3 = n) ∧ (∀ i : Nat, i < n → zv_I g 6 i = T i) ∧ (∀ i : Nat, i < n → 0 ≤ T i ∧ T i ≤ 255)
theorem zt_tx_L {T : Nat → Int} {n : Nat} {g : zv_H} (t : zt_tx T n g) : zt_L g := t.1
theorem zt_tx_n {T : Nat → Int} {n : Nat} {g : zv_H} (t : zt_tx T n g) : n ≤ 700 := t.2.1
theorem zt_tx_l {T : Nat → Int} {n : Nat} {g : zv_H} (t : zt_tx T n g) : zv_I g 5 3 = n := t.2.2.1
theorem zt_tx_t {T : Nat → Int} {n : Nat} {g : zv_H} (t : zt_tx T n g) : ∀ i : Nat, i < n → zv_I g 6 i = T i := t.2.2.2.1
theorem zt_tx_b {T : Nat → Int} {n : Nat} {g : zv_H} (t : zt_tx T n g) : ∀ i : Nat, i < n → 0 ≤ T i ∧ T i ≤ 255 := t.2.2.2.2
/-- but for the TOKEN that is looked at, and the fault -/
def zt_rf (g : zv_H) (g' : zv_H) : Prop := (g'.1 = g.1) ∧ (g'.2.2 = g.2.2) ∧ (∀ r k, ¬ (r = 5 ∧ 4 ≤ k ∧ k ≤ 9) → zv_I g' r k = zv_I g r k)
theorem zt_rf_n {g : zv_H} {g' : zv_H} (t : zt_rf g g') : g'.1 = g.1 := t.1
theorem zt_rf_q {g : zv_H} {g' : zv_H} (t : zt_rf g g') : g'.2.2 = g.2.2 := t.2.1
theorem zt_rf_i {g : zv_H} {g' : zv_H} (t : zt_rf g g') : ∀ r k, ¬ (r = 5 ∧ 4 ≤ k ∧ k ≤ 9) → zv_I g' r k = zv_I g r k := t.2.2
theorem zt_rf_r (g : zv_H) : zt_rf g g := ⟨rfl, rfl, fun _ _ _ => rfl⟩
theorem zt_rf_t {g g1 g2 : zv_H} (f : zt_rf g g1) (h : zt_rf g1 g2) : zt_rf g g2 := ⟨h.1.trans f.1, h.2.1.trans f.2.1, fun r k q => (h.2.2 r k q).trans (f.2.2 r k q)⟩
theorem zt_rf_s {g g1 : zv_H} (f : zt_rf g g1) {k : Nat} (hk : 4 ≤ k ∧ k ≤ 9) (v : Int) : zt_rf g (zv_sI g1 5 k v) := ⟨f.1, f.2.1, fun r k' q => (zy_In _ _ (fun z => q ⟨z.1, by rw [z.2]; exact hk⟩)).trans (f.2.2 r k' q)⟩
theorem zt_tx_r {T : Nat → Int} {n : Nat} {g g' : zv_H} (X : zt_tx T n g) (f : zt_rf g g') : zt_tx T n g' := by
  refine ⟨?_, zt_tx_n X, (zt_rf_i f _ _ (fun q => absurd q.2.1 (by decide))).trans (zt_tx_l X), fun i hi => (zt_rf_i f _ _ (fun q => absurd q.1 (by decide))).trans (zt_tx_t X i hi), zt_tx_b X⟩
  have gL := zt_tx_L X
  refine ⟨?_, fun r k h1 h2 => ?_, fun a i h1 h2 => ?_⟩
  · have := gL.1
    unfold zv_n at *
    rw [zt_rf_n f]
    exact this
  · unfold zv_R
    rw [zt_rf_q f]
    exact gL.2.1 r k h1 h2
  · unfold zv_R
    rw [zt_rf_q f]
    exact gL.2.2 a i h1 h2
abbrev zt_sm (x : Int) : Prop := 97 ≤ x ∧ x ≤ 122
abbrev zt_dg (x : Int) : Prop := 48 ≤ x ∧ x ≤ 57
abbrev zt_bk (x : Int) : Prop := x = 32 ∨ x = 10
/-- the byte there, or none -/
def zt_at8 (T : Nat → Int) (n i : Nat) : Int := if i < n then T i else -1
theorem zt_lay5 : zv_lay 5 = (1, 3) := rfl
theorem zt_lay6 : zv_lay 6 = (2, 700) := rfl
section
variable {T : Nat → Int} {n : Nat} {g : zv_H}
theorem zt_byteAt {d : Nat} (X : zt_tx T n g) (i : Nat) (h : i ≤ 700) : C3_byteAt (d + 1) 5 (i : Int) g = some (zt_at8 T n i, g) := by
  have gL := zt_tx_L X
  have n7 := zt_tx_n X
  refine lC3_byteAt (zl_ob gL zt_lay5) ?_
  rw [qE3_byteAt, if_neg (Int.not_lt.mpr (Int.natCast_nonneg _)), zm_e (zl_gI gL zt_lay5 3), zt_tx_l X]
  unfold zt_at8
  by_cases c : i < n
  · have i7 : (i : Int) < ((700 : Nat) : Int) := Int.ofNat_lt.mpr (Nat.lt_of_lt_of_le c n7)
    rw [if_pos (Int.ofNat_lt.mpr c), if_pos (show (i : Int) < 700 from i7), zm_e (zl_gF gL zt_lay5 0 1), if_pos c, zm_e (zl_aI gL zt_lay6 (Int.natCast_nonneg _) i7), Int.toNat_natCast, zt_tx_t X i c]
  · rw [if_neg (fun q => c (Int.ofNat_lt.mp q)), if_neg c]
theorem zt_isSmall {d : Nat} (x : Int) : C3_isSmall (d + 1) x g = some (if zt_sm x then 1 else 0, g) := by
  refine lC3_isSmall ?_
  rw [qE3_isSmall]
  unfold zt_sm
  by_cases c : x < 97
  · rw [if_pos c, if_neg (fun q => absurd q.1 (Int.not_le.mpr c))]
  · rw [if_neg c]
    by_cases c2 : x ≤ 122
    · rw [if_pos c2, if_pos ⟨Int.not_lt.mp c, c2⟩]
    · rw [if_neg c2, if_neg (fun q => c2 q.2)]
theorem zt_isDigit {d : Nat} (x : Int) : C3_isDigit (d + 1) x g = some (if zt_dg x then 1 else 0, g) := by
  refine lC3_isDigit ?_
  rw [qE3_isDigit]
  unfold zt_dg
  by_cases c : x < 48
  · rw [if_pos c, if_neg (fun q => absurd q.1 (Int.not_le.mpr c))]
  · rw [if_neg c]
    by_cases c2 : x ≤ 57
    · rw [if_pos c2, if_pos ⟨Int.not_lt.mp c, c2⟩]
    · rw [if_neg c2, if_neg (fun q => c2 q.2)]
/-- from e on all are so, up to f, and there none is -/
def zt_up (P : Int → Prop) (T : Nat → Int) (n e f : Nat) : Prop := e ≤ f ∧ f ≤ n ∧ (∀ i : Nat, e ≤ i → i < f → P (T i)) ∧ (f < n → ¬ P (T f))
theorem zt_up_u {P : Int → Prop} {e f f' : Nat} (h : zt_up P T n e f) (h' : zt_up P T n e f') : f = f' := by
  obtain ⟨a1, a2, a3, a4⟩ := h
  obtain ⟨b1, b2, b3, b4⟩ := h'
  rcases Nat.lt_trichotomy f f' with q | q | q
  · exact absurd (b3 f a1 q) (a4 (Nat.lt_of_lt_of_le q b2))
  · exact q
  · exact absurd (a3 f' b1 q) (b4 (Nat.lt_of_lt_of_le q a2))
theorem zt_up_0 {P : Int → Prop} {e : Nat} (he : e ≤ n) (h : e < n → ¬ P (T e)) : zt_up P T n e e := ⟨Nat.le_refl _, he, fun i h1 h2 => absurd h2 (Nat.not_lt.mpr h1), h⟩
theorem zt_up_s {P : Int → Prop} {e f : Nat} (h0 : P (T e)) (h : zt_up P T n (e + 1) f) : zt_up P T n e f := by
  refine ⟨Nat.le_of_succ_le h.1, h.2.1, fun i h1 h2 => ?_, h.2.2.2⟩
  by_cases z : i = e
  · rw [z]; exact h0
  · exact h.2.2.1 i (Nat.lt_of_le_of_ne h1 (fun q => z q.symm)) h2
theorem zt_tkw {i : Nat} (h : i ≤ 700) : zv_w ((i : Int) + 1) = ((i + 1 : Nat) : Int) := by
  rw [zm_w (by omega)]
  rfl
/-- the class passes the blanks -/
theorem zt_next8 {d : Nat} : ∀ (m e : Nat) (g : zv_H), e + m = n → zt_tx T n g → zv_I g 5 5 = e → ∃ (f : Nat) (g' : zv_H), L3_next_8 (d + 1) 5 g = L3_next_58 (d + 1) 5 g' ∧ zt_up zt_bk T n e f ∧ zt_rf g g' ∧ zv_I g' 5 5 = f ∧ ∀ k, k ≠ 5 → zv_I g' 5 k = zv_I g 5 k := by
  intro m
  induction m with
  | zero =>
    intro e g he X h5
    have en : e = n := he
    have gL := zt_tx_L X
    refine ⟨e, g, ?_, zt_up_0 (Nat.le_of_eq en) (fun q => absurd q (by rw [en]; exact Nat.lt_irrefl _)), zt_rf_r g, h5, fun _ _ => rfl⟩
    rw [qL3_next_8, zm_e (zl_gI gL zt_lay5 5), h5, zm_e (zl_gI gL zt_lay5 3), zt_tx_l X, en, if_neg (Int.lt_irrefl _)]
  | succ m ih =>
    intro e g he X h5
    have gL := zt_tx_L X
    have n7 := zt_tx_n X
    have en : e < n := by omega
    have e7 : e ≤ 700 := by omega
    have ba := zt_byteAt (d := d) X e e7
    have eb : zt_at8 T n e = T e := if_pos en
    rw [eb] at ba
    have st : zt_rf g (zv_sI g 5 5 ((e + 1 : Nat) : Int)) := zt_rf_s (zt_rf_r g) (by decide) _
    by_cases c : zt_bk (T e)
    · obtain ⟨f, g', y1, y2, y3, y4, y5⟩ := ih (e + 1) (zv_sI g 5 5 ((e + 1 : Nat) : Int)) (by omega) (zt_tx_r X st) (zy_I _ _ _ _)
      refine ⟨f, g', ?_, zt_up_s c y2, zt_rf_t st y3, y4, fun k hk => (y5 k hk).trans (zy_In _ _ (fun q => hk q.2))⟩
      rw [qL3_next_8, zm_e (zl_gI gL zt_lay5 5), h5, zm_e (zl_gI gL zt_lay5 3), zt_tx_l X, if_pos (Int.ofNat_lt.mpr en), zm_e (zl_gI gL zt_lay5 5), h5, zm_e ba]
      dsimp only
      rcases c with c | c
      · rw [if_pos c, zm_e (zl_gI gL zt_lay5 5), h5, zt_tkw e7, zm_e (zl_pI gL zt_lay5 5 _)]
        exact y1
      · rw [if_neg (by rw [c]; decide), zm_e (zl_gI gL zt_lay5 5), h5, zm_e ba]
        dsimp only
        rw [if_pos c, zm_e (zl_gI gL zt_lay5 5), h5, zt_tkw e7, zm_e (zl_pI gL zt_lay5 5 _)]
        exact y1
    · refine ⟨e, g, ?_, zt_up_0 (Nat.le_of_lt en) (fun _ => c), zt_rf_r g, h5, fun _ _ => rfl⟩
      rw [qL3_next_8, zm_e (zl_gI gL zt_lay5 5), h5, zm_e (zl_gI gL zt_lay5 3), zt_tx_l X, if_pos (Int.ofNat_lt.mpr en), zm_e (zl_gI gL zt_lay5 5), h5, zm_e ba]
      dsimp only
      rw [if_neg (fun q => c (Or.inl q)), zm_e (zl_gI gL zt_lay5 5), h5, zm_e ba]
      dsimp only
      rw [if_neg (fun q => c (Or.inr q))]
/-- the class passes a word -/
theorem zt_next108 {d : Nat} : ∀ (m e : Nat) (g : zv_H), e + m = n → zt_tx T n g → zv_I g 5 6 = e → ∃ (f : Nat) (g' : zv_H), L3_next_108 (d + 1) 5 g = some (some (zv_i 1), g') ∧ zt_up zt_sm T n e f ∧ zt_rf g g' ∧ zv_I g' 5 6 = f ∧ ∀ k, k ≠ 6 → zv_I g' 5 k = zv_I g 5 k := by
  intro m
  induction m with
  | zero =>
    intro e g he X h5
    have en : e = n := he
    have gL := zt_tx_L X
    refine ⟨e, g, ?_, zt_up_0 (Nat.le_of_eq en) (fun q => absurd q (by rw [en]; exact Nat.lt_irrefl _)), zt_rf_r g, h5, fun _ _ => rfl⟩
    rw [qL3_next_108, zm_e (zl_gI gL zt_lay5 6), h5, zm_e (zl_gI gL zt_lay5 3), zt_tx_l X, en, if_neg (Int.lt_irrefl _)]
  | succ m ih =>
    intro e g he X h5
    have gL := zt_tx_L X
    have n7 := zt_tx_n X
    have en : e < n := by omega
    have e7 : e ≤ 700 := by omega
    have ba := zt_byteAt (d := d) X e e7
    have eb : zt_at8 T n e = T e := if_pos en
    rw [eb] at ba
    have sm := zt_isSmall (d := d) (g := g) (T e)
    have st : zt_rf g (zv_sI g 5 6 ((e + 1 : Nat) : Int)) := zt_rf_s (zt_rf_r g) (by decide) _
    by_cases c : zt_sm (T e)
    · rw [if_pos c] at sm
      obtain ⟨f, g', y1, y2, y3, y4, y5⟩ := ih (e + 1) (zv_sI g 5 6 ((e + 1 : Nat) : Int)) (by omega) (zt_tx_r X st) (zy_I _ _ _ _)
      refine ⟨f, g', ?_, zt_up_s c y2, zt_rf_t st y3, y4, fun k hk => (y5 k hk).trans (zy_In _ _ (fun q => hk q.2))⟩
      rw [qL3_next_108, zm_e (zl_gI gL zt_lay5 6), h5, zm_e (zl_gI gL zt_lay5 3), zt_tx_l X, if_pos (Int.ofNat_lt.mpr en), zm_e (zl_gI gL zt_lay5 6), h5, zm_e ba]
      dsimp only
      rw [zm_e sm]
      dsimp only
      rw [if_neg (by decide), zm_e (zl_gI gL zt_lay5 6), h5, zt_tkw e7, zm_e (zl_pI gL zt_lay5 6 _)]
      exact y1
    · rw [if_neg c] at sm
      refine ⟨e, g, ?_, zt_up_0 (Nat.le_of_lt en) (fun _ => c), zt_rf_r g, h5, fun _ _ => rfl⟩
      rw [qL3_next_108, zm_e (zl_gI gL zt_lay5 6), h5, zm_e (zl_gI gL zt_lay5 3), zt_tx_l X, if_pos (Int.ofNat_lt.mpr en), zm_e (zl_gI gL zt_lay5 6), h5, zm_e ba]
      dsimp only
      rw [zm_e sm]
      dsimp only
      rw [if_pos rfl]
end
