/-! ===== the tie: a TEST is read: what stands so far ===== -/
/-- the steps so far are these codes -/
def zt_T0 (b : Nat) (cs : List Int) (h : zv_H) : Prop := (zv_I h (b + 22) 3 = cs.length) ∧ (∀ (k : Nat) (v : Int), cs[k]? = some v → zv_I h (b + 23) k = (zt_sp v).1 ∧ zv_I h (b + 24) k = (zt_sp v).2) ∧ (∀ v ∈ cs, -3 ≤ v ∧ v < 100000)
theorem zt_T0_sz {b : Nat} {cs : List Int} {h : zv_H} (t : zt_T0 b cs h) : zv_I h (b + 22) 3 = cs.length := t.1
theorem zt_T0_st {b : Nat} {cs : List Int} {h : zv_H} (t : zt_T0 b cs h) : ∀ (k : Nat) (v : Int), cs[k]? = some v → zv_I h (b + 23) k = (zt_sp v).1 ∧ zv_I h (b + 24) k = (zt_sp v).2 := t.2.1
theorem zt_T0_rg {b : Nat} {cs : List Int} {h : zv_H} (t : zt_T0 b cs h) : ∀ v ∈ cs, -3 ≤ v ∧ v < 100000 := t.2.2
/-- what a step changes in the class -/
def zt_ja (b : Nat) (g g' : zv_H) : Prop := g'.1 = g.1 ∧ g'.2.2 = g.2.2 ∧ ∀ r k, r ≠ b + 22 → r ≠ b + 23 → r ≠ b + 24 → zv_I g' r k = zv_I g r k
/-- what reading a TEST changes in the class -/
def zt_tj (b : Nat) (g g' : zv_H) : Prop := g'.1 = g.1 ∧ g'.2.2 = g.2.2 ∧ ∀ r k, ¬ (r = 5 ∧ 4 ≤ k ∧ k ≤ 9) → r ≠ b + 22 → r ≠ b + 23 → r ≠ b + 24 → zv_I g' r k = zv_I g r k
theorem zt_tj_r (b : Nat) (g : zv_H) : zt_tj b g g := ⟨rfl, rfl, fun _ _ _ _ _ _ => rfl⟩
theorem zt_tj_t {b : Nat} {g g1 g2 : zv_H} (f : zt_tj b g g1) (h : zt_tj b g1 g2) : zt_tj b g g2 := ⟨h.1.trans f.1, h.2.1.trans f.2.1, fun r k q1 q2 q3 q4 => (h.2.2 r k q1 q2 q3 q4).trans (f.2.2 r k q1 q2 q3 q4)⟩
theorem zt_tj_rf {b : Nat} {g g1 : zv_H} (f : zt_rf g g1) : zt_tj b g g1 := ⟨f.1, f.2.1, fun r k q1 _ _ _ => f.2.2 r k q1⟩
theorem zt_tj_ja {b : Nat} {g g1 : zv_H} (f : zt_ja b g g1) : zt_tj b g g1 := ⟨f.1, f.2.1, fun r k _ q2 q3 q4 => f.2.2 r k q2 q3 q4⟩
theorem zt_L_12 {g g' : zv_H} (gL : zt_L g) (h1 : g'.1 = g.1) (h2 : g'.2.2 = g.2.2) : zt_L g' := by
  refine ⟨?_, fun r k q1 q2 => ?_, fun a i q1 q2 => ?_⟩
  · have := gL.1
    unfold zv_n at *
    rw [h1]
    exact this
  · unfold zv_R
    rw [h2]
    exact gL.2.1 r k q1 q2
  · unfold zv_R
    rw [h2]
    exact gL.2.2 a i q1 q2
section
variable {T : Nat → Int} {n : Nat} {g k : zv_H} {f t E b : Nat}
theorem zt_tx_x0 (X : zt_tx T n g) {g' : zv_H} (gL' : zt_L g') (h5 : zv_I g' 5 3 = zv_I g 5 3) (h6 : ∀ j, zv_I g' 6 j = zv_I g 6 j) : zt_tx T n g' := ⟨gL', zt_tx_n X, h5.trans (zt_tx_l X), fun i hi => (h6 i).trans (zt_tx_t X i hi), zt_tx_b X⟩
theorem zt_ty_x (Y : zt_ty T n k) {A B : List Nat} {k' : zv_H} (F : zm_F A B k k') (hA : A.contains 366 = false := by rfl) (hB : B.contains 36 = false := by rfl) : zt_ty T n k' := ⟨zm_F_M F (zt_ty_M Y), zt_ty_n Y, (zm_F_g F 36 hB).trans (zt_ty_l Y), fun i hi => by rw [zm_F_a F 366 hA]; exact zt_ty_t Y i hi, zt_ty_b Y⟩
/-- the TOKEN stands where other cells change -/
theorem zt_gd_x0 (G : zt_gd T n g k f t E) {g' k' : zv_H} (gL' : zt_L g') (h5 : ∀ j, j < 10 → zv_I g' 5 j = zv_I g 5 j) (h6 : ∀ j, zv_I g' 6 j = zv_I g 6 j) {A B : List Nat} (F : zm_F A B k k') (hA : A.contains 366 = false := by rfl) (b0 : B.contains 30 = false := by rfl) (b2 : B.contains 32 = false := by rfl) (b3 : B.contains 33 = false := by rfl) (b4 : B.contains 34 = false := by rfl) (b5 : B.contains 35 = false := by rfl) (b6 : B.contains 36 = false := by rfl) (b8 : B.contains 38 = false := by rfl) : zt_gd T n g' k' f t E := by
  have r := zt_gd_r G
  refine ⟨zt_tx_x0 (zt_gd_X G) gL' (h5 3 (by decide)) h6, zt_ty_x (zt_gd_Y G) F hA b6, zt_gd_k G, zt_gd_t4 G, (h5 5 (by decide)).trans (zt_gd_c5 G), (h5 4 (by decide)).trans (zt_gd_c4 G), (h5 6 (by decide)).trans (zt_gd_c6 G), fun q => (h5 7 (by decide)).trans (zt_gd_c2 G q), fun q => (h5 7 (by decide)).trans (zt_gd_c3 G q), ⟨(zm_F_g F 32 b2).trans r.1, (zm_F_g F 34 b4).trans r.2.1, fun q => (zm_F_g F 33 b3).trans (r.2.2.1 q), fun q => (zm_F_g F 35 b5).trans (r.2.2.2.1 q), fun q => ?_⟩, (h5 8 (by decide)).trans (zt_gd_f1 G), (zm_F_g F 30 b0).trans (zt_gd_f2 G), (h5 9 (by decide)).trans (zt_gd_f9 G)⟩
  rw [zt_F_J38 F b8]
  exact r.2.2.2.2 q
theorem zt_gd_x (G : zt_gd T n g k f t E) {g' k' : zv_H} (h1 : g'.1 = g.1) (h2 : g'.2.2 = g.2.2) (h5 : ∀ j, j < 10 → zv_I g' 5 j = zv_I g 5 j) (h6 : ∀ j, zv_I g' 6 j = zv_I g 6 j) {A B : List Nat} (F : zm_F A B k k') (hA : A.contains 366 = false := by rfl) (b0 : B.contains 30 = false := by rfl) (b2 : B.contains 32 = false := by rfl) (b3 : B.contains 33 = false := by rfl) (b4 : B.contains 34 = false := by rfl) (b5 : B.contains 35 = false := by rfl) (b6 : B.contains 36 = false := by rfl) (b8 : B.contains 38 = false := by rfl) : zt_gd T n g' k' f t E := zt_gd_x0 G (zt_L_12 (zt_tx_L (zt_gd_X G)) h1 h2) h5 h6 F hA b0 b2 b3 b4 b5 b6 b8
theorem zt_bd_x0 (B : zt_bd T n g k) {g' k' : zv_H} (gL' : zt_L g') (h5 : ∀ j, j < 10 → zv_I g' 5 j = zv_I g 5 j) (h6 : ∀ j, zv_I g' 6 j = zv_I g 6 j) {A C : List Nat} (F : zm_F A C k k') (hA : A.contains 366 = false := by rfl) (b0 : C.contains 30 = false := by rfl) (b1 : C.contains 31 = false := by rfl) (b2 : C.contains 32 = false := by rfl) (b4 : C.contains 34 = false := by rfl) (b6 : C.contains 36 = false := by rfl) : zt_bd T n g' k' := by
  refine ⟨zt_tx_x0 (zt_bd_X B) gL' (h5 3 (by decide)) h6, zt_ty_x (zt_bd_Y B) F hA b6, by rw [h5 8 (by decide)]; exact zt_bd_f0 B, ?_⟩
  rw [h5 8 (by decide), h5 9 (by decide), zm_F_g F 30 b0, zm_F_g F 31 b1, zm_F_g F 32 b2, zm_F_g F 34 b4]
  exact zt_bd_f B
theorem zt_bd_x (B : zt_bd T n g k) {g' k' : zv_H} (h1 : g'.1 = g.1) (h2 : g'.2.2 = g.2.2) (h5 : ∀ j, j < 10 → zv_I g' 5 j = zv_I g 5 j) (h6 : ∀ j, zv_I g' 6 j = zv_I g 6 j) {A C : List Nat} (F : zm_F A C k k') (hA : A.contains 366 = false := by rfl) (b0 : C.contains 30 = false := by rfl) (b1 : C.contains 31 = false := by rfl) (b2 : C.contains 32 = false := by rfl) (b4 : C.contains 34 = false := by rfl) (b6 : C.contains 36 = false := by rfl) : zt_bd T n g' k' := zt_bd_x0 B (zt_L_12 (zt_tx_L (zt_bd_X B)) h1 h2) h5 h6 F hA b0 b1 b2 b4 b6
theorem zt_ja_5 (hb : zv_lay b = (1, 0)) {g' : zv_H} (j : zt_ja b g g') : (∀ i, zv_I g' 5 i = zv_I g 5 i) ∧ ∀ i, zv_I g' 6 i = zv_I g 6 i := by
  have := zc_lh hb
  exact ⟨fun i => j.2.2 5 i (by omega) (by omega) (by omega), fun i => j.2.2 6 i (by omega) (by omega) (by omega)⟩
theorem zt_gd_ja (hb : zv_lay b = (1, 0)) (G : zt_gd T n g k f t E) {g' : zv_H} (j : zt_ja b g g') : zt_gd T n g' k f t E := zt_gd_x G j.1 j.2.1 (fun i _ => (zt_ja_5 hb j).1 i) (zt_ja_5 hb j).2 (zm_F_r [] [] k)
theorem zt_bd_ja (hb : zv_lay b = (1, 0)) (B : zt_bd T n g k) {g' : zv_H} (j : zt_ja b g g') : zt_bd T n g' k := zt_bd_x B j.1 j.2.1 (fun i _ => (zt_ja_5 hb j).1 i) (zt_ja_5 hb j).2 (zm_F_r [] [] k)
/-- the next one, and that it is the next one -/
theorem zj_nx2 {d D : Nat} (G : zt_gd T n g k f t E) (t0 : t ≠ 0) : ∃ (v : Int) (g' k' : zv_H), C3_next (d + 2) 5 g = some (v, g') ∧ C9_reads (D + 5) 347 k = some k' ∧ zt_rf g g' ∧ zm_rF k k' ∧ ((v = 1 ∧ ∃ f' t' E', zt_gd T n g' k' f' t' E' ∧ zt_tkn T n E f' t' E') ∨ (v = 0 ∧ zt_bd T n g' k')) := by
  obtain ⟨e0, hk⟩ := zt_gd_k G
  obtain ⟨f', t', E', g', k', a1, a2, a3, a4, a5, a6, a7⟩ := zj_next (d := d) (D := D) (zt_tkn_E hk) (zt_gd_X G) (zt_gd_Y G) (zt_gd_c6 G) ((zt_gd_r G).2.2.1 t0)
  have X' := zt_tx_r (zt_gd_X G) a4
  have Y' := zt_ty_r (zt_gd_Y G) a5
  have f30 : zv_I k' 347 30 = 0 := (zm_F_g a5 30).trans (zt_gd_f2 G)
  refine ⟨_, g', k', a2, a3, a4, a5, ?_⟩
  rcases a6.2 with ⟨q1, q2, q3⟩ | ⟨q1, q2, q3, q4, q5, q6, q7⟩
  · rw [if_pos q1]
    exact Or.inr ⟨rfl, X', Y', by rw [q2]; decide, Or.inl ⟨q2, f30, by rw [a7.2.1, q1]; rfl, q3.trans a7.1.symm⟩⟩
  · rw [if_neg q1]
    exact Or.inl ⟨rfl, f', t', E', ⟨X', Y', ⟨_, a1⟩, q1, a6.1, q2, q3, q4, q5, a7, q6.trans (zt_gd_f1 G), f30, q7.trans (zt_gd_f9 G)⟩, a1⟩
/-- where the next one begins -/
theorem zt_tkn_f {e f' t' E' : Nat} (h : zt_tkn T n e f' t' E') : e ≤ f' ∧ f' ≤ E' ∧ (t' ≠ 0 → f' < E' ∧ f' < n) := by
  refine ⟨h.1.1, ?_, fun q => ?_⟩
  · rcases h.2 with ⟨a1, a2, a3⟩ | ⟨an, ⟨a1, a2, a3⟩ | ⟨a1, a2, a3, a4⟩ | ⟨a1, a2, a3, a4, a5⟩ | ⟨a1, ⟨a2, a3, a4⟩ | ⟨a2, a3, a4, a5⟩⟩⟩ <;> first | omega | exact a3.1
  · have key : ∀ {P : Int → Prop}, P (T f') → zt_up P T n f' E' → f' < n → f' < E' := fun {P} p u fn => by
      rcases Nat.lt_or_ge f' E' with z | z
      · exact z
      · have : E' = f' := Nat.le_antisymm z u.1
        have u4 := u.2.2.2
        rw [this] at u4
        exact absurd p (u4 fn)
    rcases h.2 with ⟨a1, a2, a3⟩ | ⟨an, ⟨a1, a2, a3⟩ | ⟨a1, a2, a3, a4⟩ | ⟨a1, a2, a3, a4, a5⟩ | ⟨a1, ⟨a2, a3, a4⟩ | ⟨a2, a3, a4, a5⟩⟩⟩
    · exact absurd a1 q
    · exact ⟨key a2 a3 an, an⟩
    · exact ⟨key a2 a3 an, an⟩
    · exact ⟨by omega, an⟩
    · exact ⟨key a2 a3 an, an⟩
    · exact ⟨by omega, an⟩
/-- two words don't touch -/
theorem zt_gap (G : zt_gd T n g k f t E) (t1 : t = 1) {f' t' E' : Nat} (h : zt_tkn T n E f' t' E') (t1' : t' = 1) : E + 1 ≤ f' := by
  obtain ⟨e0, hk⟩ := zt_gd_k G
  have h1 := (zt_tkn_f h).1
  rcases Nat.lt_or_ge E f' with z | z
  · exact z
  · have e : f' = E := Nat.le_antisymm z h1
    have fn := (zt_tkn_f h).2.2 (by rw [t1']; decide)
    have sm : zt_sm (T f') := by
      rcases h.2 with ⟨a1, _⟩ | ⟨_, ⟨_, a2, _⟩ | ⟨a1, _⟩ | ⟨a1, _⟩ | ⟨a1, _⟩⟩
      · rw [t1'] at a1; exact absurd a1 (by decide)
      · exact a2
      · rw [t1'] at a1; exact absurd a1 (by decide)
      · rw [t1'] at a1; exact absurd a1 (by decide)
      · rw [t1'] at a1; exact absurd a1 (by decide)
    have up : zt_up zt_sm T n f E := by
      rcases hk.2 with ⟨a1, _⟩ | ⟨_, ⟨_, _, a3⟩ | ⟨a1, _⟩ | ⟨a1, _⟩ | ⟨a1, _⟩⟩
      · rw [t1] at a1; exact absurd a1 (by decide)
      · exact a3
      · rw [t1] at a1; exact absurd a1 (by decide)
      · rw [t1] at a1; exact absurd a1 (by decide)
      · rw [t1] at a1; exact absurd a1 (by decide)
    rw [e] at sm fn
    exact absurd sm (up.2.2.2 fn.2)
theorem zt_gd_f (G : zt_gd T n g k f t E) : f ≤ E ∧ E ≤ n ∧ n ≤ 700 ∧ (t ≠ 0 → f < E ∧ f < n) := by
  obtain ⟨e0, hk⟩ := zt_gd_k G
  have := zt_tkn_f hk
  exact ⟨this.2.1, zt_tkn_E hk, zt_tx_n (zt_gd_X G), this.2.2⟩
end
/-- the three cells of a step -/
theorem zt_w3 (g : zv_H) (b i : Nat) (x y z : Int) (k : Nat) : zv_I (zv_sI (zv_sI (zv_sI g (b + 23) i x) (b + 24) i y) (b + 22) 3 z) (b + 23) k = (if k = i then x else zv_I g (b + 23) k) ∧ zv_I (zv_sI (zv_sI (zv_sI g (b + 23) i x) (b + 24) i y) (b + 22) 3 z) (b + 24) k = if k = i then y else zv_I g (b + 24) k := by
  constructor
  · rw [zy_In _ _ (fun q => absurd q.1 (by omega)), zy_In _ _ (fun q => absurd q.1 (by omega))]
    by_cases c : k = i
    · rw [c, zy_I, if_pos rfl]
    · rw [zy_In _ _ (fun q => c q.2), if_neg c]
  · rw [zy_In _ _ (fun q => absurd q.1 (by omega))]
    by_cases c : k = i
    · rw [c, zy_I, if_pos rfl]
    · rw [zy_In _ _ (fun q => c q.2), if_neg c, zy_In _ _ (fun q => absurd q.1 (by omega))]
/-- a step more, whatever stands -/
theorem zt_jadd0 {d b : Nat} {g : zv_H} (hb : zv_lay b = (1, 0)) (gL : zt_L g) (x y : Int) : ∃ g', C1_add (d + 1) (b + 22) x y g = some g' ∧ zt_ja b g g' := by
  obtain ⟨l1, l2, l3, l4⟩ := zt_jn_l hb
  suffices h : ∃ g', E1_add d (b + 22) x y g = some (none, g') ∧ zt_ja b g g' by
    obtain ⟨g', e, j⟩ := h
    exact ⟨g', lC1_add (zl_ob gL l1) e, j⟩
  have rf : zt_ja b g g := ⟨rfl, rfl, fun _ _ _ _ _ => rfl⟩
  rw [qE1_add, zm_e (zl_gI gL l1 3)]
  by_cases c1 : zv_I g (b + 22) 3 < 0
  · rw [if_pos c1]
    exact ⟨g, rfl, rf⟩
  rw [if_neg c1, zm_e (zl_gI gL l1 3)]
  by_cases c2 : zv_I g (b + 22) 3 < 176
  · rw [if_pos c2, zm_e (zl_gF gL l1 0 1), zm_e (zl_gI gL l1 3), show b + 22 + 1 = b + 23 from rfl, zm_e (zl_wI gL l2 (by omega) (by omega) x)]
    generalize hi : (zv_I g (b + 22) 3).toNat = i
    have L1 : zt_L (zv_sI g (b + 23) i x) := gL
    rw [zm_e (zl_gF L1 l1 1 2), zm_e (zl_gI L1 l1 3), zy_In _ _ (fun q => absurd q.1 (by omega)), show b + 22 + 2 = b + 24 from rfl, zm_e (zl_wI L1 l3 (by omega) (by omega) y), hi]
    have L2 : zt_L (zv_sI (zv_sI g (b + 23) i x) (b + 24) i y) := gL
    rw [zm_e (zl_gI L2 l1 3), zm_e (zl_pI L2 l1 3 _)]
    exact ⟨_, rfl, rfl, rfl, fun r k q1 q2 q3 => by rw [zy_In _ _ (fun q => q1 q.1), zy_In _ _ (fun q => q3 q.1), zy_In _ _ (fun q => q2 q.1)]⟩
  · rw [if_neg c2]
    exact ⟨g, rfl, rf⟩
/-- a step more -/
theorem zt_jadd {d b : Nat} {g : zv_H} (hb : zv_lay b = (1, 0)) (gL : zt_L g) {cs : List Int} (S : zt_T0 b cs g) (hl : cs.length < 176) {v : Int} (hv : -3 ≤ v ∧ v < 100000) {x y : Int} (ex : (zt_sp v).1 = x) (ey : (zt_sp v).2 = y) : ∃ g', C1_add (d + 1) (b + 22) x y g = some g' ∧ zt_ja b g g' ∧ zt_T0 b (cs ++ [v]) g' := by
  obtain ⟨l1, l2, l3, l4⟩ := zt_jn_l hb
  suffices h : ∃ g', E1_add d (b + 22) x y g = some (none, g') ∧ zt_ja b g g' ∧ zt_T0 b (cs ++ [v]) g' by
    obtain ⟨g', e, j⟩ := h
    exact ⟨g', lC1_add (zl_ob gL l1) e, j⟩
  have sz := zt_T0_sz S
  have i0 : ¬ ((cs.length : Nat) : Int) < 0 := Int.not_lt.mpr (Int.natCast_nonneg _)
  have i1 : ((cs.length : Nat) : Int) < 176 := Int.ofNat_lt.mpr hl
  rw [qE1_add, zm_e (zl_gI gL l1 3), sz, if_neg i0, zm_e (zl_gI gL l1 3), sz, if_pos i1, zm_e (zl_gF gL l1 0 1), zm_e (zl_gI gL l1 3), sz, show b + 22 + 1 = b + 23 from rfl, zm_e (zl_wI gL l2 (Int.not_lt.mp i0) i1 x), Int.toNat_natCast]
  have L1 : zt_L (zv_sI g (b + 23) cs.length x) := gL
  rw [zm_e (zl_gF L1 l1 1 2), zm_e (zl_gI L1 l1 3), zy_In _ _ (fun q => absurd q.1 (by omega)), sz, show b + 22 + 2 = b + 24 from rfl, zm_e (zl_wI L1 l3 (Int.not_lt.mp i0) i1 y), Int.toNat_natCast]
  have L2 : zt_L (zv_sI (zv_sI g (b + 23) cs.length x) (b + 24) cs.length y) := gL
  have e3 : zv_I (zv_sI (zv_sI g (b + 23) cs.length x) (b + 24) cs.length y) (b + 22) 3 = cs.length := by rw [zy_In _ _ (fun q => absurd q.1 (by omega)), zy_In _ _ (fun q => absurd q.1 (by omega)), sz]
  rw [zm_e (zl_gI L2 l1 3), e3, zt_tkw (show cs.length ≤ 700 by omega), zm_e (zl_pI L2 l1 3 _)]
  refine ⟨_, rfl, ⟨rfl, rfl, fun r k q1 q2 q3 => by rw [zy_In _ _ (fun q => q1 q.1), zy_In _ _ (fun q => q3 q.1), zy_In _ _ (fun q => q2 q.1)]⟩, ?_, fun k w hk => ?_, fun w hw => ?_⟩
  · rw [zy_I, List.length_append]
    rfl
  · have w3 := zt_w3 g b cs.length x y ((cs.length + 1 : Nat) : Int) k
    rw [w3.1, w3.2]
    by_cases c : k = cs.length
    · have ew : v = w := by
        rw [c, List.getElem?_append_right (Nat.le_refl _), Nat.sub_self] at hk
        exact Option.some.inj hk
      rw [if_pos c, if_pos c, ← ew]
      exact ⟨ex.symm, ey.symm⟩
    · have kl : k < cs.length := by
        have := zm_lt_of_get hk
        rw [List.length_append, List.length_singleton] at this
        omega
      rw [List.getElem?_append_left kl] at hk
      rw [if_neg c, if_neg c]
      exact zt_T0_st S k w hk
  · rcases List.mem_append.mp hw with z | z
    · exact zt_T0_rg S w z
    · rw [List.mem_singleton.mp z]
      exact hv
