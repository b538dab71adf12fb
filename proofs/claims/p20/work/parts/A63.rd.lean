/-! ===== the tie: the two readers ===== -/
/-- what the reference's must leaves -/
def zt_ms (v w : Int) (h : zv_H) : zv_H := if v = 0 ∧ zv_I h 347 30 ≤ 0 then zv_sI (zv_sI h 347 30 (if w = 2 ∧ zv_I h 347 34 = 4 then 1 else w)) 347 31 (zv_I h 347 32) else h
theorem zt_must {d : Nat} {h : zv_H} (hM : zm_M h) (v w : Int) : C9_must (d + 1) 347 v w h = some (zt_ms v w h) := by
  refine lC9_must (zm_ob hM) ?_
  unfold zt_ms
  rw [qE9_must]
  have fin : ∀ x : Int, ((zv_pI h 347 9 30 x).bind fun g3 => (zv_gI g3 347 9 32).bind fun v4 => (zv_pI g3 347 9 31 v4).bind fun g5 => (some (none, g5) : zv_O)) = some (none, zv_sI (zv_sI h 347 30 x) 347 31 (zv_I h 347 32)) := fun x => by
    have hM1 : zm_M (zv_sI h 347 30 x) := hM
    rw [zm_e (zm_pI hM 30 _), zm_e (zm_gI hM1 32), zy_In _ _ (fun q => absurd q.2 (by decide)), zm_e (zm_pI hM1 31 _)]
  by_cases c1 : v = 0
  · rw [if_pos c1, zm_e (zm_gI hM 30)]
    by_cases c2 : zv_I h 347 30 ≤ 0
    · rw [if_pos c2, if_pos (show v = 0 ∧ zv_I h 347 30 ≤ 0 from ⟨c1, c2⟩)]
      by_cases c3 : w = 2
      · rw [if_pos c3, zm_e (zm_gI hM 34)]
        by_cases c4 : zv_I h 347 34 = 4
        · rw [if_pos c4, if_pos (show w = 2 ∧ zv_I h 347 34 = 4 from ⟨c3, c4⟩)]
          exact fin 1
        · rw [if_neg c4, if_neg (show ¬ (w = 2 ∧ zv_I h 347 34 = 4) from fun q => c4 q.2)]
          exact fin w
      · rw [if_neg c3, if_neg (show ¬ (w = 2 ∧ zv_I h 347 34 = 4) from fun q => c3 q.1)]
        exact fin w
    · rw [if_neg c2, if_neg (show ¬ (v = 0 ∧ zv_I h 347 30 ≤ 0) from fun q => c2 q.2)]
  · rw [if_neg c1, if_neg (show ¬ (v = 0 ∧ zv_I h 347 30 ≤ 0) from fun q => c1 q.1)]
/-- behind a fault nothing is written -/
theorem zt_ms_f {v w : Int} {h : zv_H} (hf : 0 < zv_I h 347 30) : zt_ms v w h = h := if_neg (fun q => absurd hf (Int.not_lt.mpr q.2))
theorem zt_ms_1 {v w : Int} {h : zv_H} (hv : v ≠ 0) : zt_ms v w h = h := if_neg (fun q => hv q.1)
theorem zt_ms_0 {w : Int} {h : zv_H} (hf : zv_I h 347 30 = 0) : zt_ms 0 w h = zv_sI (zv_sI h 347 30 (if w = 2 ∧ zv_I h 347 34 = 4 then 1 else w)) 347 31 (zv_I h 347 32) := if_pos ⟨rfl, by rw [hf]; exact Int.le_refl _⟩
theorem zt_ms_F (v w : Int) (h : zv_H) : zm_F [] [30, 31] h (zt_ms v w h) := by
  unfold zt_ms
  by_cases c : v = 0 ∧ zv_I h 347 30 ≤ 0
  · rw [if_pos c]
    exact zm_F_f (zm_F_f (zm_F_r _ _ h) rfl _) rfl _
  · rw [if_neg c]
    exact zm_F_r _ _ h
/-- both look at one TOKEN, no fault -/
def zt_gd (T : Nat → Int) (n : Nat) (g : zv_H) (k : zv_H) (f : Nat) (y : Nat) (E : Nat) : Prop := (zt_tx T n g) ∧ (zt_ty T n k) ∧ (∃ e, zt_tkn T n e f y E) ∧ (y ≠ 4) ∧ (zv_I g 5 5 = f) ∧ (zv_I g 5 4 = y) ∧ (zv_I g 5 6 = E) ∧ (y = 2 → zv_I g 5 7 = zt_nv T f (E - f)) ∧ (y = 3 → zv_I g 5 7 = T f) ∧ (zt_tkr T k f y E) ∧ (zv_I g 5 8 = 0) ∧ (zv_I k 347 30 = 0) ∧ (zv_I g 5 9 = -1)
theorem zt_gd_X {T : Nat → Int} {n : Nat} {g : zv_H} {k : zv_H} {f : Nat} {y : Nat} {E : Nat} (t : zt_gd T n g k f y E) : zt_tx T n g := t.1
theorem zt_gd_Y {T : Nat → Int} {n : Nat} {g : zv_H} {k : zv_H} {f : Nat} {y : Nat} {E : Nat} (t : zt_gd T n g k f y E) : zt_ty T n k := t.2.1
theorem zt_gd_k {T : Nat → Int} {n : Nat} {g : zv_H} {k : zv_H} {f : Nat} {y : Nat} {E : Nat} (t : zt_gd T n g k f y E) : ∃ e, zt_tkn T n e f y E := t.2.2.1
theorem zt_gd_t4 {T : Nat → Int} {n : Nat} {g : zv_H} {k : zv_H} {f : Nat} {y : Nat} {E : Nat} (t : zt_gd T n g k f y E) : y ≠ 4 := t.2.2.2.1
theorem zt_gd_c5 {T : Nat → Int} {n : Nat} {g : zv_H} {k : zv_H} {f : Nat} {y : Nat} {E : Nat} (t : zt_gd T n g k f y E) : zv_I g 5 5 = f := t.2.2.2.2.1
theorem zt_gd_c4 {T : Nat → Int} {n : Nat} {g : zv_H} {k : zv_H} {f : Nat} {y : Nat} {E : Nat} (t : zt_gd T n g k f y E) : zv_I g 5 4 = y := t.2.2.2.2.2.1
theorem zt_gd_c6 {T : Nat → Int} {n : Nat} {g : zv_H} {k : zv_H} {f : Nat} {y : Nat} {E : Nat} (t : zt_gd T n g k f y E) : zv_I g 5 6 = E := t.2.2.2.2.2.2.1
theorem zt_gd_c2 {T : Nat → Int} {n : Nat} {g : zv_H} {k : zv_H} {f : Nat} {y : Nat} {E : Nat} (t : zt_gd T n g k f y E) : y = 2 → zv_I g 5 7 = zt_nv T f (E - f) := t.2.2.2.2.2.2.2.1
theorem zt_gd_c3 {T : Nat → Int} {n : Nat} {g : zv_H} {k : zv_H} {f : Nat} {y : Nat} {E : Nat} (t : zt_gd T n g k f y E) : y = 3 → zv_I g 5 7 = T f := t.2.2.2.2.2.2.2.2.1
theorem zt_gd_r {T : Nat → Int} {n : Nat} {g : zv_H} {k : zv_H} {f : Nat} {y : Nat} {E : Nat} (t : zt_gd T n g k f y E) : zt_tkr T k f y E := t.2.2.2.2.2.2.2.2.2.1
theorem zt_gd_f1 {T : Nat → Int} {n : Nat} {g : zv_H} {k : zv_H} {f : Nat} {y : Nat} {E : Nat} (t : zt_gd T n g k f y E) : zv_I g 5 8 = 0 := t.2.2.2.2.2.2.2.2.2.2.1
theorem zt_gd_f2 {T : Nat → Int} {n : Nat} {g : zv_H} {k : zv_H} {f : Nat} {y : Nat} {E : Nat} (t : zt_gd T n g k f y E) : zv_I k 347 30 = 0 := t.2.2.2.2.2.2.2.2.2.2.2.1
theorem zt_gd_f9 {T : Nat → Int} {n : Nat} {g : zv_H} {k : zv_H} {f : Nat} {y : Nat} {E : Nat} (t : zt_gd T n g k f y E) : zv_I g 5 9 = -1 := t.2.2.2.2.2.2.2.2.2.2.2.2
/-- a fault, told on both or about to be told -/
def zt_bd (T : Nat → Int) (n : Nat) (g : zv_H) (k : zv_H) : Prop := (zt_tx T n g) ∧ (zt_ty T n k) ∧ (0 < zv_I g 5 8) ∧ ((zv_I g 5 8 = 1 ∧ zv_I k 347 30 = 0 ∧ zv_I k 347 34 = 4 ∧ zv_I g 5 9 = zv_I k 347 32) ∨ (zv_I k 347 30 = zv_I g 5 8 ∧ zv_I k 347 31 = zv_I g 5 9))
theorem zt_bd_X {T : Nat → Int} {n : Nat} {g : zv_H} {k : zv_H} (t : zt_bd T n g k) : zt_tx T n g := t.1
theorem zt_bd_Y {T : Nat → Int} {n : Nat} {g : zv_H} {k : zv_H} (t : zt_bd T n g k) : zt_ty T n k := t.2.1
theorem zt_bd_f0 {T : Nat → Int} {n : Nat} {g : zv_H} {k : zv_H} (t : zt_bd T n g k) : 0 < zv_I g 5 8 := t.2.2.1
theorem zt_bd_f {T : Nat → Int} {n : Nat} {g : zv_H} {k : zv_H} (t : zt_bd T n g k) : (zv_I g 5 8 = 1 ∧ zv_I k 347 30 = 0 ∧ zv_I k 347 34 = 4 ∧ zv_I g 5 9 = zv_I k 347 32) ∨ (zv_I k 347 30 = zv_I g 5 8 ∧ zv_I k 347 31 = zv_I g 5 9) := t.2.2.2
section
variable {T : Nat → Int} {n : Nat} {g k : zv_H} {f t E : Nat}
theorem zt_tkn_E {e : Nat} (h : zt_tkn T n e f t E) : E ≤ n := by
  rcases h.2 with ⟨a1, a2, a3⟩ | ⟨an, ⟨a1, a2, a3⟩ | ⟨a1, a2, a3, a4⟩ | ⟨a1, a2, a3, a4, a5⟩ | ⟨a1, ⟨a2, a3, a4⟩ | ⟨a2, a3, a4, a5⟩⟩⟩
  · exact Nat.le_of_eq a3
  · exact a3.2.1
  · exact a3.2.1
  · rw [a5]; exact an
  · exact a3.2.1
  · rw [a5]; exact an
/-- the next one, for both -/
theorem zj_nx {d D : Nat} (G : zt_gd T n g k f t E) (t0 : t ≠ 0) : ∃ (b : Int) (g' k' : zv_H), C3_next (d + 2) 5 g = some (b, g') ∧ C9_reads (D + 5) 347 k = some k' ∧ zt_rf g g' ∧ zm_rF k k' ∧ ((b = 1 ∧ ∃ f' t' E', zt_gd T n g' k' f' t' E') ∨ (b = 0 ∧ zt_bd T n g' k')) := by
  obtain ⟨e0, hk⟩ := zt_gd_k G
  obtain ⟨f', t', E', g', k', a1, a2, a3, a4, a5, a6, a7⟩ := zj_next (d := d) (D := D) (zt_tkn_E hk) (zt_gd_X G) (zt_gd_Y G) (zt_gd_c6 G) ((zt_gd_r G).2.2.1 t0)
  have X' := zt_tx_r (zt_gd_X G) a4
  have Y' := zt_ty_r (zt_gd_Y G) a5
  have f30 : zv_I k' 347 30 = 0 := (zm_F_g a5 30).trans (zt_gd_f2 G)
  refine ⟨_, g', k', a2, a3, a4, a5, ?_⟩
  rcases a6.2 with ⟨q1, q2, q3⟩ | ⟨q1, q2, q3, q4, q5, q6, q7⟩
  · rw [if_pos q1]
    exact Or.inr ⟨rfl, X', Y', by rw [q2]; decide, Or.inl ⟨q2, f30, by rw [a7.2.1, q1]; rfl, q3.trans a7.1.symm⟩⟩
  · rw [if_neg q1]
    exact Or.inl ⟨rfl, f', t', E', X', Y', ⟨_, a1⟩, q1, a6.1, q2, q3, q4, q5, a7, q6.trans (zt_gd_f1 G), f30, q7.trans (zt_gd_f9 G)⟩
/-- both fail here -/
theorem zj_fail (G : zt_gd T n g k f t E) {w : Int} (hw : 0 < w) : zt_bd T n (zv_sI (zv_sI g 5 8 w) 5 9 (zv_I g 5 5)) (zt_ms 0 w k) := by
  have r := zt_gd_r G
  have e4 : ¬ (w = 2 ∧ zv_I k 347 34 = 4) := fun q => zt_gd_t4 G (by
    have := r.2.1.symm.trans q.2
    exact Int.ofNat.inj this)
  have F := zt_ms_F 0 w k
  have Y' : zt_ty T n (zt_ms 0 w k) := ⟨zm_F_M F (zt_ty_M (zt_gd_Y G)), zt_ty_n (zt_gd_Y G), (zm_F_g F 36).trans (zt_ty_l (zt_gd_Y G)), fun i hi => by rw [zm_F_a F 366]; exact zt_ty_t (zt_gd_Y G) i hi, zt_ty_b (zt_gd_Y G)⟩
  have g8 : zv_I (zv_sI (zv_sI g 5 8 w) 5 9 (zv_I g 5 5)) 5 8 = w := by rw [zy_In _ _ (fun q => absurd q.2 (by decide)), zy_I]
  have g9 : zv_I (zv_sI (zv_sI g 5 8 w) 5 9 (zv_I g 5 5)) 5 9 = f := by rw [zy_I]; exact zt_gd_c5 G
  refine ⟨zt_tx_r (zt_gd_X G) (zt_rf_fail g w), Y', by rw [g8]; exact hw, Or.inr ⟨?_, ?_⟩⟩
  · rw [zt_ms_0 (zt_gd_f2 G), if_neg e4, g8, zy_In _ _ (fun q => absurd q.2 (by decide)), zy_I]
  · rw [zt_ms_0 (zt_gd_f2 G), g9, zy_I]
    exact r.1
theorem zt_isSignC {d : Nat} (G : zt_gd T n g k f t E) (x : Int) : C3_isSign (d + 1) 5 x g = some (if t = 3 ∧ T f = x then 1 else 0, g) := by
  have gL := zt_tx_L (zt_gd_X G)
  refine lC3_isSign (zl_ob gL zt_lay5) ?_
  rw [qE3_isSign, zm_e (zl_gI gL zt_lay5 4), zt_gd_c4 G]
  by_cases c : t = 3
  · rw [if_pos (show (t : Int) = 3 by rw [c]; rfl), zm_e (zl_gI gL zt_lay5 7), zt_gd_c3 G c]
    by_cases c2 : T f = x
    · rw [if_pos c2, if_pos ⟨c, c2⟩]
    · rw [if_neg c2, if_neg (fun q => c2 q.2)]
  · rw [if_neg (show ¬ (t : Int) = 3 from fun q => c (Int.ofNat.inj q)), if_neg (fun q => c q.1)]
theorem zt_isSignR {d : Nat} (G : zt_gd T n g k f t E) {x : Int} (hx : 0 ≤ x ∧ x ≤ 127) : C9_isSign (d + 1) 347 x k = some (if t = 3 ∧ T f = x then 1 else 0, k) := by
  have hM := zt_ty_M (zt_gd_Y G)
  have r := zt_gd_r G
  refine lC9_isSign (zm_ob hM) ?_
  rw [qE9_isSign, zm_e (zm_gI hM 30), zt_gd_f2 G, if_pos rfl, zm_e (zm_gI hM 34), r.2.1]
  by_cases c : t = 3
  · obtain ⟨e0, hk⟩ := zt_gd_k G
    have fn : f < n := by
      rcases hk.2 with ⟨a1, _⟩ | ⟨an, _⟩
      · rw [c] at a1; exact absurd a1 (by decide)
      · exact an
    rw [if_pos (show (t : Int) = 3 by rw [c]; rfl), zm_e (zm_f26 hM), zm_e (zm_gI hM 32), r.1, zm_e (zt_aB8 (zt_gd_Y G) fn)]
    have eq := zt_sb_eq (zt_ty_b (zt_gd_Y G) f fn) hx
    by_cases c2 : T f = x
    · rw [if_pos (eq.mpr c2), if_pos ⟨c, c2⟩]
    · rw [if_neg (fun q => c2 (eq.mp q)), if_neg (fun q => c2 q.2)]
  · rw [if_neg (show ¬ (t : Int) = 3 from fun q => c (Int.ofNat.inj q)), if_neg (fun q => c q.1)]
end
