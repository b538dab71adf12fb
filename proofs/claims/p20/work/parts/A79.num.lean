/-! ===== the tie: a LINE is read: a number, a word ===== -/
/-- what a number read changes in the class -/
def zt_l5 (fld : Nat) (g g' : zv_H) : Prop := g'.1 = g.1 ∧ g'.2.2 = g.2.2 ∧ ∀ r k, ¬ (r = 5 ∧ ((4 ≤ k ∧ k ≤ 9) ∨ k = fld)) → zv_I g' r k = zv_I g r k
/-- what a word read changes in the class -/
def zt_w5 (g g' : zv_H) : Prop := g'.1 = g.1 ∧ g'.2.2 = g.2.2 ∧ ∀ r k, ¬ (r = 5 ∧ 4 ≤ k ∧ k ≤ 9) → ¬ (r = 7 ∧ k = 1) → r ≠ 8 → zv_I g' r k = zv_I g r k
theorem zt_w5_rf {g g' : zv_H} (h : zt_rf g g') : zt_w5 g g' := ⟨h.1, h.2.1, fun r k q _ _ => h.2.2 r k q⟩
theorem zt_w5_w {g g' : zv_H} (h : zt_wf8 g g') : zt_w5 g g' := ⟨h.1, h.2.1, fun r k _ q1 q2 => h.2.2 r k q1 q2⟩
theorem zt_w5_t {g g1 g2 : zv_H} (f : zt_w5 g g1) (h : zt_w5 g1 g2) : zt_w5 g g2 := ⟨h.1.trans f.1, h.2.1.trans f.2.1, fun r k q q1 q2 => (h.2.2 r k q q1 q2).trans (f.2.2 r k q q1 q2)⟩
/-- what reading a LINE changes in the class -/
def zt_ln5 (g g' : zv_H) : Prop := g'.1 = g.1 ∧ g'.2.2 = g.2.2 ∧ ∀ r k, ¬ (r = 5 ∧ 4 ≤ k) → ¬ (r = 7 ∧ k = 1) → r ≠ 8 → zv_I g' r k = zv_I g r k
theorem zt_ln5_t {g g1 g2 : zv_H} (f : zt_ln5 g g1) (h : zt_ln5 g1 g2) : zt_ln5 g g2 := ⟨h.1.trans f.1, h.2.1.trans f.2.1, fun r k q q1 q2 => (h.2.2 r k q q1 q2).trans (f.2.2 r k q q1 q2)⟩
theorem zt_ln5_w {g g' : zv_H} (h : zt_w5 g g') : zt_ln5 g g' := ⟨h.1, h.2.1, fun r k q q1 q2 => h.2.2 r k (fun z => q ⟨z.1, z.2.1⟩) q1 q2⟩
theorem zt_ln5_rf {g g' : zv_H} (h : zt_rf g g') : zt_ln5 g g' := zt_ln5_w (zt_w5_rf h)
theorem zt_ln5_l {g g' : zv_H} {fld : Nat} (hf : 4 ≤ fld) (h : zt_l5 fld g g') : zt_ln5 g g' := ⟨h.1, h.2.1, fun r k q _ _ => h.2.2 r k (fun z => q ⟨z.1, by omega⟩)⟩
theorem zt_ln5_lo {g g' : zv_H} (h : zt_ln5 g g') : zt_lo9 g g' := ⟨h.1, h.2.1, fun r k hr => h.2.2 r k (fun q => absurd q.1 (by omega)) (fun q => absurd q.1 (by omega)) (by omega)⟩
section
variable {T : Nat → Int} {n : Nat} {g k : zv_H} {f t E : Nat}
theorem zj_word2 {d D most : Nat} (G : zt_gd T n g k f t E) (hm : most ≤ 40) : ∃ (b : Int) (g' k' : zv_H), C3_spelled (d + 3) 5 (most : Int) g = some (b, g') ∧ C9_takesWord (D + 6) 347 (most : Int) k = some k' ∧ zt_w5 g g' ∧ zm_F [360] [19, 30, 31, 32, 33, 34, 35, 38] k k' ∧ ((b = 1 ∧ zt_wd 7 (E - f) (zv_I k' 360) g' ∧ zv_I k' 347 19 = ((E - f : Nat) : Int) ∧ t = 1 ∧ E ≤ f + most ∧ (f < E ∧ ∀ i : Nat, i < E - f → 0 ≤ zv_I k' 360 i ∧ zv_I k' 360 i < 26) ∧ ∃ f' t' E', zt_gd T n g' k' f' t' E' ∧ zt_tkn T n E f' t' E') ∨ (b = 0 ∧ zt_bd T n g' k')) := by
  have X := zt_gd_X G
  have Y := zt_gd_Y G
  have gL := zt_tx_L X
  have hM := zt_ty_M Y
  have n7 := zt_tx_n X
  have r := zt_gd_r G
  by_cases h1 : t = 1
  · obtain ⟨e0, hk⟩ := zt_gd_k G
    have En := zt_tkn_E hk
    have up : zt_up zt_sm T n f E := by
      rcases hk.2 with ⟨a1, _⟩ | ⟨an, ⟨a1, a2, a3⟩ | ⟨a1, _⟩ | ⟨a1, _⟩ | ⟨a1, _⟩⟩
      · rw [h1] at a1; exact absurd a1 (by decide)
      · exact a3
      · rw [h1] at a1; exact absurd a1 (by decide)
      · rw [h1] at a1; exact absurd a1 (by decide)
      · rw [h1] at a1; exact absurd a1 (by decide)
    have wd := zt_tkd up.1 (Nat.le_trans En (Nat.le_succ_of_le n7))
    have k1 : (t : Int) = 1 := by rw [h1]; rfl
    have e33 := r.2.2.1 (by rw [h1]; decide)
    by_cases c : E ≤ f + most
    · have cI : ((E - f : Nat) : Int) ≤ (most : Int) := Int.ofNat_le.mpr (Nat.sub_le_iff_le_add'.mpr c)
      -- the class
      have ec := zt_C7_clear (d := d + 1) gL zt_lay7
      have w0 : zt_wf8 g (zv_sI g 7 1 0) := ⟨rfl, rfl, fun r k q1 q2 => zy_In _ _ q1⟩
      have X0 := zt_tx_w X w0
      obtain ⟨g1, y1, w1, y3, y4⟩ := zt_sp45 (d := d + 1) (T := T) (f := f) (E := E) up.2.2.1 En (Nat.le_trans c (Nat.add_le_add_left hm f)) (E - f) 0 (zv_sI g 7 1 0) (Nat.add_sub_cancel' up.1) X0 ((w0.2.2 _ _ (fun q => absurd q.1 (by decide)) (by decide)).trans (zt_gd_c6 G)) (zy_I _ _ _ _) (fun i hi => absurd hi (Nat.not_lt_zero _))
      have w01 : zt_wf8 g g1 := ⟨w1.1.trans w0.1, w1.2.1.trans w0.2.1, fun r k q1 q2 => (w1.2.2 r k q1 q2).trans (w0.2.2 r k q1 q2)⟩
      -- the reference
      have F1 : zm_F [] [19] k (zv_sI k 347 19 ((E - f : Nat) : Int)) := zm_F_f (zm_F_r _ _ k) rfl _
      have Y1 : zt_ty T n (zv_sI k 347 19 ((E - f : Nat) : Int)) := ⟨zm_F_M F1 hM, n7, (zm_F_g F1 36).trans (zt_ty_l Y), fun i hi => by rw [zm_F_a F1 366]; exact zt_ty_t Y i hi, zt_ty_b Y⟩
      obtain ⟨k2, z1, F2, z3⟩ := zt_tw64 (D := D + 5) (T := T) (f := f) (E := E) up.2.2.1 En (m0 := E - f) (Nat.add_sub_cancel' up.1) (Nat.le_trans (Nat.sub_le_iff_le_add'.mpr c) hm) (E - f) 0 (zv_sI k 347 19 ((E - f : Nat) : Int)) (Nat.zero_add _) Y1 ((zm_F_g F1 32).trans r.1) (zy_I _ _ _ _) (fun i hi => absurd hi (Nat.not_lt_zero _))
      have F12 : zm_F [360] [19] k k2 := zm_F_t (zm_F_s F1 rfl rfl) (zm_F_s F2 rfl rfl)
      have G2 := zt_gd_w G w01 F12
      obtain ⟨b, g', k', a1, a2, a3, a4, a5⟩ := zj_nx2 (d := d) (D := D) G2 (by rw [h1]; decide)
      have b01 : b = 0 ∨ b = 1 := by
        rcases a5 with q | q
        · exact Or.inr q.1
        · exact Or.inl q.1
      refine ⟨b, g', k', lC3_spelled (zl_ob gL zt_lay5) ?_, lC9_takesWord (zm_ob hM) ?_, zt_w5_t (zt_w5_w w01) (zt_w5_rf a3), zm_F_t (zm_F_s F12 rfl rfl) (zm_F_s a4 rfl rfl), ?_⟩
      · rw [qE3_spelled, zm_e (zl_gI gL zt_lay5 4), zt_gd_c4 G, if_pos k1, zm_e (zl_gI gL zt_lay5 6), zt_gd_c6 G, zm_e (zl_gI gL zt_lay5 5), zt_gd_c5 G, wd, if_pos cI, zm_e (zl_gF gL zt_lay5 1 2), zm_e ec, zm_e (zl_gI (g := zv_sI g 7 1 0) gL zt_lay5 5), zy_In _ _ (fun q => absurd q.1 (by decide)), zt_gd_c5 G]
        refine (show L3_spelled_45 (d + 2) 5 (f : Int) (zv_sI g 7 1 0) = _ from y1).trans ?_
        rw [zm_e a1]
        exact if_pos b01
      · rw [qE9_takesWord, zm_e (zm_gI hM 34), r.2.1, if_pos k1, qL9_takesWord_14, zm_e (zt_must hM 1 2), zt_ms_1 (by decide), zm_e (zm_gI hM 33), e33, zm_e (zm_gI hM 32), r.1, wd, if_pos cI, qL9_takesWord_37, zm_e (zt_must hM 1 4), zt_ms_1 (by decide), zm_e (zm_gI hM 30), zt_gd_f2 G, if_pos (by decide), zm_e (zm_gI hM 33), e33, zm_e (zm_gI hM 32), r.1, wd, zm_e (zm_pI hM 19 _)]
        refine (show L9_takesWord_64 (D + 5) 347 0 (zv_sI k 347 19 ((E - f : Nat) : Int)) = _ from z1).trans ?_
        rw [zm_e a2]
      · rcases a5 with ⟨q1, q2⟩ | q
        · refine Or.inl ⟨q1, ⟨zt_lay7, zt_lay8, Nat.le_trans (Nat.sub_le_iff_le_add'.mpr c) hm, ?_, fun i hi => ?_⟩, ?_, h1, c, ⟨((zt_gd_f G).2.2.2 (by rw [h1]; decide)).1, fun i hi => ?_⟩, q2⟩
          · rw [zt_rf_i a3 _ _ (fun q => absurd q.1 (by decide))]; exact y3
          · rw [zt_rf_i a3 _ _ (fun q => absurd q.1 (by decide)), zm_F_a a4 360, z3 i hi]
            exact y4 i hi
          · rw [zm_F_g a4 19, zm_F_g F2 19]
            exact zy_I _ _ _ _
          · rw [zm_F_a a4 360, z3 i hi]
            have hs := up.2.2.1 (f + i) (Nat.le_add_right _ _) (by omega)
            unfold zt_sm at hs
            omega
        · exact Or.inr q
    · have cI : ¬ ((E - f : Nat) : Int) ≤ (most : Int) := fun q => c (Nat.sub_le_iff_le_add'.mp (Int.ofNat_le.mp q))
      have bd := zj_fail G (w := 4) (by decide)
      have hM2 := zm_F_M (zt_ms_F 0 4 k) hM
      have e30 : ¬ zv_I (zt_ms 0 4 k) 347 30 ≤ 0 := by
        rw [zt_ms_0 (zt_gd_f2 G), if_neg (fun q => absurd q.1 (by decide)), zy_In _ _ (fun q => absurd q.2 (by decide)), zy_I]
        decide
      refine ⟨0, _, _, lC3_spelled (zl_ob gL zt_lay5) ?_, lC9_takesWord (zm_ob hM) ?_, zt_w5_rf (zt_rf_fail g 4), zm_F_s (zt_ms_F 0 4 k) rfl rfl, Or.inr ⟨rfl, bd⟩⟩
      · rw [qE3_spelled, zm_e (zl_gI gL zt_lay5 4), zt_gd_c4 G, if_pos k1, zm_e (zl_gI gL zt_lay5 6), zt_gd_c6 G, zm_e (zl_gI gL zt_lay5 5), zt_gd_c5 G, wd, if_neg cI, zm_e (zt_fail gL 4), zt_gd_c5 G]
        exact if_pos (Or.inl rfl)
      · rw [qE9_takesWord, zm_e (zm_gI hM 34), r.2.1, if_pos k1, qL9_takesWord_14, zm_e (zt_must hM 1 2), zt_ms_1 (by decide), zm_e (zm_gI hM 33), e33, zm_e (zm_gI hM 32), r.1, wd, if_neg cI, qL9_takesWord_37, zm_e (zt_must hM 0 4), zm_e (zm_gI hM2 30), if_neg e30]
  · have k1 : ¬ (t : Int) = 1 := fun q => h1 (Int.ofNat.inj q)
    have bd := zj_fail G (w := 2) (by decide)
    have hM2 := zm_F_M (zt_ms_F 0 2 k) hM
    have e4 : ¬ ((2 : Int) = 2 ∧ zv_I k 347 34 = 4) := fun q => zt_gd_t4 G (Int.ofNat.inj (r.2.1.symm.trans q.2))
    have e30 : 0 < zv_I (zt_ms 0 2 k) 347 30 := by
      rw [zt_ms_0 (zt_gd_f2 G), if_neg e4, zy_In _ _ (fun q => absurd q.2 (by decide)), zy_I]
      decide
    refine ⟨0, _, zt_ms 0 2 k, lC3_spelled (zl_ob gL zt_lay5) ?_, lC9_takesWord (zm_ob hM) ?_, zt_w5_rf (zt_rf_fail g 2), zm_F_s (zt_ms_F 0 2 k) rfl rfl, Or.inr ⟨rfl, bd⟩⟩
    · rw [qE3_spelled, zm_e (zl_gI gL zt_lay5 4), zt_gd_c4 G, if_neg k1, zm_e (zt_fail gL 2)]
      exact if_pos (Or.inl rfl)
    · have tail : ∀ v : Int, L9_takesWord_37 (D + 5) 347 347 v (zt_ms 0 2 k) = some (none, zt_ms 0 2 k) := fun v => by
        rw [qL9_takesWord_37, zm_e (zt_must hM2 v 4), zt_ms_f e30, zm_e (zm_gI hM2 30), if_neg (Int.not_le.mpr e30)]
      rw [qE9_takesWord, zm_e (zm_gI hM 34), r.2.1, if_neg k1, qL9_takesWord_14, zm_e (zt_must hM 0 2), zm_e (zm_gI hM2 33), zm_e (zm_gI hM2 32), tail, tail]
      split <;> rfl
/-- a number for the class's field, for the reference; or both fail -/
theorem zj_num {d D fld : Nat} (hf : fld = 11 ∨ fld = 12) (G : zt_gd T n g k f t E) (R : zm_RI k) : ∃ (v : Int) (g' k' : zv_H) (x : Int), (∀ X : Int → zv_H → zv_O, ((zv_gI g 5 3 7).bind fun v9 => (zv_pI g 5 3 fld v9).bind fun g10 => (zv_gI g10 5 3 4).bind fun v11 => if v11 = 2 then (C3_next (d + 2) 5 g10).bind fun q12 => X q12.1 q12.2 else (C3_fail (d + 2) 5 2 g10).bind fun q13 => X q13.1 q13.2) = X v g') ∧ C9_takesNumber (D + 6) 347 k = some (x, k') ∧ zt_l5 fld g g' ∧ zm_F [] [30, 31, 32, 33, 34, 35, 38] k k' ∧ zm_RI k' ∧ ((v = 1 ∧ x = zv_I g' 5 fld ∧ (0 ≤ x ∧ x ≤ 999) ∧ ∃ f' t' E', zt_gd T n g' k' f' t' E' ∧ zt_tkn T n E f' t' E') ∨ (v = 0 ∧ zt_bd T n g' k')) := by
  have gL := zt_tx_L (zt_gd_X G)
  have hM := zt_ty_M (zt_gd_Y G)
  have f30 := zt_gd_f2 G
  obtain ⟨x0, k0, e0, F0, ok0, _⟩ := zm_takesNumber hM D R (by rw [f30]; exact Int.le_refl _)
  have w0 : zt_l5 fld g (zv_sI g 5 fld (zv_I g 5 7)) := ⟨rfl, rfl, fun r k q => zy_In _ _ (fun z => q ⟨z.1, Or.inr z.2⟩)⟩
  have G1 : zt_gd T n (zv_sI g 5 fld (zv_I g 5 7)) k f t E := zt_gd_x G rfl rfl (fun j hj => zy_In _ _ (fun z => by omega)) (fun j => zy_In _ _ (fun z => by omega)) (zm_F_r [] [] k)
  have vf : zv_I (zv_sI g 5 fld (zv_I g 5 7)) 5 fld = zv_I g 5 7 := zy_I _ _ _ _
  have top : ∀ X : Int → zv_H → zv_O, ((zv_gI g 5 3 7).bind fun v9 => (zv_pI g 5 3 fld v9).bind fun g10 => (zv_gI g10 5 3 4).bind fun v11 => if v11 = 2 then (C3_next (d + 2) 5 g10).bind fun q12 => X q12.1 q12.2 else (C3_fail (d + 2) 5 2 g10).bind fun q13 => X q13.1 q13.2) = if t = 2 then (C3_next (d + 2) 5 (zv_sI g 5 fld (zv_I g 5 7))).bind fun q12 => X q12.1 q12.2 else (C3_fail (d + 2) 5 2 (zv_sI g 5 fld (zv_I g 5 7))).bind fun q13 => X q13.1 q13.2 := fun X => by
    rw [zm_e (zl_gI gL zt_lay5 7), zm_e (zl_pI gL zt_lay5 fld _), zm_e (zl_gI (g := zv_sI g 5 fld (zv_I g 5 7)) gL zt_lay5 4), zt_gd_c4 G1]
    by_cases c : t = 2
    · rw [if_pos c, if_pos (show (t : Int) = 2 by rw [c]; rfl)]
    · rw [if_neg c, if_neg (show ¬ (t : Int) = 2 from fun q => c (Int.ofNat.inj q))]
  generalize zv_sI g 5 fld (zv_I g 5 7) = g1 at w0 G1 vf top
  have gL1 := zt_tx_L (zt_gd_X G1)
  by_cases c : t = 2
  · subst c
    obtain ⟨v, g', k', a1, a2, a3, a4, a5⟩ := zj_nx2 (d := d) (D := D) G1 (by decide)
    have e1 := zt_numR (D := D) G1 a2
    have ek : k0 = k' := (Prod.mk.inj (Option.some.inj (e0.symm.trans e1))).2
    subst ek
    refine ⟨v, g', k0, _, fun X => by rw [top X, if_pos rfl, zm_e a1], e1, ⟨a3.1.trans w0.1, a3.2.1.trans w0.2.1, fun r i q => (a3.2.2 r i (fun z => q ⟨z.1, Or.inl z.2⟩)).trans (w0.2.2 r i q)⟩, F0, ok0.1, ?_⟩
    rcases a5 with ⟨q1, q2⟩ | q
    · refine Or.inl ⟨q1, ?_, zt_nv3 G1, q2⟩
      rw [a3.2.2 5 fld (fun z => by omega), vf]
      exact (zt_gd_c2 G rfl).symm
    · exact Or.inr q
  · rcases zj_number (d := d) (D := D) G1 with ⟨z, _⟩ | ⟨_, nv, g', k', y1, y2, y3, y4, y5⟩
    · exact absurd z c
    have ek : k0 = k' := (Prod.mk.inj (Option.some.inj (e0.symm.trans y2))).2
    subst ek
    have eg : C3_fail (d + 2) 5 2 g1 = some (0, g') := (zt_fail (d := d + 1) gL1 2).trans ((zt_fail (d := d) gL1 2).symm.trans y1)
    exact ⟨0, g', k0, nv, fun X => by rw [top X, if_neg c, zm_e eg], y2, ⟨y3.1.trans w0.1, y3.2.1.trans w0.2.1, fun r i q => (y3.2.2 r i (fun z => q ⟨z.1, Or.inl z.2⟩)).trans (w0.2.2 r i q)⟩, F0, ok0.1, Or.inr ⟨rfl, y5⟩⟩
/-- the next one, the reference's numbers in order -/
theorem zj_nx3 {d D : Nat} (G : zt_gd T n g k f t E) (R : zm_RI k) (t0 : t ≠ 0) : ∃ (v : Int) (g' k' : zv_H), C3_next (d + 2) 5 g = some (v, g') ∧ C9_reads (D + 5) 347 k = some k' ∧ zt_rf g g' ∧ zm_rF k k' ∧ zm_RI k' ∧ ((v = 1 ∧ ∃ f' t' E', zt_gd T n g' k' f' t' E' ∧ zt_tkn T n E f' t' E') ∨ (v = 0 ∧ zt_bd T n g' k')) := by
  obtain ⟨v, g', k', a1, a2, a3, a4, a5⟩ := zj_nx2 (d := d) (D := D) G t0
  obtain ⟨k0, e0, F0, R0, _⟩ := zm_rd D (zt_ty_M (zt_gd_Y G)) R (by rw [(zt_gd_r G).2.1]; exact fun q => t0 (Int.ofNat.inj q))
  have ek : k0 = k' := Option.some.inj (e0.symm.trans a2)
  subst ek
  exact ⟨v, g', k0, a1, a2, a3, a4, R0, a5⟩
end
