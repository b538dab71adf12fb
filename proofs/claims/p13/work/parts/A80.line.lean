/-! A80.line -/
section
/-! ===== the tie: a LINE is read: what is behind its verb ===== -/
/-- what it does, and what comes then -/
noncomputable def zt_dox (D : Nat) (j : Int) (k : zv_H) : zv_O := (C9_does (D + 10) 347 j k).bind fun q3 => if q3.1 < 0 then L9_readsLine_158 (D + 10) 347 347 0 q3.2 else L9_readsLine_158 (D + 10) 347 347 1 q3.2
section
variable {T : Nat → Int} {n : Nat} {g k : zv_H} {f t E : Nat}
/-- behind a fault: nothing is done -/
def zt_lb (T : Nat → Int) (n : Nat) (g : zv_H) (k : zv_H) (o : zv_O) (k' : zv_H) : Prop := (o = some (none, k')) ∧ (zm_F [360] [19, 30, 31, 32, 33, 34, 35, 38, 42, 43] k k') ∧ (zt_bd T n g k') ∧ (0 < zv_I k' 347 30)
theorem zt_lb_o {T : Nat → Int} {n : Nat} {g : zv_H} {k : zv_H} {o : zv_O} {k' : zv_H} (t : zt_lb T n g k o k') : o = some (none, k') := t.1
theorem zt_lb_F {T : Nat → Int} {n : Nat} {g : zv_H} {k : zv_H} {o : zv_O} {k' : zv_H} (t : zt_lb T n g k o k') : zm_F [360] [19, 30, 31, 32, 33, 34, 35, 38, 42, 43] k k' := t.2.1
theorem zt_lb_B {T : Nat → Int} {n : Nat} {g : zv_H} {k : zv_H} {o : zv_O} {k' : zv_H} (t : zt_lb T n g k o k') : zt_bd T n g k' := t.2.2.1
theorem zt_lb_p {T : Nat → Int} {n : Nat} {g : zv_H} {k : zv_H} {o : zv_O} {k' : zv_H} (t : zt_lb T n g k o k') : 0 < zv_I k' 347 30 := t.2.2.2
theorem zt_lb_t {k0 : zv_H} {o o' : zv_O} {k' : zv_H} (F : zm_F [360] [19, 30, 31, 32, 33, 34, 35, 38, 42, 43] k0 k) (e : o' = o) (b : zt_lb T n g k o k') : zt_lb T n g k0 o' k' := ⟨e.trans (zt_lb_o b), zm_F_t F (zt_lb_F b), zt_lb_B b, zt_lb_p b⟩
theorem zt_b104 {D : Nat} (B : zt_bd T n g k) (R : zm_RI k) (j : Int) : ∃ k', zt_lb T n g k (L9_readsLine_104 (D + 10) 347 j k) k' := by
  have hM := zt_ty_M (zt_bd_Y B)
  have l132 : ∀ v : Int, (zv_I k 347 34 = 4 → v = 0) → ∃ k', zt_lb T n g k (L9_readsLine_132 (D + 10) 347 j 347 v k) k' := fun v hv => by
    obtain ⟨k', e, F, B', p⟩ := zt_must_b (d := D + 9) B hv
    refine ⟨k', ?_, zm_F_s F rfl rfl, B', p⟩
    rw [qL9_readsLine_132, zm_e e, zm_e (zm_gI (zm_F_M F hM) 30), if_neg (by omega)]
  rw [qL9_readsLine_104, zm_e (zm_gI hM 34)]
  by_cases c : zv_I k 347 34 = 3
  · have r1 := R.1
    have r2 := R.2.1
    have r3 := R.2.2.1 (by rw [c]; decide)
    rw [if_pos c, zm_e (zm_f26 hM), zm_e (zm_gI hM 32), zm_e (zm_aB hM zm_l366 (Or.inr rfl) rfl r2.1 (by omega))]
    split
    · exact l132 1 (fun q => absurd (c.symm.trans q) (by decide))
    · rw [qL9_readsLine_131]
      exact l132 0 (fun _ => rfl)
  · rw [if_neg c, qL9_readsLine_131]
    exact l132 0 (fun _ => rfl)
theorem zt_b92 {D : Nat} (B : zt_bd T n g k) (R : zm_RI k) (j : Int) : ∃ k', zt_lb T n g k (L9_readsLine_92 (D + 10) 347 j k) k' := by
  rw [qL9_readsLine_92]
  by_cases c : j = 6
  · obtain ⟨k1, e1, F1, B1, _⟩ := zt_word_b (D := D + 4) B 6
    rw [if_pos c, zm_e e1]
    obtain ⟨k', h⟩ := zt_b104 (D := D) B1 (zm_RI_F R F1) j
    exact ⟨k', zt_lb_t (zm_F_s F1 rfl rfl) rfl h⟩
  · rw [if_neg c]
    exact zt_b104 B R j
theorem zt_b82 {D : Nat} (B : zt_bd T n g k) (R : zm_RI k) (j : Int) : ∃ k', zt_lb T n g k (L9_readsLine_82 (D + 10) 347 j k) k' := by
  rw [qL9_readsLine_82]
  by_cases c : j = 0
  · obtain ⟨k1, e1, F1, B1, _⟩ := zt_word_b (D := D + 4) B 12
    rw [if_pos c, zm_e e1]
    obtain ⟨k', h⟩ := zt_b92 (D := D) B1 (zm_RI_F R F1) j
    exact ⟨k', zt_lb_t (zm_F_s F1 rfl rfl) rfl h⟩
  · rw [if_neg c]
    exact zt_b92 B R j
theorem zt_b69 {D : Nat} (B : zt_bd T n g k) (R : zm_RI k) (j : Int) : ∃ k', zt_lb T n g k (L9_readsLine_69 (D + 10) 347 j k) k' := by
  rw [qL9_readsLine_69]
  by_cases c : j = 1
  · obtain ⟨v, k1, e1, F1, B1, _⟩ := zt_number_b (D := D + 4) B
    have hM1 := zt_ty_M (zt_bd_Y B1)
    have F2 : zm_F [] [43] k1 (zv_sI k1 347 43 v) := zm_F_f (zm_F_r _ _ k1) rfl _
    rw [if_pos c, zm_e e1]
    dsimp only
    rw [zm_e (zm_pI hM1 43 _)]
    obtain ⟨k', h⟩ := zt_b82 (D := D) (zt_bd_x B1 rfl rfl (fun _ _ => rfl) (fun _ => rfl) F2) (zm_RI_F (zm_RI_F R F1) F2) j
    exact ⟨k', zt_lb_t (zm_F_t (zm_F_s F1 rfl rfl) (zm_F_s F2 rfl rfl)) rfl h⟩
  · rw [if_neg c]
    exact zt_b82 B R j
theorem zt_b61 {D : Nat} (B : zt_bd T n g k) (R : zm_RI k) (j : Int) : ∃ k', zt_lb T n g k (L9_readsLine_61 (D + 10) 347 j k) k' := by
  obtain ⟨v, k1, e1, F1, B1, _⟩ := zt_number_b (D := D + 4) B
  have hM1 := zt_ty_M (zt_bd_Y B1)
  have F2 : zm_F [] [42] k1 (zv_sI k1 347 42 v) := zm_F_f (zm_F_r _ _ k1) rfl _
  rw [qL9_readsLine_61, zm_e e1]
  dsimp only
  rw [zm_e (zm_pI hM1 42 _)]
  obtain ⟨k', h⟩ := zt_b69 (D := D) (zt_bd_x B1 rfl rfl (fun _ _ => rfl) (fun _ => rfl) F2) (zm_RI_F (zm_RI_F R F1) F2) j
  exact ⟨k', zt_lb_t (zm_F_t (zm_F_s F1 rfl rfl) (zm_F_s F2 rfl rfl)) rfl h⟩
/-- the class, where something was wrong -/
theorem zt_c164 {e : Nat} (g : zv_H) : L3_line_164 e 5 0 g = some (some (zv_i 0), g) := by
  rw [qL3_line_164, if_pos rfl]
theorem zt_c144 {e : Nat} (g : zv_H) : L3_line_144 e 5 0 g = some (some (zv_i 0), g) := by
  rw [qL3_line_144, if_pos rfl, zt_c164]
theorem zt_c126 {e : Nat} (g : zv_H) : L3_line_126 e 5 0 g = some (some (zv_i 0), g) := by
  rw [qL3_line_126, if_pos rfl, zt_c144]
theorem zt_c85 {e : Nat} (g : zv_H) : L3_line_85 e 5 0 g = some (some (zv_i 0), g) := by
  rw [qL3_line_85, if_pos rfl, zt_c126]
/-- the ; is looked at -/
theorem zj_l164 {d D : Nat} (G : zt_gd T n g k f t E) (j : Int) : ∃ (v : Int) (g' : zv_H), L3_line_164 (d + 6) 5 1 g = some (some (zv_i v), g') ∧ zt_rf g g' ∧ ((v = 1 ∧ g' = g ∧ t = 3 ∧ T f = 59 ∧ L9_readsLine_104 (D + 10) 347 j k = zt_dox D j k) ∨ (v = 0 ∧ ∃ k', zt_lb T n g' k (L9_readsLine_104 (D + 10) 347 j k) k')) := by
  have gL := zt_tx_L (zt_gd_X G)
  have hM := zt_ty_M (zt_gd_Y G)
  have r := zt_gd_r G
  have es := zt_isSignC (d := d + 4) G 59
  by_cases c : t = 3 ∧ T f = 59
  · rw [if_pos c] at es
    have ec : C3_closed (d + 6) 5 g = some (1, g) := lC3_closed (zl_ob gL zt_lay5) (by
      rw [qE3_closed, zm_e es]
      dsimp only
      rw [if_neg (by decide)])
    have gf := zt_gd_f G
    have fn := gf.2.2.2 (by rw [c.1]; decide)
    refine ⟨1, g, ?_, zt_rf_r g, Or.inl ⟨rfl, rfl, c.1, c.2, ?_⟩⟩
    · rw [qL3_line_164, if_neg (by decide), zm_e ec]
      dsimp only
      rw [if_neg (by decide)]
    · have eb := zt_aB8 (zt_gd_Y G) fn.2
      rw [qL9_readsLine_104, zm_e (zm_gI hM 34), r.2.1, if_pos (show (t : Int) = 3 by rw [c.1]; rfl), zm_e (zm_f26 hM), zm_e (zm_gI hM 32), r.1, zm_e eb, if_pos ((zt_sb_eq (zt_ty_b (zt_gd_Y G) f fn.2) (by decide)).mpr c.2), qL9_readsLine_132, zm_e (zt_must hM 1 2), zt_ms_1 (by decide), zm_e (zm_gI hM 30), zt_gd_f2 G, if_pos (by decide)]
      rfl
  · rw [if_neg c] at es
    have ec : C3_closed (d + 6) 5 g = some (0, zv_sI (zv_sI g 5 8 2) 5 9 (zv_I g 5 5)) := lC3_closed (zl_ob gL zt_lay5) (by
      rw [qE3_closed, zm_e es]
      dsimp only
      rw [if_pos rfl, zm_e (zt_fail (d := d + 4) gL 2)]
      dsimp only
      rw [if_pos rfl])
    have bd := zj_fail G (w := 2) (by decide)
    have e4 : ¬ ((2 : Int) = 2 ∧ zv_I k 347 34 = 4) := fun q => zt_gd_t4 G (Int.ofNat.inj (r.2.1.symm.trans q.2))
    have p30 : zv_I (zt_ms 0 2 k) 347 30 = 2 := by
      rw [zt_ms_0 (zt_gd_f2 G), if_neg e4, zy_In _ _ (fun q => absurd q.2 (by decide)), zy_I]
    have hM2 := zm_F_M (zt_ms_F 0 2 k) hM
    have l131 : L9_readsLine_131 (D + 10) 347 j 347 k = some (none, zt_ms 0 2 k) := by
      rw [qL9_readsLine_131, qL9_readsLine_132, zm_e (zt_must hM 0 2), zm_e (zm_gI hM2 30), p30, if_neg (by decide)]
    refine ⟨0, _, ?_, zt_rf_fail g 2, Or.inr ⟨rfl, zt_ms 0 2 k, ?_, zm_F_s (zt_ms_F 0 2 k) rfl rfl, bd, by rw [p30]; decide⟩⟩
    · rw [qL3_line_164, if_neg (by decide), zm_e ec]
      dsimp only
      rw [if_pos rfl]
    · rw [qL9_readsLine_104, zm_e (zm_gI hM 34), r.2.1]
      by_cases c3 : t = 3
      · have fn := (zt_gd_f G).2.2.2 (by rw [c3]; decide)
        rw [if_pos (show (t : Int) = 3 by rw [c3]; rfl), zm_e (zm_f26 hM), zm_e (zm_gI hM 32), r.1, zm_e (zt_aB8 (zt_gd_Y G) fn.2), if_neg (fun q => c ⟨c3, (zt_sb_eq (zt_ty_b (zt_gd_Y G) f fn.2) (by decide)).mp q⟩), l131]
      · rw [if_neg (show ¬ (t : Int) = 3 from fun q => c3 (Int.ofNat.inj q)), l131]
/-- behind the numbers: the word, if there is one, and the ; -/
def zt_lg (T : Nat → Int) (n : Nat) (D : Nat) (j : Int) (g : zv_H) (k : zv_H) (f : Nat) (o : zv_O) (g' : zv_H) (k' : zv_H) (f' : Nat) (E' : Nat) : Prop := (o = zt_dox D j k') ∧ (zt_gd T n g' k' f' 3 E') ∧ (T f' = 59) ∧ (f ≤ f') ∧ (zm_F [360] [19, 30, 31, 32, 33, 34, 35, 38] k k') ∧ (zm_RI k') ∧ (j = 0 ∨ j = 6 → ∃ m : Nat, zt_wd 7 m (zv_I k' 360) g' ∧ zv_I k' 347 19 = m ∧ 1 ≤ m ∧ m ≤ (if j = 0 then 12 else 6) ∧ zt_lw m (zv_I k' 360))
theorem zt_lg_o {T : Nat → Int} {n : Nat} {D : Nat} {j : Int} {g : zv_H} {k : zv_H} {f : Nat} {o : zv_O} {g' : zv_H} {k' : zv_H} {f' : Nat} {E' : Nat} (t : zt_lg T n D j g k f o g' k' f' E') : o = zt_dox D j k' := t.1
theorem zt_lg_G {T : Nat → Int} {n : Nat} {D : Nat} {j : Int} {g : zv_H} {k : zv_H} {f : Nat} {o : zv_O} {g' : zv_H} {k' : zv_H} {f' : Nat} {E' : Nat} (t : zt_lg T n D j g k f o g' k' f' E') : zt_gd T n g' k' f' 3 E' := t.2.1
theorem zt_lg_s {T : Nat → Int} {n : Nat} {D : Nat} {j : Int} {g : zv_H} {k : zv_H} {f : Nat} {o : zv_O} {g' : zv_H} {k' : zv_H} {f' : Nat} {E' : Nat} (t : zt_lg T n D j g k f o g' k' f' E') : T f' = 59 := t.2.2.1
theorem zt_lg_p {T : Nat → Int} {n : Nat} {D : Nat} {j : Int} {g : zv_H} {k : zv_H} {f : Nat} {o : zv_O} {g' : zv_H} {k' : zv_H} {f' : Nat} {E' : Nat} (t : zt_lg T n D j g k f o g' k' f' E') : f ≤ f' := t.2.2.2.1
theorem zt_lg_F {T : Nat → Int} {n : Nat} {D : Nat} {j : Int} {g : zv_H} {k : zv_H} {f : Nat} {o : zv_O} {g' : zv_H} {k' : zv_H} {f' : Nat} {E' : Nat} (t : zt_lg T n D j g k f o g' k' f' E') : zm_F [360] [19, 30, 31, 32, 33, 34, 35, 38] k k' := t.2.2.2.2.1
theorem zt_lg_R {T : Nat → Int} {n : Nat} {D : Nat} {j : Int} {g : zv_H} {k : zv_H} {f : Nat} {o : zv_O} {g' : zv_H} {k' : zv_H} {f' : Nat} {E' : Nat} (t : zt_lg T n D j g k f o g' k' f' E') : zm_RI k' := t.2.2.2.2.2.1
theorem zt_lg_w {T : Nat → Int} {n : Nat} {D : Nat} {j : Int} {g : zv_H} {k : zv_H} {f : Nat} {o : zv_O} {g' : zv_H} {k' : zv_H} {f' : Nat} {E' : Nat} (t : zt_lg T n D j g k f o g' k' f' E') : j = 0 ∨ j = 6 → ∃ m : Nat, zt_wd 7 m (zv_I k' 360) g' ∧ zv_I k' 347 19 = m ∧ 1 ≤ m ∧ m ≤ (if j = 0 then 12 else 6) ∧ zt_lw m (zv_I k' 360) := t.2.2.2.2.2.2
theorem zj_ltail {d D : Nat} (G : zt_gd T n g k f t E) (R : zm_RI k) {j : Int} (hj : zv_I g 5 10 = j) : ∃ (v : Int) (g' : zv_H), L3_line_126 (d + 6) 5 1 g = some (some (zv_i v), g') ∧ zt_w5 g g' ∧ ((v = 1 ∧ ∃ k' f' E', zt_lg T n D j g k f (L9_readsLine_82 (D + 10) 347 j k) g' k' f' E') ∨ (v = 0 ∧ ∃ k', zt_lb T n g' k (L9_readsLine_82 (D + 10) 347 j k) k')) := by
  have gL := zt_tx_L (zt_gd_X G)
  have hM := zt_ty_M (zt_gd_Y G)
  -- with a word of at most so many letters
  have word : ∀ most : Nat, most ≤ 40 → (j = 0 ∨ j = 6 → most = if j = 0 then 12 else 6) → ∃ (v : Int) (g' : zv_H), ((C3_spelled (d + 6) 5 (most : Int) g).bind fun q2 => L3_line_164 (d + 6) 5 q2.1 q2.2) = some (some (zv_i v), g') ∧ zt_w5 g g' ∧ ((v = 1 ∧ ∃ k' f' E', zt_lg T n D j g k f ((C9_takesWord (D + 10) 347 (most : Int) k).bind fun g1 => L9_readsLine_104 (D + 10) 347 j g1) g' k' f' E') ∨ (v = 0 ∧ ∃ k', zt_lb T n g' k ((C9_takesWord (D + 10) 347 (most : Int) k).bind fun g1 => L9_readsLine_104 (D + 10) 347 j g1) k')) := by
    intro most h40 hmost
    obtain ⟨b, g1, k1, a1, a2, a3, a4, a5⟩ := zj_word2 (d := d + 3) (D := D + 4) G h40
    obtain ⟨k0, e0, F0, ok0, _⟩ := zm_takesWord hM (D + 4) R (by rw [zt_gd_f2 G]; exact Int.le_refl _) (most := (most : Int)) (by omega)
    have ek : k0 = k1 := Option.some.inj (e0.symm.trans a2)
    subst ek
    rw [zm_e a1, zm_e a2]
    dsimp only
    rcases a5 with ⟨b1, wd, h19, t1, Em, ⟨lt, lw⟩, f1, t1', E1, G1, l1⟩ | ⟨b0, B1⟩
    · rw [b1]
      obtain ⟨v, g', y1, y2, y3⟩ := zj_l164 (d := d) (D := D) G1 j
      refine ⟨v, g', y1, zt_w5_t a3 (zt_w5_rf y2), ?_⟩
      rcases y3 with ⟨z1, z2, z3, z4, z5⟩ | ⟨z1, k', z2⟩
      · subst z2
        subst z3
        have fE := (zt_gd_f G).1
        refine Or.inl ⟨z1, k0, f1, E1, z5, G1, z4, Nat.le_trans fE (zt_tkn_f l1).1, zm_F_s a4 rfl rfl, ok0.1, fun q => ⟨E - f, wd, h19, by omega, ?_, fun i hi => lw i hi⟩⟩
        rw [← hmost q]
        omega
      · exact Or.inr ⟨z1, k', zt_lb_t (zm_F_s a4 rfl rfl) rfl z2⟩
    · rw [b0]
      obtain ⟨k', h⟩ := zt_b104 (D := D) B1 ok0.1 j
      exact ⟨0, g1, zt_c164 g1, a3, Or.inr ⟨rfl, k', zt_lb_t (zm_F_s a4 rfl rfl) rfl h⟩⟩
  by_cases c0 : j = 0
  · obtain ⟨v, g', y1, y2, y3⟩ := word 12 (by decide) (fun _ => by rw [if_pos c0])
    have e126 : L3_line_126 (d + 6) 5 1 g = (C3_spelled (d + 6) 5 ((12 : Nat) : Int) g).bind fun q2 => L3_line_164 (d + 6) 5 q2.1 q2.2 := by
      rw [qL3_line_126, if_neg (by decide), zm_e (zl_gI gL zt_lay5 10), hj, if_pos c0]
      obtain ⟨b, g1, k1, a1, a2, a3, a4, a5⟩ := zj_word2 (d := d + 3) (D := D + 4) G (most := 12) (by decide)
      have a1' : C3_spelled (d + 6) 5 (12 : Int) g = some (b, g1) := a1
      rw [zm_e a1', show C3_spelled (d + 6) 5 ((12 : Nat) : Int) g = some (b, g1) from a1]
      show L3_line_144 (d + 6) 5 b g1 = L3_line_164 (d + 6) 5 b g1
      have b01 : b = 0 ∨ b = 1 := by
        rcases a5 with q | q
        · exact Or.inr q.1
        · exact Or.inl q.1
      rw [qL3_line_144]
      rcases b01 with z | z
      · rw [z, if_pos rfl]
      · have gL1 := zt_L_12 gL a3.1 a3.2.1
        rw [z, if_neg (by decide), zm_e (zl_gI gL1 zt_lay5 10), a3.2.2 5 10 (fun q => absurd q.2.2 (by decide)) (fun q => absurd q.1 (by decide)) (by decide), hj, if_neg (by rw [c0]; decide)]
    have e82 : L9_readsLine_82 (D + 10) 347 j k = (C9_takesWord (D + 10) 347 ((12 : Nat) : Int) k).bind fun g1 => L9_readsLine_104 (D + 10) 347 j g1 := by
      rw [qL9_readsLine_82, if_pos c0]
      refine congrArg _ (funext fun g1 => ?_)
      rw [qL9_readsLine_92, if_neg (by rw [c0]; decide)]
    rw [e126, e82]
    exact ⟨v, g', y1, y2, y3⟩
  by_cases c6 : j = 6
  · obtain ⟨v, g', y1, y2, y3⟩ := word 6 (by decide) (fun _ => by rw [if_neg c0])
    have e126 : L3_line_126 (d + 6) 5 1 g = (C3_spelled (d + 6) 5 ((6 : Nat) : Int) g).bind fun q2 => L3_line_164 (d + 6) 5 q2.1 q2.2 := by
      rw [qL3_line_126, if_neg (by decide), zm_e (zl_gI gL zt_lay5 10), hj, if_neg c0, qL3_line_144, if_neg (by decide), zm_e (zl_gI gL zt_lay5 10), hj, if_pos c6]
      rfl
    have e82 : L9_readsLine_82 (D + 10) 347 j k = (C9_takesWord (D + 10) 347 ((6 : Nat) : Int) k).bind fun g1 => L9_readsLine_104 (D + 10) 347 j g1 := by
      rw [qL9_readsLine_82, if_neg c0, qL9_readsLine_92, if_pos c6]
      rfl
    rw [e126, e82]
    exact ⟨v, g', y1, y2, y3⟩
  · have e126 : L3_line_126 (d + 6) 5 1 g = L3_line_164 (d + 6) 5 1 g := by
      rw [qL3_line_126, if_neg (by decide), zm_e (zl_gI gL zt_lay5 10), hj, if_neg c0, qL3_line_144, if_neg (by decide), zm_e (zl_gI gL zt_lay5 10), hj, if_neg c6]
    have e82 : L9_readsLine_82 (D + 10) 347 j k = L9_readsLine_104 (D + 10) 347 j k := by
      rw [qL9_readsLine_82, if_neg c0, qL9_readsLine_92, if_neg c6]
    rw [e126, e82]
    obtain ⟨v, g', y1, y2, y3⟩ := zj_l164 (d := d) (D := D) G j
    refine ⟨v, g', y1, zt_w5_rf y2, ?_⟩
    rcases y3 with ⟨z1, z2, z3, z4, z5⟩ | ⟨z1, k', z2⟩
    · subst z2
      subst z3
      exact Or.inl ⟨z1, k, f, E, z5, G, z4, Nat.le_refl _, zm_F_r _ _ k, R, fun q => q.elim (fun z => absurd z c0) (fun z => absurd z c6)⟩
    · exact Or.inr ⟨z1, k', z2⟩
end
end
/-! A81.line2 -/
section
/-! ===== the tie: a LINE is read ===== -/
section
variable {T : Nat → Int} {n : Nat} {g k : zv_H} {f t E : Nat}
/-- behind the first number -/
def zt_lh (T : Nat → Int) (n : Nat) (D : Nat) (j : Int) (g : zv_H) (k : zv_H) (f : Nat) (o : zv_O) (g' : zv_H) (k' : zv_H) (f' : Nat) (E' : Nat) : Prop := (o = zt_dox D j k') ∧ (zt_gd T n g' k' f' 3 E') ∧ (T f' = 59) ∧ (f ≤ f') ∧ (zm_F [360] [19, 30, 31, 32, 33, 34, 35, 38, 43] k k') ∧ (zm_RI k') ∧ (j = 0 ∨ j = 6 → ∃ m : Nat, zt_wd 7 m (zv_I k' 360) g' ∧ zv_I k' 347 19 = m ∧ 1 ≤ m ∧ m ≤ (if j = 0 then 12 else 6) ∧ zt_lw m (zv_I k' 360)) ∧ (j = 1 → zv_I g' 5 12 = zv_I k' 347 43 ∧ 0 ≤ zv_I k' 347 43 ∧ zv_I k' 347 43 ≤ 999)
theorem zt_lh_o {T : Nat → Int} {n : Nat} {D : Nat} {j : Int} {g : zv_H} {k : zv_H} {f : Nat} {o : zv_O} {g' : zv_H} {k' : zv_H} {f' : Nat} {E' : Nat} (t : zt_lh T n D j g k f o g' k' f' E') : o = zt_dox D j k' := t.1
theorem zt_lh_G {T : Nat → Int} {n : Nat} {D : Nat} {j : Int} {g : zv_H} {k : zv_H} {f : Nat} {o : zv_O} {g' : zv_H} {k' : zv_H} {f' : Nat} {E' : Nat} (t : zt_lh T n D j g k f o g' k' f' E') : zt_gd T n g' k' f' 3 E' := t.2.1
theorem zt_lh_s {T : Nat → Int} {n : Nat} {D : Nat} {j : Int} {g : zv_H} {k : zv_H} {f : Nat} {o : zv_O} {g' : zv_H} {k' : zv_H} {f' : Nat} {E' : Nat} (t : zt_lh T n D j g k f o g' k' f' E') : T f' = 59 := t.2.2.1
theorem zt_lh_p {T : Nat → Int} {n : Nat} {D : Nat} {j : Int} {g : zv_H} {k : zv_H} {f : Nat} {o : zv_O} {g' : zv_H} {k' : zv_H} {f' : Nat} {E' : Nat} (t : zt_lh T n D j g k f o g' k' f' E') : f ≤ f' := t.2.2.2.1
theorem zt_lh_F {T : Nat → Int} {n : Nat} {D : Nat} {j : Int} {g : zv_H} {k : zv_H} {f : Nat} {o : zv_O} {g' : zv_H} {k' : zv_H} {f' : Nat} {E' : Nat} (t : zt_lh T n D j g k f o g' k' f' E') : zm_F [360] [19, 30, 31, 32, 33, 34, 35, 38, 43] k k' := t.2.2.2.2.1
theorem zt_lh_R {T : Nat → Int} {n : Nat} {D : Nat} {j : Int} {g : zv_H} {k : zv_H} {f : Nat} {o : zv_O} {g' : zv_H} {k' : zv_H} {f' : Nat} {E' : Nat} (t : zt_lh T n D j g k f o g' k' f' E') : zm_RI k' := t.2.2.2.2.2.1
theorem zt_lh_w {T : Nat → Int} {n : Nat} {D : Nat} {j : Int} {g : zv_H} {k : zv_H} {f : Nat} {o : zv_O} {g' : zv_H} {k' : zv_H} {f' : Nat} {E' : Nat} (t : zt_lh T n D j g k f o g' k' f' E') : j = 0 ∨ j = 6 → ∃ m : Nat, zt_wd 7 m (zv_I k' 360) g' ∧ zv_I k' 347 19 = m ∧ 1 ≤ m ∧ m ≤ (if j = 0 then 12 else 6) ∧ zt_lw m (zv_I k' 360) := t.2.2.2.2.2.2.1
theorem zt_lh_n2 {T : Nat → Int} {n : Nat} {D : Nat} {j : Int} {g : zv_H} {k : zv_H} {f : Nat} {o : zv_O} {g' : zv_H} {k' : zv_H} {f' : Nat} {E' : Nat} (t : zt_lh T n D j g k f o g' k' f' E') : j = 1 → zv_I g' 5 12 = zv_I k' 347 43 ∧ 0 ≤ zv_I k' 347 43 ∧ zv_I k' 347 43 ≤ 999 := t.2.2.2.2.2.2.2
theorem zt_w5_10 {g g' : zv_H} (w : zt_w5 g g') {i : Nat} (hi : 10 ≤ i) : zv_I g' 5 i = zv_I g 5 i := w.2.2 5 i (fun q => by omega) (fun q => absurd q.1 (by decide)) (by decide)
theorem zt_lh_g {D : Nat} {j : Int} {o : zv_O} {g' k' : zv_H} {f' E' : Nat} (hj : j ≠ 1) (h : zt_lg T n D j g k f o g' k' f' E') : zt_lh T n D j g k f o g' k' f' E' := ⟨zt_lg_o h, zt_lg_G h, zt_lg_s h, zt_lg_p h, zm_F_s (zt_lg_F h) rfl rfl, zt_lg_R h, zt_lg_w h, fun q => absurd q hj⟩
theorem zj_l85 {d D : Nat} (G : zt_gd T n g k f t E) (R : zm_RI k) {j : Int} (hj : zv_I g 5 10 = j) : ∃ (v : Int) (g' : zv_H), L3_line_85 (d + 6) 5 1 g = some (some (zv_i v), g') ∧ zt_ln5 g g' ∧ (zv_I g' 5 10 = j ∧ zv_I g' 5 11 = zv_I g 5 11) ∧ ((v = 1 ∧ ∃ k' f' E', zt_lh T n D j g k f (L9_readsLine_69 (D + 10) 347 j k) g' k' f' E') ∨ (v = 0 ∧ ∃ k', zt_lb T n g' k (L9_readsLine_69 (D + 10) 347 j k) k')) := by
  have gL := zt_tx_L (zt_gd_X G)
  have hM := zt_ty_M (zt_gd_Y G)
  by_cases c1 : j = 1
  · obtain ⟨v, g1, k1, x, a1, a2, a3, a4, a5, a6⟩ := zj_num (d := d + 4) (D := D + 4) (fld := 12) (Or.inr rfl) G R
    have gL1 := zt_L_12 gL a3.1 a3.2.1
    have hM1 := zm_F_M a4 hM
    have k10 : zv_I g1 5 10 = j := (a3.2.2 5 10 (fun q => by omega)).trans hj
    have k11 : zv_I g1 5 11 = zv_I g 5 11 := a3.2.2 5 11 (fun q => by omega)
    have F2 : zm_F [] [43] k1 (zv_sI k1 347 43 x) := zm_F_f (zm_F_r _ _ k1) rfl _
    have x43 : zv_I (zv_sI k1 347 43 x) 347 43 = x := zy_I _ _ _ _
    have F12 : zm_F [360] [19, 30, 31, 32, 33, 34, 35, 38, 43] k (zv_sI k1 347 43 x) := zm_F_t (zm_F_s a4 rfl rfl) (zm_F_s F2 rfl rfl)
    have e85 : L3_line_85 (d + 6) 5 1 g = L3_line_126 (d + 6) 5 v g1 := by
      rw [qL3_line_85, if_neg (by decide), zm_e (zl_gI gL zt_lay5 10), hj, if_pos c1]
      refine (a1 (fun x h => L3_line_125 (d + 6) 5 x h)).trans ?_
      rw [qL3_line_125]
    have e69 : L9_readsLine_69 (D + 10) 347 j k = L9_readsLine_82 (D + 10) 347 j (zv_sI k1 347 43 x) := by
      rw [qL9_readsLine_69, if_pos c1, zm_e a2]
      dsimp only
      rw [zm_e (zm_pI hM1 43 _)]
    have R2 := zm_RI_F a5 F2
    have hM2 := zm_F_M F2 hM1
    rw [e85, e69]
    rcases a6 with ⟨v1, xv, x9, f1, t1, E1, G1, l1⟩ | ⟨v0, B1⟩
    · have G2 : zt_gd T n g1 (zv_sI k1 347 43 x) f1 t1 E1 := zt_gd_x G1 rfl rfl (fun _ _ => rfl) (fun _ => rfl) F2
      generalize zv_sI k1 347 43 x = k2 at F2 x43 F12 R2 hM2 G2
      obtain ⟨v2, g2, y1, y2, y3⟩ := zj_ltail (d := d) (D := D) G2 R2 k10
      rw [v1]
      refine ⟨v2, g2, y1, zt_ln5_t (zt_ln5_l (by decide) a3) (zt_ln5_w y2), ⟨(zt_w5_10 y2 (by decide)).trans k10, (zt_w5_10 y2 (by decide)).trans k11⟩, ?_⟩
      rcases y3 with ⟨z1, k3, f3, E3, h⟩ | ⟨z1, k3, h⟩
      · refine Or.inl ⟨z1, k3, f3, E3, zt_lg_o h, zt_lg_G h, zt_lg_s h, ?_, zm_F_t F12 (zm_F_s (zt_lg_F h) rfl rfl), zt_lg_R h, zt_lg_w h, fun _ => ?_⟩
        · have q1 := zt_lg_p h
          have q2 := (zt_tkn_f l1).1
          have q3 := (zt_gd_f G).1
          omega
        · rw [zt_w5_10 y2 (by decide), zm_F_g (zt_lg_F h) 43, x43, ← xv]
          exact ⟨rfl, x9⟩
      · exact Or.inr ⟨z1, k3, zt_lb_t (zm_F_s F12 rfl rfl) rfl h⟩
    · have B2 : zt_bd T n g1 (zv_sI k1 347 43 x) := zt_bd_x B1 rfl rfl (fun _ _ => rfl) (fun _ => rfl) F2
      obtain ⟨k', h⟩ := zt_b82 (D := D) B2 R2 j
      rw [v0]
      exact ⟨0, g1, zt_c126 g1, zt_ln5_l (by decide) a3, ⟨k10, k11⟩, Or.inr ⟨rfl, k', zt_lb_t (zm_F_s F12 rfl rfl) rfl h⟩⟩
  · have e85 : L3_line_85 (d + 6) 5 1 g = L3_line_126 (d + 6) 5 1 g := by
      rw [qL3_line_85, if_neg (by decide), zm_e (zl_gI gL zt_lay5 10), hj, if_neg c1]
    have e69 : L9_readsLine_69 (D + 10) 347 j k = L9_readsLine_82 (D + 10) 347 j k := by
      rw [qL9_readsLine_69, if_neg c1]
    rw [e85, e69]
    obtain ⟨v2, g2, y1, y2, y3⟩ := zj_ltail (d := d) (D := D) G R hj
    refine ⟨v2, g2, y1, zt_ln5_w y2, ⟨(zt_w5_10 y2 (by decide)).trans hj, zt_w5_10 y2 (by decide)⟩, ?_⟩
    rcases y3 with ⟨z1, k3, f3, E3, h⟩ | ⟨z1, k3, h⟩
    · exact Or.inl ⟨z1, k3, f3, E3, zt_lh_g c1 h⟩
    · exact Or.inr ⟨z1, k3, h⟩
/-- a LINE, up to its ; -/
def zt_ll (T : Nat → Int) (n : Nat) (D : Nat) (j : Nat) (k : zv_H) (f : Nat) (o : zv_O) (g' : zv_H) (k' : zv_H) (f' : Nat) (E' : Nat) : Prop := (j < 12) ∧ (o = zt_dox D j k') ∧ (zt_gd T n g' k' f' 3 E') ∧ (T f' = 59) ∧ (f < f') ∧ (zm_F [360] [19, 30, 31, 32, 33, 34, 35, 38, 42, 43] k k') ∧ (zm_RI k') ∧ ((j : Int) = 0 ∨ (j : Int) = 6 → ∃ m : Nat, zt_wd 7 m (zv_I k' 360) g' ∧ zv_I k' 347 19 = m ∧ 1 ≤ m ∧ m ≤ (if (j : Int) = 0 then 12 else 6) ∧ zt_lw m (zv_I k' 360)) ∧ ((j : Int) = 1 → zv_I g' 5 12 = zv_I k' 347 43 ∧ 0 ≤ zv_I k' 347 43 ∧ zv_I k' 347 43 ≤ 999) ∧ (zv_I g' 5 10 = j) ∧ (¬ ((j : Int) = 3 ∨ (j : Int) = 4 ∨ (j : Int) = 6) → zv_I g' 5 11 = zv_I k' 347 42) ∧ (0 ≤ zv_I k' 347 42 ∧ zv_I k' 347 42 ≤ 999)
theorem zt_ll_j {T : Nat → Int} {n : Nat} {D : Nat} {j : Nat} {k : zv_H} {f : Nat} {o : zv_O} {g' : zv_H} {k' : zv_H} {f' : Nat} {E' : Nat} (t : zt_ll T n D j k f o g' k' f' E') : j < 12 := t.1
theorem zt_ll_o {T : Nat → Int} {n : Nat} {D : Nat} {j : Nat} {k : zv_H} {f : Nat} {o : zv_O} {g' : zv_H} {k' : zv_H} {f' : Nat} {E' : Nat} (t : zt_ll T n D j k f o g' k' f' E') : o = zt_dox D j k' := t.2.1
theorem zt_ll_G {T : Nat → Int} {n : Nat} {D : Nat} {j : Nat} {k : zv_H} {f : Nat} {o : zv_O} {g' : zv_H} {k' : zv_H} {f' : Nat} {E' : Nat} (t : zt_ll T n D j k f o g' k' f' E') : zt_gd T n g' k' f' 3 E' := t.2.2.1
theorem zt_ll_s {T : Nat → Int} {n : Nat} {D : Nat} {j : Nat} {k : zv_H} {f : Nat} {o : zv_O} {g' : zv_H} {k' : zv_H} {f' : Nat} {E' : Nat} (t : zt_ll T n D j k f o g' k' f' E') : T f' = 59 := t.2.2.2.1
theorem zt_ll_p {T : Nat → Int} {n : Nat} {D : Nat} {j : Nat} {k : zv_H} {f : Nat} {o : zv_O} {g' : zv_H} {k' : zv_H} {f' : Nat} {E' : Nat} (t : zt_ll T n D j k f o g' k' f' E') : f < f' := t.2.2.2.2.1
theorem zt_ll_F {T : Nat → Int} {n : Nat} {D : Nat} {j : Nat} {k : zv_H} {f : Nat} {o : zv_O} {g' : zv_H} {k' : zv_H} {f' : Nat} {E' : Nat} (t : zt_ll T n D j k f o g' k' f' E') : zm_F [360] [19, 30, 31, 32, 33, 34, 35, 38, 42, 43] k k' := t.2.2.2.2.2.1
theorem zt_ll_R {T : Nat → Int} {n : Nat} {D : Nat} {j : Nat} {k : zv_H} {f : Nat} {o : zv_O} {g' : zv_H} {k' : zv_H} {f' : Nat} {E' : Nat} (t : zt_ll T n D j k f o g' k' f' E') : zm_RI k' := t.2.2.2.2.2.2.1
theorem zt_ll_w {T : Nat → Int} {n : Nat} {D : Nat} {j : Nat} {k : zv_H} {f : Nat} {o : zv_O} {g' : zv_H} {k' : zv_H} {f' : Nat} {E' : Nat} (t : zt_ll T n D j k f o g' k' f' E') : (j : Int) = 0 ∨ (j : Int) = 6 → ∃ m : Nat, zt_wd 7 m (zv_I k' 360) g' ∧ zv_I k' 347 19 = m ∧ 1 ≤ m ∧ m ≤ (if (j : Int) = 0 then 12 else 6) ∧ zt_lw m (zv_I k' 360) := t.2.2.2.2.2.2.2.1
theorem zt_ll_n2 {T : Nat → Int} {n : Nat} {D : Nat} {j : Nat} {k : zv_H} {f : Nat} {o : zv_O} {g' : zv_H} {k' : zv_H} {f' : Nat} {E' : Nat} (t : zt_ll T n D j k f o g' k' f' E') : (j : Int) = 1 → zv_I g' 5 12 = zv_I k' 347 43 ∧ 0 ≤ zv_I k' 347 43 ∧ zv_I k' 347 43 ≤ 999 := t.2.2.2.2.2.2.2.2.1
theorem zt_ll_v {T : Nat → Int} {n : Nat} {D : Nat} {j : Nat} {k : zv_H} {f : Nat} {o : zv_O} {g' : zv_H} {k' : zv_H} {f' : Nat} {E' : Nat} (t : zt_ll T n D j k f o g' k' f' E') : zv_I g' 5 10 = j := t.2.2.2.2.2.2.2.2.2.1
theorem zt_ll_n1 {T : Nat → Int} {n : Nat} {D : Nat} {j : Nat} {k : zv_H} {f : Nat} {o : zv_O} {g' : zv_H} {k' : zv_H} {f' : Nat} {E' : Nat} (t : zt_ll T n D j k f o g' k' f' E') : ¬ ((j : Int) = 3 ∨ (j : Int) = 4 ∨ (j : Int) = 6) → zv_I g' 5 11 = zv_I k' 347 42 := t.2.2.2.2.2.2.2.2.2.2.1
theorem zt_ll_r1 {T : Nat → Int} {n : Nat} {D : Nat} {j : Nat} {k : zv_H} {f : Nat} {o : zv_O} {g' : zv_H} {k' : zv_H} {f' : Nat} {E' : Nat} (t : zt_ll T n D j k f o g' k' f' E') : 0 ≤ zv_I k' 347 42 ∧ zv_I k' 347 42 ≤ 999 := t.2.2.2.2.2.2.2.2.2.2.2
theorem zj_line {d D : Nat} (G : zt_gd T n g k f t E) (K : zm_K k) (R : zm_RI k) (t0 : t ≠ 0) : ∃ (v : Int) (g' : zv_H), C3_line (d + 7) 5 g = some (v, g') ∧ zt_ln5 g g' ∧ ((v = 1 ∧ ∃ (j : Nat) (k' : zv_H) (f' E' : Nat), zt_ll T n D j k f (E9_readsLine (D + 10) 347 k) g' k' f' E') ∨ (v = 0 ∧ ∃ k', zt_lb T n g' k (E9_readsLine (D + 10) 347 k) k')) := by
  have gL := zt_tx_L (zt_gd_X G)
  have hM := zt_ty_M (zt_gd_Y G)
  obtain ⟨v, ev, er, q⟩ := zt_verb (d := d + 1) (D := D + 9) G K
  have w1 : zt_l5 10 g (zv_sI g 5 10 v) := ⟨rfl, rfl, fun r i q => zy_In _ _ (fun z => q ⟨z.1, Or.inr z.2⟩)⟩
  have G1 : zt_gd T n (zv_sI g 5 10 v) k f t E := zt_gd_x G rfl rfl (fun j hj => zy_In _ _ (fun z => by omega)) (fun j => zy_In _ _ (fun z => by omega)) (zm_F_r [] [] k)
  have v10 : zv_I (zv_sI g 5 10 v) 5 10 = v := zy_I _ _ _ _
  have fin : ∀ {v' : Int} {g' : zv_H}, E3_line (d + 6) 5 g = some (some (zv_i v'), g') → C3_line (d + 7) 5 g = some (v', g') := fun {v' g'} h => lC3_line (zl_ob gL zt_lay5) h
  have qC := qE3_line (d + 6) 5 g
  rw [zm_e ev] at qC
  dsimp only at qC
  rw [zm_e (zl_pI gL zt_lay5 10 v), zm_e (zl_gI (g := zv_sI g 5 10 v) gL zt_lay5 10), v10] at qC
  have qR := qE9_readsLine (D + 10) 347 k
  rw [zm_e (zm_f39 hM), zm_e er] at qR
  dsimp only at qR
  generalize zv_sI g 5 10 v = g1 at w1 G1 v10 qC
  have gL1 := zt_tx_L (zt_gd_X G1)
  have J1 : zt_ln5 g g1 := zt_ln5_l (by decide) w1
  rcases q with q | ⟨j, q1, q2, q3⟩
  · -- no verb
    have bd := zj_fail G1 (w := 2) (by decide)
    have e4 : ¬ ((2 : Int) = 2 ∧ zv_I k 347 34 = 4) := fun q => zt_gd_t4 G (Int.ofNat.inj ((zt_gd_r G).2.1.symm.trans q.2))
    have p30 : zv_I (zt_ms 0 2 k) 347 30 = 2 := by
      rw [zt_ms_0 (zt_gd_f2 G), if_neg e4, zy_In _ _ (fun q => absurd q.2 (by decide)), zy_I]
    have hM2 := zm_F_M (zt_ms_F 0 2 k) hM
    rw [if_pos q, zm_e (zt_fail (d := d + 5) gL1 2)] at qC
    dsimp only at qC
    rw [if_pos (Or.inl rfl)] at qC
    rw [if_pos (by rw [q]; decide), qL9_readsLine_19, zm_e (zt_must hM 0 2), zm_e (zm_gI hM2 30), p30, if_neg (by decide)] at qR
    exact ⟨0, _, fin qC, zt_ln5_t J1 (zt_ln5_rf (zt_rf_fail g1 2)), Or.inr ⟨rfl, zt_ms 0 2 k, qR, zm_F_s (zt_ms_F 0 2 k) rfl rfl, bd, by rw [p30]; decide⟩⟩
  have t1 : t = 1 := q3.1
  obtain ⟨v1, g2, k2, n1, r1, f1, F1, R1, o1⟩ := zj_nx3 (d := d + 4) (D := D + 5) G1 R t0
  have hM2 := zm_F_M F1 hM
  have gL2 := zt_L_12 gL1 f1.1 f1.2.1
  have J2 : zt_ln5 g g2 := zt_ln5_t J1 (zt_ln5_rf f1)
  have k10 : zv_I g2 5 10 = j := by rw [f1.2.2 5 10 (fun q => absurd q.2.2 (by decide)), v10, q1]
  rw [q1] at qC qR v10
  rw [if_neg (by omega), zm_e n1] at qC
  dsimp only at qC
  have F2 : zm_F [] [42, 43] k2 (zv_sI (zv_sI k2 347 42 0) 347 43 0) := zm_F_f (zm_F_f (zm_F_r _ _ k2) rfl _) rfl _
  have z42 : zv_I (zv_sI (zv_sI k2 347 42 0) 347 43 0) 347 42 = 0 := by rw [zy_In _ _ (fun q => absurd q.2 (by decide)), zy_I]
  rw [if_neg (by omega), qL9_readsLine_19, zm_e (zt_must hM 1 2), zt_ms_1 (by decide), zm_e (zm_gI hM 30), zt_gd_f2 G, if_pos (by decide), zm_e r1, zm_e (zm_pI hM2 42 _), zm_e (zm_pI (h := zv_sI k2 347 42 0) hM2 43 _)] at qR
  generalize zv_sI (zv_sI k2 347 42 0) 347 43 0 = k3 at F2 z42 qR
  have F13 : zm_F [360] [19, 30, 31, 32, 33, 34, 35, 38, 42, 43] k k3 := zm_F_t (zm_F_s F1 rfl rfl) (zm_F_s F2 rfl rfl)
  have hM3 := zm_F_M F2 hM2
  have R3 := zm_RI_F R1 F2
  have fE := (zt_gd_f G).2.2.2 t0
  have qR' : E9_readsLine (D + 10) 347 k = if (j : Int) = 3 ∨ (j : Int) = 4 ∨ (j : Int) = 6 then L9_readsLine_69 (D + 10) 347 j k3 else L9_readsLine_61 (D + 10) 347 j k3 := by
    rw [qR]
    by_cases c : (j : Int) = 3 ∨ (j : Int) = 4 ∨ (j : Int) = 6
    · rw [if_pos c, if_neg (by omega), if_neg (by omega), if_pos (by omega)]
    · rw [if_neg c]
      by_cases c1 : (j : Int) < 3
      · rw [if_pos c1]
      · rw [if_neg c1]
        by_cases c2 : (j : Int) = 5
        · rw [if_pos c2]
        · rw [if_neg c2, if_neg (by omega)]
  rcases o1 with ⟨w1', f1', t1', E1', G2, l1⟩ | ⟨w1', B2⟩
  rotate_left
  · -- no TOKEN behind it
    have B3 : zt_bd T n g2 k3 := zt_bd_x B2 rfl rfl (fun _ _ => rfl) (fun _ => rfl) F2
    rw [if_pos w1', w1', zt_c85] at qC
    refine ⟨0, g2, fin qC, J2, Or.inr ⟨rfl, ?_⟩⟩
    by_cases c : (j : Int) = 3 ∨ (j : Int) = 4 ∨ (j : Int) = 6
    · obtain ⟨k', h⟩ := zt_b69 (D := D) B3 R3 j
      exact ⟨k', zt_lb_t F13 (qR'.trans (if_pos c)) h⟩
    · obtain ⟨k', h⟩ := zt_b61 (D := D) B3 R3 j
      exact ⟨k', zt_lb_t F13 (qR'.trans (if_neg c)) h⟩
  have G3 : zt_gd T n g2 k3 f1' t1' E1' := zt_gd_x G2 rfl rfl (fun _ _ => rfl) (fun _ => rfl) F2
  have ff : f < f1' := Nat.lt_of_lt_of_le fE.1 (zt_tkn_f l1).1
  rw [if_neg (by omega)] at qC
  by_cases c : (j : Int) = 3 ∨ (j : Int) = 4 ∨ (j : Int) = 6
  · rw [if_pos c] at qR'
    have qC' : E3_line (d + 6) 5 g = L3_line_85 (d + 6) 5 1 g2 := by
      rw [qC, zm_e (zl_gI gL2 zt_lay5 10), k10, w1']
      by_cases c3 : (j : Int) = 3
      · rw [if_pos c3]
      · rw [if_neg c3, zm_e (zl_gI gL2 zt_lay5 10), k10]
        by_cases c4 : (j : Int) = 4
        · rw [if_pos c4]
        · rw [if_neg c4, zm_e (zl_gI gL2 zt_lay5 10), k10, if_pos (by omega)]
    obtain ⟨v2, g4, y1, y2, y3, y4⟩ := zj_l85 (d := d) (D := D) G3 R3 k10
    refine ⟨v2, g4, fin (qC'.trans y1), zt_ln5_t J2 y2, ?_⟩
    rcases y4 with ⟨z1, k', f', E', h⟩ | ⟨z1, k', h⟩
    · refine Or.inl ⟨z1, j, k', f', E', q2, qR'.trans (zt_lh_o h), zt_lh_G h, zt_lh_s h, Nat.lt_of_lt_of_le ff (zt_lh_p h), zm_F_t F13 (zm_F_s (zt_lh_F h) rfl rfl), zt_lh_R h, zt_lh_w h, zt_lh_n2 h, y3.1, fun z => absurd c z, ?_⟩
      rw [zm_F_g (zt_lh_F h) 42, z42]
      decide
    · exact Or.inr ⟨z1, k', zt_lb_t F13 qR' h⟩
  · rw [if_neg c] at qR'
    rw [zm_e (zl_gI gL2 zt_lay5 10), k10, if_neg (fun z => c (Or.inl z)), zm_e (zl_gI gL2 zt_lay5 10), k10, if_neg (fun z => c (Or.inr (Or.inl z))), zm_e (zl_gI gL2 zt_lay5 10), k10, if_neg (fun z => c (Or.inr (Or.inr z)))] at qC
    obtain ⟨v2, g3, k4, x, a1, a2, a3, a4, a5, a6⟩ := zj_num (d := d + 4) (D := D + 4) (fld := 11) (Or.inl rfl) G3 R3
    have qC' : E3_line (d + 6) 5 g = L3_line_85 (d + 6) 5 v2 g3 := by
      rw [qC]
      refine (a1 (fun x h => L3_line_84 (d + 6) 5 x h)).trans ?_
      rw [qL3_line_84]
    have hM4 := zm_F_M a4 hM3
    have F5 : zm_F [] [42] k4 (zv_sI k4 347 42 x) := zm_F_f (zm_F_r _ _ k4) rfl _
    have x42 : zv_I (zv_sI k4 347 42 x) 347 42 = x := zy_I _ _ _ _
    have qR2 : E9_readsLine (D + 10) 347 k = L9_readsLine_69 (D + 10) 347 j (zv_sI k4 347 42 x) := by
      rw [qR', qL9_readsLine_61, zm_e a2]
      dsimp only
      rw [zm_e (zm_pI hM4 42 _)]
    have F15 : zm_F [360] [19, 30, 31, 32, 33, 34, 35, 38, 42, 43] k (zv_sI k4 347 42 x) := zm_F_t F13 (zm_F_t (zm_F_s a4 rfl rfl) (zm_F_s F5 rfl rfl))
    have R5 := zm_RI_F a5 F5
    have k10' : zv_I g3 5 10 = j := (a3.2.2 5 10 (fun q => by omega)).trans k10
    have J3 : zt_ln5 g g3 := zt_ln5_t J2 (zt_ln5_l (by decide) a3)
    rcases a6 with ⟨v1', xv, x9, f2, t2, E2, G4, l2⟩ | ⟨v0, B4⟩
    · have G5 : zt_gd T n g3 (zv_sI k4 347 42 x) f2 t2 E2 := zt_gd_x G4 rfl rfl (fun _ _ => rfl) (fun _ => rfl) F5
      generalize zv_sI k4 347 42 x = k5 at F5 x42 qR2 F15 R5 G5
      obtain ⟨v3, g4, y1, y2, y3, y4⟩ := zj_l85 (d := d) (D := D) G5 R5 k10'
      rw [v1'] at qC'
      refine ⟨v3, g4, fin (qC'.trans y1), zt_ln5_t J3 y2, ?_⟩
      rcases y4 with ⟨z1, k', f', E', h⟩ | ⟨z1, k', h⟩
      · have e42 : zv_I k' 347 42 = x := by rw [zm_F_g (zt_lh_F h) 42, x42]
        refine Or.inl ⟨z1, j, k', f', E', q2, qR2.trans (zt_lh_o h), zt_lh_G h, zt_lh_s h, ?_, zm_F_t F15 (zm_F_s (zt_lh_F h) rfl rfl), zt_lh_R h, zt_lh_w h, zt_lh_n2 h, y3.1, fun _ => ?_, by rw [e42]; exact x9⟩
        · have q1 := zt_lh_p h
          have q2 := (zt_tkn_f l2).1
          have q3 := (zt_gd_f G3).1
          omega
        · rw [e42, xv]
          exact y3.2
      · exact Or.inr ⟨z1, k', zt_lb_t F15 qR2 h⟩
    · have B5 : zt_bd T n g3 (zv_sI k4 347 42 x) := zt_bd_x B4 rfl rfl (fun _ _ => rfl) (fun _ => rfl) F5
      obtain ⟨k', h⟩ := zt_b69 (D := D) B5 R5 j
      rw [v0, zt_c85] at qC'
      exact ⟨0, g3, fin qC', J3, Or.inr ⟨rfl, k', zt_lb_t F15 qR2 h⟩⟩
end
end
/-! A82.does -/
section
/-! ===== the tie: what a LINE does ===== -/
/-- both do it, or both refuse -/
def zt_D (b : Nat) (g : zv_H) (k : zv_H) (q : Int × zv_H) (q' : Int × zv_H) : Prop := (zc_X g q.2) ∧ (zt_k b g q.2) ∧ (zm_F [348, 351, 352, 353, 354, 355, 358, 359, 360, 362, 363, 364, 365] [3, 10, 11, 12, 19, 24] k q'.2) ∧ ((q.1 < 0 ∧ q'.1 < 0) ∨ (0 ≤ q.1 ∧ 0 ≤ q'.1)) ∧ (zt_H b (zv_I q'.2 348) q.2) ∧ (zv_I k 348 1 ≤ zv_I q'.2 348 1 ∧ zv_I q'.2 348 1 ≤ zv_I k 348 1 + 1000) ∧ (zv_I k 348 2 ≤ zv_I q'.2 348 2 ∧ zv_I q'.2 348 2 ≤ zv_I k 348 2 + 48)
theorem zt_D_X {b : Nat} {g : zv_H} {k : zv_H} {q : Int × zv_H} {q' : Int × zv_H} (t : zt_D b g k q q') : zc_X g q.2 := t.1
theorem zt_D_k {b : Nat} {g : zv_H} {k : zv_H} {q : Int × zv_H} {q' : Int × zv_H} (t : zt_D b g k q q') : zt_k b g q.2 := t.2.1
theorem zt_D_F {b : Nat} {g : zv_H} {k : zv_H} {q : Int × zv_H} {q' : Int × zv_H} (t : zt_D b g k q q') : zm_F [348, 351, 352, 353, 354, 355, 358, 359, 360, 362, 363, 364, 365] [3, 10, 11, 12, 19, 24] k q'.2 := t.2.2.1
theorem zt_D_s {b : Nat} {g : zv_H} {k : zv_H} {q : Int × zv_H} {q' : Int × zv_H} (t : zt_D b g k q q') : (q.1 < 0 ∧ q'.1 < 0) ∨ (0 ≤ q.1 ∧ 0 ≤ q'.1) := t.2.2.2.1
theorem zt_D_H {b : Nat} {g : zv_H} {k : zv_H} {q : Int × zv_H} {q' : Int × zv_H} (t : zt_D b g k q q') : zt_H b (zv_I q'.2 348) q.2 := t.2.2.2.2.1
theorem zt_D_g1 {b : Nat} {g : zv_H} {k : zv_H} {q : Int × zv_H} {q' : Int × zv_H} (t : zt_D b g k q q') : zv_I k 348 1 ≤ zv_I q'.2 348 1 ∧ zv_I q'.2 348 1 ≤ zv_I k 348 1 + 1000 := t.2.2.2.2.2.1
theorem zt_D_g2 {b : Nat} {g : zv_H} {k : zv_H} {q : Int × zv_H} {q' : Int × zv_H} (t : zt_D b g k q q') : zv_I k 348 2 ≤ zv_I q'.2 348 2 ∧ zv_I q'.2 348 2 ≤ zv_I k 348 2 + 48 := t.2.2.2.2.2.2
theorem zt_D_Z {b : Nat} {y : Int} {g k : zv_H} {q q' : Int × zv_H} (z : zt_Z b y g k q q') (hy : y ≤ 48) : zt_D b g k q q' := by
  refine ⟨zt_Z_X z, zt_Z_k z, zt_Z_F z, ?_, zt_Z_H z, zt_Z_g1 z, ?_⟩
  · rcases zt_Z_a1 z with ⟨h1, h2⟩ | ⟨h1, h2⟩
    · exact Or.inl ⟨h1, by rw [h2]; decide⟩
    · exact Or.inr ⟨h1, by rw [h2]; exact h1⟩
  · have := zt_Z_g2 z
    omega
/-- what it does it with -/
def zt_ag0 (j : Nat) (g : zv_H) (k : zv_H) : Prop := (j < 12) ∧ ((j : Int) = 0 ∨ (j : Int) = 6 → ∃ m : Nat, zt_wd 7 m (zv_I k 360) g ∧ zv_I k 347 19 = m ∧ 1 ≤ m ∧ m ≤ (if (j : Int) = 0 then 12 else 6) ∧ zt_lw m (zv_I k 360)) ∧ ((j : Int) = 1 → zv_I g 5 12 = zv_I k 347 43 ∧ 0 ≤ zv_I k 347 43 ∧ zv_I k 347 43 ≤ 999) ∧ (zv_I g 5 10 = j) ∧ (¬ ((j : Int) = 3 ∨ (j : Int) = 4 ∨ (j : Int) = 6) → zv_I g 5 11 = zv_I k 347 42) ∧ (0 ≤ zv_I k 347 42 ∧ zv_I k 347 42 ≤ 999)
theorem zt_ag0_j {j : Nat} {g : zv_H} {k : zv_H} (t : zt_ag0 j g k) : j < 12 := t.1
theorem zt_ag0_w {j : Nat} {g : zv_H} {k : zv_H} (t : zt_ag0 j g k) : (j : Int) = 0 ∨ (j : Int) = 6 → ∃ m : Nat, zt_wd 7 m (zv_I k 360) g ∧ zv_I k 347 19 = m ∧ 1 ≤ m ∧ m ≤ (if (j : Int) = 0 then 12 else 6) ∧ zt_lw m (zv_I k 360) := t.2.1
theorem zt_ag0_n2 {j : Nat} {g : zv_H} {k : zv_H} (t : zt_ag0 j g k) : (j : Int) = 1 → zv_I g 5 12 = zv_I k 347 43 ∧ 0 ≤ zv_I k 347 43 ∧ zv_I k 347 43 ≤ 999 := t.2.2.1
theorem zt_ag0_v {j : Nat} {g : zv_H} {k : zv_H} (t : zt_ag0 j g k) : zv_I g 5 10 = j := t.2.2.2.1
theorem zt_ag0_n1 {j : Nat} {g : zv_H} {k : zv_H} (t : zt_ag0 j g k) : ¬ ((j : Int) = 3 ∨ (j : Int) = 4 ∨ (j : Int) = 6) → zv_I g 5 11 = zv_I k 347 42 := t.2.2.2.2.1
theorem zt_ag0_r1 {j : Nat} {g : zv_H} {k : zv_H} (t : zt_ag0 j g k) : 0 ≤ zv_I k 347 42 ∧ zv_I k 347 42 ≤ 999 := t.2.2.2.2.2
theorem zt_rg9 {x : Int} (h : 0 ≤ x ∧ x ≤ 999) : zv_rg x := by unfold zv_rg; omega
theorem zj_does {d D b j : Nat} {g k : zv_H} (hA : zc_A g) (H : zt_H b (zv_I k 348) g) (hM : zm_M k) (a : zt_ag0 j g k) (n1 : 0 ≤ zv_I k 348 1 ∧ zv_I k 348 1 < 1999999000) (n2 : zv_I k 348 2 < 1999999000) : ∃ q q', C8_done (d + 7) 1 b g = some q ∧ C9_does (D + 10) 347 j k = some q' ∧ zt_D b g k q q' := by
  have gL := zt_L_A hA
  have l1 : zv_lay 1 = (1, 8) := rfl
  have e5 : zv_gR g 1 8 2 = some 5 := zl_gF gL l1 2 4
  have e7 : zv_gR g 5 3 1 = some 7 := zl_gF gL zt_lay5 1 2
  have i10 : zv_gI g 5 3 10 = some (j : Int) := by rw [zl_gI gL zt_lay5 10, zt_ag0_v a]
  have i11 : zv_gI g 5 3 11 = some (zv_I g 5 11) := zl_gI gL zt_lay5 11
  have i12 : zv_gI g 5 3 12 = some (zv_I g 5 12) := zl_gI gL zt_lay5 12
  have v11 := zt_ag0_n1 a
  have r11 := zt_ag0_r1 a
  have b2 : zv_I k 348 2 < 2000000000 := Int.lt_trans n2 (by decide)
  have rr := zt_rg9 r11
  have main : ∀ {o : Option (Int × zv_H)} {o' : Option (Int × zv_H)}, (∃ q q', o = some q ∧ o' = some q' ∧ zt_D b g k q q') → (E8_done (d + 6) 1 b g = o.bind fun q => some (some (zv_i q.1), q.2)) → (E9_does (D + 9) 347 j k = o'.bind fun q => some (some (zv_i q.1), q.2)) → ∃ q q', C8_done (d + 7) 1 b g = some q ∧ C9_does (D + 10) 347 j k = some q' ∧ zt_D b g k q q' := fun {o o'} h e1 e2 => by
    obtain ⟨q, q', h1, h2, z⟩ := h
    rw [h1] at e1
    rw [h2] at e2
    exact ⟨q, q', lC8_done (zl_ob gL l1) e1, lC9_does (zm_ob hM) e2, z⟩
  have qC := qE8_done (d + 6) 1 b g
  rw [zm_e e5, zm_e i10] at qC
  have qR := qE9_does (D + 9) 347 j k
  have j12 := zt_ag0_j a
  by_cases c0 : (j : Int) = 0
  · rw [if_pos c0, zm_e e5, zm_e i11, zm_e e5, zm_e e7] at qC
    rw [if_pos c0, zm_e (zm_gI hM 42)] at qR
    obtain ⟨m, w1, w2, w3, w4, w5⟩ := zt_ag0_w a (Or.inl c0)
    rw [if_pos c0] at w4
    rw [v11 (by omega)] at qC
    obtain ⟨q, q', h1, h2, z, _⟩ := zj_put (d := d + 2) (D := D + 3) hA H hM rfl b2 w1 w4 (Or.inr (Or.inl rfl)) w2 (fun j hj => (w5 j hj).1) rr
    exact main ⟨q, q', h1, h2, zt_D_Z z (by decide)⟩ qC qR
  rw [if_neg c0] at qC qR
  by_cases c1 : (j : Int) = 1
  · rw [if_pos c1, zm_e e5, zm_e i11, zm_e e5, zm_e i12] at qC
    rw [if_pos c1, zm_e (zm_gI hM 42), zm_e (zm_gI hM 43)] at qR
    obtain ⟨w1, w2⟩ := zt_ag0_n2 a c1
    rw [v11 (by omega), w1] at qC
    obtain ⟨q, q', h1, h2, z, _⟩ := zj_cut (d := d + 2) (D := D + 3) hA H hM rfl b2 rr (zt_rg9 w2)
    exact main ⟨q, q', h1, h2, zt_D_Z z (by decide)⟩ qC qR
  rw [if_neg c1] at qC qR
  by_cases c2 : (j : Int) = 2
  · rw [if_pos c2, zm_e e5, zm_e i11] at qC
    rw [if_pos c2, zm_e (zm_f0 hM), zm_e (zm_aI hM zm_l348 rfl (by decide) (by decide)), zm_e (zm_gI hM 42), zm_e (zm_wI hM zm_l348 rfl (by decide) (by decide) _)] at qR
    rw [v11 (by omega)] at qC
    have r1 : zv_I k 348 (Int.toNat 1) = zv_I k 348 1 := rfl
    obtain ⟨p1, p2, p3, p4⟩ := zt_pass (d := d + 4) hA H r11 ⟨n1.1, Int.lt_trans n1.2 (by decide)⟩
    have es : zv_I (zv_sI k 348 (Int.toNat 1) (zv_w (zv_I k 348 (Int.toNat 1) + zv_I k 347 42))) 348 = zm_u (zv_I k 348) 1 (zv_I k 348 1 + zv_I k 347 42) := by
      rw [zm_ss, r1, zm_w (by omega)]
      rfl
    have F : zm_F [348, 351, 352, 353, 354, 355, 358, 359, 360, 362, 363, 364, 365] [3, 10, 11, 12, 19, 24] k (zv_sI k 348 (Int.toNat 1) (zv_w (zv_I k 348 (Int.toNat 1) + zv_I k 347 42))) := zm_F_I (zm_F_r _ _ k) rfl _ _
    generalize zv_sI k 348 (Int.toNat 1) (zv_w (zv_I k 348 (Int.toNat 1) + zv_I k 347 42)) = k1 at es F qR
    refine main (o' := some (0, k1)) ⟨_, _, p1, rfl, zc_QX p2, p3, F, Or.inr ⟨?_, Int.le_refl _⟩, ?_, ?_, ?_⟩ qC qR
    · dsimp only
      omega
    · dsimp only
      rw [es]
      exact p4
    · dsimp only
      rw [es, zm_u_s]
      omega
    · dsimp only
      rw [es, zm_u_o _ _ (by decide)]
      omega
  rw [if_neg c2] at qC qR
  by_cases c3 : (j : Int) = 3
  · rw [if_pos c3] at qC qR
    obtain ⟨q, q', h1, h2, z⟩ := zj_undo (d := d + 3) (D := D + 6) hA H hM rfl b2
    exact main ⟨q, q', h1, h2, zt_D_Z z (by decide)⟩ qC qR
  rw [if_neg c3] at qC qR
  by_cases c4 : (j : Int) = 4
  · rw [if_pos c4] at qC qR
    obtain ⟨q, q', h1, h2, z⟩ := zj_redo (d := d + 2) (D := D + 4) hA H hM rfl b2
    exact main ⟨q, q', h1, h2, zt_D_Z z (by decide)⟩ qC qR
  rw [if_neg c4] at qC qR
  by_cases c5 : (j : Int) = 5
  · rw [if_pos c5, zm_e e5, zm_e i11] at qC
    rw [if_pos c5, zm_e (zm_gI hM 42)] at qR
    rw [v11 (by omega)] at qC
    obtain ⟨q, q', h1, h2, z⟩ := zj_go (d := d + 2) (D := D + 4) hA H hM rfl b2 (zv_I k 347 42)
    exact main ⟨q, q', h1, h2, zt_D_Z z (by decide)⟩ qC qR
  rw [if_neg c5] at qC qR
  by_cases c6 : (j : Int) = 6
  · rw [if_pos c6, zm_e e5, zm_e e7] at qC
    rw [if_pos c6] at qR
    obtain ⟨m, w1, w2, w3, w4, w5⟩ := zt_ag0_w a (Or.inr c6)
    rw [if_neg c0] at w4
    have ek := zt_C7_key (d := d + 4) gL w1 w5
    rw [zm_e ek] at qC
    dsimp only at qC
    obtain ⟨q, q', h1, h2, z⟩ := zj_name (d := d + 3) (D := D + 6) hA H hM rfl w2 (by omega) w5 (fun j hj => rfl)
    exact main ⟨q, q', h1, h2, zt_D_Z z (by decide)⟩ qC qR
  rw [if_neg c6] at qC qR
  have v := v11 (by omega)
  by_cases c7 : (j : Int) = 7
  · rw [if_pos c7, zm_e e5, zm_e i11, v] at qC
    rw [if_pos c7, zm_e (zm_gI hM 42)] at qR
    obtain ⟨q, q', h1, h2, z⟩ := zj_withdraw (d := d + 1) (D := D + 2) hA H hM rfl b2 rr
    exact main ⟨q, q', h1, h2, zt_D_Z z (by decide)⟩ qC qR
  rw [if_neg c7] at qC qR
  by_cases c8 : (j : Int) = 8
  · rw [if_pos c8, zm_e e5, zm_e i11, v] at qC
    rw [if_pos c8, zm_e (zm_gI hM 42)] at qR
    obtain ⟨q, q', h1, h2, z⟩ := zj_restore (d := d + 1) (D := D + 2) hA H hM rfl b2 rr
    exact main ⟨q, q', h1, h2, zt_D_Z z (by decide)⟩ qC qR
  rw [if_neg c8] at qC qR
  by_cases c9 : (j : Int) = 9
  · rw [if_pos c9, zm_e e5, zm_e i11, v] at qC
    rw [if_pos c9, zm_e (zm_gI hM 42)] at qR
    obtain ⟨q, q', h1, h2, z⟩ := zj_carry (d := d) (D := D) hA H hM rfl b2 rr
    exact main ⟨q, q', h1, h2, zt_D_Z z (by decide)⟩ qC qR
  rw [if_neg c9] at qC qR
  by_cases c10 : (j : Int) = 10
  · rw [if_pos c10, zm_e e5, zm_e i11, v] at qC
    rw [if_pos c10, zm_e (zm_gI hM 42)] at qR
    obtain ⟨q, q', h1, h2, z, _⟩ := zj_merge (d := d) (D := D) hA H hM rfl n2 rr
    exact main ⟨q, q', h1, h2, zt_D_Z z (by decide)⟩ qC qR
  rw [if_neg c10] at qC qR
  rw [if_pos (by omega), zm_e e5, zm_e i11, v] at qC
  rw [zm_e (zm_gI hM 42)] at qR
  obtain ⟨q, q', h1, h2, z⟩ := zj_prune (d := d + 3) (D := D + 4) hA H hM rfl rr
  exact main ⟨q, q', h1, h2, zt_D_Z z (by decide)⟩ qC qR
end
/-! A83.lines -/
section
/-! ===== the tie: the LINES of a TEXT, one after the other ===== -/
section
variable {a b : Nat} {u : Nat → Nat → Int} {c0 : Nat → Int} {T : Nat → Int} {n : Nat} {k0 : zv_H}
/-- while LINES are read -/
def zt_lp (a : Nat) (b : Nat) (u : Nat → Nat → Int) (c0 : Nat → Int) (T : Nat → Int) (n : Nat) (k0 : zv_H) (i : Nat) (g : zv_H) (k : zv_H) (f : Nat) (y : Nat) (E : Nat) : Prop := (zc_A g) ∧ (zt_H b (zv_I k 348) g) ∧ (zt_H a c0 g) ∧ (zt_gd T n g k f y E) ∧ (zm_RI k) ∧ (zm_K k) ∧ (zm_F [348, 351, 352, 353, 354, 355, 358, 359, 360, 362, 363, 364, 365] [3, 10, 11, 12, 19, 24, 30, 31, 32, 33, 34, 35, 38, 42, 43] k0 k) ∧ (i ≤ f) ∧ (0 ≤ zv_I k 348 1 ∧ zv_I k 348 1 ≤ 1000 * i) ∧ (zv_I k 348 2 ≤ 100 + 48 * i) ∧ (zv_R g 1 3 = a) ∧ (zv_R g 1 4 = b) ∧ (zv_I g 1 7 = 1) ∧ (∀ r i, r = 3 ∨ r = 4 → zv_I g r i = u r i)
theorem zt_lp_A {a : Nat} {b : Nat} {u : Nat → Nat → Int} {c0 : Nat → Int} {T : Nat → Int} {n : Nat} {k0 : zv_H} {i : Nat} {g : zv_H} {k : zv_H} {f : Nat} {y : Nat} {E : Nat} (t : zt_lp a b u c0 T n k0 i g k f y E) : zc_A g := t.1
theorem zt_lp_H {a : Nat} {b : Nat} {u : Nat → Nat → Int} {c0 : Nat → Int} {T : Nat → Int} {n : Nat} {k0 : zv_H} {i : Nat} {g : zv_H} {k : zv_H} {f : Nat} {y : Nat} {E : Nat} (t : zt_lp a b u c0 T n k0 i g k f y E) : zt_H b (zv_I k 348) g := t.2.1
theorem zt_lp_O {a : Nat} {b : Nat} {u : Nat → Nat → Int} {c0 : Nat → Int} {T : Nat → Int} {n : Nat} {k0 : zv_H} {i : Nat} {g : zv_H} {k : zv_H} {f : Nat} {y : Nat} {E : Nat} (t : zt_lp a b u c0 T n k0 i g k f y E) : zt_H a c0 g := t.2.2.1
theorem zt_lp_G {a : Nat} {b : Nat} {u : Nat → Nat → Int} {c0 : Nat → Int} {T : Nat → Int} {n : Nat} {k0 : zv_H} {i : Nat} {g : zv_H} {k : zv_H} {f : Nat} {y : Nat} {E : Nat} (t : zt_lp a b u c0 T n k0 i g k f y E) : zt_gd T n g k f y E := t.2.2.2.1
theorem zt_lp_R {a : Nat} {b : Nat} {u : Nat → Nat → Int} {c0 : Nat → Int} {T : Nat → Int} {n : Nat} {k0 : zv_H} {i : Nat} {g : zv_H} {k : zv_H} {f : Nat} {y : Nat} {E : Nat} (t : zt_lp a b u c0 T n k0 i g k f y E) : zm_RI k := t.2.2.2.2.1
theorem zt_lp_K {a : Nat} {b : Nat} {u : Nat → Nat → Int} {c0 : Nat → Int} {T : Nat → Int} {n : Nat} {k0 : zv_H} {i : Nat} {g : zv_H} {k : zv_H} {f : Nat} {y : Nat} {E : Nat} (t : zt_lp a b u c0 T n k0 i g k f y E) : zm_K k := t.2.2.2.2.2.1
theorem zt_lp_F {a : Nat} {b : Nat} {u : Nat → Nat → Int} {c0 : Nat → Int} {T : Nat → Int} {n : Nat} {k0 : zv_H} {i : Nat} {g : zv_H} {k : zv_H} {f : Nat} {y : Nat} {E : Nat} (t : zt_lp a b u c0 T n k0 i g k f y E) : zm_F [348, 351, 352, 353, 354, 355, 358, 359, 360, 362, 363, 364, 365] [3, 10, 11, 12, 19, 24, 30, 31, 32, 33, 34, 35, 38, 42, 43] k0 k := t.2.2.2.2.2.2.1
theorem zt_lp_i {a : Nat} {b : Nat} {u : Nat → Nat → Int} {c0 : Nat → Int} {T : Nat → Int} {n : Nat} {k0 : zv_H} {i : Nat} {g : zv_H} {k : zv_H} {f : Nat} {y : Nat} {E : Nat} (t : zt_lp a b u c0 T n k0 i g k f y E) : i ≤ f := t.2.2.2.2.2.2.2.1
theorem zt_lp_n1 {a : Nat} {b : Nat} {u : Nat → Nat → Int} {c0 : Nat → Int} {T : Nat → Int} {n : Nat} {k0 : zv_H} {i : Nat} {g : zv_H} {k : zv_H} {f : Nat} {y : Nat} {E : Nat} (t : zt_lp a b u c0 T n k0 i g k f y E) : 0 ≤ zv_I k 348 1 ∧ zv_I k 348 1 ≤ 1000 * i := t.2.2.2.2.2.2.2.2.1
theorem zt_lp_n2 {a : Nat} {b : Nat} {u : Nat → Nat → Int} {c0 : Nat → Int} {T : Nat → Int} {n : Nat} {k0 : zv_H} {i : Nat} {g : zv_H} {k : zv_H} {f : Nat} {y : Nat} {E : Nat} (t : zt_lp a b u c0 T n k0 i g k f y E) : zv_I k 348 2 ≤ 100 + 48 * i := t.2.2.2.2.2.2.2.2.2.1
theorem zt_lp_r3 {a : Nat} {b : Nat} {u : Nat → Nat → Int} {c0 : Nat → Int} {T : Nat → Int} {n : Nat} {k0 : zv_H} {i : Nat} {g : zv_H} {k : zv_H} {f : Nat} {y : Nat} {E : Nat} (t : zt_lp a b u c0 T n k0 i g k f y E) : zv_R g 1 3 = a := t.2.2.2.2.2.2.2.2.2.2.1
theorem zt_lp_r4 {a : Nat} {b : Nat} {u : Nat → Nat → Int} {c0 : Nat → Int} {T : Nat → Int} {n : Nat} {k0 : zv_H} {i : Nat} {g : zv_H} {k : zv_H} {f : Nat} {y : Nat} {E : Nat} (t : zt_lp a b u c0 T n k0 i g k f y E) : zv_R g 1 4 = b := t.2.2.2.2.2.2.2.2.2.2.2.1
theorem zt_lp_l {a : Nat} {b : Nat} {u : Nat → Nat → Int} {c0 : Nat → Int} {T : Nat → Int} {n : Nat} {k0 : zv_H} {i : Nat} {g : zv_H} {k : zv_H} {f : Nat} {y : Nat} {E : Nat} (t : zt_lp a b u c0 T n k0 i g k f y E) : zv_I g 1 7 = 1 := t.2.2.2.2.2.2.2.2.2.2.2.2.1
theorem zt_lp_t3 {a : Nat} {b : Nat} {u : Nat → Nat → Int} {c0 : Nat → Int} {T : Nat → Int} {n : Nat} {k0 : zv_H} {i : Nat} {g : zv_H} {k : zv_H} {f : Nat} {y : Nat} {E : Nat} (t : zt_lp a b u c0 T n k0 i g k f y E) : ∀ r i, r = 3 ∨ r = 4 → zv_I g r i = u r i := t.2.2.2.2.2.2.2.2.2.2.2.2.2
/-- behind the last: all is well -/
def zt_lo1 (a : Nat) (b : Nat) (u : Nat → Nat → Int) (c0 : Nat → Int) (k0 : zv_H) (g : zv_H) (k : zv_H) : Prop := (zc_A g) ∧ (zt_H b (zv_I k 348) g) ∧ (zt_H a c0 g) ∧ (zm_K k) ∧ (zm_F [348, 351, 352, 353, 354, 355, 358, 359, 360, 362, 363, 364, 365] [3, 10, 11, 12, 19, 24, 30, 31, 32, 33, 34, 35, 38, 42, 43] k0 k) ∧ (0 ≤ zv_I k 348 1 ∧ zv_I k 348 1 ≤ 700000) ∧ (zv_I k 348 2 ≤ 40000) ∧ (zv_R g 1 3 = a) ∧ (zv_R g 1 4 = b) ∧ (zv_I g 1 7 = 1) ∧ (zv_I g 5 8 = 0) ∧ (zv_I k 347 30 = 0) ∧ (zv_I g 5 9 = -1) ∧ (∀ r i, r = 3 ∨ r = 4 → zv_I g r i = u r i)
theorem zt_lo1_A {a : Nat} {b : Nat} {u : Nat → Nat → Int} {c0 : Nat → Int} {k0 : zv_H} {g : zv_H} {k : zv_H} (t : zt_lo1 a b u c0 k0 g k) : zc_A g := t.1
theorem zt_lo1_H {a : Nat} {b : Nat} {u : Nat → Nat → Int} {c0 : Nat → Int} {k0 : zv_H} {g : zv_H} {k : zv_H} (t : zt_lo1 a b u c0 k0 g k) : zt_H b (zv_I k 348) g := t.2.1
theorem zt_lo1_O {a : Nat} {b : Nat} {u : Nat → Nat → Int} {c0 : Nat → Int} {k0 : zv_H} {g : zv_H} {k : zv_H} (t : zt_lo1 a b u c0 k0 g k) : zt_H a c0 g := t.2.2.1
theorem zt_lo1_K {a : Nat} {b : Nat} {u : Nat → Nat → Int} {c0 : Nat → Int} {k0 : zv_H} {g : zv_H} {k : zv_H} (t : zt_lo1 a b u c0 k0 g k) : zm_K k := t.2.2.2.1
theorem zt_lo1_F {a : Nat} {b : Nat} {u : Nat → Nat → Int} {c0 : Nat → Int} {k0 : zv_H} {g : zv_H} {k : zv_H} (t : zt_lo1 a b u c0 k0 g k) : zm_F [348, 351, 352, 353, 354, 355, 358, 359, 360, 362, 363, 364, 365] [3, 10, 11, 12, 19, 24, 30, 31, 32, 33, 34, 35, 38, 42, 43] k0 k := t.2.2.2.2.1
theorem zt_lo1_n1 {a : Nat} {b : Nat} {u : Nat → Nat → Int} {c0 : Nat → Int} {k0 : zv_H} {g : zv_H} {k : zv_H} (t : zt_lo1 a b u c0 k0 g k) : 0 ≤ zv_I k 348 1 ∧ zv_I k 348 1 ≤ 700000 := t.2.2.2.2.2.1
theorem zt_lo1_n2 {a : Nat} {b : Nat} {u : Nat → Nat → Int} {c0 : Nat → Int} {k0 : zv_H} {g : zv_H} {k : zv_H} (t : zt_lo1 a b u c0 k0 g k) : zv_I k 348 2 ≤ 40000 := t.2.2.2.2.2.2.1
theorem zt_lo1_r3 {a : Nat} {b : Nat} {u : Nat → Nat → Int} {c0 : Nat → Int} {k0 : zv_H} {g : zv_H} {k : zv_H} (t : zt_lo1 a b u c0 k0 g k) : zv_R g 1 3 = a := t.2.2.2.2.2.2.2.1
theorem zt_lo1_r4 {a : Nat} {b : Nat} {u : Nat → Nat → Int} {c0 : Nat → Int} {k0 : zv_H} {g : zv_H} {k : zv_H} (t : zt_lo1 a b u c0 k0 g k) : zv_R g 1 4 = b := t.2.2.2.2.2.2.2.2.1
theorem zt_lo1_l {a : Nat} {b : Nat} {u : Nat → Nat → Int} {c0 : Nat → Int} {k0 : zv_H} {g : zv_H} {k : zv_H} (t : zt_lo1 a b u c0 k0 g k) : zv_I g 1 7 = 1 := t.2.2.2.2.2.2.2.2.2.1
theorem zt_lo1_f8 {a : Nat} {b : Nat} {u : Nat → Nat → Int} {c0 : Nat → Int} {k0 : zv_H} {g : zv_H} {k : zv_H} (t : zt_lo1 a b u c0 k0 g k) : zv_I g 5 8 = 0 := t.2.2.2.2.2.2.2.2.2.2.1
theorem zt_lo1_z {a : Nat} {b : Nat} {u : Nat → Nat → Int} {c0 : Nat → Int} {k0 : zv_H} {g : zv_H} {k : zv_H} (t : zt_lo1 a b u c0 k0 g k) : zv_I k 347 30 = 0 := t.2.2.2.2.2.2.2.2.2.2.2.1
theorem zt_lo1_f9 {a : Nat} {b : Nat} {u : Nat → Nat → Int} {c0 : Nat → Int} {k0 : zv_H} {g : zv_H} {k : zv_H} (t : zt_lo1 a b u c0 k0 g k) : zv_I g 5 9 = -1 := t.2.2.2.2.2.2.2.2.2.2.2.2.1
theorem zt_lo1_t3 {a : Nat} {b : Nat} {u : Nat → Nat → Int} {c0 : Nat → Int} {k0 : zv_H} {g : zv_H} {k : zv_H} (t : zt_lo1 a b u c0 k0 g k) : ∀ r i, r = 3 ∨ r = 4 → zv_I g r i = u r i := t.2.2.2.2.2.2.2.2.2.2.2.2.2
/-- the States have their numbers -/
def zt_num0 (b : Nat) (g : zv_H) : Prop := ∀ i : Nat, i < 48 → zv_I g (zc_stt b i) 0 = i
theorem zt_num0_H {b : Nat} {c : Nat → Int} {g : zv_H} (H : zt_H b c g) : zt_num0 b g := zt_U_nr (zt_H_U H)
/-- behind the last: a fault -/
def zt_lo0 (a : Nat) (b : Nat) (u : Nat → Nat → Int) (c0 : Nat → Int) (T : Nat → Int) (n : Nat) (k0 : zv_H) (g : zv_H) (k : zv_H) : Prop := (zc_A g) ∧ (zt_H a c0 g) ∧ (zm_K k) ∧ (zm_F [348, 351, 352, 353, 354, 355, 358, 359, 360, 362, 363, 364, 365] [3, 10, 11, 12, 19, 24, 30, 31, 32, 33, 34, 35, 38, 42, 43] k0 k) ∧ (zv_R g 1 3 = a) ∧ (zv_R g 1 4 = b) ∧ (zv_I g 1 7 = 1) ∧ (zt_bd T n g k) ∧ (0 < zv_I k 347 30) ∧ (zt_num0 b g) ∧ (∀ r i, r = 3 ∨ r = 4 → zv_I g r i = u r i)
theorem zt_lo0_A {a : Nat} {b : Nat} {u : Nat → Nat → Int} {c0 : Nat → Int} {T : Nat → Int} {n : Nat} {k0 : zv_H} {g : zv_H} {k : zv_H} (t : zt_lo0 a b u c0 T n k0 g k) : zc_A g := t.1
theorem zt_lo0_O {a : Nat} {b : Nat} {u : Nat → Nat → Int} {c0 : Nat → Int} {T : Nat → Int} {n : Nat} {k0 : zv_H} {g : zv_H} {k : zv_H} (t : zt_lo0 a b u c0 T n k0 g k) : zt_H a c0 g := t.2.1
theorem zt_lo0_K {a : Nat} {b : Nat} {u : Nat → Nat → Int} {c0 : Nat → Int} {T : Nat → Int} {n : Nat} {k0 : zv_H} {g : zv_H} {k : zv_H} (t : zt_lo0 a b u c0 T n k0 g k) : zm_K k := t.2.2.1
theorem zt_lo0_F {a : Nat} {b : Nat} {u : Nat → Nat → Int} {c0 : Nat → Int} {T : Nat → Int} {n : Nat} {k0 : zv_H} {g : zv_H} {k : zv_H} (t : zt_lo0 a b u c0 T n k0 g k) : zm_F [348, 351, 352, 353, 354, 355, 358, 359, 360, 362, 363, 364, 365] [3, 10, 11, 12, 19, 24, 30, 31, 32, 33, 34, 35, 38, 42, 43] k0 k := t.2.2.2.1
theorem zt_lo0_r3 {a : Nat} {b : Nat} {u : Nat → Nat → Int} {c0 : Nat → Int} {T : Nat → Int} {n : Nat} {k0 : zv_H} {g : zv_H} {k : zv_H} (t : zt_lo0 a b u c0 T n k0 g k) : zv_R g 1 3 = a := t.2.2.2.2.1
theorem zt_lo0_r4 {a : Nat} {b : Nat} {u : Nat → Nat → Int} {c0 : Nat → Int} {T : Nat → Int} {n : Nat} {k0 : zv_H} {g : zv_H} {k : zv_H} (t : zt_lo0 a b u c0 T n k0 g k) : zv_R g 1 4 = b := t.2.2.2.2.2.1
theorem zt_lo0_l {a : Nat} {b : Nat} {u : Nat → Nat → Int} {c0 : Nat → Int} {T : Nat → Int} {n : Nat} {k0 : zv_H} {g : zv_H} {k : zv_H} (t : zt_lo0 a b u c0 T n k0 g k) : zv_I g 1 7 = 1 := t.2.2.2.2.2.2.1
theorem zt_lo0_B {a : Nat} {b : Nat} {u : Nat → Nat → Int} {c0 : Nat → Int} {T : Nat → Int} {n : Nat} {k0 : zv_H} {g : zv_H} {k : zv_H} (t : zt_lo0 a b u c0 T n k0 g k) : zt_bd T n g k := t.2.2.2.2.2.2.2.1
theorem zt_lo0_p {a : Nat} {b : Nat} {u : Nat → Nat → Int} {c0 : Nat → Int} {T : Nat → Int} {n : Nat} {k0 : zv_H} {g : zv_H} {k : zv_H} (t : zt_lo0 a b u c0 T n k0 g k) : 0 < zv_I k 347 30 := t.2.2.2.2.2.2.2.2.1
theorem zt_lo0_N {a : Nat} {b : Nat} {u : Nat → Nat → Int} {c0 : Nat → Int} {T : Nat → Int} {n : Nat} {k0 : zv_H} {g : zv_H} {k : zv_H} (t : zt_lo0 a b u c0 T n k0 g k) : zt_num0 b g := t.2.2.2.2.2.2.2.2.2.1
theorem zt_lo0_t3 {a : Nat} {b : Nat} {u : Nat → Nat → Int} {c0 : Nat → Int} {T : Nat → Int} {n : Nat} {k0 : zv_H} {g : zv_H} {k : zv_H} (t : zt_lo0 a b u c0 T n k0 g k) : ∀ r i, r = 3 ∨ r = 4 → zv_I g r i = u r i := t.2.2.2.2.2.2.2.2.2.2
theorem zt_ag_lk {D j : Nat} {k g' k' : zv_H} {f f' E' : Nat} {o : zv_O} (h : zt_ll T n D j k f o g' k' f' E') : zt_ag0 j g' k' := ⟨zt_ll_j h, zt_ll_w h, zt_ll_n2 h, zt_ll_v h, zt_ll_n1 h, zt_ll_r1 h⟩
/-- the class, at a fault, goes to the end -/
theorem zt_54_f {d : Nat} {g : zv_H} (gL : zt_L g) (h8 : ¬ zv_I g 5 8 = 0) (x i : Int) : L8_load_54 (d + 7) 1 x i g = L8_load_117 (d + 7) 1 g := by
  have e5 : zv_gR g 1 8 2 = some 5 := zl_gF gL (show zv_lay 1 = (1, 8) from rfl) 2 4
  rw [qL8_load_54]
  by_cases c : i ≤ x
  · have em : C3_more (d + 7) 5 g = some (0, g) := lC3_more (zl_ob gL zt_lay5) (by
      rw [qE3_more, zm_e (zl_gI gL zt_lay5 8), if_neg h8])
    rw [if_pos c, zm_e e5, zm_e em]
    dsimp only
    rw [if_pos rfl]
  · rw [if_neg c]
/-- a fault, told or not: both go to the end -/
theorem zj_lend {d D : Nat} {g k : zv_H} (B : zt_bd T n g k) (x i : Int) : L8_load_54 (d + 7) 1 x i g = L8_load_117 (d + 7) 1 g ∧ L9_load_182 (D + 11) 347 k = L9_load_203 (D + 11) 347 (zt_ms 0 2 k) := by
  have f0 := zt_bd_f0 B
  have hM := zt_ty_M (zt_bd_Y B)
  have B2 := zt_bd_ms B
  have hM2 := zm_F_M (zt_ms_F 0 2 k) hM
  refine ⟨zt_54_f (zt_tx_L (zt_bd_X B)) (by omega) x i, ?_⟩
  rcases zt_bd_f B with ⟨q1, q2, q3, q4⟩ | ⟨q1, q2⟩
  · rw [qL9_load_182, zm_e (zm_gI hM 30), if_pos q2, zm_e (zm_gI hM 34), if_neg (by rw [q3]; decide), zm_e (zt_readsLine_b (D := D + 8) B), qL9_load_182, zm_e (zm_gI hM2 30), if_neg (by omega)]
  · have p : 0 < zv_I k 347 30 := by rw [q1]; exact f0
    rw [qL9_load_182, zm_e (zm_gI hM 30), if_neg (by omega), zt_ms_f p]
theorem zt_ln5_1 {g g' : zv_H} (h : zt_ln5 g g') : (∀ i, zv_I g' 1 i = zv_I g 1 i) ∧ ∀ r i, zv_R g' r i = zv_R g r i := ⟨fun i => h.2.2 1 i (fun q => absurd q.1 (by decide)) (fun q => absurd q.1 (by decide)) (by decide), fun r i => by unfold zv_R; rw [h.2.1]⟩
theorem zt_ln5_34 {g g' : zv_H} (h : zt_ln5 g g') {r : Nat} (hr : r = 3 ∨ r = 4) (i : Nat) : zv_I g' r i = zv_I g r i := h.2.2 r i (fun q => by omega) (fun q => by omega) (by omega)
theorem zt_H_ln5 {x : Nat} {c : Nat → Int} {g g' : zv_H} (H : zt_H x c g) (h : zt_ln5 g g') : zt_H x c g' := zt_H_lo H h.2.1 (zt_ln5_lo h).2.2
/-- what lies below the halves, where one half alone changed -/
theorem zt_k_lo {g g' : zv_H} (hb : zv_lay b = (1, 0)) (K : zt_k b g g') : (∀ i, zv_I g' 5 i = zv_I g 5 i) ∧ (∀ i, zv_I g' 6 i = zv_I g 6 i) ∧ (∀ i, i ≠ 6 → zv_I g' 1 i = zv_I g 1 i) ∧ ∀ i, zv_R g' 1 i = zv_R g 1 i := by
  have nin : ∀ r, r < 9 → ¬ zt_in b r := fun r hr q => by have := q.1; omega
  have nx : ∀ r i, r < 9 → ¬ (r = 1 ∧ i = 6) → zv_lay r ≠ (1, 4) → zv_lay r ≠ (1, 5) → ¬ zt_x r i := fun r i hr h1 h2 h3 q => by
    rcases q with q | q | q | ⟨x, hx, q⟩
    · exact h1 q
    · exact h2 q.1
    · exact h3 q.1
    · omega
  refine ⟨fun i => K.2.2.1 5 i (nx 5 i (by decide) (fun q => absurd q.1 (by decide)) (by decide) (by decide)) (nin 5 (by decide)), fun i => K.2.2.1 6 i (nx 6 i (by decide) (fun q => absurd q.1 (by decide)) (by decide) (by decide)) (nin 6 (by decide)), fun i hi => K.2.2.1 1 i (nx 1 i (by decide) (fun q => hi q.2) (by decide) (by decide)) (nin 1 (by decide)), fun i => ?_⟩
  exact congrFun (K.2.2.2.2 1 (by decide) (by decide) (nin 1 (by decide))) i
theorem zt_k_34 {g g' : zv_H} (K : zt_k b g g') {r : Nat} (hr : r = 3 ∨ r = 4) (i : Nat) : zv_I g' r i = zv_I g r i := by
  refine K.2.2.1 r i (fun q => ?_) (fun q => by have := q.1; omega)
  rcases q with q | q | q | ⟨x, hx, q⟩
  · omega
  · rcases hr with z | z <;> rw [z] at q <;> exact absurd q.1 (by decide)
  · rcases hr with z | z <;> rw [z] at q <;> exact absurd q.1 (by decide)
  · omega
/-- one LINE -/
theorem zj_step {d D i : Nat} {g k : zv_H} {f t E : Nat} (hb : zv_lay b = (1, 0)) (hab : a ≠ b) (p : zt_lp a b u c0 T n k0 i g k f t E) (t0 : t ≠ 0) : ∃ g1 k1, L8_load_54 (d + 7) 1 n i g = L8_load_54 (d + 7) 1 n ((i + 1 : Nat) : Int) g1 ∧ L9_load_182 (D + 11) 347 k = L9_load_182 (D + 11) 347 k1 ∧ ((∃ f1 t1 E1, zt_lp a b u c0 T n k0 (i + 1) g1 k1 f1 t1 E1 ∧ f < f1) ∨ (zt_bd T n g1 k1 ∧ zc_A g1 ∧ zt_H a c0 g1 ∧ zm_K k1 ∧ zm_F [348, 351, 352, 353, 354, 355, 358, 359, 360, 362, 363, 364, 365] [3, 10, 11, 12, 19, 24, 30, 31, 32, 33, 34, 35, 38, 42, 43] k0 k1 ∧ zv_R g1 1 3 = a ∧ zv_R g1 1 4 = b ∧ zv_I g1 1 7 = 1 ∧ zt_num0 b g1 ∧ ∀ r i, r = 3 ∨ r = 4 → zv_I g1 r i = u r i)) := by
  have G := zt_lp_G p
  have hA := zt_lp_A p
  have R := zt_lp_R p
  have K := zt_lp_K p
  have gL := zt_tx_L (zt_gd_X G)
  have hM := zt_ty_M (zt_gd_Y G)
  have l1 : zv_lay 1 = (1, 8) := rfl
  have e5 : ∀ {g : zv_H}, zt_L g → zv_gR g 1 8 2 = some 5 := fun {g} h => zl_gF h l1 2 4
  have gf := zt_gd_f G
  have gf2 := gf.2.2.2 t0
  have hi := zt_lp_i p
  have i7 : i ≤ 700 := by omega
  have em : C3_more (d + 7) 5 g = some (1, g) := lC3_more (zl_ob gL zt_lay5) (by
    rw [qE3_more, zm_e (zl_gI gL zt_lay5 8), zt_gd_f1 G, if_pos rfl, zm_e (zl_gI gL zt_lay5 4), zt_gd_c4 G, if_neg (show ¬ (t : Int) = 0 from fun q => t0 (Int.ofNat.inj q))])
  obtain ⟨v, g1, a1, a2, a3⟩ := zj_line (d := d) (D := D) G K R t0
  obtain ⟨⟨v', g1'⟩, y1, y2, _⟩ := zc_C3_line (d := d + 1) hA zt_lay5
  have ey : (v', g1') = (v, g1) := Option.some.inj (y1.symm.trans a1)
  have A1 : zc_A g1 := by
    have := y2.2
    rw [show g1' = g1 from (Prod.mk.inj ey).2] at this
    exact this
  have gL1 := zt_L_A A1
  have O1 : zt_H a c0 g1 := zt_H_ln5 (zt_lp_O p) a2
  have z1 := zt_ln5_1 a2
  have t31 : ∀ r i, r = 3 ∨ r = 4 → zv_I g1 r i = u r i := fun r i hr => (zt_ln5_34 a2 hr i).trans (zt_lp_t3 p r i hr)
  have top : L8_load_54 (d + 7) 1 n i g = if v = 0 then L8_load_54 (d + 7) 1 n ((i + 1 : Nat) : Int) g1 else (C8_done (d + 7) 1 b g1).bind fun q6 => if q6.1 < 0 then (zv_gR q6.2 1 8 2).bind fun v7 => (C3_fail (d + 7) v7 7 q6.2).bind fun q8 => L8_load_54 (d + 7) 1 n ((i + 1 : Nat) : Int) q8.2 else (zv_gR q6.2 1 8 2).bind fun v9 => (C3_next (d + 7) v9 q6.2).bind fun q10 => L8_load_54 (d + 7) 1 n ((i + 1 : Nat) : Int) q10.2 := by
    rw [qL8_load_54, if_pos (by omega), zm_e (e5 gL), zm_e em]
    dsimp only
    rw [if_neg (by decide), zm_e (e5 gL), zm_e a1, zt_tkw i7]
    dsimp only
    by_cases c : v = 0
    · rw [if_pos c, if_pos c]
    · rw [if_neg c, if_neg c, zm_e (zl_gR gL1 l1 4), z1.2, zt_lp_r4 p]
  have topR : L9_load_182 (D + 11) 347 k = (C9_readsLine (D + 11) 347 k).bind fun g3 => L9_load_182 (D + 11) 347 g3 := by
    rw [qL9_load_182, zm_e (zm_gI hM 30), zt_gd_f2 G, if_pos rfl, zm_e (zm_gI hM 34), (zt_gd_r G).2.1, if_neg (show ¬ (t : Int) = 0 from fun q => t0 (Int.ofNat.inj q))]
  rcases a3 with ⟨v1, j, k1, f1, E1, lk⟩ | ⟨v0, k1, lb⟩
  rotate_left
  · rw [if_pos v0] at top
    rw [zm_e (lC9_readsLine (zm_ob hM) (zt_lb_o lb))] at topR
    exact ⟨g1, k1, top, topR, Or.inr ⟨zt_lb_B lb, A1, O1, zm_K_F K (zt_lb_F lb), zm_F_t (zt_lp_F p) (zm_F_s (zt_lb_F lb) rfl rfl), (z1.2 1 3).trans (zt_lp_r3 p), (z1.2 1 4).trans (zt_lp_r4 p), (z1.1 7).trans (zt_lp_l p), zt_num0_H (zt_H_ln5 (zt_lp_H p) a2), t31⟩⟩
  rw [if_neg (by omega)] at top
  have hM1 := zt_ty_M (zt_gd_Y (zt_ll_G lk))
  have c348 : zv_I k1 348 = zv_I k 348 := zm_F_a (zt_ll_F lk) 348
  have H1 : zt_H b (zv_I k1 348) g1 := by
    rw [c348]
    exact zt_H_ln5 (zt_lp_H p) a2
  have n1 := zt_lp_n1 p
  have n2 := zt_lp_n2 p
  have F1 : zm_F [348, 351, 352, 353, 354, 355, 358, 359, 360, 362, 363, 364, 365] [3, 10, 11, 12, 19, 24, 30, 31, 32, 33, 34, 35, 38, 42, 43] k0 k1 := zm_F_t (zt_lp_F p) (zm_F_s (zt_ll_F lk) rfl rfl)
  obtain ⟨q, q', h1, h2, Z⟩ := zj_does (d := d) (D := D) A1 H1 hM1 (zt_ag_lk lk) (by rw [c348]; omega) (by rw [c348]; omega)
  rw [zm_e h1] at top
  have A2 := (zt_D_X Z).2
  have gL2 := zt_L_A A2
  have O2 : zt_H a c0 q.2 := zt_H_k O1 (zt_D_k Z) hab
  have lo := zt_k_lo hb (zt_D_k Z)
  have t32 : ∀ r i, r = 3 ∨ r = 4 → zv_I q.2 r i = u r i := fun r i hr => (zt_k_34 (zt_D_k Z) hr i).trans (t31 r i hr)
  have F2 := zt_D_F Z
  have G2 : zt_gd T n q.2 q'.2 f1 3 E1 := zt_gd_x0 (zt_ll_G lk) gL2 (fun j _ => lo.1 j) lo.2.1 F2
  have hM2 := zt_ty_M (zt_gd_Y G2)
  have K2 : zm_K q'.2 := zm_K_F (zm_K_F K (zt_ll_F lk)) F2
  have F02 : zm_F [348, 351, 352, 353, 354, 355, 358, 359, 360, 362, 363, 364, 365] [3, 10, 11, 12, 19, 24, 30, 31, 32, 33, 34, 35, 38, 42, 43] k0 q'.2 := zm_F_t F1 (zm_F_s F2 rfl rfl)
  have R2 : zm_RI q'.2 := zm_RI_F (zt_ll_R lk) F2
  have r3 : zv_R q.2 1 3 = a := (lo.2.2.2 3).trans ((z1.2 1 3).trans (zt_lp_r3 p))
  have r4 : zv_R q.2 1 4 = b := (lo.2.2.2 4).trans ((z1.2 1 4).trans (zt_lp_r4 p))
  have l7 : zv_I q.2 1 7 = 1 := (lo.2.2.1 7 (by decide)).trans ((z1.1 7).trans (zt_lp_l p))
  have dox : zt_dox D j k1 = if q'.1 < 0 then L9_readsLine_158 (D + 10) 347 347 0 q'.2 else L9_readsLine_158 (D + 10) 347 347 1 q'.2 := by
    unfold zt_dox
    rw [zm_e h2]
  have ff := zt_ll_p lk
  rcases zt_D_s Z with ⟨s1, s2⟩ | ⟨s1, s2⟩
  · -- refused
    have bd := zj_fail G2 (w := 7) (by decide)
    have p30 : zv_I (zt_ms 0 7 q'.2) 347 30 = 7 := by
      rw [zt_ms_0 (zt_gd_f2 G2), if_neg (fun q => absurd q.1 (by decide)), zy_In _ _ (fun q => absurd q.2 (by decide)), zy_I]
    have hM3 := zm_F_M (zt_ms_F 0 7 q'.2) hM2
    rw [if_pos s1, zm_e (e5 gL2), zm_e (zt_fail (d := d + 6) gL2 7)] at top
    dsimp only at top
    rw [if_pos s2, qL9_readsLine_158, zm_e (zt_must hM2 0 7), zm_e (zm_gI hM3 30), p30, if_neg (by decide)] at dox
    rw [zm_e (lC9_readsLine (zm_ob hM) ((zt_ll_o lk).trans dox))] at topR
    obtain ⟨⟨v5, g5⟩, y5, y6, _⟩ := zc_C3_fail (d := d + 6) A2 zt_lay5 (a1 := 7) (by unfold zv_rg; omega)
    have eg : g5 = zv_sI (zv_sI q.2 5 8 7) 5 9 (zv_I q.2 5 5) := (Prod.mk.inj (Option.some.inj (y5.symm.trans (zt_fail (d := d + 6) gL2 7)))).2
    have rf := zt_rf_fail q.2 7
    rw [← eg] at rf bd top
    have ln := zt_ln5_rf rf
    have z5 := zt_ln5_1 ln
    exact ⟨g5, _, top, topR, Or.inr ⟨bd, y6.2, zt_H_ln5 O2 ln, zm_K_F K2 (zt_ms_F 0 7 q'.2), zm_F_t F02 (zm_F_s (zt_ms_F 0 7 q'.2) rfl rfl), (z5.2 1 3).trans r3, (z5.2 1 4).trans r4, (z5.1 7).trans l7, zt_num0_H (zt_H_ln5 (zt_D_H Z) ln), fun r i hr => (zt_ln5_34 ln hr i).trans (t32 r i hr)⟩⟩
  · obtain ⟨v4, g4, k4, n4, r4', f4, F4, R4, o4⟩ := zj_nx3 (d := d + 5) (D := D + 5) G2 R2 (by decide)
    rw [if_neg (by omega), zm_e (e5 gL2), zm_e n4] at top
    dsimp only at top
    rw [if_neg (by omega), qL9_readsLine_158, zm_e (zt_must hM2 1 7), zt_ms_1 (by decide), zm_e (zm_gI hM2 30), zt_gd_f2 G2, if_pos rfl, zm_e r4'] at dox
    rw [zm_e (lC9_readsLine (zm_ob hM) ((zt_ll_o lk).trans dox))] at topR
    obtain ⟨⟨v5, g5⟩, y5, y6, _⟩ := zc_C3_next (d := d + 5) A2 zt_lay5
    have eg : g5 = g4 := (Prod.mk.inj (Option.some.inj (y5.symm.trans n4))).2
    rw [eg] at y6
    have ln := zt_ln5_rf f4
    have z5 := zt_ln5_1 ln
    have c4 : zv_I k4 348 = zv_I q'.2 348 := zm_F_a F4 348
    have F04 : zm_F [348, 351, 352, 353, 354, 355, 358, 359, 360, 362, 363, 364, 365] [3, 10, 11, 12, 19, 24, 30, 31, 32, 33, 34, 35, 38, 42, 43] k0 k4 := zm_F_t F02 (zm_F_s F4 rfl rfl)
    refine ⟨g4, k4, top, topR, ?_⟩
    rcases o4 with ⟨w4, f4', t4', E4', G4, l4⟩ | ⟨w4, B4⟩
    · have g1b := zt_D_g1 Z
      have g2b := zt_D_g2 Z
      rw [c348] at g1b g2b
      have p1 := (zt_tkn_f l4).1
      have p2 := (zt_gd_f G2).2.2.2 (by decide)
      refine Or.inl ⟨f4', t4', E4', ⟨y6.2, ?_, zt_H_ln5 O2 ln, G4, R4, zm_K_F K2 F4, F04, by omega, ?_, ?_, (z5.2 1 3).trans r3, (z5.2 1 4).trans r4, (z5.1 7).trans l7, fun r i hr => (zt_ln5_34 ln hr i).trans (t32 r i hr)⟩, by omega⟩
      · rw [c4]
        exact zt_H_ln5 (zt_D_H Z) ln
      · rw [c4]
        omega
      · rw [c4]
        omega
    · exact Or.inr ⟨B4, y6.2, zt_H_ln5 O2 ln, zm_K_F K2 F4, F04, (z5.2 1 3).trans r3, (z5.2 1 4).trans r4, (z5.1 7).trans l7, zt_num0_H (zt_H_ln5 (zt_D_H Z) ln), fun r i hr => (zt_ln5_34 ln hr i).trans (t32 r i hr)⟩
/-- all LINES -/
theorem zj_lines {d D : Nat} (hb : zv_lay b = (1, 0)) (hab : a ≠ b) : ∀ (N i : Nat) (g k : zv_H) (f t E : Nat), n - f ≤ N → zt_lp a b u c0 T n k0 i g k f t E → ∃ g1 k1, L8_load_54 (d + 7) 1 n i g = L8_load_117 (d + 7) 1 g1 ∧ L9_load_182 (D + 11) 347 k = L9_load_203 (D + 11) 347 k1 ∧ (zt_lo1 a b u c0 k0 g1 k1 ∨ zt_lo0 a b u c0 T n k0 g1 k1) := by
  have last : ∀ (i : Nat) (g k : zv_H) (f t E : Nat), t = 0 → zt_lp a b u c0 T n k0 i g k f t E → ∃ g1 k1, L8_load_54 (d + 7) 1 n i g = L8_load_117 (d + 7) 1 g1 ∧ L9_load_182 (D + 11) 347 k = L9_load_203 (D + 11) 347 k1 ∧ (zt_lo1 a b u c0 k0 g1 k1 ∨ zt_lo0 a b u c0 T n k0 g1 k1) := by
    intro i g k f t E t0 p
    have G := zt_lp_G p
    have gL := zt_tx_L (zt_gd_X G)
    have hM := zt_ty_M (zt_gd_Y G)
    have gf := zt_gd_f G
    have hi := zt_lp_i p
    have e5 : zv_gR g 1 8 2 = some 5 := zl_gF gL (show zv_lay 1 = (1, 8) from rfl) 2 4
    have em : C3_more (d + 7) 5 g = some (0, g) := lC3_more (zl_ob gL zt_lay5) (by
      rw [qE3_more, zm_e (zl_gI gL zt_lay5 8), zt_gd_f1 G, if_pos rfl, zm_e (zl_gI gL zt_lay5 4), zt_gd_c4 G, if_pos (by rw [t0]; rfl)])
    have n1 := zt_lp_n1 p
    have n2 := zt_lp_n2 p
    refine ⟨g, k, ?_, ?_, Or.inl ⟨zt_lp_A p, zt_lp_H p, zt_lp_O p, zt_lp_K p, zt_lp_F p, by omega, by omega, zt_lp_r3 p, zt_lp_r4 p, zt_lp_l p, zt_gd_f1 G, zt_gd_f2 G, zt_gd_f9 G, zt_lp_t3 p⟩⟩
    · rw [qL8_load_54]
      by_cases c : (i : Int) ≤ (n : Int)
      · rw [if_pos c, zm_e e5, zm_e em]
        dsimp only
        rw [if_pos rfl]
      · rw [if_neg c]
    · rw [qL9_load_182, zm_e (zm_gI hM 30), zt_gd_f2 G, if_pos rfl, zm_e (zm_gI hM 34), (zt_gd_r G).2.1, if_pos (by rw [t0]; rfl)]
  intro N
  induction N with
  | zero =>
    intro i g k f t E hN p
    by_cases t0 : t = 0
    · exact last i g k f t E t0 p
    · have := (zt_gd_f (zt_lp_G p)).2.2.2 t0
      omega
  | succ N ih =>
    intro i g k f t E hN p
    by_cases t0 : t = 0
    · exact last i g k f t E t0 p
    · obtain ⟨g1, k1, e1, e2, o⟩ := zj_step (d := d) (D := D) hb hab p t0
      rw [e1, e2]
      rcases o with ⟨f1, t1, E1, p1, lt⟩ | ⟨B, A1, O1, K1, F1, r3, r4, l, N1, t3⟩
      · exact ih (i + 1) g1 k1 f1 t1 E1 (by omega) p1
      · obtain ⟨y1, y2⟩ := zj_lend (d := d) (D := D) B n ((i + 1 : Nat) : Int)
        have B2 := zt_bd_ms B
        exact ⟨g1, zt_ms 0 2 k1, y1, y2, Or.inr ⟨A1, O1, zm_K_F K1 (zt_ms_F 0 2 k1), zm_F_t F1 (zm_F_s (zt_ms_F 0 2 k1) rfl rfl), r3, r4, l, B2.1, B2.2, N1, t3⟩⟩
end
end
/-! A84.begin -/
section
/-! ===== the tie: all anew, the class, exactly ===== -/
/-- a State as it is opened, without one before it -/
def zt_fs (s : Nat) (x : Int) (h0 : zv_H) (h : zv_H) : Prop := (zv_I h s 0 = zv_I h0 s 0) ∧ (zv_I h s 3 = x) ∧ (zv_I h s 6 = -1) ∧ (zv_I h s 7 = 0) ∧ (zv_I h s 8 = -1) ∧ (zv_I h s 9 = 0) ∧ (zv_I h s 10 = 0) ∧ (zv_I h s 11 = 0) ∧ (zv_I h s 12 = 0) ∧ (zv_I h s 13 = 0) ∧ (zv_I h s 15 = -1) ∧ (zv_J h s 16 = Int64.ofNat 0) ∧ (zv_J h s 17 = Int64.ofNat 0) ∧ (zv_R h s 4 = 0) ∧ (zv_R h s 5 = s)
theorem zt_fs_i0 {s : Nat} {x : Int} {h0 : zv_H} {h : zv_H} (t : zt_fs s x h0 h) : zv_I h s 0 = zv_I h0 s 0 := t.1
theorem zt_fs_i3 {s : Nat} {x : Int} {h0 : zv_H} {h : zv_H} (t : zt_fs s x h0 h) : zv_I h s 3 = x := t.2.1
theorem zt_fs_i6 {s : Nat} {x : Int} {h0 : zv_H} {h : zv_H} (t : zt_fs s x h0 h) : zv_I h s 6 = -1 := t.2.2.1
theorem zt_fs_i7 {s : Nat} {x : Int} {h0 : zv_H} {h : zv_H} (t : zt_fs s x h0 h) : zv_I h s 7 = 0 := t.2.2.2.1
theorem zt_fs_i8 {s : Nat} {x : Int} {h0 : zv_H} {h : zv_H} (t : zt_fs s x h0 h) : zv_I h s 8 = -1 := t.2.2.2.2.1
theorem zt_fs_i9 {s : Nat} {x : Int} {h0 : zv_H} {h : zv_H} (t : zt_fs s x h0 h) : zv_I h s 9 = 0 := t.2.2.2.2.2.1
theorem zt_fs_ia {s : Nat} {x : Int} {h0 : zv_H} {h : zv_H} (t : zt_fs s x h0 h) : zv_I h s 10 = 0 := t.2.2.2.2.2.2.1
theorem zt_fs_ib {s : Nat} {x : Int} {h0 : zv_H} {h : zv_H} (t : zt_fs s x h0 h) : zv_I h s 11 = 0 := t.2.2.2.2.2.2.2.1
theorem zt_fs_ic {s : Nat} {x : Int} {h0 : zv_H} {h : zv_H} (t : zt_fs s x h0 h) : zv_I h s 12 = 0 := t.2.2.2.2.2.2.2.2.1
theorem zt_fs_id {s : Nat} {x : Int} {h0 : zv_H} {h : zv_H} (t : zt_fs s x h0 h) : zv_I h s 13 = 0 := t.2.2.2.2.2.2.2.2.2.1
theorem zt_fs_ie {s : Nat} {x : Int} {h0 : zv_H} {h : zv_H} (t : zt_fs s x h0 h) : zv_I h s 15 = -1 := t.2.2.2.2.2.2.2.2.2.2.1
theorem zt_fs_jg {s : Nat} {x : Int} {h0 : zv_H} {h : zv_H} (t : zt_fs s x h0 h) : zv_J h s 16 = Int64.ofNat 0 := t.2.2.2.2.2.2.2.2.2.2.2.1
theorem zt_fs_jh {s : Nat} {x : Int} {h0 : zv_H} {h : zv_H} (t : zt_fs s x h0 h) : zv_J h s 17 = Int64.ofNat 0 := t.2.2.2.2.2.2.2.2.2.2.2.2.1
theorem zt_fs_r4 {s : Nat} {x : Int} {h0 : zv_H} {h : zv_H} (t : zt_fs s x h0 h) : zv_R h s 4 = 0 := t.2.2.2.2.2.2.2.2.2.2.2.2.2.1
theorem zt_fs_r5 {s : Nat} {x : Int} {h0 : zv_H} {h : zv_H} (t : zt_fs s x h0 h) : zv_R h s 5 = s := t.2.2.2.2.2.2.2.2.2.2.2.2.2.2
/-- the others stand -/
def zt_oo (s : Nat) (h h' : zv_H) : Prop := h'.1 = h.1 ∧ h'.2.2.2.2 = h.2.2.2.2 ∧ ∀ r, r ≠ s → h'.2.1 r = h.2.1 r ∧ h'.2.2.1 r = h.2.2.1 r ∧ h'.2.2.2.1 r = h.2.2.2.1 r
theorem zt_open0 {d : Nat} {h : zv_H} {s : Nat} (ob : zv_ob h s 5) : ∃ h', C5_open (d + 1) s 0 (-1) (-1) 0 h = some h' ∧ zt_oo s h h' ∧ zt_fs s 1 h h' := by
  refine zm_cV (P := fun h' => zt_oo s h h' ∧ zt_fs s 1 h h') (fun e => lC5_open ob e) ?_
  rw [qE5_open]
  refine zc_dZ ob (Or.inr rfl) ?_
  refine zc_dR (zs_oI ob) ?_
  refine zc_dR (zs_oR (zs_oI ob)) ?_
  refine zc_dI (zs_oR (zs_oR (zs_oI ob))) ?_
  refine zc_dI (zs_oI (zs_oR (zs_oR (zs_oI ob)))) ?_
  refine zc_dI (zs_oI (zs_oI (zs_oR (zs_oR (zs_oI ob))))) ?_
  refine zc_dI (zs_oI (zs_oI (zs_oI (zs_oR (zs_oR (zs_oI ob)))))) ?_
  rw [if_pos rfl, qL5_open_51]
  refine zc_dI (zs_oI (zs_oI (zs_oI (zs_oI (zs_oR (zs_oR (zs_oI ob))))))) ?_
  refine zc_dI (zs_oI (zs_oI (zs_oI (zs_oI (zs_oI (zs_oR (zs_oR (zs_oI ob)))))))) ?_
  refine zc_dI (zs_oI (zs_oI (zs_oI (zs_oI (zs_oI (zs_oI (zs_oR (zs_oR (zs_oI ob))))))))) ?_
  refine zc_dI (zs_oI (zs_oI (zs_oI (zs_oI (zs_oI (zs_oI (zs_oI (zs_oR (zs_oR (zs_oI ob)))))))))) ?_
  refine zc_dI (zs_oI (zs_oI (zs_oI (zs_oI (zs_oI (zs_oI (zs_oI (zs_oI (zs_oR (zs_oR (zs_oI ob))))))))))) ?_
  refine zc_dI (zs_oI (zs_oI (zs_oI (zs_oI (zs_oI (zs_oI (zs_oI (zs_oI (zs_oI (zs_oR (zs_oR (zs_oI ob)))))))))))) ?_
  refine zc_dJ (zs_oI (zs_oI (zs_oI (zs_oI (zs_oI (zs_oI (zs_oI (zs_oI (zs_oI (zs_oI (zs_oR (zs_oR (zs_oI ob))))))))))))) ?_
  refine zc_dJ (zs_oJ (zs_oI (zs_oI (zs_oI (zs_oI (zs_oI (zs_oI (zs_oI (zs_oI (zs_oI (zs_oI (zs_oR (zs_oR (zs_oI ob)))))))))))))) ?_
  refine zm_iV ⟨⟨by simp only [zs_1I, zs_1J, zs_1R], by simp only [zs_4I, zs_4J, zs_4R], fun r hr => ⟨?_, ?_, ?_⟩⟩, ?_, ?_, ?_, ?_, ?_, ?_, ?_, ?_, ?_, ?_, ?_, ?_, ?_, ?_, ?_⟩
  · funext k
    rw [show ∀ x : zv_H, x.2.1 r k = zv_I x r k from fun _ => rfl, show ∀ x : zv_H, x.2.1 r k = zv_I x r k from fun _ => rfl]
    simp only [zs_IJ, zs_IR, zs_Io _ _ _ _ hr]
  · funext k
    rw [show ∀ x : zv_H, x.2.2.1 r k = zv_J x r k from fun _ => rfl, show ∀ x : zv_H, x.2.2.1 r k = zv_J x r k from fun _ => rfl]
    simp only [zs_JI, zs_JR, zs_Jo _ _ _ _ hr]
  · funext k
    rw [show ∀ x : zv_H, x.2.2.2.1 r k = zv_R x r k from fun _ => rfl, show ∀ x : zv_H, x.2.2.2.1 r k = zv_R x r k from fun _ => rfl]
    simp only [zs_RI, zs_RJ, zs_Rg _ _ _ _ (show ¬ (r = s ∧ k = 4) from fun q => hr q.1), zs_Rg _ _ _ _ (show ¬ (r = s ∧ k = 5) from fun q => hr q.1)]
  all_goals simp only [zs_II, zs_IJ, zs_IR, zs_JJ, zs_JI, zs_JR, zs_RR, zs_RI, zs_RJ, zs_In, zs_Jn, zs_Rn, ne_eq, Nat.reduceEqDiff, not_false_eq_true]
/-- with its living set -/
theorem zt_fs_3 {s : Nat} {h0 h : zv_H} (f : zt_fs s 1 h0 h) (x : Int) : zt_fs s x h0 (zv_sI h s 3 x) := ⟨(zy_In _ _ (fun q => absurd q.2 (by decide))).trans (zt_fs_i0 f), zy_I _ _ _ _, (zy_In _ _ (fun q => absurd q.2 (by decide))).trans (zt_fs_i6 f), (zy_In _ _ (fun q => absurd q.2 (by decide))).trans (zt_fs_i7 f), (zy_In _ _ (fun q => absurd q.2 (by decide))).trans (zt_fs_i8 f), (zy_In _ _ (fun q => absurd q.2 (by decide))).trans (zt_fs_i9 f), (zy_In _ _ (fun q => absurd q.2 (by decide))).trans (zt_fs_ia f), (zy_In _ _ (fun q => absurd q.2 (by decide))).trans (zt_fs_ib f), (zy_In _ _ (fun q => absurd q.2 (by decide))).trans (zt_fs_ic f), (zy_In _ _ (fun q => absurd q.2 (by decide))).trans (zt_fs_id f), (zy_In _ _ (fun q => absurd q.2 (by decide))).trans (zt_fs_ie f), (show zv_J h s 16 = _ from zt_fs_jg f), (show zv_J h s 17 = _ from zt_fs_jh f), (show zv_R h s 4 = _ from zt_fs_r4 f), (show zv_R h s 5 = s from zt_fs_r5 f)⟩
theorem zt_fs_o {s : Nat} {x : Int} {h0 h h' : zv_H} (f : zt_fs s x h0 h) (o : h'.2.1 s = h.2.1 s ∧ h'.2.2.1 s = h.2.2.1 s ∧ h'.2.2.2.1 s = h.2.2.2.1 s) : zt_fs s x h0 h' := by
  have eI : ∀ k, zv_I h' s k = zv_I h s k := fun k => congrFun o.1 k
  have eJ : ∀ k, zv_J h' s k = zv_J h s k := fun k => congrFun o.2.1 k
  have eR : ∀ k, zv_R h' s k = zv_R h s k := fun k => congrFun o.2.2 k
  exact ⟨(eI _).trans (zt_fs_i0 f), (eI _).trans (zt_fs_i3 f), (eI _).trans (zt_fs_i6 f), (eI _).trans (zt_fs_i7 f), (eI _).trans (zt_fs_i8 f), (eI _).trans (zt_fs_i9 f), (eI _).trans (zt_fs_ia f), (eI _).trans (zt_fs_ib f), (eI _).trans (zt_fs_ic f), (eI _).trans (zt_fs_id f), (eI _).trans (zt_fs_ie f), (eJ _).trans (zt_fs_jg f), (eJ _).trans (zt_fs_jh f), (eR _).trans (zt_fs_r4 f), (eR _).trans (zt_fs_r5 f)⟩
theorem zt_fs_0 {s : Nat} {x : Int} {h0 h1 h : zv_H} (f : zt_fs s x h1 h) (e : zv_I h1 s 0 = zv_I h0 s 0) : zt_fs s x h0 h := ⟨(zt_fs_i0 f).trans e, zt_fs_i3 f, zt_fs_i6 f, zt_fs_i7 f, zt_fs_i8 f, zt_fs_i9 f, zt_fs_ia f, zt_fs_ib f, zt_fs_ic f, zt_fs_id f, zt_fs_ie f, zt_fs_jg f, zt_fs_jh f, zt_fs_r4 f, zt_fs_r5 f⟩
/-- a step of the usual TEST, wherever it stands -/
theorem zt_jaddo {d b : Nat} {g : zv_H} (o : zc_jo (b + 22) g) {cs : List Int} (S : zt_T0 b cs g) (hl : cs.length < 176) {v : Int} (hv : -3 ≤ v ∧ v < 100000) {x y : Int} (ex : (zt_sp v).1 = x) (ey : (zt_sp v).2 = y) : ∃ g', C1_add (d + 1) (b + 22) x y g = some g' ∧ zt_ja b g g' ∧ zc_jo (b + 22) g' ∧ zt_T0 b (cs ++ [v]) g' := by
  obtain ⟨l1, l2, l3, o4, o5, o6⟩ := o
  have ob : zv_ob g (b + 22) 1 := ⟨by omega, l1⟩
  suffices h : ∃ g', E1_add d (b + 22) x y g = some (none, g') ∧ zt_ja b g g' ∧ zc_jo (b + 22) g' ∧ zt_T0 b (cs ++ [v]) g' by
    obtain ⟨g', e, j⟩ := h
    exact ⟨g', lC1_add ob e, j⟩
  have sz := zt_T0_sz S
  have i0 : ¬ ((cs.length : Nat) : Int) < 0 := Int.not_lt.mpr (Int.natCast_nonneg _)
  have i1 : ((cs.length : Nat) : Int) < 176 := Int.ofNat_lt.mpr hl
  have gI : zv_gI g (b + 22) 1 3 = some (cs.length : Int) := (if_pos ob).trans (by rw [sz])
  have w1 : zv_wI g (b + 22 + 1) (cs.length : Int) x = some (zv_sI g (b + 22 + 1) cs.length x) := by
    unfold zv_wI
    rw [if_pos ⟨by omega, by rw [l2], Int.not_lt.mp i0, by rw [l2]; exact i1⟩, Int.toNat_natCast]
  have gR0 : zv_gR g (b + 22) 1 0 = some (b + 22 + 1) := (if_pos ob).trans (by rw [o5])
  have gR1 : zv_gR (zv_sI g (b + 22 + 1) cs.length x) (b + 22) 1 1 = some (b + 22 + 2) := (if_pos ob).trans (by rw [show zv_R (zv_sI g (b + 22 + 1) cs.length x) (b + 22) 1 = zv_R g (b + 22) 1 from rfl, o6])
  have gI1 : zv_gI (zv_sI g (b + 22 + 1) cs.length x) (b + 22) 1 3 = some (cs.length : Int) := (if_pos ob).trans (by rw [zy_In _ _ (fun q => absurd q.1 (by omega)), sz])
  have w2 : zv_wI (zv_sI g (b + 22 + 1) cs.length x) (b + 22 + 2) (cs.length : Int) y = some (zv_sI (zv_sI g (b + 22 + 1) cs.length x) (b + 22 + 2) cs.length y) := by
    unfold zv_wI
    rw [if_pos ⟨o4, by rw [l3], Int.not_lt.mp i0, by rw [l3]; exact i1⟩, Int.toNat_natCast]
  have gI2 : zv_gI (zv_sI (zv_sI g (b + 22 + 1) cs.length x) (b + 22 + 2) cs.length y) (b + 22) 1 3 = some (cs.length : Int) := (if_pos ob).trans (by rw [zy_In _ _ (fun q => absurd q.1 (by omega)), zy_In _ _ (fun q => absurd q.1 (by omega)), sz])
  have p3 : ∀ z : Int, zv_pI (zv_sI (zv_sI g (b + 22 + 1) cs.length x) (b + 22 + 2) cs.length y) (b + 22) 1 3 z = some (zv_sI (zv_sI (zv_sI g (b + 22 + 1) cs.length x) (b + 22 + 2) cs.length y) (b + 22) 3 z) := fun z => if_pos ob
  rw [qE1_add, zm_e gI, if_neg i0, zm_e gI, if_pos i1, zm_e gR0, zm_e gI, zm_e w1, zm_e gR1, zm_e gI1, zm_e w2, zm_e gI2, zt_tkw (show cs.length ≤ 700 by omega), zm_e (p3 _)]
  refine ⟨_, rfl, ⟨rfl, rfl, fun r k q1 q2 q3 => by rw [zy_In _ _ (fun q => q1 q.1), zy_In _ _ (fun q => q3 q.1), zy_In _ _ (fun q => q2 q.1)]⟩, ⟨l1, l2, l3, o4, o5, o6⟩, ?_, fun k w hk => ?_, fun w hw => ?_⟩
  · rw [zy_I, List.length_append]
    rfl
  · have w3 := zt_w3 g b cs.length x y ((cs.length + 1 : Nat) : Int) k
    rw [show zv_I _ (b + 23) k = _ from w3.1, show zv_I _ (b + 24) k = _ from w3.2]
    by_cases c : k = cs.length
    · have ew : v = w := by
        rw [c, List.getElem?_append_right (Nat.le_refl _), Nat.sub_self] at hk
        exact Option.some.inj hk
      rw [if_pos c, if_pos c, ← ew]
      exact ⟨ex.symm, ey.symm⟩
    · have kl : k < cs.length := by
        have := zm_lt_of_get hk
        rw [List.length_append, List.length_singleton] at this
        omega
      rw [List.getElem?_append_left kl] at hk
      rw [if_neg c, if_neg c]
      exact zt_T0_st S k w hk
  · rcases List.mem_append.mp hw with z | z
    · exact zt_T0_rg S w z
    · rw [List.mem_singleton.mp z]
      exact hv
theorem zt_ja_t {b : Nat} {g g1 g2 : zv_H} (f : zt_ja b g g1) (h : zt_ja b g1 g2) : zt_ja b g g2 := ⟨h.1.trans f.1, h.2.1.trans f.2.1, fun r k q1 q2 q3 => (h.2.2 r k q1 q2 q3).trans (f.2.2 r k q1 q2 q3)⟩
theorem zt_T0_0 {b : Nat} {g : zv_H} (h : zv_I g (b + 22) 3 = 0) : zt_T0 b [] g := ⟨h, fun k v q => (by cases q), fun v q => (by cases q)⟩
theorem zt_usualo {d b : Nat} {g : zv_H} (o : zc_jo (b + 22) g) : ∃ g', C1_usual (d + 3) (b + 22) g = some g' ∧ zt_ja b g g' ∧ zt_T0 b zt_usual g' := by
  have ob : zv_ob g (b + 22) 1 := ⟨by have := o.2.2.2.1; omega, o.1⟩
  suffices h : ∃ g', E1_usual (d + 2) (b + 22) g = some (none, g') ∧ zt_ja b g g' ∧ zt_T0 b zt_usual g' by
    obtain ⟨g', e, j⟩ := h
    exact ⟨g', lC1_usual ob e, j⟩
  have e0 : C1_clear (d + 2) (b + 22) g = some (zv_sI g (b + 22) 3 0) := lC1_clear ob (by
    rw [qE1_clear, zm_e (show zv_pI g (b + 22) 1 3 0 = some (zv_sI g (b + 22) 3 0) from if_pos ob)])
  have j0 : zt_ja b g (zv_sI g (b + 22) 3 0) := ⟨rfl, rfl, fun r k q _ _ => zy_In _ _ (fun z => q z.1)⟩
  have o0 : zc_jo (b + 22) (zv_sI g (b + 22) 3 0) := o
  have S0 : zt_T0 b [] (zv_sI g (b + 22) 3 0) := zt_T0_0 (zy_I _ _ _ _)
  have cmp : ∀ {g1 : zv_H} {cs : List Int} {x y z v : Int}, zc_jo (b + 22) g1 → zt_T0 b cs g1 → cs.length < 176 → (-3 ≤ v ∧ v < 100000) → (zt_sp v).1 = zv_w (zv_w (x * 3) + y) → (zt_sp v).2 = z → ∃ g', C1_compare (d + 2) (b + 22) x y z g1 = some g' ∧ zt_ja b g1 g' ∧ zc_jo (b + 22) g' ∧ zt_T0 b (cs ++ [v]) g' := fun {g1 cs x y z v} o S hl hv ex ey => by
    obtain ⟨g', e, h⟩ := zt_jaddo (d := d) o S hl hv ex ey
    exact ⟨g', lC1_compare ⟨by have := o.2.2.2.1; omega, o.1⟩ (by rw [qE1_compare, zm_e e]), h⟩
  obtain ⟨g1, e1, j1, o1, S1⟩ := cmp (x := 0) (y := 0) (z := 3) (v := 54) o0 S0 (by decide) (by decide) (by decide) (by decide)
  obtain ⟨g2, e2, j2, o2, S2⟩ := cmp (x := 3) (y := 1) (z := 1) (v := 27) o1 S1 (by decide) (by decide) (by decide) (by decide)
  obtain ⟨g3, e3, j3, o3, S3⟩ := zt_jaddo (d := d + 1) (x := 19) (y := 0) (v := -2) o2 S2 (by decide) (by decide) (by decide) (by decide)
  obtain ⟨g4, e4, j4, o4, S4⟩ := cmp (x := 4) (y := 1) (z := 1) (v := 28) o3 S3 (by decide) (by decide) (by decide) (by decide)
  obtain ⟨g5, e5, j5, o5, S5⟩ := zt_jaddo (d := d + 1) (x := 19) (y := 0) (v := -2) o4 S4 (by decide) (by decide) (by decide) (by decide)
  obtain ⟨g6, e6, j6, o6, S6⟩ := cmp (x := 1) (y := 0) (z := 8) (v := 145) o5 S5 (by decide) (by decide) (by decide) (by decide)
  obtain ⟨g7, e7, j7, o7, S7⟩ := zt_jaddo (d := d + 1) (x := 19) (y := 0) (v := -2) o6 S6 (by decide) (by decide) (by decide) (by decide)
  refine ⟨g7, ?_, zt_ja_t j0 (zt_ja_t j1 (zt_ja_t j2 (zt_ja_t j3 (zt_ja_t j4 (zt_ja_t j5 (zt_ja_t j6 j7)))))), S7⟩
  rw [qE1_usual, zm_e e0, zm_e e1, zm_e e2, zm_e e3, zm_e e4, zm_e e5, zm_e e6, zm_e e7]
/-- all anew -/
def zt_bx (b : Nat) (h0 : zv_H) (h : zv_H) : Prop := (h.1 = h0.1) ∧ (h.2.2.2.2 = h0.2.2.2.2) ∧ (∀ j, j < 48 → zt_fs (zc_stt b j) (if j = 0 then 1 else 0) h0 h) ∧ (zv_R h b 10 = b + 1) ∧ (zv_I h b 11 = 0) ∧ (zv_I h b 12 = 1) ∧ (zv_I h (b + 14) 2 = 0) ∧ (zv_I h (b + 17) 4 = 0) ∧ (zt_T0 b zt_usual h) ∧ (∀ r k, (∀ j, j < 48 → r ≠ zc_stt b j) → r ≠ b → r ≠ b + 14 → r ≠ b + 17 → r ≠ b + 22 → r ≠ b + 23 → r ≠ b + 24 → zv_I h r k = zv_I h0 r k) ∧ (∀ r k, (∀ j, j < 48 → r ≠ zc_stt b j) → zv_J h r k = zv_J h0 r k) ∧ (∀ r k, (∀ j, j < 48 → r ≠ zc_stt b j) → ¬ (r = b ∧ k = 10) → zv_R h r k = zv_R h0 r k)
theorem zt_bx_f1 {b : Nat} {h0 : zv_H} {h : zv_H} (t : zt_bx b h0 h) : h.1 = h0.1 := t.1
theorem zt_bx_f2 {b : Nat} {h0 : zv_H} {h : zv_H} (t : zt_bx b h0 h) : h.2.2.2.2 = h0.2.2.2.2 := t.2.1
theorem zt_bx_s {b : Nat} {h0 : zv_H} {h : zv_H} (t : zt_bx b h0 h) : ∀ j, j < 48 → zt_fs (zc_stt b j) (if j = 0 then 1 else 0) h0 h := t.2.2.1
theorem zt_bx_he {b : Nat} {h0 : zv_H} {h : zv_H} (t : zt_bx b h0 h) : zv_R h b 10 = b + 1 := t.2.2.2.1
theorem zt_bx_nw {b : Nat} {h0 : zv_H} {h : zv_H} (t : zt_bx b h0 h) : zv_I h b 11 = 0 := t.2.2.2.2.1
theorem zt_bx_ct {b : Nat} {h0 : zv_H} {h : zv_H} (t : zt_bx b h0 h) : zv_I h b 12 = 1 := t.2.2.2.2.2.1
theorem zt_bx_ns {b : Nat} {h0 : zv_H} {h : zv_H} (t : zt_bx b h0 h) : zv_I h (b + 14) 2 = 0 := t.2.2.2.2.2.2.1
theorem zt_bx_vs {b : Nat} {h0 : zv_H} {h : zv_H} (t : zt_bx b h0 h) : zv_I h (b + 17) 4 = 0 := t.2.2.2.2.2.2.2.1
theorem zt_bx_T {b : Nat} {h0 : zv_H} {h : zv_H} (t : zt_bx b h0 h) : zt_T0 b zt_usual h := t.2.2.2.2.2.2.2.2.1
theorem zt_bx_oI {b : Nat} {h0 : zv_H} {h : zv_H} (t : zt_bx b h0 h) : ∀ r k, (∀ j, j < 48 → r ≠ zc_stt b j) → r ≠ b → r ≠ b + 14 → r ≠ b + 17 → r ≠ b + 22 → r ≠ b + 23 → r ≠ b + 24 → zv_I h r k = zv_I h0 r k := t.2.2.2.2.2.2.2.2.2.1
theorem zt_bx_oJ {b : Nat} {h0 : zv_H} {h : zv_H} (t : zt_bx b h0 h) : ∀ r k, (∀ j, j < 48 → r ≠ zc_stt b j) → zv_J h r k = zv_J h0 r k := t.2.2.2.2.2.2.2.2.2.2.1
theorem zt_bx_oR {b : Nat} {h0 : zv_H} {h : zv_H} (t : zt_bx b h0 h) : ∀ r k, (∀ j, j < 48 → r ≠ zc_stt b j) → ¬ (r = b ∧ k = 10) → zv_R h r k = zv_R h0 r k := t.2.2.2.2.2.2.2.2.2.2.2
def zt_bgi (b : Nat) (h0 h : zv_H) (i : Nat) : Prop := h.1 = h0.1 ∧ h.2.2.2.2 = h0.2.2.2.2 ∧ (∀ r, (∀ j, j < i → r ≠ zc_stt b j) → h.2.1 r = h0.2.1 r ∧ h.2.2.1 r = h0.2.2.1 r ∧ h.2.2.2.1 r = h0.2.2.2.1 r) ∧ ∀ j, j < i → zt_fs (zc_stt b j) (if j = 0 then 1 else 0) h0 h
end
/-! A85.begin2 -/
section
/-! ===== the tie: all anew, the class: the States one by one, then the rest ===== -/
theorem zt_begin {d : Nat} {h0 : zv_H} {b : Nat} (ha : zv_lay b = (1, 0)) (hB : zc_Bh b h0) : ∃ h, C0_begin (d + 4) b h0 = some h ∧ zt_bx b h0 h := by
  have lo : zv_lay (b + 4) = (6, 48) ∧ zv_lay (b + 14) = (1, 2) ∧ zv_lay (b + 17) = (1, 6) ∧ zv_lay (b + 22) = (1, 1) ∧ zv_lay (b + 23) = (2, 176) ∧ zv_lay (b + 24) = (2, 176) := by cases zc_lh ha with
    | inl e => rw [e]; exact ⟨rfl, rfl, rfl, rfl, rfl, rfl⟩
    | inr e => rw [e]; exact ⟨rfl, rfl, rfl, rfl, rfl, rfl⟩
  have oa : zv_ob h0 b 0 := ⟨hB.1 b (Nat.le_refl _) (by omega), ha⟩
  have fa : ∀ k v, zc_off 0 k = v → v ≠ 0 → zv_R h0 b k = b + v := fun k v e n => by
    have := hB.2.1 b k (Nat.le_refl _) (by omega) (by rw [ha]) (by rw [ha]; dsimp only; rw [e]; exact n)
    rw [this, ha]
    dsimp only
    rw [e]
  have la : ∀ j, j < 48 → ∀ r x, zv_lay r = x → x ≠ (1, 5) → r ≠ zc_stt b j := fun j hj r x e n q => n (by rw [← e, q]; exact (zc_stl ha hj).1)
  refine zm_cV (P := fun h => zt_bx b h0 h) (fun e => lC0_begin oa e) ?_
  rw [qE0_begin]
  have loop : ∀ (n : Nat) (i : Nat) (h : zv_H), i + n = 48 → zt_bgi b h0 h i → zm_R (L0_begin_2 (d + 3) b (i : Int) h) (zm_V fun h => zt_bx b h0 h) := by
    intro n
    induction n with
    | zero =>
      intro i h hi hs
      have hi' : i = 48 := by omega
      subst hi'
      obtain ⟨s1, s2, s3, s4⟩ := hs
      have nn : zv_n h = zv_n h0 := by unfold zv_n; rw [s1]
      have oa' : zv_ob h b 0 := ⟨by rw [nn]; exact oa.1, ha⟩
      have ra : zv_R h b = zv_R h0 b := (s3 b (fun j hj => la j hj b _ ha (by decide))).2.2
      have on : zv_ob h (b + 14) 2 := ⟨by rw [nn]; exact hB.1 _ (by omega) (by omega), lo.2.1⟩
      have ov : zv_ob h (b + 17) 6 := ⟨by rw [nn]; exact hB.1 _ (by omega) (by omega), lo.2.2.1⟩
      have rk : ∀ k v, k ≠ 10 → zc_off 0 k = v → v ≠ 0 → zv_R (zv_sR h b 10 (b + 1)) b k = b + v := fun k v hk e n => by
        have q : zv_R (zv_sR h b 10 (b + 1)) b k = zv_R h b k := if_neg (fun q => hk q.2)
        rw [q, ra]
        exact fa k v e n
      rw [qL0_begin_2, if_neg (by omega), zm_e (show zv_gR h b 0 0 = some (b + 1) from (if_pos oa').trans (by rw [ra, fa 0 1 rfl (by decide)]))]
      refine zc_dR oa' ?_
      refine zc_dI oa' ?_
      refine zc_dI oa' ?_
      refine zc_eR oa' (rk 6 14 (by decide) rfl (by decide)) ?_
      refine zc_dI on ?_
      refine zc_eR oa' (rk 7 17 (by decide) rfl (by decide)) ?_
      refine zc_dI ov ?_
      refine zc_eR oa' (rk 8 22 (by decide) rfl (by decide)) ?_
      have jr : ∀ k v, zc_off 1 k = v → v ≠ 0 → zv_R h (b + 22) k = b + 22 + v := fun k v e n => by
        have q1 : zv_R h (b + 22) = zv_R h0 (b + 22) := (s3 _ (fun j hj => la j hj _ _ lo.2.2.2.1 (by decide))).2.2
        have := hB.2.1 (b + 22) k (by omega) (by omega) (by rw [lo.2.2.2.1]) (by rw [lo.2.2.2.1]; dsimp only; rw [e]; exact n)
        rw [q1, this, lo.2.2.2.1]
        dsimp only
        rw [e]
      have jR : ∀ k, zv_R (zv_sR h b 10 (b + 1)) (b + 22) k = zv_R h (b + 22) k := fun k => if_neg (fun q => by omega)
      have jo : zc_jo (b + 22) (zv_sI (zv_sI (zv_sI (zv_sI (zv_sR h b 10 (b + 1)) b 11 0) b 12 1) (b + 14) 2 0) (b + 17) 4 0) := ⟨lo.2.2.2.1, lo.2.2.2.2.1, lo.2.2.2.2.2, by show b + 22 + 2 ≤ zv_n h; rw [nn]; exact hB.1 _ (by omega) (by omega), (jR 0).trans (jr 0 1 rfl (by decide)), (jR 1).trans (jr 1 2 rfl (by decide))⟩
      obtain ⟨g, eg, j, S⟩ := zt_usualo (d := d) jo
      rw [zm_e eg]
      -- what is seen behind it
      have gI : ∀ r k, r ≠ b + 22 → r ≠ b + 23 → r ≠ b + 24 → zv_I g r k = zv_I (zv_sI (zv_sI (zv_sI (zv_sI (zv_sR h b 10 (b + 1)) b 11 0) b 12 1) (b + 14) 2 0) (b + 17) 4 0) r k := j.2.2
      have gJ : g.2.2.1 = h.2.2.1 := by
        have := congrArg (fun z : (Nat → Nat → Int64) × ((Nat → Nat → Nat) × (Nat × (Nat → Int))) => z.1) j.2.1
        exact this
      have gR : ∀ r k, zv_R g r k = zv_R (zv_sR h b 10 (b + 1)) r k := fun r k => by
        have := congrArg (fun z : (Nat → Nat → Int64) × ((Nat → Nat → Nat) × (Nat × (Nat → Int))) => z.2.1 r k) j.2.1
        exact this
      have oth : ∀ r k, r ≠ b → r ≠ b + 14 → r ≠ b + 17 → r ≠ b + 22 → r ≠ b + 23 → r ≠ b + 24 → zv_I g r k = zv_I h r k := fun r k q1 q2 q3 q4 q5 q6 => by
        rw [gI r k q4 q5 q6, zy_In _ _ (fun q => q3 q.1), zy_In _ _ (fun q => q2 q.1), zy_In _ _ (fun q => q1 q.1), zy_In _ _ (fun q => q1 q.1)]
        rfl
      have stn : ∀ i, i < 48 → ∀ x, zv_lay (b + x) ≠ (1, 5) → zc_stt b i ≠ b + x := fun i hi x hx e => hx (by rw [← e]; exact (zc_stl ha hi).1)
      refine zm_iV ⟨j.1.trans s1, ?_, fun i hi => ?_, ?_, ?_, ?_, ?_, ?_, S, fun r k q0 q1 q2 q3 q4 q5 q6 => ?_, fun r k q0 => ?_, fun r k q0 q1 => ?_⟩
      · have := congrArg (fun z : (Nat → Nat → Int64) × ((Nat → Nat → Nat) × (Nat × (Nat → Int))) => z.2.2) j.2.1
        exact this.trans s2
      · refine zt_fs_o (s4 i hi) ⟨?_, congrFun gJ _, ?_⟩
        · funext k
          exact oth _ k (fun e => absurd (show zv_lay b = (1, 5) by rw [← e]; exact (zc_stl ha hi).1) (by rw [ha]; decide)) (stn i hi 14 (by rw [lo.2.1]; decide)) (stn i hi 17 (by rw [lo.2.2.1]; decide)) (stn i hi 22 (by rw [lo.2.2.2.1]; decide)) (stn i hi 23 (by rw [lo.2.2.2.2.1]; decide)) (stn i hi 24 (by rw [lo.2.2.2.2.2]; decide))
        · funext k
          refine (gR _ k).trans (if_neg (fun q => ?_))
          exact absurd (show zv_lay b = (1, 5) by rw [← q.1]; exact (zc_stl ha hi).1) (by rw [ha]; decide)
      · exact (gR b 10).trans (if_pos ⟨rfl, rfl⟩)
      · rw [gI b 11 (by omega) (by omega) (by omega), zy_In _ _ (fun q => absurd q.1 (by omega)), zy_In _ _ (fun q => absurd q.1 (by omega)), zy_In _ _ (fun q => absurd q.2 (by decide)), zy_I]
      · rw [gI b 12 (by omega) (by omega) (by omega), zy_In _ _ (fun q => absurd q.1 (by omega)), zy_In _ _ (fun q => absurd q.1 (by omega)), zy_I]
      · rw [gI (b + 14) 2 (by omega) (by omega) (by omega), zy_In _ _ (fun q => absurd q.1 (by omega)), zy_I]
      · rw [gI (b + 17) 4 (by omega) (by omega) (by omega), zy_I]
      · exact (oth r k q1 q2 q3 q4 q5 q6).trans (congrFun (s3 r q0).1 k)
      · exact (congrFun (congrFun gJ r) k).trans (congrFun (s3 r q0).2.1 k)
      · exact ((gR r k).trans (if_neg q1)).trans (congrFun (s3 r q0).2.2 k)
    | succ n ih =>
      intro i h hi hs
      have hi' : i < 48 := by omega
      have sl := zc_stl ha hi'
      obtain ⟨s1, s2, s3, s4⟩ := hs
      have nn : zv_n h = zv_n h0 := by unfold zv_n; rw [s1]
      have a4 : b + 4 ≤ zv_n h0 := hB.1 _ (by omega) (by omega)
      have ra : zv_R h b = zv_R h0 b := (s3 b (fun j hj => la j (by omega) b _ ha (by decide))).2.2
      have r4 : zv_R h (b + 4) = zv_R h0 (b + 4) := (s3 _ (fun j hj => la j (by omega) _ _ lo.1 (by decide))).2.2
      have g1 : ∀ g : zv_H, zv_n g = zv_n h0 → zv_R g b = zv_R h0 b → zv_gR g b 0 1 = some (b + 4) := fun g e1 e2 => (if_pos (show b ≤ zv_n g ∧ _ from ⟨by rw [e1]; exact oa.1, ha⟩)).trans (by rw [e2, fa 1 4 rfl (by decide)])
      have g2 : ∀ g : zv_H, zv_n g = zv_n h0 → zv_R g (b + 4) = zv_R h0 (b + 4) → zv_aR g (b + 4) (i : Int) = some (zc_stt b i) := fun g e1 e2 => by
        unfold zv_aR
        rw [if_pos ⟨by rw [e1]; exact a4, by rw [lo.1], by omega, by rw [lo.1]; omega⟩, e2, show ((i : Int)).toNat = i from rfl, hB.2.2.1 i hi']
      have w : zv_w ((i : Int) + 1) = ((i + 1 : Nat) : Int) := by rw [zm_w (by omega)]; omega
      have os : zv_ob h (zc_stt b i) 5 := ⟨by rw [nn]; exact hB.1 _ (by have := zc_sttb (a := b) hi'; omega) (by have := zc_sttb (a := b) hi'; omega), sl.1⟩
      obtain ⟨g5, e5, O, N⟩ := zt_open0 (d := d + 2) os
      have n5 : zv_n g5 = zv_n h0 := by
        unfold zv_n
        rw [O.1]
        exact nn
      have nin : ∀ j, j < i → zc_stt b j ≠ zc_stt b i := fun j hj e => by have := zc_stinj ha e; omega
      have ra5 : zv_R g5 b = zv_R h0 b := ((O.2.2 b (la i hi' b _ ha (by decide))).2.2).trans ra
      have r45 : zv_R g5 (b + 4) = zv_R h0 (b + 4) := ((O.2.2 _ (la i hi' _ _ lo.1 (by decide))).2.2).trans r4
      have os5 : zv_ob g5 (zc_stt b i) 5 := ⟨by rw [n5, ← nn]; exact os.1, sl.1⟩
      have e00 : zv_I h (zc_stt b i) 0 = zv_I h0 (zc_stt b i) 0 := congrFun (s3 _ (fun j hj e => nin j hj e.symm)).1 0
      have st : ∀ x : Int, x = (if i = 0 then 1 else 0) → zt_bgi b h0 (zv_sI g5 (zc_stt b i) 3 x) (i + 1) := fun x hx => by
        refine ⟨O.1.trans s1, O.2.1.trans s2, fun r hr => ?_, fun j hj => ?_⟩
        · have hri := hr i (by omega)
          have n := O.2.2 r hri
          have s := s3 r (fun j hj => hr j (by omega))
          refine ⟨?_, n.2.1.trans s.2.1, n.2.2.trans s.2.2⟩
          rw [zc_sIo _ _ _ _ hri]
          exact n.1.trans s.1
        · by_cases e : j = i
          · subst e
            rw [← hx]
            exact zt_fs_0 (zt_fs_3 N x) e00
          · have hj' : j < i := by omega
            have n := O.2.2 _ (nin j hj')
            refine zt_fs_o (s4 j hj') ⟨?_, n.2.1, n.2.2⟩
            rw [zc_sIo _ _ _ _ (nin j hj')]
            exact n.1
      rw [qL0_begin_2, if_pos (by omega), zm_e (g1 h nn ra), zm_e (g2 h nn r4), if_neg (zc_nz sl.1), zm_e (g1 h nn ra), zm_e (g2 h nn r4), zm_e e5, zm_e (g1 g5 n5 ra5), zm_e (g2 g5 n5 r45), w]
      by_cases c : i = 0
      · rw [if_pos (show (i : Int) = 0 by omega), zm_e (show zv_pZ g5 (zc_stt b i) 5 3 1 = some _ from if_pos ⟨os5, Or.inr rfl⟩)]
        exact ih (i + 1) _ (by omega) (st 1 (by rw [if_pos c]))
      · rw [if_neg (show ¬ (i : Int) = 0 by omega), zm_e (show zv_pZ g5 (zc_stt b i) 5 3 0 = some _ from if_pos ⟨os5, Or.inl rfl⟩)]
        exact ih (i + 1) _ (by omega) (st 0 (by rw [if_neg c]))
  exact loop 48 0 h0 rfl ⟨rfl, rfl, fun _ _ => ⟨rfl, rfl, rfl⟩, fun j hj => absurd hj (Nat.not_lt_zero j)⟩
end
/-! A86.alone -/
section
/-! ===== the tie: a START alone ===== -/
/-- in the reference -/
def zt_sa (c : Nat → Int) (m : Nat) (wd : Nat → Int) : Prop := (zm_O c m) ∧ (c 1 = 0) ∧ (c 2 = 0) ∧ (zm_o c 0 3 = 0) ∧ (zm_o c 0 4 = -1) ∧ (zm_o c 0 6 = 0) ∧ (zm_o c 0 7 = 0) ∧ (zm_o c 0 10 = 0) ∧ (zm_o c 0 11 = 0) ∧ (∀ i : Nat, i < m → zm_o c 0 (12 + (i : Int)) = wd i)
theorem zt_sa_O {c : Nat → Int} {m : Nat} {wd : Nat → Int} (t : zt_sa c m wd) : zm_O c m := t.1
theorem zt_sa_e1 {c : Nat → Int} {m : Nat} {wd : Nat → Int} (t : zt_sa c m wd) : c 1 = 0 := t.2.1
theorem zt_sa_e2 {c : Nat → Int} {m : Nat} {wd : Nat → Int} (t : zt_sa c m wd) : c 2 = 0 := t.2.2.1
theorem zt_sa_o3 {c : Nat → Int} {m : Nat} {wd : Nat → Int} (t : zt_sa c m wd) : zm_o c 0 3 = 0 := t.2.2.2.1
theorem zt_sa_o4 {c : Nat → Int} {m : Nat} {wd : Nat → Int} (t : zt_sa c m wd) : zm_o c 0 4 = -1 := t.2.2.2.2.1
theorem zt_sa_o6 {c : Nat → Int} {m : Nat} {wd : Nat → Int} (t : zt_sa c m wd) : zm_o c 0 6 = 0 := t.2.2.2.2.2.1
theorem zt_sa_o7 {c : Nat → Int} {m : Nat} {wd : Nat → Int} (t : zt_sa c m wd) : zm_o c 0 7 = 0 := t.2.2.2.2.2.2.1
theorem zt_sa_oa {c : Nat → Int} {m : Nat} {wd : Nat → Int} (t : zt_sa c m wd) : zm_o c 0 10 = 0 := t.2.2.2.2.2.2.2.1
theorem zt_sa_ob {c : Nat → Int} {m : Nat} {wd : Nat → Int} (t : zt_sa c m wd) : zm_o c 0 11 = 0 := t.2.2.2.2.2.2.2.2.1
theorem zt_sa_lt {c : Nat → Int} {m : Nat} {wd : Nat → Int} (t : zt_sa c m wd) : ∀ i : Nat, i < m → zm_o c 0 (12 + (i : Int)) = wd i := t.2.2.2.2.2.2.2.2.2
/-- in the class -/
def zt_sc (b : Nat) (m : Nat) (wd : Nat → Int) (h : zv_H) : Prop := (zv_lay b = (1, 0)) ∧ (∀ i : Nat, i < 48 → zv_I h (zc_stt b i) 0 = i) ∧ (∀ i : Nat, i < 48 → zv_I h (zc_stt b i) 3 = if i = 0 then 1 else 0) ∧ (zv_R h (b + 1) 4 = 0) ∧ (zv_R h (b + 1) 5 = b + 1) ∧ (zv_I h (b + 1) 6 = -1) ∧ (zv_I h (b + 1) 7 = 0) ∧ (zv_I h (b + 1) 8 = -1) ∧ (zv_I h (b + 1) 9 = m) ∧ (zv_I h (b + 1) 10 = 0) ∧ (zv_I h (b + 1) 11 = 0) ∧ (zv_I h (b + 1) 12 = m) ∧ (zv_I h (b + 1) 13 = 0) ∧ (zv_I h (b + 1) 15 = -1) ∧ (zv_J h (b + 1) 16 = Int64.ofNat 0) ∧ (zv_J h (b + 1) 17 = Int64.ofNat 0) ∧ (∀ i : Nat, i < m → zv_I h (b + 5) i = wd i) ∧ (∀ i : Nat, i < m → zv_I h (b + 3) i = i) ∧ (zv_R h b 10 = b + 1) ∧ (zv_I h b 11 = 0) ∧ (zv_I h b 12 = 1) ∧ (zv_I h (b + 14) 2 = 0) ∧ (zv_I h (b + 17) 4 = 0)
theorem zt_sc_la {b : Nat} {m : Nat} {wd : Nat → Int} {h : zv_H} (t : zt_sc b m wd h) : zv_lay b = (1, 0) := t.1
theorem zt_sc_nr {b : Nat} {m : Nat} {wd : Nat → Int} {h : zv_H} (t : zt_sc b m wd h) : ∀ i : Nat, i < 48 → zv_I h (zc_stt b i) 0 = i := t.2.1
theorem zt_sc_lv {b : Nat} {m : Nat} {wd : Nat → Int} {h : zv_H} (t : zt_sc b m wd h) : ∀ i : Nat, i < 48 → zv_I h (zc_stt b i) 3 = if i = 0 then 1 else 0 := t.2.2.1
theorem zt_sc_pa {b : Nat} {m : Nat} {wd : Nat → Int} {h : zv_H} (t : zt_sc b m wd h) : zv_R h (b + 1) 4 = 0 := t.2.2.2.1
theorem zt_sc_fi {b : Nat} {m : Nat} {wd : Nat → Int} {h : zv_H} (t : zt_sc b m wd h) : zv_R h (b + 1) 5 = b + 1 := t.2.2.2.2.1
theorem zt_sc_i6 {b : Nat} {m : Nat} {wd : Nat → Int} {h : zv_H} (t : zt_sc b m wd h) : zv_I h (b + 1) 6 = -1 := t.2.2.2.2.2.1
theorem zt_sc_i7 {b : Nat} {m : Nat} {wd : Nat → Int} {h : zv_H} (t : zt_sc b m wd h) : zv_I h (b + 1) 7 = 0 := t.2.2.2.2.2.2.1
theorem zt_sc_i8 {b : Nat} {m : Nat} {wd : Nat → Int} {h : zv_H} (t : zt_sc b m wd h) : zv_I h (b + 1) 8 = -1 := t.2.2.2.2.2.2.2.1
theorem zt_sc_i9 {b : Nat} {m : Nat} {wd : Nat → Int} {h : zv_H} (t : zt_sc b m wd h) : zv_I h (b + 1) 9 = m := t.2.2.2.2.2.2.2.2.1
theorem zt_sc_ia {b : Nat} {m : Nat} {wd : Nat → Int} {h : zv_H} (t : zt_sc b m wd h) : zv_I h (b + 1) 10 = 0 := t.2.2.2.2.2.2.2.2.2.1
theorem zt_sc_ib {b : Nat} {m : Nat} {wd : Nat → Int} {h : zv_H} (t : zt_sc b m wd h) : zv_I h (b + 1) 11 = 0 := t.2.2.2.2.2.2.2.2.2.2.1
theorem zt_sc_ic {b : Nat} {m : Nat} {wd : Nat → Int} {h : zv_H} (t : zt_sc b m wd h) : zv_I h (b + 1) 12 = m := t.2.2.2.2.2.2.2.2.2.2.2.1
theorem zt_sc_id {b : Nat} {m : Nat} {wd : Nat → Int} {h : zv_H} (t : zt_sc b m wd h) : zv_I h (b + 1) 13 = 0 := t.2.2.2.2.2.2.2.2.2.2.2.2.1
theorem zt_sc_ie {b : Nat} {m : Nat} {wd : Nat → Int} {h : zv_H} (t : zt_sc b m wd h) : zv_I h (b + 1) 15 = -1 := t.2.2.2.2.2.2.2.2.2.2.2.2.2.1
theorem zt_sc_jg {b : Nat} {m : Nat} {wd : Nat → Int} {h : zv_H} (t : zt_sc b m wd h) : zv_J h (b + 1) 16 = Int64.ofNat 0 := t.2.2.2.2.2.2.2.2.2.2.2.2.2.2.1
theorem zt_sc_jh {b : Nat} {m : Nat} {wd : Nat → Int} {h : zv_H} (t : zt_sc b m wd h) : zv_J h (b + 1) 17 = Int64.ofNat 0 := t.2.2.2.2.2.2.2.2.2.2.2.2.2.2.2.1
theorem zt_sc_gl {b : Nat} {m : Nat} {wd : Nat → Int} {h : zv_H} (t : zt_sc b m wd h) : ∀ i : Nat, i < m → zv_I h (b + 5) i = wd i := t.2.2.2.2.2.2.2.2.2.2.2.2.2.2.2.2.1
theorem zt_sc_dc {b : Nat} {m : Nat} {wd : Nat → Int} {h : zv_H} (t : zt_sc b m wd h) : ∀ i : Nat, i < m → zv_I h (b + 3) i = i := t.2.2.2.2.2.2.2.2.2.2.2.2.2.2.2.2.2.1
theorem zt_sc_he {b : Nat} {m : Nat} {wd : Nat → Int} {h : zv_H} (t : zt_sc b m wd h) : zv_R h b 10 = b + 1 := t.2.2.2.2.2.2.2.2.2.2.2.2.2.2.2.2.2.2.1
theorem zt_sc_nw {b : Nat} {m : Nat} {wd : Nat → Int} {h : zv_H} (t : zt_sc b m wd h) : zv_I h b 11 = 0 := t.2.2.2.2.2.2.2.2.2.2.2.2.2.2.2.2.2.2.2.1
theorem zt_sc_ct {b : Nat} {m : Nat} {wd : Nat → Int} {h : zv_H} (t : zt_sc b m wd h) : zv_I h b 12 = 1 := t.2.2.2.2.2.2.2.2.2.2.2.2.2.2.2.2.2.2.2.2.1
theorem zt_sc_ns {b : Nat} {m : Nat} {wd : Nat → Int} {h : zv_H} (t : zt_sc b m wd h) : zv_I h (b + 14) 2 = 0 := t.2.2.2.2.2.2.2.2.2.2.2.2.2.2.2.2.2.2.2.2.2.1
theorem zt_sc_vs {b : Nat} {m : Nat} {wd : Nat → Int} {h : zv_H} (t : zt_sc b m wd h) : zv_I h (b + 17) 4 = 0 := t.2.2.2.2.2.2.2.2.2.2.2.2.2.2.2.2.2.2.2.2.2.2
theorem zt_nmz : ∀ t : Nat, t < 48 → zv_and (zv_shr 0 ((t : Int).tmod 24)) 1 = 0 := by decide +kernel
theorem zt_sum1 : ∀ n : Nat, 0 < n → zm_sum (fun k => if (k : Int) = 0 then 1 else 0) n = 1 := by
  intro n
  induction n with
  | zero => intro h; exact absurd h (by decide)
  | succ n ih =>
    intro _
    show zm_sum (fun k => if (k : Int) = 0 then 1 else 0) n + (if (n : Int) = 0 then 1 else 0) = 1
    by_cases c : n = 0
    · subst c
      rfl
    · rw [ih (by omega), if_neg (by omega)]
      rfl
theorem zt_sum0 : ∀ n : Nat, zm_sum (fun _ => 0) n = 0 := by
  intro n
  induction n with
  | zero => rfl
  | succ n ih =>
    show zm_sum (fun _ => 0) n + 0 = 0
    rw [ih]
    rfl
section
variable {c : Nat → Int} {m : Nat} {wd : Nat → Int}
theorem zt_sa_st (A : zt_sa c m wd) {s : Int} (h : zm_st c s) : s = 0 := by
  have h1 := h.2
  rw [(zt_sa_O A).1 s h.1.1 h.1.2] at h1
  by_cases q : s = 0
  · exact q
  · rw [if_neg q] at h1
    cases h1
theorem zt_sa_ln (A : zt_sa c m wd) {l : List Int} (h : zm_Ln c (0 :: l) 0) : l = [] := by
  have h2 := h.2
  rw [(zt_sa_O A).2.1.1] at h2
  cases l with
  | nil => rfl
  | cons t l =>
    have := h2.1
    omega
theorem zt_sa_nm (A : zt_sa c m wd) {t : Int} (h0 : 0 ≤ t) (h1 : t < 48) : ¬ zm_nm c 0 t := by
  have e : zm_o c 0 (if t < 24 then 10 else 11) = 0 := by
    split
    · exact zt_sa_oa A
    · exact zt_sa_ob A
  unfold zm_nm
  rw [e]
  obtain ⟨x, rfl⟩ : ∃ x : Nat, t = x := ⟨t.toNat, by omega⟩
  rw [zt_nmz x (by omega)]
  decide
theorem zt_sa_dc (A : zt_sa c m wd) : zt_dc c [0] = zm_rs 0 m := by
  have e : zm_row c [0] = zm_rs 0 m := by rw [zm_row_1, (zt_sa_O A).2.1.2.2.1]
  unfold zt_dc
  rw [e]
  refine List.filter_eq_self.mpr (fun p hp => ?_)
  obtain ⟨i, _, e2⟩ := List.mem_map.mp hp
  have p1 : p.1 = 0 := by rw [← e2]
  have n1 : ¬ zm_o c 0 2 = 1 := by rw [(zt_sa_O A).2.1.2.1]; decide
  unfold zm_sn
  have f1 : zm_fc c [0] p.1 = 1 := by
    show (if p.1 = 0 then (1 : Int) else 0) = 1
    rw [if_pos p1]
  have cb : zm_cb c [0] [0] p = false := by
    unfold zm_cb
    rw [List.any_cons, decide_eq_false n1]
    rfl
  rw [f1, cb]
  rfl
theorem zt_sa_W (A : zt_sa c m wd) (hm : m ≤ 40) (h4 : 0 ≤ c 4 ∧ c 4 ≤ 392) (hp : c 4 = 0 ∨ zm_ph (zm_cd c) 0) : zm_W c := zm_W_O (zt_sa_O A) (by omega) h4 hp
/-- the two are one -/
theorem zt_alone (A : zt_sa c m wd) (hm : m ≤ 40) {b : Nat} {h : zv_H} (B : zt_sc b m wd h) (W : zm_W c) (hlt : ∀ i, i < m → 0 ≤ wd i) : zt_U b c h ∧ zt_V b c h ∧ zt_N b c h := by
  have la := zt_sc_la B
  have O := zt_sa_O A
  have z0 : zt_r b 0 = b + 1 := rfl
  refine ⟨⟨la, W, fun i hi => ?_, zt_sc_nr B, fun s hs => ?_, ?_, (zt_sc_nw B).trans (zt_sa_e1 A).symm, ?_⟩, ⟨(zt_sc_vs B).trans (zt_sa_e2 A).symm, by rw [zt_sa_e2 A]; exact Int.le_refl _, by rw [O.2.2.2.2, zt_sa_e2 A]; rfl, fun i hi => ?_, fun i hi => ?_, fun s hs => ?_, fun s t hs ht _ => (zt_sa_st A hs).trans (zt_sa_st A ht).symm⟩, ⟨(zt_sc_ns B).trans O.2.2.2.1.symm, fun k hk => ?_, fun k hk => ?_⟩⟩
  · rw [zt_sc_lv B i hi, O.1 i (by omega) (by omega)]
    by_cases q : i = 0
    · rw [if_pos q, if_pos (by omega)]
    · rw [if_neg q, if_neg (by omega)]
  · have e := zt_sa_st A hs
    subst e
    refine ⟨?_, ?_, ?_, ?_, ?_, ?_, ?_, ?_, fun t ht => ?_, fun t ht => ?_, fun q => ?_, fun q k hk => ?_, fun l hl => ?_, fun l hl => ?_, fun l hl => ?_, ?_, ⟨fun l hl t t0 t1 q => absurd q (zt_sa_nm A t0 t1), fun l hl q => ?_, fun _ => rfl, Or.inl O.2.1.2.1, fun _ k hk _ => ?_, fun q => absurd (O.2.1.2.1.symm.trans q) (by decide)⟩⟩
    · rw [z0, zt_sc_pa B, O.2.1.1]
      rfl
    · rw [z0, zt_sc_fi B, zt_sa_o6 A]
      rfl
    · rw [z0, zt_sc_i6 B, O.2.1.2.1]
    · rw [z0, zt_sc_i7 B, zt_sa_o3 A]
    · rw [z0, zt_sc_i8 B, zt_sa_o4 A]
    · rw [z0, zt_sc_i9 B, O.2.1.2.2.1]
    · rw [z0, zt_sc_id B, zt_sa_o7 A]
    · rw [z0, zt_sc_ie B, if_neg (fun q => by have := q.1; rw [O.2.1.2.1] at this; exact absurd this (by decide))]
    · rw [z0, zt_sc_jg B, zt_b_0]
      constructor
      · intro q
        cases q
      · intro q
        exact absurd q.2 (zt_sa_nm A (by omega) (by omega))
    · rw [z0, zt_sc_jh B, zt_b_0]
      constructor
      · intro q
        cases q
      · intro q
        rcases q.2.2 with w | w
        · have := w.1
          rw [O.2.1.2.1] at this
          exact absurd this (by decide)
        · have := w.1
          rw [O.2.1.2.1] at this
          exact absurd this (by decide)
    · rw [O.2.1.2.1] at q
      exact absurd q (by decide)
    · rw [O.2.1.2.2.1] at hk
      have e : zt_id ((0 : Int), (k : Int)) = k := if_pos rfl
      rw [e, Int.toNat_natCast, zt_sc_gl B k (Int.ofNat_lt.mp hk)]
      exact (zt_sa_lt A k (Int.ofNat_lt.mp hk)).symm
    · rw [zt_sa_ln A hl, zt_sa_dc A, zm_rs_len, z0, zt_sc_ic B]
      rfl
    · intro i x hx
      rw [zt_sa_ln A hl, zt_sa_dc A] at hx
      have hi := zm_lt_of_get hx
      rw [zm_rs_len] at hi
      rw [zm_rs_get _ _ hi] at hx
      have ex : x = (0, (i : Int)) := (Option.some.inj hx).symm
      have e : zt_id ((0 : Int), (i : Int)) = i := if_pos rfl
      rw [ex, e, z0]
      exact zt_sc_dc B i (by omega)
    · rw [zt_sa_ln A hl, z0, zt_sc_ia B]
      rfl
    · rw [z0, zt_sc_ib B]
      have : zm_nch c 0 = zm_sum (fun _ => 0) 48 := zm_sum_cg 48 (fun k hk => by
        refine if_neg (fun q => ?_)
        have q1 := zt_sa_st A q.1
        have q2 := q.2
        rw [q1, O.2.1.1] at q2
        exact absurd q2 (by decide))
      rw [this, zt_sum0]
    · rw [O.2.1.2.1] at q
      exact absurd q (by decide)
    · rw [O.2.1.2.2.1] at hk
      rw [zt_sa_lt A k (Int.ofNat_lt.mp hk)]
      exact hlt k (Int.ofNat_lt.mp hk)
  · rw [zt_sc_he B, O.2.2.1]
    rfl
  · rw [zt_sc_ct B]
    have : zm_nst c = zm_sum (fun k => if (k : Int) = 0 then 1 else 0) 48 := zm_sum_cg 48 (fun k hk => O.1 k (by omega) (by omega))
    rw [this, zt_sum1 48 (by decide)]
  · rw [O.2.2.2.2] at hi
    omega
  · rw [O.2.2.2.2] at hi
    omega
  · rw [zt_sa_st A hs, zt_sa_o7 A, zt_sa_e2 A]
    decide
  · rw [O.2.2.2.1] at hk
    omega
  · rw [O.2.2.2.1] at hk
    omega
end
/-- the reference: all anew, exactly -/
theorem zt_clears {h : zv_H} (hM : zm_M h) (d : Nat) : ∃ h', C9_clears (d + 2) 347 h = some h' ∧ zm_F [348] [] h h' ∧ zt_sa (zv_I h' 348) 0 (fun _ => 0) ∧ zv_I h' 348 4 = 0 := by
  obtain ⟨z, i1, f1, k1⟩ := zm_clears_l (d + 1) 4236 0 h rfl hM (fun k hk => by omega)
  obtain ⟨h0, e0, F0, O0, c40⟩ := zm_clears hM d
  have hMz := zm_F_M f1 hM
  have S : ∀ (g : zv_H) (w v : Int), zv_I (zv_sI g 348 (432 + 76 * (0 : Int).toNat + w.toNat) v) 348 = zm_os (zv_I g 348) 0 w v := fun g w v => zm_ss _ _ _ _
  have O : ∀ (c : Nat → Int) (w v s' w' : Int), 0 ≤ w ∧ w < 76 → 0 ≤ s' → 0 ≤ w' ∧ w' < 76 → ¬ (s' = 0 ∧ w' = w) → zm_o (zm_os c 0 w v) s' w' = zm_o c s' w' := fun c w v s' w' h1 h2 h3 h4 => zm_os_o c v (by decide) h1 h2 h3 h4
  have Kk : ∀ (c : Nat → Int) (w v : Int) (k : Nat), 0 ≤ w ∧ w < 76 → k < 432 → zm_os c 0 w v k = c k := fun c w v k h1 h2 => zm_os_k c v h1 (by omega)
  have z0 : ∀ s w : Int, 0 ≤ s → s ≤ 48 → 0 ≤ w → w < 76 → zm_o (zv_I z 348) s w = 0 := fun s w s0 s1 w0 w1 => k1 _ (by omega)
  have ex : ∃ h', C9_clears (d + 2) 347 h = some h' ∧ zv_I h' 348 = zm_os (zm_os (zm_os (zm_os (zv_I z 348) 0 0 1) 0 1 (-1)) 0 2 (-1)) 0 4 (-1) := by
    refine zm_cV (P := fun h' => zv_I h' 348 = zm_os (zm_os (zm_os (zm_os (zv_I z 348) 0 0 1) 0 1 (-1)) 0 2 (-1)) 0 4 (-1)) (lC9_clears (zm_ob hM)) ?_
    rw [qE9_clears, show L9_clears_2 (d + 1) 347 0 h = _ from i1, qL9_clears_2, if_neg (by decide), zm_e (zm_sets hMz d (by decide) (by decide) _)]
    have M1 : zm_M (zv_sI z 348 (432 + 76 * (0 : Int).toNat + Int.toNat 0) 1) := hMz
    rw [zm_e (zm_sets M1 d (by decide) (by decide) _)]
    have M2 : zm_M (zv_sI (zv_sI z 348 (432 + 76 * (0 : Int).toNat + Int.toNat 0) 1) 348 (432 + 76 * (0 : Int).toNat + Int.toNat 1) (-1)) := hMz
    rw [zm_e (zm_sets M2 d (by decide) (by decide) _)]
    have M3 : zm_M (zv_sI (zv_sI (zv_sI z 348 (432 + 76 * (0 : Int).toNat + Int.toNat 0) 1) 348 (432 + 76 * (0 : Int).toNat + Int.toNat 1) (-1)) 348 (432 + 76 * (0 : Int).toNat + Int.toNat 2) (-1)) := hMz
    rw [zm_e (zm_sets M3 d (by decide) (by decide) _)]
    refine zm_iV ?_
    rw [S, S, S, S]
  obtain ⟨h', e, c⟩ := ex
  have eh : h0 = h' := Option.some.inj (e0.symm.trans e)
  subst eh
  have f0 : ∀ w : Int, 0 ≤ w ∧ w < 76 → w ≠ 0 → w ≠ 1 → w ≠ 2 → w ≠ 4 → zm_o (zv_I h0 348) 0 w = 0 := fun w hw n0 n1 n2 n4 => by
    rw [c, O _ _ _ _ _ (by decide) (by decide) hw (fun q => n4 q.2), O _ _ _ _ _ (by decide) (by decide) hw (fun q => n2 q.2), O _ _ _ _ _ (by decide) (by decide) hw (fun q => n1 q.2), O _ _ _ _ _ (by decide) (by decide) hw (fun q => n0 q.2)]
    exact z0 0 w (by decide) (by decide) hw.1 hw.2
  have k0 : ∀ k : Nat, k < 432 → zv_I h0 348 k = 0 := fun k hk => by
    rw [c, Kk _ _ _ _ (by decide) hk, Kk _ _ _ _ (by decide) hk, Kk _ _ _ _ (by decide) hk, Kk _ _ _ _ (by decide) hk]
    exact k1 k (by omega)
  refine ⟨h0, e, F0, ⟨O0, k0 1 (by decide), k0 2 (by decide), f0 3 (by decide) (by decide) (by decide) (by decide) (by decide), ?_, f0 6 (by decide) (by decide) (by decide) (by decide) (by decide), f0 7 (by decide) (by decide) (by decide) (by decide) (by decide), f0 10 (by decide) (by decide) (by decide) (by decide) (by decide), f0 11 (by decide) (by decide) (by decide) (by decide) (by decide), fun i hi => absurd hi (Nat.not_lt_zero i)⟩, c40⟩
  rw [c, zm_os_s]
/-- the class's -/
theorem zt_sc_bx {b : Nat} {h0 h : zv_H} (hb : zv_lay b = (1, 0)) (B : zt_bx b h0 h) (n0 : ∀ i : Nat, i < 48 → zv_I h0 (zc_stt b i) 0 = i) : zt_sc b 0 (fun _ => 0) h := by
  have s0 : zt_fs (b + 1) 1 h0 h := by
    have := zt_bx_s B 0 (by decide)
    rw [if_pos rfl] at this
    exact this
  exact ⟨hb, fun i hi => (zt_fs_i0 (zt_bx_s B i hi)).trans (n0 i hi), fun i hi => zt_fs_i3 (zt_bx_s B i hi), zt_fs_r4 s0, zt_fs_r5 s0, zt_fs_i6 s0, zt_fs_i7 s0, zt_fs_i8 s0, zt_fs_i9 s0, zt_fs_ia s0, zt_fs_ib s0, zt_fs_ic s0, zt_fs_id s0, zt_fs_ie s0, zt_fs_jg s0, zt_fs_jh s0, fun i hi => absurd hi (Nat.not_lt_zero i), fun i hi => absurd hi (Nat.not_lt_zero i), zt_bx_he B, zt_bx_nw B, zt_bx_ct B, zt_bx_ns B, zt_bx_vs B⟩
end
