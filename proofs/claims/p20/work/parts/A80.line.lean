/-! ===== the tie: a LINE is read: what is behind its verb ===== -/
/-- what it does, and what comes then -/
noncomputable def zt_dox (D : Nat) (j : Int) (k : zv_H) : zv_O := (C9_does (D + 10) 347 j k).bind fun q3 => if q3.1 < 0 then L9_readsLine_158 (D + 10) 347 347 0 q3.2 else L9_readsLine_158 (D + 10) 347 347 1 q3.2
section
variable {T : Nat → Int} {n : Nat} {g k : zv_H} {f t E : Nat}
/-- behind a fault: nothing is done -/
def zt_lb (T : Nat → Int) (n : Nat) (g : zv_H) (k : zv_H) (o : zv_O) (k' : zv_H) : Prop := (o = some (none, k')) ∧ (zm_F [360] [19, 30, 31, 32, 33, 34, 35, 38, 42, 43] k k') ∧ (zt_bd T n g k') ∧ (0 < zv_I k' 347 30)
theorem zt_lb_o {T : Nat → Int} {n : Nat} {g : zv_H} {k : zv_H} {o : zv_O} {k' : zv_H} (t : zt_lb T n g k o k') : o = some (none, k') := t.1
theorem zt_lb_F {T : Nat → Int} {n : Nat} {g : zv_H} {k : zv_H} {o : zv_O} {k' : zv_H} (t : zt_lb T n g k o k') : zm_F [360] [19, 30, 31, 32, 33, 34, 35, 38, 42, 43] k k' := t.2.1
theorem zt_lb_B {T : Nat → Int} {n : Nat} {g : zv_H} {k : zv_H} {o : zv_O} {k' : zv_H} (t : zt_lb T n g k o k') : zt_bd T n g k' := t.2.2.1
theorem zt_lb_p {T : Nat → Int} {n : Nat} {g : zv_H} {k : zv_H} {o : zv_O} {k' : zv_H} (t : zt_lb T n g k o k') : 0 < zv_I k' 347 30 := t.2.2.2
theorem zt_lb_t {k0 : zv_H} {o o' : zv_O} {k' : zv_H} (F : zm_F [360] [19, 30, 31, 32, 33, 34, 35, 38, 42, 43] k0 k) (e : o' = o) (b : zt_lb T n g k o k') : zt_lb T n g k0 o' k' := ⟨e.trans (zt_lb_o b), zm_F_t F (zt_lb_F b), zt_lb_B b, zt_lb_p b⟩
theorem zt_b104 {D : Nat} (B : zt_bd T n g k) (R : zm_RI k) (j : Int) : ∃ k', zt_lb T n g k (L9_readsLine_104 (D + 10) 347 j k) k' := by
  have hM := zt_ty_M (zt_bd_Y B)
  have l132 : ∀ v : Int, (zv_I k 347 34 = 4 → v = 0) → ∃ k', zt_lb T n g k (L9_readsLine_132 (D + 10) 347 j 347 v k) k' := fun v hv => by
    obtain ⟨k', e, F, B', p⟩ := zt_must_b (d := D + 9) B hv
    refine ⟨k', ?_, zm_F_s F rfl rfl, B', p⟩
    rw [qL9_readsLine_132, zm_e e, zm_e (zm_gI (zm_F_M F hM) 30), if_neg (by omega)]
  rw [qL9_readsLine_104, zm_e (zm_gI hM 34)]
  by_cases c : zv_I k 347 34 = 3
  · have r1 := R.1
    have r2 := R.2.1
    have r3 := R.2.2.1 (by rw [c]; decide)
    rw [if_pos c, zm_e (zm_f26 hM), zm_e (zm_gI hM 32), zm_e (zm_aB hM zm_l366 (Or.inr rfl) rfl r2.1 (by omega))]
    split
    · exact l132 1 (fun q => absurd (c.symm.trans q) (by decide))
    · rw [qL9_readsLine_131]
      exact l132 0 (fun _ => rfl)
  · rw [if_neg c, qL9_readsLine_131]
    exact l132 0 (fun _ => rfl)
theorem zt_b92 {D : Nat} (B : zt_bd T n g k) (R : zm_RI k) (j : Int) : ∃ k', zt_lb T n g k (L9_readsLine_92 (D + 10) 347 j k) k' := by
  rw [qL9_readsLine_92]
  by_cases c : j = 6
  · obtain ⟨k1, e1, F1, B1, _⟩ := zt_word_b (D := D + 4) B 6
    rw [if_pos c, zm_e e1]
    obtain ⟨k', h⟩ := zt_b104 (D := D) B1 (zm_RI_F R F1) j
    exact ⟨k', zt_lb_t (zm_F_s F1 rfl rfl) rfl h⟩
  · rw [if_neg c]
    exact zt_b104 B R j
theorem zt_b82 {D : Nat} (B : zt_bd T n g k) (R : zm_RI k) (j : Int) : ∃ k', zt_lb T n g k (L9_readsLine_82 (D + 10) 347 j k) k' := by
  rw [qL9_readsLine_82]
  by_cases c : j = 0
  · obtain ⟨k1, e1, F1, B1, _⟩ := zt_word_b (D := D + 4) B 12
    rw [if_pos c, zm_e e1]
    obtain ⟨k', h⟩ := zt_b92 (D := D) B1 (zm_RI_F R F1) j
    exact ⟨k', zt_lb_t (zm_F_s F1 rfl rfl) rfl h⟩
  · rw [if_neg c]
    exact zt_b92 B R j
theorem zt_b69 {D : Nat} (B : zt_bd T n g k) (R : zm_RI k) (j : Int) : ∃ k', zt_lb T n g k (L9_readsLine_69 (D + 10) 347 j k) k' := by
  rw [qL9_readsLine_69]
  by_cases c : j = 1
  · obtain ⟨v, k1, e1, F1, B1, _⟩ := zt_number_b (D := D + 4) B
    have hM1 := zt_ty_M (zt_bd_Y B1)
    have F2 : zm_F [] [43] k1 (zv_sI k1 347 43 v) := zm_F_f (zm_F_r _ _ k1) rfl _
    rw [if_pos c, zm_e e1]
    dsimp only
    rw [zm_e (zm_pI hM1 43 _)]
    obtain ⟨k', h⟩ := zt_b82 (D := D) (zt_bd_x B1 rfl rfl (fun _ _ => rfl) (fun _ => rfl) F2) (zm_RI_F (zm_RI_F R F1) F2) j
    exact ⟨k', zt_lb_t (zm_F_t (zm_F_s F1 rfl rfl) (zm_F_s F2 rfl rfl)) rfl h⟩
  · rw [if_neg c]
    exact zt_b82 B R j
theorem zt_b61 {D : Nat} (B : zt_bd T n g k) (R : zm_RI k) (j : Int) : ∃ k', zt_lb T n g k (L9_readsLine_61 (D + 10) 347 j k) k' := by
  obtain ⟨v, k1, e1, F1, B1, _⟩ := zt_number_b (D := D + 4) B
  have hM1 := zt_ty_M (zt_bd_Y B1)
  have F2 : zm_F [] [42] k1 (zv_sI k1 347 42 v) := zm_F_f (zm_F_r _ _ k1) rfl _
  rw [qL9_readsLine_61, zm_e e1]
  dsimp only
  rw [zm_e (zm_pI hM1 42 _)]
  obtain ⟨k', h⟩ := zt_b69 (D := D) (zt_bd_x B1 rfl rfl (fun _ _ => rfl) (fun _ => rfl) F2) (zm_RI_F (zm_RI_F R F1) F2) j
  exact ⟨k', zt_lb_t (zm_F_t (zm_F_s F1 rfl rfl) (zm_F_s F2 rfl rfl)) rfl h⟩
/-- the class, where something was wrong -/
theorem zt_c164 {e : Nat} (g : zv_H) : L3_line_164 e 5 0 g = some (some (zv_i 0), g) := by
  rw [qL3_line_164, if_pos rfl]
theorem zt_c144 {e : Nat} (g : zv_H) : L3_line_144 e 5 0 g = some (some (zv_i 0), g) := by
  rw [qL3_line_144, if_pos rfl, zt_c164]
theorem zt_c126 {e : Nat} (g : zv_H) : L3_line_126 e 5 0 g = some (some (zv_i 0), g) := by
  rw [qL3_line_126, if_pos rfl, zt_c144]
theorem zt_c85 {e : Nat} (g : zv_H) : L3_line_85 e 5 0 g = some (some (zv_i 0), g) := by
  rw [qL3_line_85, if_pos rfl, zt_c126]
/-- the ; is looked at -/
theorem zj_l164 {d D : Nat} (G : zt_gd T n g k f t E) (j : Int) : ∃ (v : Int) (g' : zv_H), L3_line_164 (d + 6) 5 1 g = some (some (zv_i v), g') ∧ zt_rf g g' ∧ ((v = 1 ∧ g' = g ∧ t = 3 ∧ T f = 59 ∧ L9_readsLine_104 (D + 10) 347 j k = zt_dox D j k) ∨ (v = 0 ∧ ∃ k', zt_lb T n g' k (L9_readsLine_104 (D + 10) 347 j k) k')) := by
  have gL := zt_tx_L (zt_gd_X G)
  have hM := zt_ty_M (zt_gd_Y G)
  have r := zt_gd_r G
  have es := zt_isSignC (d := d + 4) G 59
  by_cases c : t = 3 ∧ T f = 59
  · rw [if_pos c] at es
    have ec : C3_closed (d + 6) 5 g = some (1, g) := lC3_closed (zl_ob gL zt_lay5) (by
      rw [qE3_closed, zm_e es]
      dsimp only
      rw [if_neg (by decide)])
    have gf := zt_gd_f G
    have fn := gf.2.2.2 (by rw [c.1]; decide)
    refine ⟨1, g, ?_, zt_rf_r g, Or.inl ⟨rfl, rfl, c.1, c.2, ?_⟩⟩
    · rw [qL3_line_164, if_neg (by decide), zm_e ec]
      dsimp only
      rw [if_neg (by decide)]
    · have eb := zt_aB8 (zt_gd_Y G) fn.2
      rw [qL9_readsLine_104, zm_e (zm_gI hM 34), r.2.1, if_pos (show (t : Int) = 3 by rw [c.1]; rfl), zm_e (zm_f26 hM), zm_e (zm_gI hM 32), r.1, zm_e eb, if_pos ((zt_sb_eq (zt_ty_b (zt_gd_Y G) f fn.2) (by decide)).mpr c.2), qL9_readsLine_132, zm_e (zt_must hM 1 2), zt_ms_1 (by decide), zm_e (zm_gI hM 30), zt_gd_f2 G, if_pos (by decide)]
      rfl
  · rw [if_neg c] at es
    have ec : C3_closed (d + 6) 5 g = some (0, zv_sI (zv_sI g 5 8 2) 5 9 (zv_I g 5 5)) := lC3_closed (zl_ob gL zt_lay5) (by
      rw [qE3_closed, zm_e es]
      dsimp only
      rw [if_pos rfl, zm_e (zt_fail (d := d + 4) gL 2)]
      dsimp only
      rw [if_pos rfl])
    have bd := zj_fail G (w := 2) (by decide)
    have e4 : ¬ ((2 : Int) = 2 ∧ zv_I k 347 34 = 4) := fun q => zt_gd_t4 G (Int.ofNat.inj (r.2.1.symm.trans q.2))
    have p30 : zv_I (zt_ms 0 2 k) 347 30 = 2 := by
      rw [zt_ms_0 (zt_gd_f2 G), if_neg e4, zy_In _ _ (fun q => absurd q.2 (by decide)), zy_I]
    have hM2 := zm_F_M (zt_ms_F 0 2 k) hM
    have l131 : L9_readsLine_131 (D + 10) 347 j 347 k = some (none, zt_ms 0 2 k) := by
      rw [qL9_readsLine_131, qL9_readsLine_132, zm_e (zt_must hM 0 2), zm_e (zm_gI hM2 30), p30, if_neg (by decide)]
    refine ⟨0, _, ?_, zt_rf_fail g 2, Or.inr ⟨rfl, zt_ms 0 2 k, ?_, zm_F_s (zt_ms_F 0 2 k) rfl rfl, bd, by rw [p30]; decide⟩⟩
    · rw [qL3_line_164, if_neg (by decide), zm_e ec]
      dsimp only
      rw [if_pos rfl]
    · rw [qL9_readsLine_104, zm_e (zm_gI hM 34), r.2.1]
      by_cases c3 : t = 3
      · have fn := (zt_gd_f G).2.2.2 (by rw [c3]; decide)
        rw [if_pos (show (t : Int) = 3 by rw [c3]; rfl), zm_e (zm_f26 hM), zm_e (zm_gI hM 32), r.1, zm_e (zt_aB8 (zt_gd_Y G) fn.2), if_neg (fun q => c ⟨c3, (zt_sb_eq (zt_ty_b (zt_gd_Y G) f fn.2) (by decide)).mp q⟩), l131]
      · rw [if_neg (show ¬ (t : Int) = 3 from fun q => c3 (Int.ofNat.inj q)), l131]
/-- behind the numbers: the word, if there is one, and the ; -/
def zt_lg (T : Nat → Int) (n : Nat) (D : Nat) (j : Int) (g : zv_H) (k : zv_H) (f : Nat) (o : zv_O) (g' : zv_H) (k' : zv_H) (f' : Nat) (E' : Nat) : Prop := (o = zt_dox D j k') ∧ (zt_gd T n g' k' f' 3 E') ∧ (T f' = 59) ∧ (f ≤ f') ∧ (zm_F [360] [19, 30, 31, 32, 33, 34, 35, 38] k k') ∧ (zm_RI k') ∧ (j = 0 ∨ j = 6 → ∃ m : Nat, zt_wd 7 m (zv_I k' 360) g' ∧ zv_I k' 347 19 = m ∧ 1 ≤ m ∧ m ≤ (if j = 0 then 12 else 6) ∧ zt_lw m (zv_I k' 360))
theorem zt_lg_o {T : Nat → Int} {n : Nat} {D : Nat} {j : Int} {g : zv_H} {k : zv_H} {f : Nat} {o : zv_O} {g' : zv_H} {k' : zv_H} {f' : Nat} {E' : Nat} (t : zt_lg T n D j g k f o g' k' f' E') : o = zt_dox D j k' := t.1
theorem zt_lg_G {T : Nat → Int} {n : Nat} {D : Nat} {j : Int} {g : zv_H} {k : zv_H} {f : Nat} {o : zv_O} {g' : zv_H} {k' : zv_H} {f' : Nat} {E' : Nat} (t : zt_lg T n D j g k f o g' k' f' E') : zt_gd T n g' k' f' 3 E' := t.2.1
theorem zt_lg_s {T : Nat → Int} {n : Nat} {D : Nat} {j : Int} {g : zv_H} {k : zv_H} {f : Nat} {o : zv_O} {g' : zv_H} {k' : zv_H} {f' : Nat} {E' : Nat} (t : zt_lg T n D j g k f o g' k' f' E') : T f' = 59 := t.2.2.1
theorem zt_lg_p {T : Nat → Int} {n : Nat} {D : Nat} {j : Int} {g : zv_H} {k : zv_H} {f : Nat} {o : zv_O} {g' : zv_H} {k' : zv_H} {f' : Nat} {E' : Nat} (t : zt_lg T n D j g k f o g' k' f' E') : f ≤ f' := t.2.2.2.1
theorem zt_lg_F {T : Nat → Int} {n : Nat} {D : Nat} {j : Int} {g : zv_H} {k : zv_H} {f : Nat} {o : zv_O} {g' : zv_H} {k' : zv_H} {f' : Nat} {E' : Nat} (t : zt_lg T n D j g k f o g' k' f' E') : zm_F [360] [19, 30, 31, 32, 33, 34, 35, 38] k k' := t.2.2.2.2.1
theorem zt_lg_R {T : Nat → Int} {n : Nat} {D : Nat} {j : Int} {g : zv_H} {k : zv_H} {f : Nat} {o : zv_O} {g' : zv_H} {k' : zv_H} {f' : Nat} {E' : Nat} (t : zt_lg T n D j g k f o g' k' f' E') : zm_RI k' := t.2.2.2.2.2.1
theorem zt_lg_w {T : Nat → Int} {n : Nat} {D : Nat} {j : Int} {g : zv_H} {k : zv_H} {f : Nat} {o : zv_O} {g' : zv_H} {k' : zv_H} {f' : Nat} {E' : Nat} (t : zt_lg T n D j g k f o g' k' f' E') : j = 0 ∨ j = 6 → ∃ m : Nat, zt_wd 7 m (zv_I k' 360) g' ∧ zv_I k' 347 19 = m ∧ 1 ≤ m ∧ m ≤ (if j = 0 then 12 else 6) ∧ zt_lw m (zv_I k' 360) := t.2.2.2.2.2.2
theorem zj_ltail {d D : Nat} (G : zt_gd T n g k f t E) (R : zm_RI k) {j : Int} (hj : zv_I g 5 10 = j) : ∃ (v : Int) (g' : zv_H), L3_line_126 (d + 6) 5 1 g = some (some (zv_i v), g') ∧ zt_w5 g g' ∧ ((v = 1 ∧ ∃ k' f' E', zt_lg T n D j g k f (L9_readsLine_82 (D + 10) 347 j k) g' k' f' E') ∨ (v = 0 ∧ ∃ k', zt_lb T n g' k (L9_readsLine_82 (D + 10) 347 j k) k')) := by
  have gL := zt_tx_L (zt_gd_X G)
  have hM := zt_ty_M (zt_gd_Y G)
  -- with a word of at most so many letters
  have word : ∀ most : Nat, most ≤ 40 → (j = 0 ∨ j = 6 → most = if j = 0 then 12 else 6) → ∃ (v : Int) (g' : zv_H), ((C3_spelled (d + 6) 5 (most : Int) g).bind fun q2 => L3_line_164 (d + 6) 5 q2.1 q2.2) = some (some (zv_i v), g') ∧ zt_w5 g g' ∧ ((v = 1 ∧ ∃ k' f' E', zt_lg T n D j g k f ((C9_takesWord (D + 10) 347 (most : Int) k).bind fun g1 => L9_readsLine_104 (D + 10) 347 j g1) g' k' f' E') ∨ (v = 0 ∧ ∃ k', zt_lb T n g' k ((C9_takesWord (D + 10) 347 (most : Int) k).bind fun g1 => L9_readsLine_104 (D + 10) 347 j g1) k')) := by
    intro most h40 hmost
    obtain ⟨b, g1, k1, a1, a2, a3, a4, a5⟩ := zj_word2 (d := d + 3) (D := D + 4) G h40
    obtain ⟨k0, e0, F0, ok0, _⟩ := zm_takesWord hM (D + 4) R (by rw [zt_gd_f2 G]; exact Int.le_refl _) (most := (most : Int)) (by omega)
    have ek : k0 = k1 := Option.some.inj (e0.symm.trans a2)
    subst ek
    rw [zm_e a1, zm_e a2]
    dsimp only
    rcases a5 with ⟨b1, wd, h19, t1, Em, ⟨lt, lw⟩, f1, t1', E1, G1, l1⟩ | ⟨b0, B1⟩
    · rw [b1]
      obtain ⟨v, g', y1, y2, y3⟩ := zj_l164 (d := d) (D := D) G1 j
      refine ⟨v, g', y1, zt_w5_t a3 (zt_w5_rf y2), ?_⟩
      rcases y3 with ⟨z1, z2, z3, z4, z5⟩ | ⟨z1, k', z2⟩
      · subst z2
        subst z3
        have fE := (zt_gd_f G).1
        refine Or.inl ⟨z1, k0, f1, E1, z5, G1, z4, Nat.le_trans fE (zt_tkn_f l1).1, zm_F_s a4 rfl rfl, ok0.1, fun q => ⟨E - f, wd, h19, by omega, ?_, fun i hi => lw i hi⟩⟩
        rw [← hmost q]
        omega
      · exact Or.inr ⟨z1, k', zt_lb_t (zm_F_s a4 rfl rfl) rfl z2⟩
    · rw [b0]
      obtain ⟨k', h⟩ := zt_b104 (D := D) B1 ok0.1 j
      exact ⟨0, g1, zt_c164 g1, a3, Or.inr ⟨rfl, k', zt_lb_t (zm_F_s a4 rfl rfl) rfl h⟩⟩
  by_cases c0 : j = 0
  · obtain ⟨v, g', y1, y2, y3⟩ := word 12 (by decide) (fun _ => by rw [if_pos c0])
    have e126 : L3_line_126 (d + 6) 5 1 g = (C3_spelled (d + 6) 5 ((12 : Nat) : Int) g).bind fun q2 => L3_line_164 (d + 6) 5 q2.1 q2.2 := by
      rw [qL3_line_126, if_neg (by decide), zm_e (zl_gI gL zt_lay5 10), hj, if_pos c0]
      obtain ⟨b, g1, k1, a1, a2, a3, a4, a5⟩ := zj_word2 (d := d + 3) (D := D + 4) G (most := 12) (by decide)
      have a1' : C3_spelled (d + 6) 5 (12 : Int) g = some (b, g1) := a1
      rw [zm_e a1', show C3_spelled (d + 6) 5 ((12 : Nat) : Int) g = some (b, g1) from a1]
      show L3_line_144 (d + 6) 5 b g1 = L3_line_164 (d + 6) 5 b g1
      have b01 : b = 0 ∨ b = 1 := by
        rcases a5 with q | q
        · exact Or.inr q.1
        · exact Or.inl q.1
      rw [qL3_line_144]
      rcases b01 with z | z
      · rw [z, if_pos rfl]
      · have gL1 := zt_L_12 gL a3.1 a3.2.1
        rw [z, if_neg (by decide), zm_e (zl_gI gL1 zt_lay5 10), a3.2.2 5 10 (fun q => absurd q.2.2 (by decide)) (fun q => absurd q.1 (by decide)) (by decide), hj, if_neg (by rw [c0]; decide)]
    have e82 : L9_readsLine_82 (D + 10) 347 j k = (C9_takesWord (D + 10) 347 ((12 : Nat) : Int) k).bind fun g1 => L9_readsLine_104 (D + 10) 347 j g1 := by
      rw [qL9_readsLine_82, if_pos c0]
      refine congrArg _ (funext fun g1 => ?_)
      rw [qL9_readsLine_92, if_neg (by rw [c0]; decide)]
    rw [e126, e82]
    exact ⟨v, g', y1, y2, y3⟩
  by_cases c6 : j = 6
  · obtain ⟨v, g', y1, y2, y3⟩ := word 6 (by decide) (fun _ => by rw [if_neg c0])
    have e126 : L3_line_126 (d + 6) 5 1 g = (C3_spelled (d + 6) 5 ((6 : Nat) : Int) g).bind fun q2 => L3_line_164 (d + 6) 5 q2.1 q2.2 := by
      rw [qL3_line_126, if_neg (by decide), zm_e (zl_gI gL zt_lay5 10), hj, if_neg c0, qL3_line_144, if_neg (by decide), zm_e (zl_gI gL zt_lay5 10), hj, if_pos c6]
      rfl
    have e82 : L9_readsLine_82 (D + 10) 347 j k = (C9_takesWord (D + 10) 347 ((6 : Nat) : Int) k).bind fun g1 => L9_readsLine_104 (D + 10) 347 j g1 := by
      rw [qL9_readsLine_82, if_neg c0, qL9_readsLine_92, if_pos c6]
      rfl
    rw [e126, e82]
    exact ⟨v, g', y1, y2, y3⟩
  · have e126 : L3_line_126 (d + 6) 5 1 g = L3_line_164 (d + 6) 5 1 g := by
      rw [qL3_line_126, if_neg (by decide), zm_e (zl_gI gL zt_lay5 10), hj, if_neg c0, qL3_line_144, if_neg (by decide), zm_e (zl_gI gL zt_lay5 10), hj, if_neg c6]
    have e82 : L9_readsLine_82 (D + 10) 347 j k = L9_readsLine_104 (D + 10) 347 j k := by
      rw [qL9_readsLine_82, if_neg c0, qL9_readsLine_92, if_neg c6]
    rw [e126, e82]
    obtain ⟨v, g', y1, y2, y3⟩ := zj_l164 (d := d) (D := D) G j
    refine ⟨v, g', y1, zt_w5_rf y2, ?_⟩
    rcases y3 with ⟨z1, z2, z3, z4, z5⟩ | ⟨z1, k', z2⟩
    · subst z2
      subst z3
      exact Or.inl ⟨z1, k, f, E, z5, G, z4, Nat.le_refl _, zm_F_r _ _ k, R, fun q => q.elim (fun z => absurd z c0) (fun z => absurd z c6)⟩
    · exact Or.inr ⟨z1, k', z2⟩
end
