/-! 99e.acts -/
section
/-! ===== the class: what is done ===== -/
/-- the tree is the same -/
def zc_E (h h' : zv_H) : Prop := (∀ t, zv_lay t = (1, 5) → zv_I h' t 3 = zv_I h t 3 ∧ zv_R h' t 4 = zv_R h t 4 ∧ (zv_I h t 3 = 1 → zv_I h' t 11 = zv_I h t 11)) ∧ ∀ b, zv_lay b = (1, 0) → zv_R h' b 10 = zv_R h b 10
theorem zc_E_r (h : zv_H) : zc_E h h := ⟨fun _ _ => ⟨rfl, rfl, fun _ => rfl⟩, fun _ _ => rfl⟩
theorem zc_qE {h h' : zv_H} (f : zc_q h h') : zc_E h h' := ⟨fun t ht => ⟨(f.2.2.2.2.1 t ht).2.1, zc_qR f ht 4, fun _ => (f.2.2.2.2.1 t ht).2.2.2⟩, fun b hb => zc_qR f hb 10⟩
theorem zc_E_t {h h1 h2 : zv_H} (f : zc_E h h1) (g : zc_E h1 h2) : zc_E h h2 := ⟨fun t ht => ⟨(g.1 t ht).1.trans (f.1 t ht).1, (g.1 t ht).2.1.trans (f.1 t ht).2.1, fun q => ((g.1 t ht).2.2 ((f.1 t ht).1.trans q)).trans ((f.1 t ht).2.2 q)⟩, fun b hb => (g.2 b hb).trans (f.2 b hb)⟩
theorem zc_G_E {a : Nat} {h h1 h2 : zv_H} {s : Nat} (ha : zv_lay a = (1, 0)) (g : zc_G a h h1 s) (f : zc_E h1 h2) : zc_G a h h2 s := by
  obtain ⟨g1, g2, g3, g4, g5, g6, g7, g8, g9, g10⟩ := g
  obtain ⟨i, r⟩ := f
  exact ⟨g1, g2, g3, g4, (i s g1).1.trans g5, ((i s g1).2.2 g5).trans g6, (i s g1).2.1.trans g7, (r a ha).trans g8, fun t ht hs => ⟨(i t ht).1.trans (g9 t ht hs).1, (i t ht).2.1.trans (g9 t ht hs).2.1, fun q => ((i t ht).2.2 ((g9 t ht hs).1.trans q)).trans ((g9 t ht hs).2.2 q)⟩, fun b hb hn => (r b hb).trans (g10 b hb hn)⟩
/-- the first of its group is its parent's -/
theorem zc_firstA {h : zv_H} (hA : zc_A h) {s f : Nat} (hs : zc_V h s) (hp : zv_R h s 4 = f) (hf : zv_lay f = (1, 5)) (h0 : zv_I h s 11 = 0) : zc_A (zv_sR h s 5 (zv_R h f 5)) ∧ zc_E h (zv_sR h s 5 (zv_R h f 5)) ∧ zc_P h (zv_sR h s 5 (zv_R h f 5)) := by
  obtain ⟨b1, b2, b3, b4, b5, b6, b7, b8⟩ := hA.1
  have o : ∀ r k, ¬ (r = s ∧ k = 5) → zv_R (zv_sR h s 5 (zv_R h f 5)) r k = zv_R h r k := fun r k c => if_neg c
  have n1 : ∀ r x, zv_lay r = x → x ≠ (1, 5) → r ≠ s := fun r x e n q => n (by rw [← e, q, hs.1])
  have hl : ∀ a', zv_lay a' = (1, 0) → zv_lay (a' + 4) = (6, 48) := fun a' h' => by cases zc_lh h' with
    | inl e => rw [e]; rfl
    | inr e => rw [e]; rfl
  have l17 : ∀ r, zv_lay r = (1, 4) → zv_lay (r + 1) = (6, 48) := fun a' h' => by cases zc_l4 h' with
    | inl e => rw [e]; rfl
    | inr e => rw [e]; rfl
  have lf : ∀ {t : Nat}, zv_lay t = (1, 5) → zv_R h t 4 ≠ s := fun ht => zc_leaf hA hs h0 ht
  have nfs : f ≠ s := fun e => lf hs.1 (hp.trans e)
  have r5 : zv_R (zv_sR h s 5 (zv_R h f 5)) s 5 = zv_R h f 5 := if_pos ⟨rfl, rfl⟩
  refine ⟨⟨⟨b1, fun r k hr hk => ?_, fun a' i h' hi => ?_, ?_, b5, b6, fun r k hr => ?_, b8⟩, fun t ht => ?_, fun b hb => ?_⟩, ⟨fun t ht => ⟨rfl, o t 4 (fun q => absurd q.2 (by decide)), fun _ => rfl⟩, fun b hb => o b 10 (fun q => absurd q.2 (by decide))⟩, rfl, rfl, fun r hr => ⟨rfl, rfl, zc_sRo _ _ _ _ (by have := zc_lt hs.1 (by decide); omega)⟩, rfl⟩
  · rw [o r k (fun q => ?_)]
    · exact b2 r k hr hk
    · rw [q.1, hs.1, q.2] at hk
      exact hk rfl
  · rw [o _ _ (fun q => n1 _ _ (hl a' h') (by decide) q.1)]
    exact b3 a' i h' hi
  · rw [o 1 3 (fun q => absurd q.2 (by decide)), o 1 4 (fun q => absurd q.2 (by decide))]
    exact b4
  · rw [o _ _ (fun q => n1 _ _ (l17 r hr) (by decide) q.1)]
    exact b7 r k hr
  · have tt := hA.2.1 t ht
    have ec : zc_ch (zv_sR h s 5 (zv_R h f 5)) t 48 = zc_ch h t 48 := by
      have : ∀ n, zc_ch (zv_sR h s 5 (zv_R h f 5)) t n = zc_ch h t n := by
        intro n
        induction n with
        | zero => rfl
        | succ n ih =>
          show zc_ch (zv_sR h s 5 (zv_R h f 5)) t n + (if zv_R (zv_sR h s 5 (zv_R h f 5)) (zc_stt (zc_hf t) n) 4 = t then 1 else 0) = zc_ch h t n + (if zv_R h (zc_stt (zc_hf t) n) 4 = t then 1 else 0)
          rw [ih, o _ 4 (fun q => absurd q.2 (by decide))]
      exact this 48
    unfold zc_t
    rw [ec, o t 4 (fun q => absurd q.2 (by decide))]
    cases tt with
    | inl u => exact Or.inl u
    | inr u =>
      refine Or.inr ⟨u.1, u.2.1, u.2.2.1, ?_, u.2.2.2.2⟩
      by_cases e : t = s
      · rw [e, r5, hp]
        refine Or.inr ⟨zc_nz hf, ?_⟩
        exact (o f 5 (fun q => nfs q.1)).symm
      · rw [o t 5 (fun q => e q.1)]
        cases u.2.2.2.1 with
        | inl w => exact Or.inl w
        | inr w => exact Or.inr ⟨w.1, w.2.trans (o _ 5 (fun q => lf ht q.1)).symm⟩
  · rw [o b 10 (fun q => absurd q.2 (by decide))]
    exact hA.2.2 b hb
/-- joinGroup -/
def zc_j (h h' : zv_H) : Prop := zc_X h h' ∧ zc_E h h'
theorem zc_Qj {h h' : zv_H} (f : zc_Q h h') : zc_j h h' := ⟨zc_QX f, zc_qE f.1⟩
theorem zc_C0_joinGroup {d : Nat} {h : zv_H} (hA : zc_A h) {a s f : Nat} (ha : zv_lay a = (1, 0)) (hs : zc_V h s) (hp : zv_R h s 4 = f) (hf : zc_V h f) (h0 : zv_I h s 11 = 0) : zm_R (C0_joinGroup (d + 2) a s f h) (fun q => zc_j h q) := by
  have F := zc_Q_r hA
  refine zm_cV (fun e => lC0_joinGroup (zc_ob hA ha) e) ?_
  have L108 : ∀ (g : zv_H) (x : Int), zc_Q h g → zv_rg x → zm_R (L0_joinGroup_108 (d + 1) a s f (a + 22) 4 x g) (zm_V fun h' => zc_j h h') := fun g x F rx => by
    rw [qL0_joinGroup_108]
    refine zc_cV F (zc_C1_set F.2 (zc_y0_8 ha).1 (by unfold zv_rg; omega) rx) fun g1 F => ?_
    refine zc_rF F 22 ha ?_
    refine zc_rI F hs.1 fun v3 e3 r3 => ?_
    refine zc_cV F (zc_C1_set F.2 (zc_y0_8 ha).1 (by unfold zv_rg; omega) r3) fun g4 F => ?_
    refine zc_rF F 22 ha ?_
    refine zc_pI (K := fun _ => True) (zc_C1_holds F.2 (zc_y0_8 ha).1) fun v6 r6 _ => ?_
    dsimp only
    refine zm_if (fun c => zm_iV (zc_Qj F)) (fun c => ?_)
    refine zc_rR F hf.1 fun v7 e7 => ?_
    rw [zm_e (show zv_pR g4 s 5 5 v7 = some _ from if_pos (zc_ob F.2 hs.1)), e7]
    have w := zc_firstA F.2 (zc_Vq F.1 hs) ((zc_qR F.1 hs.1 4).trans hp) hf.1 ((F.1.2.2.2.2.1 s hs.1).2.2.2.trans h0)
    exact zm_iV ⟨⟨zc_P_t (zc_qP F.1) w.2.2, w.1⟩, zc_E_t (zc_qE F.1) w.2.1⟩
  have L87 : ∀ (g : zv_H) (x : Int), zc_Q h g → zv_rg x → zm_R (L0_joinGroup_87 (d + 1) a s f (a + 22) 3 x g) (zm_V fun h' => zc_j h h') := fun g x F rx => by
    rw [qL0_joinGroup_87]
    refine zc_cV F (zc_C1_set F.2 (zc_y0_8 ha).1 (by unfold zv_rg; omega) rx) fun g1 F => ?_
    refine zc_rF F 22 ha ?_
    refine zc_pI (K := fun _ => True) (zc_C0_isNear F.2 hs.1 hf.1) fun v6 r6 _ => ?_
    dsimp only
    exact zm_if (fun c => L108 _ _ F (by unfold zv_rg; omega)) (fun c => L108 _ _ F (by unfold zv_rg; omega))
  rw [qE0_joinGroup]
  refine zc_pI (K := fun _ => True) (zc_C5_edits hA hf.1) fun v1 r1 _ => ?_
  dsimp only
  refine zm_if (fun c => zm_iV (zc_Qj F)) (fun c => ?_)
  refine zc_rR5 F hf.1 ?_
  refine zm_if (fun c => zm_iV (zc_Qj F)) (fun c => ?_)
  refine zc_rF F 22 ha ?_
  refine zc_rI F hs.1 fun v4 e4 r4 => ?_
  refine zc_rI F hf.1 fun v5 e5 r5 => ?_
  refine zc_cV F (zc_C1_set F.2 (zc_y0_8 ha).1 (by unfold zv_rg; omega) (zc_w _)) fun g6 F => ?_
  refine zc_rF F 22 ha ?_
  refine zc_rI F hf.1 fun v8 e8 r8 => ?_
  refine zc_rR5 F hf.1 ?_
  refine zc_rI F (zc_fV F hf).1 fun v10 e10 r10 => ?_
  refine zc_cV F (zc_C1_set F.2 (zc_y0_8 ha).1 (by unfold zv_rg; omega) (zc_w _)) fun g11 F => ?_
  refine zc_rF F 22 ha ?_
  refine zc_rI F hs.1 fun v13 e13 r13 => ?_
  refine zc_cV F (zc_C1_set F.2 (zc_y0_8 ha).1 (by unfold zv_rg; omega) r13) fun g14 F => ?_
  refine zc_rF F 22 ha ?_
  refine zc_rI F hs.1 fun v16 e16 r16 => ?_
  refine zc_rI F hf.1 fun v17 e17 r17 => ?_
  exact zm_if (fun c => L87 _ _ F (by unfold zv_rg; omega)) (fun c => L87 _ _ F (by unfold zv_rg; omega))
/-- what an act answers: refused, nothing done; or one new State -/
def zc_O (a : Nat) (h : zv_H) (q : Int × zv_H) : Prop := zc_X h q.2 ∧ zv_rg q.1 ∧ ((q.1 < 0 ∧ zc_Q h q.2) ∨ (0 ≤ q.1 ∧ ∃ s, zc_G a h q.2 s))
def zc_Oi (a : Nat) (h : zv_H) : Option zv_V × zv_H → Prop := zm_I fun v h' => zc_O a h (v, h')
theorem zc_On {a : Nat} {h h' : zv_H} (F : zc_Q h h') {v : Int} (hv : v < 0) (rv : zv_rg v) : zm_R (some (some (zv_i v), h')) (zc_Oi a h) := zm_iI ⟨zc_QX F, rv, Or.inl ⟨hv, F⟩⟩
theorem zc_O_q {a : Nat} {h h1 : zv_H} (ha : zv_lay a = (1, 0)) (F : zc_Q h h1) {q : Int × zv_H} (o : zc_O a h1 q) : zc_O a h q := by
  obtain ⟨x, r, o⟩ := o
  refine ⟨zc_X_t (zc_QX F) x, r, ?_⟩
  cases o with
  | inl o => exact Or.inl ⟨o.1, zc_Q_t F o.2⟩
  | inr o => obtain ⟨o1, s, g⟩ := o; exact Or.inr ⟨o1, s, zc_q_G ha F.1 g⟩
theorem zc_num {h : zv_H} (hA : zc_A h) {s : Nat} (hs : zv_lay s = (1, 5)) : 0 ≤ zv_I h s 0 ∧ zv_I h s 0 < 48 := by
  obtain ⟨i, hi, e⟩ := zc_l5i hs
  have := hA.1.2.2.2.2.2.2.2 (zc_hf s) i (zc_hl s) hi
  rw [← e] at this
  omega
/-- the end of an act: the new State joins its group, its number is answered -/
theorem zc_joins {d : Nat} {h h1 g : zv_H} {a s : Nat} (ha : zv_lay a = (1, 0)) (X1 : zc_X h h1) (G : zc_G a h h1 s) (hA : zc_A h) (F : zc_Q h1 g) : zm_R ((C0_joinGroup (d + 2) a s (zv_R h a 10) g).bind fun g4 => (zv_gI g4 s 5 0).bind fun v5 => some (some (zv_i v5), g4)) (zc_Oi a h) := by
  have hV := zc_hV (zc_Q_r hA) ha
  have G2 := zc_G_q ha G F.1
  have Vh := zc_G_V G2 hV.1
  obtain ⟨g4, e4, J⟩ := zc_C0_joinGroup (d := d) F.2 ha ⟨G2.1, G2.2.2.2.2.1⟩ G2.2.2.2.2.2.2.1 Vh.1 G2.2.2.2.2.2.1
  rw [zm_e e4]
  have G3 := zc_G_E ha G2 J.2
  refine zc_rI (zc_Q_r J.1.2) G2.1 fun v5 e5 r5 => ?_
  have := zc_num J.1.2 G2.1
  rw [← e5] at this
  exact zm_iI ⟨zc_X_t (zc_X_t X1 (zc_QX F)) J.1, r5, Or.inr ⟨this.1, s, G3⟩⟩
theorem zc_C0_putWord {d : Nat} {h : zv_H} (hA : zc_A h) {a w : Nat} {x : Int} (ha : zv_lay a = (1, 0)) (hw : zv_lay w = (1, 7)) (rx : zv_rg x) : zm_R (C0_putWord (d + 3) a x w h) (zc_O a h) := by
  have F := zc_Q_r hA
  have hV := zc_hV F ha
  refine zm_cI (P := fun v h' => zc_O a h (v, h')) (fun e => lC0_putWord (zc_ob hA ha) e) ?_
  have no1 : zm_R (some (some (zv_i (-1)), h)) (zc_Oi a h) := zc_On F (by decide) (by unfold zv_rg; omega)
  have no3 : zm_R (some (some (zv_i (-3)), h)) (zc_Oi a h) := zc_On F (by decide) (by unfold zv_rg; omega)
  have no6 : zm_R (some (some (zv_i (-6)), h)) (zc_Oi a h) := zc_On F (by decide) (by unfold zv_rg; omega)
  rw [qE0_putWord]
  refine zm_if (fun c => no1) (fun c1 => ?_)
  refine zc_rRo F ha ?_
  refine zc_rI F hV.1.1 fun v2 e2 r2 => ?_
  refine zm_if (fun c2 => ?_) (fun c => no1)
  refine zc_rI F hw fun v3 e3 r3 => ?_
  refine zm_if (fun c => no1) (fun c3 => ?_)
  refine zc_rI F ha fun v4 e4 r4 => ?_
  refine zm_if (fun c4 => ?_) (fun c => no3)
  refine zc_rRo F ha ?_
  refine zc_rI F hV.1.1 fun v6 e6 r6 => ?_
  refine zc_rI F hw fun v7 e7 r7 => ?_
  refine zm_if (fun c5 => ?_) (fun c => no6)
  refine zc_rRo F ha ?_
  refine zc_rI F hw fun v9 e9 r9 => ?_
  obtain ⟨⟨s, h1⟩, e10, hq⟩ := zc_C0_grow (d := d) hA ha (x := 0) (y := x) (z := v9) (by unfold zv_rg; omega) rx r9
  rw [zm_e e10]
  cases hq with
  | inl q =>
    obtain ⟨q1, q2⟩ := q
    have q1' : s = 0 := q1
    have q2' : h1 = h := q2
    subst q1' q2'
    dsimp only
    rw [if_pos rfl]
    exact no3
  | inr q =>
    obtain ⟨X1, G⟩ := q
    have A1 : zc_A h1 := X1.2
    have G' : zc_G a h h1 s := G
    have hs := G'.1
    dsimp only
    rw [if_neg (zc_nz hs)]
    have F := zc_Q_r A1
    refine zc_pI (K := fun _ => True) (zc_C5_idAt A1 hV.1.1 (zc_w _)) fun v11 r11 _ => ?_
    dsimp only
    refine zc_wO F hs (zc_frO hs (zc_lt hs (by decide)) (by decide) rfl (by decide)) r11 fun g12 F => ?_
    refine zc_rI F hs fun v13 e13 r13 => ?_
    refine zc_pJ (zc_C0_baseOf F.2 r13) fun v14 => ?_
    dsimp only
    refine zc_wJ F hs (zc_lt hs (by decide)) fun g15 F => ?_
    have L184 : ∀ (n : Nat) (g : zv_H) (i : Int), zc_Q h1 g → 0 ≤ i → (2147483647 - i).toNat = n → zv_rg i → zm_R (L0_putWord_184 (d + 2) a (zv_R h a 10) s i g) (zc_Oi a h) := by
      intro n
      induction n using Nat.strongRecOn with
      | _ n ih =>
        intro g i F h0 hn ri
        rw [qL0_putWord_184]
        refine zc_rI F hV.1.1 fun v1 e1 r1 => ?_
        refine zm_if (fun c => ?_) (fun c => zc_joins ha X1 G' hA F)
        refine zc_pI (K := fun _ => True) (zc_C5_idAt F.2 hV.1.1 ri) fun v2 r2 _ => ?_
        dsimp only
        refine zc_cV F (zc_C5_addId F.2 hs r2) fun g3 F => ?_
        exact ih _ (by rw [← hn]; exact zc_up ri r1 c) g3 _ F (by rw [zc_up1 ri r1 c]; omega) rfl (zc_w _)
    have L135 : ∀ (n : Nat) (g : zv_H) (i : Int), zc_Q h1 g → 0 ≤ i → (2147483647 - i).toNat = n → zv_rg i → zm_R (L0_putWord_135 (d + 2) a x w (zv_R h a 10) s i g) (zc_Oi a h) := by
      intro n
      induction n using Nat.strongRecOn with
      | _ n ih =>
        intro g i F h0 hn ri
        rw [qL0_putWord_135]
        refine zc_rI F hw fun v1 e1 r1 => ?_
        refine zm_if (fun c => ?_) (fun c => L184 _ _ _ F (by omega) rfl rx)
        refine zc_rI F hs fun v2 e2 r2 => ?_
        refine zc_pI (K := fun _ => True) (zc_C4_id F.2 r2 ri) fun v3 r3 _ => ?_
        dsimp only
        refine zc_pI (K := fun _ => True) (zc_C7_at F.2 hw ri) fun v4 r4 _ => ?_
        dsimp only
        refine zc_cV F (zc_C0_setGlyph F.2 ha r3 r4) fun g5 F => ?_
        refine zc_cV F (zc_C5_addId F.2 hs r3) fun g6 F => ?_
        exact ih _ (by rw [← hn]; exact zc_up ri r1 c) g6 _ F (by rw [zc_up1 ri r1 c]; omega) rfl (zc_w _)
    have L109 : ∀ (n : Nat) (g : zv_H) (i : Int), zc_Q h1 g → 0 ≤ i → (2147483647 - i).toNat = n → zv_rg i → zm_R (L0_putWord_109 (d + 2) a x w (zv_R h a 10) s i g) (zc_Oi a h) := by
      intro n
      induction n using Nat.strongRecOn with
      | _ n ih =>
        intro g i F h0 hn ri
        rw [qL0_putWord_109]
        refine zm_if (fun c => ?_) (fun c => L135 _ _ _ F (by omega) rfl (by unfold zv_rg; omega))
        refine zc_pI (K := fun _ => True) (zc_C5_idAt F.2 hV.1.1 ri) fun v2 r2 _ => ?_
        dsimp only
        refine zc_cV F (zc_C5_addId F.2 hs r2) fun g3 F => ?_
        exact ih _ (by rw [← hn]; exact zc_up ri rx c) g3 _ F (by rw [zc_up1 ri rx c]; omega) rfl (zc_w _)
    exact L109 _ _ 0 F (by omega) rfl (by unfold zv_rg; omega)
theorem zc_C0_cutOut {d : Nat} {h : zv_H} (hA : zc_A h) {a : Nat} {x y : Int} (ha : zv_lay a = (1, 0)) (rx : zv_rg x) (ry : zv_rg y) : zm_R (C0_cutOut (d + 3) a x y h) (zc_O a h) := by
  have F := zc_Q_r hA
  have hV := zc_hV F ha
  refine zm_cI (P := fun v h' => zc_O a h (v, h')) (fun e => lC0_cutOut (zc_ob hA ha) e) ?_
  have no1 : zm_R (some (some (zv_i (-1)), h)) (zc_Oi a h) := zc_On F (by decide) (by unfold zv_rg; omega)
  have no3 : zm_R (some (some (zv_i (-3)), h)) (zc_Oi a h) := zc_On F (by decide) (by unfold zv_rg; omega)
  have no5 : zm_R (some (some (zv_i (-5)), h)) (zc_Oi a h) := zc_On F (by decide) (by unfold zv_rg; omega)
  rw [qE0_cutOut]
  refine zm_if (fun c => no1) (fun c1 => ?_)
  refine zc_pI (K := fun v => (v = 0 ∨ v = 1)) (zc_C8_within hA ry (by unfold zv_rg; omega) (by unfold zv_rg; omega)) fun v1 r1 _ => ?_
  dsimp only
  refine zm_if (fun c => no1) (fun c2 => ?_)
  refine zc_rRo F ha ?_
  refine zc_rI F hV.1.1 fun v3 e3 r3 => ?_
  refine zm_if (fun c3 => ?_) (fun c => no5)
  refine zc_rI F ha fun v4 e4 r4 => ?_
  refine zm_if (fun c4 => ?_) (fun c => no3)
  refine zc_rRo F ha ?_
  obtain ⟨⟨s, h1⟩, e10, hq⟩ := zc_C0_grow (d := d) hA ha (x := 1) (y := x) (z := y) (by unfold zv_rg; omega) rx ry
  rw [zm_e e10]
  cases hq with
  | inl q =>
    obtain ⟨q1, q2⟩ := q
    have q1' : s = 0 := q1
    have q2' : h1 = h := q2
    subst q1' q2'
    dsimp only
    rw [if_pos rfl]
    exact no3
  | inr q =>
    obtain ⟨X1, G⟩ := q
    have A1 : zc_A h1 := X1.2
    have G' : zc_G a h h1 s := G
    have hs := G'.1
    dsimp only
    rw [if_neg (zc_nz hs)]
    have F := zc_Q_r A1
    have loop : ∀ (n : Nat) (g : zv_H) (i : Int), zc_Q h1 g → 0 ≤ i → (2147483647 - i).toNat = n → zv_rg i → zm_R (L0_cutOut_69 (d + 2) a x y (zv_R h a 10) s i g) (zc_Oi a h) := by
      intro n
      induction n using Nat.strongRecOn with
      | _ n ih =>
        intro g i F h0 hn ri
        rw [qL0_cutOut_69]
        refine zc_rI F hV.1.1 fun v1 e1 r1 => ?_
        refine zm_if (fun c => ?_) (fun c => zc_joins ha X1 G' hA F)
        refine zc_pI (K := fun _ => True) (zc_C5_idAt F.2 hV.1.1 ri) fun v2 r2 _ => ?_
        dsimp only
        have nx : ∀ g, zc_Q h1 g → zm_R (L0_cutOut_69 (d + 2) a x y (zv_R h a 10) s (zv_w (i + 1)) g) (zc_Oi a h) := fun g F => ih _ (by rw [← hn]; exact zc_up ri r1 c) g _ F (by rw [zc_up1 ri r1 c]; omega) rfl (zc_w _)
        have els : zm_R (L0_cutOut_138 (d + 2) a x y (zv_R h a 10) s i v2 g) (zc_Oi a h) := by
          rw [qL0_cutOut_138]
          refine zc_cV F (zc_C5_addId F.2 hs r2) fun g3 F => ?_
          exact nx g3 F
        refine zm_if (fun c => els) (fun c5 => ?_)
        refine zm_if (fun c6 => ?_) (fun c => els)
        refine zm_if (fun c7 => ?_) (fun c => els)
        refine zc_rF F 1 hs ?_
        refine zc_wA F (zc_y5_1 hs).1 (zc_y5_1 hs).2 (by omega) (by omega) r2 fun g4 F _ => ?_
        refine zc_rJ F hs fun v5 => ?_
        refine zc_pJ (zc_C0_baseOf F.2 r2) fun v6 => ?_
        dsimp only
        refine zc_wJ F hs (zc_lt hs (by decide)) fun g7 F => ?_
        exact nx g7 F
    exact loop _ _ 0 F (by omega) rfl (by unfold zv_rg; omega)
end
/-! 99f.acts -/
section
/-! ===== the class: withdrawing, carrying, merging, pruning ===== -/
theorem zc_bits {d : Nat} {h : zv_H} (x : Int64) : zm_R (C12_bitCount (d + 1) x h) (fun q => q.2 = h ∧ zv_rg q.1 ∧ True) := by
  refine zm_cI (P := fun v h' => h' = h ∧ zv_rg v ∧ True) (fun e => lC12_bitCount e) ?_
  rw [qE12_bitCount]
  exact zm_iI ⟨rfl, zc_and _ _, trivial⟩
theorem zc_C0_turn {d : Nat} {h : zv_H} (hA : zc_A h) {a : Nat} {x : Int} {y z : Int64} (ha : zv_lay a = (1, 0)) (rx : zv_rg x) : zm_R (C0_turn (d + 3) a x y z h) (zc_O a h) := by
  have F0 := zc_Q_r hA
  refine zm_cI (P := fun v h' => zc_O a h (v, h')) (fun e => lC0_turn (zc_ob hA ha) e) ?_
  rw [qE0_turn]
  refine zc_rI F0 ha fun v1 e1 r1 => ?_
  refine zm_if (fun c1 => ?_) (fun c => zc_On F0 (by decide) (by unfold zv_rg; omega))
  refine zc_rF F0 8 ha ?_
  refine zc_cV F0 (zc_C4_look hA (zc_y0_5 ha).1) fun g3 F => ?_
  refine zc_rF F 8 ha ?_
  refine zc_rI F (zc_y0_5 ha).1 fun v5 e5 r5 => ?_
  refine zm_if (fun c2 => ?_) (fun c => zc_On F (by decide) (by unfold zv_rg; omega))
  refine zc_pI (K := fun _ => True) (zc_bits _) fun v6 r6 _ => ?_
  dsimp only
  obtain ⟨⟨s, h1⟩, e10, hq⟩ := zc_C0_grow (d := d) F.2 ha (x := x) (y := -1) (z := v6) rx (by unfold zv_rg; omega) r6
  rw [zm_e e10]
  cases hq with
  | inl q =>
    obtain ⟨q1, q2⟩ := q
    have q1' : s = 0 := q1
    have q2' : h1 = g3 := q2
    subst q1' q2'
    dsimp only
    rw [if_pos rfl]
    exact zc_On F (by decide) (by unfold zv_rg; omega)
  | inr q =>
    obtain ⟨X1, G⟩ := q
    have A1 : zc_A h1 := X1.2
    have G' : zc_G a h h1 s := zc_q_G ha F.1 G
    have X' : zc_X h h1 := zc_X_t (zc_QX F) X1
    have hs := G'.1
    dsimp only
    rw [if_neg (zc_nz hs)]
    have F := zc_Q_r A1
    refine zc_wJ F hs (zc_lt hs (by decide)) fun g15 F => ?_
    have loop : ∀ (n : Nat) (g : zv_H) (i : Int), zc_Q h1 g → 0 ≤ i → (2147483647 - i).toNat = n → zv_rg i → zm_R (L0_turn_65 (d + 2) a s i g) (zc_Oi a h) := by
      intro n
      induction n using Nat.strongRecOn with
      | _ n ih =>
        intro g i F h0 hn ri
        rw [qL0_turn_65]
        refine zc_rF F 8 ha ?_
        refine zc_rI F (zc_y0_5 ha).1 fun v2 e2 r2 => ?_
        have nx : i < v2 → ∀ g, zc_Q h1 g → zm_R (L0_turn_65 (d + 2) a s (zv_w (i + 1)) g) (zc_Oi a h) := fun c g F => ih _ (by rw [← hn]; exact zc_up ri r2 c) g _ F (by rw [zc_up1 ri r2 c]; omega) rfl (zc_w _)
        refine zm_if (fun c => ?_) (fun c => ?_)
        · refine zc_rF F 8 ha ?_
          refine zc_pI (K := fun _ => True) (zc_C4_seesAt F.2 (zc_y0_5 ha).1 ri) fun v4 r4 _ => ?_
          dsimp only
          refine zm_if (fun c' => nx c g F) (fun c' => ?_)
          refine zc_rF F 8 ha ?_
          refine zc_pI (K := fun _ => True) (zc_C4_idAt F.2 (zc_y0_5 ha).1 ri) fun v6 r6 _ => ?_
          dsimp only
          refine zc_cV F (zc_C5_addId F.2 hs r6) fun g7 F => ?_
          exact nx c g7 F
        · refine zc_rI F hs fun v5 e5 r5 => ?_
          have := zc_num F.2 hs
          rw [← e5] at this
          exact zm_iI ⟨zc_X_t X' (zc_QX F), r5, Or.inr ⟨this.1, s, zc_G_q ha G' F.1⟩⟩
    exact loop _ _ 0 F (by omega) rfl (by unfold zv_rg; omega)
theorem zc_Ox {a : Nat} {h h1 : zv_H} (ha : zv_lay a = (1, 0)) (F : zc_Q h h1) {o : Option (Int × zv_H)} (e : zm_R o (zc_O a h1)) : zm_R (o.bind fun q => some (some (zv_i q.1), q.2)) (zc_Oi a h) := by
  obtain ⟨q, rfl, a⟩ := e
  exact zm_iI (zc_O_q ha F a)
theorem zc_C0_takeBack {d : Nat} {h : zv_H} (hA : zc_A h) {a : Nat} {i : Int} (ha : zv_lay a = (1, 0)) (ri : zv_rg i) : zm_R (C0_takeBack (d + 4) a i h) (zc_O a h) := by
  have F := zc_Q_r hA
  have hV := zc_hV F ha
  refine zm_cI (P := fun v h' => zc_O a h (v, h')) (fun e => lC0_takeBack (zc_ob hA ha) e) ?_
  rw [qE0_takeBack]
  refine zc_pN (K := fun v => zc_U h a v) (zc_at2 hA ha ri) fun v u => ?_
  dsimp only
  refine zm_if (fun c => zc_On F (by decide) (by unfold zv_rg; omega)) (fun c => ?_)
  have u1 := (u.resolve_left c).1
  refine zc_rF F 8 ha ?_
  refine zc_rRo F ha ?_
  refine zc_cV F (zc_C4_lay hA (zc_y0_5 ha).1 hV.1) fun g4 F => ?_
  refine zc_rF F 8 ha ?_
  refine zc_rJ F (zc_y0_5 ha).1 fun v6 => ?_
  refine zc_pJ (zc_C5_bit F.2 u1.1) fun v7 => ?_
  dsimp only
  refine zm_if (fun c => zc_On F (by decide) (by unfold zv_rg; omega)) (fun c => ?_)
  refine zc_rF F 8 ha ?_
  refine zc_rJ F (zc_y0_5 ha).1 fun v9 => ?_
  refine zc_pJ (zc_C5_bit F.2 u1.1) fun v10 => ?_
  dsimp only
  refine zm_if (fun c => zc_On F (by decide) (by unfold zv_rg; omega)) (fun c => ?_)
  refine zc_rF F 8 ha ?_
  refine zc_pJ (zc_C4_leaningOn F.2 (zc_y0_5 ha).1 u1.1) fun v12 => ?_
  dsimp only
  refine zc_rF F 8 ha ?_
  refine zc_rJ F (zc_y0_5 ha).1 fun v14 => ?_
  refine zc_rF F 8 ha ?_
  refine zc_rJ F (zc_y0_5 ha).1 fun v16 => ?_
  exact zc_Ox ha F (zc_C0_turn F.2 ha (by unfold zv_rg; omega))
theorem zc_C0_giveBack {d : Nat} {h : zv_H} (hA : zc_A h) {a : Nat} {i : Int} (ha : zv_lay a = (1, 0)) (ri : zv_rg i) : zm_R (C0_giveBack (d + 4) a i h) (zc_O a h) := by
  have F := zc_Q_r hA
  have hV := zc_hV F ha
  refine zm_cI (P := fun v h' => zc_O a h (v, h')) (fun e => lC0_giveBack (zc_ob hA ha) e) ?_
  rw [qE0_giveBack]
  refine zc_pN (K := fun v => zc_U h a v) (zc_at2 hA ha ri) fun v u => ?_
  dsimp only
  refine zm_if (fun c => zc_On F (by decide) (by unfold zv_rg; omega)) (fun c => ?_)
  have u1 := (u.resolve_left c).1
  refine zc_rF F 8 ha ?_
  refine zc_rRo F ha ?_
  refine zc_cV F (zc_C4_lay hA (zc_y0_5 ha).1 hV.1) fun g4 F => ?_
  refine zc_rF F 8 ha ?_
  refine zc_rJ F (zc_y0_5 ha).1 fun v6 => ?_
  refine zc_pJ (zc_C5_bit F.2 u1.1) fun v7 => ?_
  dsimp only
  refine zm_if (fun c => zc_On F (by decide) (by unfold zv_rg; omega)) (fun c => ?_)
  refine zc_rF F 8 ha ?_
  refine zc_rJ F (zc_y0_5 ha).1 fun v9 => ?_
  refine zc_pJ (zc_C5_bit F.2 u1.1) fun v10 => ?_
  dsimp only
  refine zm_if (fun c => ?_) (fun c => zc_On F (by decide) (by unfold zv_rg; omega))
  refine zc_rF F 8 ha ?_
  refine zc_pJ (zc_C4_groundOf F.2 (zc_y0_5 ha).1 (zc_Vq F.1 u1)) fun v12 => ?_
  dsimp only
  refine zc_rF F 8 ha ?_
  refine zc_rJ F (zc_y0_5 ha).1 fun v14 => ?_
  refine zc_rF F 8 ha ?_
  refine zc_rJ F (zc_y0_5 ha).1 fun v16 => ?_
  exact zc_Ox ha F (zc_C0_turn F.2 ha (by unfold zv_rg; omega))
theorem zc_C0_carryOne {d : Nat} {h : zv_H} (hA : zc_A h) {a s : Nat} (ha : zv_lay a = (1, 0)) (hs : zc_V h s) : zm_R (C0_carryOne (d + 5) a s h) (zc_O a h) := by
  have F0 := zc_Q_r hA
  have hV := zc_hV F0 ha
  refine zm_cI (P := fun v h' => zc_O a h (v, h')) (fun e => lC0_carryOne (zc_ob hA ha) e) ?_
  have L91 : ∀ (n : Nat) (g : zv_H) (x i : Int), zc_Q h g → 0 ≤ i → (2147483647 - i).toNat = n → zv_rg i → zv_rg x → zm_R (L0_carryOne_91 (d + 4) a s x i g) (zc_Oi a h) := by
    intro n
    induction n using Nat.strongRecOn with
    | _ n ih =>
      intro g x i F h0 hn ri rx
      rw [qL0_carryOne_91]
      refine zc_rI F hs.1 fun v1 e1 r1 => ?_
      refine zm_if (fun c => ?_) (fun c => ?_)
      · refine zc_rF F 26 ha ?_
        refine zc_rI F hs.1 fun v3 e3 r3 => ?_
        refine zc_pI (K := fun _ => True) (zc_C4_id F.2 r3 ri) fun v4 r4 _ => ?_
        dsimp only
        refine zc_pI (K := fun _ => True) (zc_C0_glyph F.2 ha r4) fun v5 r5 _ => ?_
        dsimp only
        refine zc_cV F (zc_C7_add F.2 (zc_y0_9 ha).1 r5) fun g6 F => ?_
        exact ih _ (by rw [← hn]; exact zc_up ri r1 c) g6 x _ F (by rw [zc_up1 ri r1 c]; omega) rfl (zc_w _) rx
      · refine zc_rF F 26 ha ?_
        exact zc_Ox ha F (zc_C0_putWord F.2 ha (zc_y0_9 ha).1 rx)
  have L74 : ∀ (g : zv_H) (x : Int), zc_Q h g → zv_rg x → zm_R (L0_carryOne_74 (d + 4) a s x g) (zc_Oi a h) := by
    intro g x F rx
    rw [qL0_carryOne_74]
    refine zm_if (fun c => zc_On F (by decide) (by unfold zv_rg; omega)) (fun c => ?_)
    refine zc_rF F 26 ha ?_
    refine zc_cV F (zc_C7_clear F.2 (zc_y0_9 ha).1) fun g2 F => ?_
    exact L91 _ g2 x 0 F (by omega) rfl (by unfold zv_rg; omega) rx
  rw [qE0_carryOne]
  refine zc_rI F0 hs.1 fun v1 e1 r1 => ?_
  refine zm_if (fun c => ?_) (fun c => ?_)
  · refine zc_pI (K := fun _ => True) (zc_C0_firstTaken hA ha hs.1) fun v2 r2 _ => ?_
    dsimp only
    refine zc_pI (K := fun _ => True) (zc_C0_takenFrom hA ha hs.1 r2) fun v3 r3 _ => ?_
    dsimp only
    refine zm_if (fun c => zc_On F0 (by decide) (by unfold zv_rg; omega)) (fun c => ?_)
    exact zc_Ox ha F0 (zc_C0_cutOut hA ha r2 r3)
  · refine zc_rI F0 hs.1 fun v5 e5 r5 => ?_
    refine zm_if (fun c => L74 _ _ F0 (by unfold zv_rg; omega)) (fun c => ?_)
    refine zc_rF F0 8 ha ?_
    refine zc_rRo F0 ha ?_
    refine zc_cV F0 (zc_C4_lay hA (zc_y0_5 ha).1 hV.1) fun g8 F => ?_
    refine zc_rF F 8 ha ?_
    refine zc_rI F hs.1 fun v10 e10 r10 => ?_
    refine zc_pI (K := fun _ => True) (zc_C0_standOf F.2 ha r10) fun v11 r11 _ => ?_
    dsimp only
    refine zc_pI (K := fun _ => True) (zc_C4_seenUpTo F.2 (zc_y0_5 ha).1 r11) fun v12 r12 _ => ?_
    dsimp only
    exact L74 _ _ F r12
theorem zc_C0_carryOver {d : Nat} {h : zv_H} (hA : zc_A h) {a : Nat} {i : Int} (ha : zv_lay a = (1, 0)) (ri : zv_rg i) : zm_R (C0_carryOver (d + 6) a i h) (zc_O a h) := by
  have F := zc_Q_r hA
  have hV := zc_hV F ha
  refine zm_cI (P := fun v h' => zc_O a h (v, h')) (fun e => lC0_carryOver (zc_ob hA ha) e) ?_
  rw [qE0_carryOver]
  refine zc_pN (K := fun v => zc_U h a v) (zc_at2 hA ha ri) fun v u => ?_
  dsimp only
  refine zm_if (fun c => zc_On F (by decide) (by unfold zv_rg; omega)) (fun c => ?_)
  have u1 := (u.resolve_left c).1
  refine zc_pI (K := fun _ => True) (zc_C5_edits hA u1.1) fun v2 r2 _ => ?_
  dsimp only
  refine zm_if (fun c => zc_On F (by decide) (by unfold zv_rg; omega)) (fun c => ?_)
  refine zc_rRo F ha ?_
  refine zc_pI (K := fun _ => True) (zc_C0_onLine hA u1 (Or.inr hV.1)) fun v4 r4 _ => ?_
  dsimp only
  refine zm_if (fun c => ?_) (fun c => zc_On F (by decide) (by unfold zv_rg; omega))
  refine zc_cV F (zc_C0_standForThemselves hA ha) fun g5 F => ?_
  exact zc_Ox ha F (zc_C0_carryOne F.2 ha (zc_Vq F.1 u1))
/-! a chain of new States -/
def zc_C (a : Nat) : Nat → zv_H → Prop
  | 0, _ => True
  | n + 1, h => ∃ h1 s, zc_A h1 ∧ zc_C a n h1 ∧ zc_G a h1 h s
theorem zc_C_E {a : Nat} (ha : zv_lay a = (1, 0)) {n : Nat} {h h' : zv_H} (c : zc_C a n h) (f : zc_E h h') : zc_C a n h' := by
  cases n with
  | zero => trivial
  | succ n =>
    obtain ⟨h1, s, c1, c2, c3⟩ := c
    exact ⟨h1, s, c1, c2, zc_G_E ha c3 f⟩
def zc_M (a : Nat) (h : zv_H) (q : Int × zv_H) : Prop := zc_Y h q.2 ∧ zv_rg q.1 ∧ zc_C a q.1.toNat q.2
theorem zc_O_Y {a : Nat} {h : zv_H} {q : Int × zv_H} (o : zc_O a h q) : zc_Y h q.2 := by
  refine ⟨o.1, fun t hV => ?_⟩
  cases o.2.2 with
  | inl w => exact zc_Vq w.2.1 hV
  | inr w => obtain ⟨_, s, g⟩ := w; exact (zc_G_V g hV).1
theorem zc_C0_mergeIn {d : Nat} {h : zv_H} (hA : zc_A h) {a : Nat} {i : Int} (ha : zv_lay a = (1, 0)) (ri : zv_rg i) : zm_R (C0_mergeIn (d + 6) a i h) (zc_M a h) := by
  have F := zc_Q_r hA
  have hV := zc_hV F ha
  refine zm_cI (P := fun v h' => zc_M a h (v, h')) (fun e => lC0_mergeIn (zc_ob hA ha) e) ?_
  have no : ∀ v : Int, v < 0 → zv_rg v → zm_R (some (some (zv_i v), h)) (zm_I fun v h' => zc_M a h (v, h')) := fun v hv rv => by
    refine zm_iI ⟨zc_QY F, rv, ?_⟩
    have e : v.toNat = 0 := by omega
    show zc_C a v.toNat h
    rw [e]
    trivial
  rw [qE0_mergeIn]
  refine zc_pN (K := fun v => zc_U h a v) (zc_at2 hA ha ri) fun v u => ?_
  dsimp only
  refine zm_if (fun c => no _ (by decide) (by unfold zv_rg; omega)) (fun c => ?_)
  have u1 := (u.resolve_left c).1
  refine zc_rRo F ha ?_
  refine zc_pI (K := fun _ => True) (zc_C0_onLine hA u1 (Or.inr hV.1)) fun v3 r3 _ => ?_
  dsimp only
  refine zm_if (fun c => ?_) (fun c => no _ (by decide) (by unfold zv_rg; omega))
  refine zc_rF F 8 ha ?_
  refine zc_rRo F ha ?_
  refine zc_cV F (zc_C4_walk hA (zc_y0_5 ha).1 hV.1) fun g6 F => ?_
  refine zc_rF F 8 ha ?_
  refine zc_rJ F (zc_y0_5 ha).1 fun v8 => ?_
  refine zc_rF F 8 ha ?_
  refine zc_cV F (zc_C4_walk F.2 (zc_y0_5 ha).1 (zc_Vq F.1 u1)) fun g10 F => ?_
  refine zc_rF F 8 ha ?_
  refine zc_rJ F (zc_y0_5 ha).1 fun v12 => ?_
  refine zc_cV F (zc_C0_standForThemselves F.2 ha) fun g13 F => ?_
  refine zc_wO F ha (zc_frO ha (zc_lt ha (by decide)) (by decide) rfl (by decide)) (by unfold zv_rg; omega) fun g14 F => ?_
  have loop : ∀ (n : Nat) (g : zv_H) (m j : Int) (z : Int64), zc_Y h g → zc_C a m.toNat g → 0 ≤ m → m < j → j ≤ 48 → (48 - j).toNat = n → zm_R (L0_mergeIn_84 (d + 5) a v z m j g) (zm_I fun v h' => zc_M a h (v, h')) := by
    intro n
    induction n with
    | zero =>
      intro g m j z Y C h0 hm hj hn
      have F := zc_Q_r Y.1.2
      rw [qL0_mergeIn_84]
      refine zc_rI F u1.1 fun v1 e1 r1 => ?_
      have := (zc_dep F (Y.2 _ u1)).1
      rw [← e1] at this
      rw [if_neg (by omega)]
      exact zm_iI ⟨Y, by unfold zv_rg; omega, C⟩
    | succ n ih =>
      intro g m j z Y C h0 hm hj hn
      have F := zc_Q_r Y.1.2
      rw [qL0_mergeIn_84]
      refine zc_rI F u1.1 fun v1 e1 r1 => ?_
      have dp := (zc_dep F (Y.2 _ u1)).1
      rw [← e1] at dp
      refine zm_if (fun c => ?_) (fun c => zm_iI ⟨Y, by unfold zv_rg; omega, C⟩)
      rw [zm_w (show -2147483648 ≤ j + 1 ∧ j + 1 < 2147483648 by omega), zm_w (show -2147483648 ≤ m + 1 ∧ m + 1 < 2147483648 by omega)]
      refine zc_pN (K := fun v => (v = 0 ∨ zc_V g v)) (zc_C0_above F.2 (Or.inr (Y.2 _ u1)) (by unfold zv_rg; omega)) fun v2 u2 => ?_
      dsimp only
      refine zm_if (fun c => ih g m _ z Y C h0 (by omega) (by omega) (by omega)) (fun c => ?_)
      have u3 := u2.resolve_left c
      refine zc_pJ (zc_C5_bit F.2 u3.1) fun v3 => ?_
      dsimp only
      refine zm_if (fun c => ih g m _ z Y C h0 (by omega) (by omega) (by omega)) (fun c => ?_)
      obtain ⟨⟨v4, g4⟩, e4, O⟩ := zc_C0_carryOne (d := d) F.2 ha u3
      rw [zm_e e4]
      have Y4 : zc_Y h g4 := zc_Y_t Y (zc_O_Y O)
      have A4 : zc_A g4 := Y4.1.2
      have F4 := zc_Q_r A4
      have r4 : zv_rg v4 := O.2.1
      have O2 : (v4 < 0 ∧ zc_Q g g4) ∨ (0 ≤ v4 ∧ ∃ s, zc_G a g g4 s) := O.2.2
      dsimp only
      refine zm_if (fun c => ?_) (fun c => ?_)
      · cases O2 with
        | inr w => exact absurd w.1 (by omega)
        | inl w =>
          refine zc_rI F4 ha fun v5 e5 r5 => ?_
          refine zc_wO F4 ha (zc_frO ha (zc_lt ha (by decide)) (by decide) rfl (by decide)) (zc_w _) fun g6 F6 => ?_
          exact ih g6 m _ z (zc_Y_t Y4 (zc_QY F6)) (zc_C_E ha C (zc_E_t (zc_qE w.2.1) (zc_qE F6.1))) h0 (by omega) (by omega) (by omega)
      · cases O2 with
        | inl w => exact absurd w.1 c
        | inr w =>
          obtain ⟨_, s, G⟩ := w
          refine zc_rI F4 u3.1 fun v7 e7 r7 => ?_
          have nb := zc_num A4 u3.1
          rw [← e7] at nb
          rw [if_pos nb.2]
          refine zc_rF F4 6 ha ?_
          refine zc_rI F4 u3.1 fun v9 e9 r9 => ?_
          have nb := zc_num A4 u3.1
          rw [← e9] at nb
          refine zc_wA F4 (zc_y0_3 ha).1 (zc_y0_3 ha).2 (by omega) (by omega) r4 fun g10 F10 _ => ?_
          refine ih g10 (m + 1) _ z (zc_Y_t Y4 (zc_QY F10)) ?_ (by omega) (by omega) (by omega) (by omega)
          have em : (m + 1).toNat = m.toNat + 1 := by omega
          rw [em]
          exact ⟨g, s, Y.1.2, C, zc_G_q ha G F10.1⟩
  exact loop _ g14 0 1 _ (zc_QY F) trivial (by omega) (by omega) (by omega) rfl
end
/-! 99g.prune -/
section
/-! ===== the class: a State goes ===== -/
def zc_D (h h' : zv_H) (s : Nat) : Prop := (∀ t, zv_lay t = (1, 5) → zv_I h' t 3 = (if t = s then 0 else zv_I h t 3) ∧ zv_R h' t 4 = (if t = s then 0 else zv_R h t 4) ∧ (t ≠ s → zv_I h t 3 = 1 → zv_I h' t 11 = (if t = zv_R h s 4 then zv_I h t 11 - 1 else zv_I h t 11))) ∧ ∀ b, zv_lay b = (1, 0) → zv_R h' b 10 = zv_R h b 10
theorem zc_D_E {h h1 h2 : zv_H} {s : Nat} (d : zc_D h h1 s) (f : zc_E h1 h2) : zc_D h h2 s := by
  refine ⟨fun t ht => ⟨(f.1 t ht).1.trans (d.1 t ht).1, (f.1 t ht).2.1.trans (d.1 t ht).2.1, fun q q1 => ?_⟩, fun b hb => (f.2 b hb).trans (d.2 b hb)⟩
  have i := (d.1 t ht).1
  rw [if_neg q] at i
  exact ((f.1 t ht).2.2 (i.trans q1)).trans ((d.1 t ht).2.2 q q1)
theorem zc_removeA {h g : zv_H} {a s p : Nat} (hA : zc_A h) (ha : zv_lay a = (1, 0)) (hs : zc_V h s) (hf : zc_hf s = a) (h0 : zv_I h s 11 = 0) (hn : zv_R h a 10 ≠ s) (hp : p = zv_R h s 4) (g1 : g.1 = h.1)
  (iO : ∀ r k, ¬ (r = s ∧ k = 3) → ¬ (p ≠ 0 ∧ r = p ∧ k = 11) → zv_I g r k = zv_I h r k)
  (rO : ∀ r k, ¬ (r = s ∧ k = 4) → zv_R g r k = zv_R h r k)
  (rg : ∀ r k, r < 347 → zv_rg (zv_I g r k)) (is3 : zv_I g s 3 = 0) (rs4 : zv_R g s 4 = 0) (ip : p ≠ 0 → zv_I g p 11 = zv_I h p 11 - 1) : zc_A g ∧ zc_D h g s := by
  have F := zc_Q_r hA
  obtain ⟨i0, hi, es⟩ := zc_l5i hs.1
  rw [hf] at es
  have lf := fun {t : Nat} (ht : zv_lay t = (1, 5)) => zc_leaf hA hs h0 ht
  have dp := zc_dep F hs
  have hpV : p ≠ 0 → zc_V h p ∧ zc_hf p = a := fun q => by
    rw [hp] at q ⊢
    have := dp.2.resolve_left q
    exact ⟨this.1, this.2.1.trans hf⟩
  have nep : p ≠ s := fun e => lf hs.1 (hp.symm.trans e)
  have ls : ∀ r x, zv_lay r = x → x ≠ (1, 5) → r ≠ s := fun r x e n q => n (by rw [← e, q, hs.1])
  have l4 : ∀ a', zv_lay a' = (1, 0) → zv_lay (a' + 4) = (6, 48) := fun a' h' => by cases zc_lh h' with
    | inl e => rw [e]; rfl
    | inr e => rw [e]; rfl
  have l17 : ∀ r, zv_lay r = (1, 4) → zv_lay (r + 1) = (6, 48) := fun a' h' => by cases zc_l4 h' with
    | inl e => rw [e]; rfl
    | inr e => rw [e]; rfl
  have hB := hA.1
  have B : zc_B g := by
    refine ⟨?_, fun r k hr hk => ?_, fun a' i h' hi' => ?_, ?_, rg, fun r c k m hr hm => ?_, fun r k hr => ?_, fun a' i h' hi' => ?_⟩
    · unfold zv_n
      rw [g1]
      exact hB.1
    · rw [rO r k (fun q => ?_)]
      · exact hB.2.1 r k hr hk
      · rw [q.1, hs.1, q.2] at hk
        exact hk rfl
    · rw [rO _ _ (fun q => ls _ _ (l4 a' h') (by decide) q.1)]
      exact hB.2.2.1 a' i h' hi'
    · rw [rO 1 3 (fun q => absurd q.2 (by decide)), rO 1 4 (fun q => ls 1 (1, 8) rfl (by decide) q.1)]
      exact hB.2.2.2.1
    · rw [iO r k (fun q => ?_) (fun q => ?_)]
      · exact hB.2.2.2.2.2.1 r c k m hr hm
      · rw [q.1, hs.1] at hr
        cases hr
        rw [q.2] at hm
        cases hm
      · rw [q.2.1, (hpV q.1).1.1] at hr
        cases hr
        rw [q.2.2] at hm
        cases hm
    · rw [rO _ _ (fun q => ls _ _ (l17 r hr) (by decide) q.1)]
      exact hB.2.2.2.2.2.2.1 r k hr
    · rw [iO _ _ (fun q => by cases q.2) (fun q => by cases q.2.2)]
      exact hB.2.2.2.2.2.2.2 a' i h' hi'
  have i3 : ∀ t, t ≠ s → zv_I g t 3 = zv_I h t 3 := fun t e => iO _ _ (fun q => e q.1) (fun q => by cases q.2.2)
  have i10 : ∀ t, zv_I g t 10 = zv_I h t 10 := fun t => iO _ _ (fun q => by cases q.2) (fun q => by cases q.2.2)
  have r4 : ∀ t, zv_lay t = (1, 5) → t ≠ s → zv_R g t 4 = zv_R h t 4 := fun t ht e => rO _ _ (fun q => e q.1)
  have r5 : ∀ t, zv_R g t 5 = zv_R h t 5 := fun t => rO _ _ (fun q => by cases q.2)
  have r10 : ∀ t, zv_R g t 10 = zv_R h t 10 := fun t => rO _ _ (fun q => by cases q.2)
  have cnt : ∀ r, r ≠ 0 → zc_ch h r 48 = zc_ch g r 48 + (if r = p then 1 else 0) := fun r hr => by
    rw [zc_ch_add ha hi es rs4 hp.symm (fun t ht e => (r4 t ht e).symm) hr (fun q => (hpV (by rw [← q]; exact hr)).2.symm ▸ by rw [q]) 48 (Nat.le_refl _)]
    by_cases c : r = p
    · rw [if_pos ⟨c, hi⟩, if_pos c]
    · rw [if_neg (fun q => c q.1), if_neg c]
  have e11 : ∀ t, zv_lay t = (1, 5) → zv_I g t 11 = (if t = p then zv_I h t 11 - 1 else zv_I h t 11) := fun t ht => by
    by_cases c : t = p
    · rw [if_pos c, c]
      exact ip (by rw [← c]; exact zc_nz ht)
    · rw [if_neg c]
      exact iO _ _ (fun q => by cases q.2) (fun q => c q.2.1)
  have T : zc_T g := by
    refine ⟨fun t ht => ?_, fun b hb => ?_⟩
    · by_cases e : t = s
      · rw [e]
        exact Or.inl ⟨is3, rs4⟩
      · have nl := lf ht
        cases hA.2.1 t ht with
        | inl u => exact Or.inl ⟨(i3 t e).trans u.1, (r4 t ht e).trans u.2⟩
        | inr u =>
          refine Or.inr ⟨(i3 t e).trans u.1, by rw [i10 t]; exact u.2.1, ?_, ?_, ?_⟩
          · rw [r4 t ht e, i10 t, i10]
            cases u.2.2.1 with
            | inl w => exact Or.inl w
            | inr w => exact Or.inr ⟨w.1, (i3 _ nl).trans w.2.1, w.2.2.1, w.2.2.2⟩
          · rw [r4 t ht e, r5 t, r5]
            exact u.2.2.2.1
          · have := cnt t (zc_nz ht)
            have u1 := u.2.2.2.2
            rw [e11 t ht]
            by_cases c : t = p
            · rw [if_pos c] at this ⊢; omega
            · rw [if_neg c] at this ⊢; omega
    · have u := hA.2.2 b hb
      rw [r10 b]
      refine ⟨u.1, ?_, u.2.2⟩
      rw [i3 _ (fun q => ?_)]
      · exact u.2.1
      · by_cases e : b = a
        · rw [e] at q; exact hn q
        · have := u.2.2
          rw [q, hf] at this
          exact e this.symm
  refine ⟨⟨B, T⟩, fun t ht => ⟨?_, ?_, fun q _ => ?_⟩, fun b hb => r10 b⟩
  · by_cases e : t = s
    · rw [if_pos e, e]; exact is3
    · rw [if_neg e]; exact i3 t e
  · by_cases e : t = s
    · rw [if_pos e, e]; exact rs4
    · rw [if_neg e]; exact r4 t ht e
  · rw [e11 t ht, hp]
theorem zc_C0_remove {d : Nat} {h : zv_H} (hA : zc_A h) {a s : Nat} (ha : zv_lay a = (1, 0)) (hs : zc_V h s) (hf : zc_hf s = a) (h0 : zv_I h s 11 = 0) (hn : zv_R h a 10 ≠ s) : zm_R (C0_remove (d + 2) a s h) (fun h' => zc_X h h' ∧ zc_D h h' s) := by
  have F := zc_Q_r hA
  refine zm_cV (fun e => lC0_remove (zc_ob hA ha) e) ?_
  have lts := zc_lt hs.1 (by decide)
  have s5 : 5 ≠ s := fun e => by have := hs.1; rw [← e] at this; exact absurd this (by decide)
  have dp := zc_dep F hs
  have fin : ∀ g, zc_A (zv_sR g s 4 0) → zc_P h (zv_sR g s 4 0) → zc_D h (zv_sR g s 4 0) s → zv_ob g s 5 → zm_R (L0_remove_25 (d + 1) a s g) (zm_V fun h' => zc_X h h' ∧ zc_D h h' s) := fun g A1 P1 D1 ob => by
    rw [qL0_remove_25, zm_e (show zv_pR g s 5 4 0 = some _ from if_pos ob)]
    generalize zv_sR g s 4 0 = g1 at A1 P1 D1
    have F := zc_Q_r A1
    refine zc_rF F 17 ha ?_
    refine zc_rI F hs.1 fun v3 e3 r3 => ?_
    refine zc_cV F (zc_C6_forget A1 (zc_y0_7 ha).1 r3) fun g4 F => ?_
    refine zc_rI F ha fun v5 e5 r5 => ?_
    refine zc_wO F ha (zc_frO ha (zc_lt ha (by decide)) (by decide) rfl (by decide)) (zc_w _) fun g6 F => ?_
    exact zm_iV ⟨⟨zc_P_t P1 (zc_qP F.1), F.2⟩, zc_D_E D1 (zc_qE F.1)⟩
  have r0 : zv_rg 0 := by unfold zv_rg; omega
  have st : ∀ (g : zv_H) (r' k' : Nat) (v : Int), (∀ r k, r < 347 → zv_rg (zv_I g r k)) → zv_rg v → ∀ r k, r < 347 → zv_rg (zv_I (zv_sI g r' k' v) r k) := fun g r' k' v hg hv r k hr => by
    by_cases q : r = r' ∧ k = k'
    · rw [q.1, q.2, zc_sI2]; exact hv
    · rw [zc_sI1 _ _ _ _ q]; exact hg r k hr
  rw [qE0_remove]
  refine zc_dZ (zc_ob hA hs.1) (Or.inl rfl) ?_
  refine zc_eR (zc_ob hA hs.1) (v := zv_R h s 4) rfl ?_
  by_cases c : zv_R h s 4 = 0
  · rw [if_pos c]
    have K := zc_removeA (g := zv_sR (zv_sI h s 3 0) s 4 0) hA ha hs hf h0 hn rfl rfl (fun r k c1 c2 => zc_sI1 _ _ _ _ c1) (fun r k c1 => if_neg c1) (fun r k hr => st _ _ _ _ (fun r k hr => zc_rg hA hr k) r0 r k hr) (zc_sI2 _ _ _ _) (if_pos ⟨rfl, rfl⟩) (fun q => absurd c q)
    refine fin _ K.1 ⟨rfl, rfl, fun r hr => ⟨?_, rfl, ?_⟩, ?_⟩ K.2 (zc_ob hA hs.1)
    · exact zc_sIo _ _ _ _ (by omega)
    · exact zc_sRo _ _ _ _ (by omega)
    · exact zc_sI1 _ _ _ _ (fun q => s5 q.1)
  · rw [if_neg c]
    have u := dp.2.resolve_left c
    have nep : zv_R h s 4 ≠ s := fun e => zc_leaf hA hs h0 hs.1 e
    have ltp := zc_lt u.1.1 (by decide)
    have p5 : 5 ≠ zv_R h s 4 := fun e => by have := u.1.1; rw [← e] at this; exact absurd this (by decide)
    have cb := zc_chb hA u.1
    refine zc_eR (zc_ob hA hs.1) (v := zv_R h s 4) rfl ?_
    refine zc_eI (zc_ob hA u.1.1) (v := zv_I h (zv_R h s 4) 11) (zc_sI1 _ _ _ _ (fun q => nep q.1)) ?_
    refine zc_dI (zc_ob hA u.1.1) ?_
    rw [zm_w (by omega)]
    have K := zc_removeA (g := zv_sR (zv_sI (zv_sI h s 3 0) (zv_R h s 4) 11 (zv_I h (zv_R h s 4) 11 - 1)) s 4 0) hA ha hs hf h0 hn rfl rfl (fun r k c1 c2 => ?_) (fun r k c1 => if_neg c1) (fun r k hr => st _ _ _ _ (st _ _ _ _ (fun r k hr => zc_rg hA hr k) r0) (by unfold zv_rg; omega) r k hr) ?_ (if_pos ⟨rfl, rfl⟩) (fun q => zc_sI2 _ _ _ _)
    · refine fin _ K.1 ⟨rfl, rfl, fun r hr => ⟨?_, rfl, ?_⟩, ?_⟩ K.2 (zc_ob hA hs.1)
      · exact (zc_sIo _ _ _ _ (by omega)).trans (zc_sIo _ _ _ _ (by omega))
      · exact zc_sRo _ _ _ _ (by omega)
      · exact (zc_sI1 _ _ _ _ (fun q => p5 q.1)).trans (zc_sI1 _ _ _ _ (fun q => s5 q.1))
    · exact (zc_sI1 _ _ _ _ (fun q => c2 ⟨c, q.1, q.2⟩)).trans (zc_sI1 _ _ _ _ c1)
    · exact (zc_sI1 _ _ _ _ (fun q => nep q.1.symm)).trans (zc_sI2 _ _ _ _)
theorem zc_toGo {d : Nat} {h : zv_H} (hA : zc_A h) {a : Nat} (ha : zv_lay a = (1, 0)) : zm_R (C0_nextToGo (d + 2) a h) (fun q => q.2 = h ∧ (q.1 = 0 ∨ (zc_V h q.1 ∧ zc_hf q.1 = a ∧ zv_I h q.1 11 = 0 ∧ zv_R h a 10 ≠ q.1))) := by
  have F := zc_Q_r hA
  have hV := zc_hV F ha
  refine zm_cN (P := fun v h' => h' = h ∧ (v = 0 ∨ (zc_V h v ∧ zc_hf v = a ∧ zv_I h v 11 = 0 ∧ zv_R h a 10 ≠ v))) (fun e => lC0_nextToGo (zc_ob hA ha) e) ?_
  have loop : ∀ (n : Nat) (i : Int) (f : Nat), 0 ≤ i → (f = 0 ∨ (zc_V h f ∧ zc_hf f = a ∧ zv_I h f 11 = 0 ∧ zv_R h a 10 ≠ f)) → (48 - i).toNat = n → zm_R (L0_nextToGo_4 (d + 1) a f i h) (zm_N fun v h' => h' = h ∧ (v = 0 ∨ (zc_V h v ∧ zc_hf v = a ∧ zv_I h v 11 = 0 ∧ zv_R h a 10 ≠ v))) := by
    intro n
    induction n with
    | zero =>
      intro i f h0 hu hn
      rw [qL0_nextToGo_4, if_neg (by omega)]
      exact zm_iN ⟨rfl, hu⟩
    | succ n ih =>
      intro i f h0 hu hn
      rw [qL0_nextToGo_4, if_pos (by omega)]
      refine zc_pN (K := fun v => zc_U h a v) (zc_at2 hA ha (by unfold zv_rg; omega)) fun v u => ?_
      dsimp only
      rw [zm_w (show -2147483648 ≤ i + 1 ∧ i + 1 < 2147483648 by omega)]
      have nx : ∀ f, (f = 0 ∨ (zc_V h f ∧ zc_hf f = a ∧ zv_I h f 11 = 0 ∧ zv_R h a 10 ≠ f)) → zm_R (L0_nextToGo_4 (d + 1) a f (i + 1) h) (zm_N fun v h' => h' = h ∧ (v = 0 ∨ (zc_V h v ∧ zc_hf v = a ∧ zv_I h v 11 = 0 ∧ zv_R h a 10 ≠ v))) := fun f hf => ih _ f (by omega) hf (by omega)
      refine zm_if (fun c => nx f hu) (fun c => ?_)
      have u1 := u.resolve_left c
      have w1 := zv_lay_lt (zc_ly u1.1.1)
      have w2 := zv_lay_lt (zc_ly hV.1.1)
      refine zc_rRo F ha ?_
      rw [if_neg (by omega)]
      refine zm_if (fun c => nx f hu) (fun c1 => ?_)
      refine zc_rI F u1.1.1 fun v3 e3 r3 => ?_
      refine zm_if (fun c2 => ?_) (fun c => nx f hu)
      have good : v = 0 ∨ (zc_V h v ∧ zc_hf v = a ∧ zv_I h v 11 = 0 ∧ zv_R h a 10 ≠ v) := Or.inr ⟨u1.1, u1.2, e3.symm.trans c2, fun q => c1 q.symm⟩
      refine zc_rF F 14 ha ?_
      refine zc_pI (K := fun _ => True) (zc_C2_countOf hA (zc_y0_6 ha).1 (by unfold zv_rg; omega)) fun v5 r5 _ => ?_
      dsimp only
      refine zm_if (fun c => ?_) (fun c => nx f hu)
      refine zm_if (fun c => nx v good) (fun c => ?_)
      refine zc_rI F u1.1.1 fun v6 e6 r6 => ?_
      refine zc_rI F (hu.resolve_left c).1.1 fun v7 e7 r7 => ?_
      exact zm_if (fun c => nx v good) (fun c => nx f hu)
  rw [qE0_nextToGo]
  exact loop _ 1 0 (by omega) (Or.inl rfl) rfl
theorem zc_C0_pruneTo {d : Nat} {h : zv_H} (hA : zc_A h) {a : Nat} {x : Int} (ha : zv_lay a = (1, 0)) (rx : zv_rg x) : zm_R (C0_pruneTo (d + 3) a x h) (fun q => zc_X h q.2 ∧ zv_rg q.1) := by
  have F := zc_Q_r hA
  refine zm_cI (P := fun v h' => zc_X h h' ∧ zv_rg v) (fun e => lC0_pruneTo (zc_ob hA ha) e) ?_
  have loop : ∀ (n : Nat) (g : zv_H) (i : Int), zc_X h g → 0 ≤ i → i ≤ 48 → (48 - i).toNat = n → zm_R (L0_pruneTo_14 (d + 2) a x i g) (zm_I fun v h' => zc_X h h' ∧ zv_rg v) := by
    intro n
    induction n with
    | zero =>
      intro g i X h0 h4 hn
      have stop : zm_R (some (some (zv_i i), g)) (zm_I fun v h' => zc_X h h' ∧ zv_rg v) := zm_iI ⟨X, by unfold zv_rg; omega⟩
      rw [qL0_pruneTo_14]
      refine zc_rI (zc_Q_r X.2) ha fun v1 e1 r1 => ?_
      refine zm_if (fun c => stop) (fun c => ?_)
      rw [if_neg (by omega)]
      exact stop
    | succ n ih =>
      intro g i X h0 h4 hn
      have stop : zm_R (some (some (zv_i i), g)) (zm_I fun v h' => zc_X h h' ∧ zv_rg v) := zm_iI ⟨X, by unfold zv_rg; omega⟩
      rw [qL0_pruneTo_14]
      refine zc_rI (zc_Q_r X.2) ha fun v1 e1 r1 => ?_
      refine zm_if (fun c => stop) (fun c => ?_)
      rw [if_pos (by omega)]
      refine zc_pN (K := fun v => (v = 0 ∨ (zc_V g v ∧ zc_hf v = a ∧ zv_I g v 11 = 0 ∧ zv_R g a 10 ≠ v))) (zc_toGo X.2 ha) fun v u => ?_
      dsimp only
      refine zm_if (fun c => stop) (fun c => ?_)
      obtain ⟨u1, u2, u3, u4⟩ := u.resolve_left c
      obtain ⟨g3, e3, D⟩ := zc_C0_remove (d := d) X.2 ha u1 u2 u3 u4
      rw [zm_e e3, zm_w (by omega)]
      exact ih g3 _ (zc_X_t X D.1) (by omega) (by omega) (by omega)
  rw [qE0_pruneTo]
  refine zc_pI (K := fun v => (v = 0 ∨ v = 1)) (zc_C8_within hA rx (by unfold zv_rg; omega) (by unfold zv_rg; omega)) fun v1 r1 _ => ?_
  dsimp only
  refine zm_if (fun c => zm_iI ⟨zc_X_r hA, by unfold zv_rg; omega⟩) (fun c => ?_)
  exact loop _ h 0 (zc_X_r hA) (by omega) (by omega) rfl
/-- a copy between arrays of ints -/
theorem zc_cpQ {h : zv_H} (hA : zc_A h) {s t : Nat} (hs : zv_lay s = (2, 40)) (ht : zv_lay t = (2, 40)) (hl : t < 347) (hl2 : s < 347) (hn : s ≠ t) : ∃ h', zv_cy h s 0 t 0 40 = some h' ∧ zc_Q h h' := by
  refine ⟨_, if_pos ⟨⟨zc_n hA.1 (zc_ly hs), zc_n hA.1 (zc_ly ht), by rw [hs], by rw [ht]⟩, by decide, by rw [hs]; decide, by rw [ht]; decide, hn⟩, ?_⟩
  have o : ∀ r k, r ≠ t → zv_I (zv_cp h s (Int.toNat 0) t (Int.toNat 0) (Int.toNat 40)) r k = zv_I h r k := fun r k e => if_neg (fun q => e q.1)
  have on : ∀ r c, zv_lay r = (1, c) → r ≠ t := fun r c e q => by rw [q, ht] at e; cases e
  have q : zc_q h (zv_cp h s (Int.toNat 0) t (Int.toNat 0) (Int.toNat 40)) := by
    refine ⟨rfl, rfl, fun r hr => ⟨?_, rfl⟩, fun _ _ _ => rfl, fun r hr => ⟨o r 0 (on r _ hr), o r 3 (on r _ hr), o r 10 (on r _ hr), o r 11 (on r _ hr)⟩, o 5 2 (on 5 3 rfl)⟩
    funext k
    exact o r k (by omega)
  obtain ⟨b1, b2, b3, b4, b5, b6, b7, b8⟩ := hA.1
  refine ⟨q, ⟨b1, b2, b3, b4, fun r k hr => ?_, fun r c k m hr hm => ?_, b7, fun a i ha hi => ?_⟩, zc_T_q q hA.2⟩
  · show zv_rg (if r = t ∧ Int.toNat 0 ≤ k ∧ k < Int.toNat 0 + Int.toNat 40 then h.2.1 s (Int.toNat 0 + (k - Int.toNat 0)) else h.2.1 r k)
    by_cases c : r = t ∧ Int.toNat 0 ≤ k ∧ k < Int.toNat 0 + Int.toNat 40
    · rw [if_pos c]; exact b5 _ _ hl2
    · rw [if_neg c]; exact b5 _ _ hr
  · rw [o r k (on r c hr)]
    exact b6 r c k m hr hm
  · exact (o _ 0 (on _ _ (zc_stl ha hi).1)).trans (b8 a i ha hi)
theorem zc_cyQ {α : Type} {h0 h : zv_H} {P : α → Prop} (F : zc_Q h0 h) {s t : Nat} (hs : zv_lay s = (2, 40)) (ht : zv_lay t = (2, 40)) (hl : t < 347) (hl2 : s < 347) (hn : s ≠ t) {g : zv_H → Option α} (n : ∀ h', zc_Q h0 h' → zm_R (g h') P) : zm_R ((zv_cy h s 0 t 0 40).bind g) P := by
  obtain ⟨h', e, q⟩ := zc_cpQ F.2 hs ht hl hl2 hn
  rw [zm_e e]
  exact n h' (zc_Q_t F q)
theorem zc_C6_keep {d : Nat} {h : zv_H} (hA : zc_A h) {r : Nat} (hr : zv_lay r = (1, 6)) : zm_R (C6_keep (d + 1) r h) (fun h' => zc_Q h h') := by
  have F := zc_Q_r hA
  refine zm_cV (fun e => lC6_keep (zc_ob hA hr) e) ?_
  rw [qE6_keep]
  refine zc_rF F 1 hr ?_
  refine zc_rF F 3 hr ?_
  refine zc_cyQ F (zc_y6_0 hr).1 (zc_y6_2 hr).1 (zc_y6_2 hr).2 (zc_y6_0 hr).2 (by omega) fun g3 F => ?_
  refine zc_rF F 2 hr ?_
  refine zc_rF F 4 hr ?_
  refine zc_cyQ F (zc_y6_1 hr).1 (zc_y6_3 hr).1 (zc_y6_3 hr).2 (zc_y6_1 hr).2 (by omega) fun g6 F => ?_
  refine zc_rI F hr fun v7 e7 r7 => ?_
  refine zc_wO F hr (zc_frO hr (zc_lt hr (by decide)) (by decide) rfl (by decide)) r7 fun g8 F => ?_
  exact zm_iV F
theorem zc_C6_giveBack {d : Nat} {h : zv_H} (hA : zc_A h) {r : Nat} (hr : zv_lay r = (1, 6)) : zm_R (C6_giveBack (d + 1) r h) (fun h' => zc_Q h h') := by
  have F := zc_Q_r hA
  refine zm_cV (fun e => lC6_giveBack (zc_ob hA hr) e) ?_
  rw [qE6_giveBack]
  refine zc_rF F 3 hr ?_
  refine zc_rF F 1 hr ?_
  refine zc_cyQ F (zc_y6_2 hr).1 (zc_y6_0 hr).1 (zc_y6_0 hr).2 (zc_y6_2 hr).2 (by omega) fun g3 F => ?_
  refine zc_rF F 4 hr ?_
  refine zc_rF F 2 hr ?_
  refine zc_cyQ F (zc_y6_3 hr).1 (zc_y6_1 hr).1 (zc_y6_1 hr).2 (zc_y6_3 hr).2 (by omega) fun g6 F => ?_
  refine zc_rI F hr fun v7 e7 r7 => ?_
  refine zc_wO F hr (zc_frO hr (zc_lt hr (by decide)) (by decide) rfl (by decide)) r7 fun g8 F => ?_
  exact zm_iV F
theorem zc_C0_mergeOnPaper {d : Nat} {h : zv_H} (hA : zc_A h) {a : Nat} {x y : Int} (ha : zv_lay a = (1, 0)) (rx : zv_rg x) : zm_R (C0_mergeOnPaper (d + 7) a x y h) (fun q => zc_X h q.2 ∧ zv_rg q.1) := by
  have F := zc_Q_r hA
  have hV := zc_hV F ha
  have wV := zv_lay_lt (zc_ly hV.1.1)
  refine zm_cI (P := fun v h' => zc_X h h' ∧ zv_rg v) (fun e => lC0_mergeOnPaper (zc_ob hA ha) e) ?_
  have fin : ∀ (g : zv_H) (v : Int), zc_X h g → zv_rg v → zm_R (L0_mergeOnPaper_112 (d + 6) a v g) (zm_I fun v h' => zc_X h h' ∧ zv_rg v) := fun g v X rv => by
    rw [qL0_mergeOnPaper_112]
    have F := zc_Q_r X.2
    refine zc_rF F 17 ha ?_
    refine zc_cV F (zc_C6_giveBack F.2 (zc_y0_7 ha).1) fun g2 F => ?_
    exact zm_iI ⟨zc_X_t X (zc_QX F), rv⟩
  have loop : ∀ (n : Nat) (g : zv_H) (m v i : Int), zc_X h g → zc_C a n g → 0 ≤ i → (m - i).toNat = n → zv_rg m → zv_rg v → zm_R (L0_mergeOnPaper_60 (d + 6) a (zv_R h a 10) m v i g) (zm_I fun v h' => zc_X h h' ∧ zv_rg v) := by
    intro n
    induction n with
    | zero =>
      intro g m v i X C h0 hn rm rv
      rw [qL0_mergeOnPaper_60, if_neg (by omega)]
      exact fin g v X rv
    | succ n ih =>
      intro g m v i X C h0 hn rm rv
      have F := zc_Q_r X.2
      obtain ⟨h1, s, A1, C1, G⟩ := C
      obtain ⟨g1, g2, g3, g4, g5, g6, g7, g8, g9, g10⟩ := G
      have hV1 := zc_hV (zc_Q_r A1) ha
      have w1 := zv_lay_lt (zc_ly g1)
      have ns : zv_R h1 a 10 ≠ s := fun e => by have := hV1.1.2; rw [e, g3] at this; cases this
      have Vp : zc_V g (zv_R h1 a 10) := ⟨hV1.1.1, (g9 _ hV1.1.1 ns).1.trans hV1.1.2⟩
      rw [qL0_mergeOnPaper_60, if_pos (by omega), zm_e (zc_gR X.2 ha 10), g8, if_neg (by omega)]
      refine zm_if (fun c => fin g v X rv) (fun c => ?_)
      rw [zm_e (zc_gR X.2 ha 10), g8, zm_e (zc_gR X.2 g1 4), g7]
      refine zm_if (fun c => fin g v X rv) (fun c => ?_)
      rw [zm_e (zc_gR X.2 ha 10), g8, zm_e (zc_gR X.2 g1 4), g7, zm_e (show zv_pR g a 0 10 _ = some _ from if_pos (zc_ob X.2 ha))]
      have A2 := zc_hereA X.2 ha Vp hV1.2
      have P2 := zc_hereP (h := g) (s := zv_R h1 a 10) ha
      have r10 : zv_R (zv_sR g a 10 (zv_R h1 a 10)) a 10 = zv_R h1 a 10 := if_pos ⟨rfl, rfl⟩
      have o4 : ∀ t, zv_R (zv_sR g a 10 (zv_R h1 a 10)) t 4 = zv_R g t 4 := fun t => if_neg (fun q => absurd q.2 (by decide))
      have ob10 : ∀ b, b ≠ a → zv_R (zv_sR g a 10 (zv_R h1 a 10)) b 10 = zv_R g b 10 := fun b hb => if_neg (fun q => hb q.1)
      have oI : ∀ t k, zv_I (zv_sR g a 10 (zv_R h1 a 10)) t k = zv_I g t k := fun _ _ => rfl
      obtain ⟨g7', e7, X7, D⟩ := zc_C0_remove (d := d + 4) A2 (s := s) ha ⟨g1, g5⟩ g2 g6 (by rw [r10]; exact ns)
      rw [zm_e e7, zm_w (by unfold zv_rg at rm; omega)]
      refine ih g7' m v _ (zc_X_t (zc_X_t X ⟨P2, A2⟩) X7) (zc_C_E ha C1 ?_) (by omega) (by omega) rm rv
      refine ⟨fun t ht => ?_, fun b hb => ?_⟩
      · have dt := D.1 t ht
        rw [oI, oI, o4, o4] at dt
        by_cases e : t = s
        · rw [if_pos e, if_pos e] at dt
          rw [e] at dt ⊢
          exact ⟨dt.1.trans g3.symm, dt.2.1.trans g4.symm, fun q => by rw [g3] at q; cases q⟩
        · rw [if_neg e, if_neg e] at dt
          have gt := g9 t ht e
          refine ⟨dt.1.trans gt.1, dt.2.1.trans gt.2.1, fun q => ?_⟩
          rw [dt.2.2 e (gt.1.trans q), g7, gt.2.2 q]
          by_cases c : t = zv_R h1 a 10
          · rw [if_pos c, if_pos c]; omega
          · rw [if_neg c, if_neg c]
      · rw [D.2 b hb]
        by_cases e : b = a
        · rw [e]; exact r10
        · rw [ob10 b e]
          exact g10 b hb e
  rw [qE0_mergeOnPaper]
  refine zc_rRo F ha ?_
  refine zc_rF F 17 ha ?_
  refine zc_cV F (zc_C6_keep hA (zc_y0_7 ha).1) fun g3 F3 => ?_
  obtain ⟨⟨v4, g4⟩, e4, Y, r4, C⟩ := zc_C0_mergeIn (d := d) F3.2 ha rx
  rw [zm_e e4]
  have X4 : zc_X h g4 := zc_X_t (zc_QX F3) Y.1
  have r4' : zv_rg v4 := r4
  have C4 : zc_C a v4.toNat g4 := C
  have F4 := zc_Q_r X4.2
  dsimp only
  refine zm_if (fun c => zm_iI ⟨X4, r4'⟩) (fun c => ?_)
  have go : ∀ w, zv_rg w → zm_R (L0_mergeOnPaper_60 (d + 6) a (zv_R h a 10) v4 w 0 g4) (zm_I fun v h' => zc_X h h' ∧ zv_rg v) := fun w rw' => loop v4.toNat g4 v4 w 0 X4 C4 (by omega) (by omega) r4' rw'
  refine zm_if (fun c => go _ r4') (fun c => ?_)
  refine zm_if (fun c => ?_) (fun c => ?_)
  · refine zc_rI F4 ha fun v5 e5 r5 => ?_
    exact go _ r5
  · refine zc_rRo F4 ha ?_
    refine zc_rI F4 (zc_hV F4 ha).1.1 fun v7 e7 r7 => ?_
    exact go _ r7
end
/-! 99h.begin -/
section
/-! ===== the class: all anew ===== -/
/-- what is as it must be of a half, also while the other one isn't made -/
def zc_Bh (a : Nat) (h : zv_H) : Prop := (∀ r, a ≤ r → r < a + 169 → r ≤ zv_n h) ∧ (∀ r k, a ≤ r → r < a + 169 → (zv_lay r).1 = 1 → zc_off (zv_lay r).2 k ≠ 0 → zv_R h r k = r + zc_off (zv_lay r).2 k) ∧ (∀ i, i < 48 → zv_R h (a + 4) i = zc_stt a i) ∧ ∀ r k, r < 347 → zv_rg (zv_I h r k)
theorem zc_sttb {a i : Nat} (hi : i < 48) : a + 1 ≤ zc_stt a i ∧ zc_stt a i + 2 < a + 169 := by
  unfold zc_stt
  by_cases c : i = 0
  · rw [if_pos c]; omega
  · rw [if_neg c]; omega
def zc_bj (a : Nat) (h0 h : zv_H) (j : Nat) : Prop := zv_I h (zc_stt a j) 0 = zv_I h0 (zc_stt a j) 0 ∧ zv_I h (zc_stt a j) 3 = (if j = 0 then 1 else 0) ∧ zv_R h (zc_stt a j) 4 = 0 ∧ zv_R h (zc_stt a j) 5 = zc_stt a j ∧ zv_I h (zc_stt a j) 10 = 0 ∧ zv_I h (zc_stt a j) 11 = 0 ∧ zv_I h (zc_stt a j) 12 = 0 ∧ (∀ k, zv_rg (zv_I h (zc_stt a j) k)) ∧ ∀ k, k ≠ 4 → k ≠ 5 → zv_R h (zc_stt a j) k = zv_R h0 (zc_stt a j) k
def zc_bs (a : Nat) (h0 h : zv_H) (i : Nat) : Prop := h.1 = h0.1 ∧ h.2.2.2.2 = h0.2.2.2.2 ∧ (∀ r, (∀ j, j < i → r ≠ zc_stt a j) → h.2.1 r = h0.2.1 r ∧ h.2.2.1 r = h0.2.2.1 r ∧ h.2.2.2.1 r = h0.2.2.2.1 r) ∧ ∀ j, j < i → zc_bj a h0 h j
theorem zc_bs_step {d : Nat} {a : Nat} {h0 h : zv_H} (ha : zv_lay a = (1, 0)) (hB : zc_Bh a h0) {i : Nat} (hi : i < 48) (hs : zc_bs a h0 h i) {x : Int} (hx : x = if i = 0 then 1 else 0) : ∃ g5, C5_open (d + 1) (zc_stt a i) 0 (-1) (-1) 0 h = some g5 ∧ zv_n g5 = zv_n h0 ∧ zv_R g5 a = zv_R h0 a ∧ zv_R g5 (a + 4) = zv_R h0 (a + 4) ∧ zc_bs a h0 (zv_sI g5 (zc_stt a i) 3 x) (i + 1) := by
  obtain ⟨s1, s2, s3, s4⟩ := hs
  have sl := zc_stl ha hi
  have sb := zc_sttb (a := a) hi
  have nin : ∀ j, j < i → zc_stt a i ≠ zc_stt a j := fun j hj e => by have := zc_stinj ha e; omega
  have r0 : zv_rg 0 := by unfold zv_rg; omega
  have rm : zv_rg (-1) := by unfold zv_rg; omega
  have rx : zv_rg x := by
    rw [hx]
    by_cases c : i = 0
    · rw [if_pos c]; unfold zv_rg; omega
    · rw [if_neg c]; exact r0
  have ob : zv_ob h (zc_stt a i) 5 := ⟨by unfold zv_n; rw [s1]; exact hB.1 _ (by omega) (by omega), sl.1⟩
  have row := s3 (zc_stt a i) nin
  obtain ⟨g5, e5, N⟩ := zc_C5_open (d := d) (x := -1) (y := -1) (z := 0) ob (Or.inl rfl) rm rm r0 (fun k => by rw [show zv_I h (zc_stt a i) = zv_I h0 (zc_stt a i) from row.1]; exact hB.2.2.2 _ k (zc_lt sl.1 (by decide)))
  obtain ⟨n1, n2, n3, n4, n5, n6, n7, n8, n9, n10, n11, n12⟩ := N
  have la : ∀ j, j < 48 → a ≠ zc_stt a j := fun j hj e => by have := (zc_stl ha hj).1; rw [← e, ha] at this; cases this
  have l4 : zv_lay (a + 4) = (6, 48) := by cases zc_lh ha with
    | inl e => rw [e]; rfl
    | inr e => rw [e]; rfl
  have la4 : ∀ j, j < 48 → a + 4 ≠ zc_stt a j := fun j hj e => by have := (zc_stl ha hj).1; rw [← e, l4] at this; cases this
  refine ⟨g5, e5, by unfold zv_n; rw [n1, s1], ((n3 a (la i hi)).2.2).trans (s3 a (fun j hj => la j (by omega))).2.2, ((n3 _ (la4 i hi)).2.2).trans (s3 _ (fun j hj => la4 j (by omega))).2.2, ?_⟩
  refine ⟨n1.trans s1, n2.trans s2, fun r hr => ?_, fun j hj => ?_⟩
  · have hri := hr i (by omega)
    have n := n3 r hri
    have s := s3 r (fun j hj => hr j (by omega))
    refine ⟨?_, n.2.1.trans s.2.1, n.2.2.trans s.2.2⟩
    rw [zc_sIo _ _ _ _ hri]
    exact n.1.trans s.1
  · by_cases e : j = i
    · subst e
      refine ⟨?_, ?_, n7, n8, ?_, ?_, ?_, zc_sIr n4 rx, fun k k4 k5 => (n12 k k4 k5).trans (congrFun row.2.2 k)⟩
      · rw [zc_sI1 _ _ _ _ (fun q => absurd q.2 (by decide)), n5]
        exact congrFun row.1 0
      · rw [zc_sI2, hx]
      · rw [zc_sI1 _ _ _ _ (fun q => absurd q.2 (by decide)), n9, if_pos rfl]
      · rw [zc_sI1 _ _ _ _ (fun q => absurd q.2 (by decide)), n10]
      · rw [zc_sI1 _ _ _ _ (fun q => absurd q.2 (by decide)), n11]
    · have hj' : j < i := by omega
      have nj : zc_stt a j ≠ zc_stt a i := fun q => e (zc_stinj ha q)
      have n := n3 _ nj
      have eI : ∀ k, zv_I (zv_sI g5 (zc_stt a i) 3 x) (zc_stt a j) k = zv_I h (zc_stt a j) k := fun k => (zc_sI1 _ _ _ _ (fun q => nj q.1)).trans (congrFun n.1 k)
      have eR : ∀ k, zv_R (zv_sI g5 (zc_stt a i) 3 x) (zc_stt a j) k = zv_R h (zc_stt a j) k := fun k => congrFun n.2.2 k
      obtain ⟨q1, q2, q3, q4, q5, q6, q7, q8, q9⟩ := s4 j hj'
      exact ⟨(eI 0).trans q1, (eI 3).trans q2, (eR 4).trans q3, (eR 5).trans q4, (eI 10).trans q5, (eI 11).trans q6, (eI 12).trans q7, fun k => by rw [eI k]; exact q8 k, fun k k4 k5 => (eR k).trans (q9 k k4 k5)⟩
/-- what the end of begin changes: rows of the History, of names, visits and the test -/
def zc_bt (a : Nat) (h h' : zv_H) : Prop := h'.1 = h.1 ∧ h'.2.2.2.2 = h.2.2.2.2 ∧ h'.2.2.1 = h.2.2.1 ∧ (∀ r k, ¬ (r = a ∧ k = 10) → zv_R h' r k = zv_R h r k) ∧ zv_R h' a 10 = a + 1 ∧ (∀ r, r ≠ a → r ≠ a + 14 → r ≠ a + 17 → r ≠ a + 22 → r ≠ a + 23 → r ≠ a + 24 → h'.2.1 r = h.2.1 r) ∧ ∀ r k, r < 347 → zv_rg (zv_I h' r k)
/-- a test -/
def zc_jt (j : Nat) (h h' : zv_H) : Prop := h'.1 = h.1 ∧ h'.2.2 = h.2.2 ∧ (∀ r, r ≠ j → r ≠ j + 1 → r ≠ j + 2 → h'.2.1 r = h.2.1 r) ∧ ∀ r k, r < 347 → zv_rg (zv_I h' r k)
theorem zc_jt_t {j : Nat} {h h1 h2 : zv_H} (f : zc_jt j h h1) (g : zc_jt j h1 h2) : zc_jt j h h2 := ⟨g.1.trans f.1, g.2.1.trans f.2.1, fun r a b c => (g.2.2.1 r a b c).trans (f.2.2.1 r a b c), g.2.2.2⟩
def zc_jo (j : Nat) (h : zv_H) : Prop := zv_lay j = (1, 1) ∧ zv_lay (j + 1) = (2, 176) ∧ zv_lay (j + 2) = (2, 176) ∧ j + 2 ≤ zv_n h ∧ zv_R h j 0 = j + 1 ∧ zv_R h j 1 = j + 2
theorem zc_jo_jt {j : Nat} {h h' : zv_H} (o : zc_jo j h) (f : zc_jt j h h') : zc_jo j h' := by
  obtain ⟨o1, o2, o3, o4, o5, o6⟩ := o
  refine ⟨o1, o2, o3, by unfold zv_n; rw [f.1]; exact o4, ?_, ?_⟩
  · show h'.2.2.2.1 j 0 = _; rw [f.2.1]; exact o5
  · show h'.2.2.2.1 j 1 = _; rw [f.2.1]; exact o6
theorem zc_rg_s {g : zv_H} {r' k' : Nat} {v : Int} (hg : ∀ r k, r < 347 → zv_rg (zv_I g r k)) (hv : zv_rg v) : ∀ r k, r < 347 → zv_rg (zv_I (zv_sI g r' k' v) r k) := fun r k hr => by
  by_cases q : r = r' ∧ k = k'
  · rw [q.1, q.2, zc_sI2]; exact hv
  · rw [zc_sI1 _ _ _ _ q]; exact hg r k hr
theorem zc_jadd {d : Nat} {h : zv_H} {j : Nat} {x y : Int} (o : zc_jo j h) (hg : ∀ r k, r < 347 → zv_rg (zv_I h r k)) (rx : zv_rg x) (ry : zv_rg y) : zm_R (C1_add (d + 1) j x y h) (fun h' => zc_jt j h h') := by
  obtain ⟨o1, o2, o3, o4, o5, o6⟩ := o
  have ob : zv_ob h j 1 := ⟨by omega, o1⟩
  have rf : zc_jt j h h := ⟨rfl, rfl, fun _ _ _ _ => rfl, hg⟩
  refine zm_cV (fun e => lC1_add ob e) ?_
  rw [qE1_add, zm_e (show zv_gI h j 1 3 = some _ from if_pos ob)]
  refine zm_if (fun c => zm_iV rf) (fun c => ?_)
  rw [zm_e (show zv_gI h j 1 3 = some _ from if_pos ob)]
  refine zm_if (fun c1 => ?_) (fun c => zm_iV rf)
  have n1 : j ≠ j + 1 := by omega
  have n2 : j ≠ j + 2 := by omega
  rw [zm_e (show zv_gR h j 1 0 = some (j + 1) from (if_pos ob).trans (by rw [o5])), zm_e (show zv_gI h j 1 3 = some _ from if_pos ob)]
  have w1 : zv_wI h (j + 1) (zv_I h j 3) x = some (zv_sI h (j + 1) (zv_I h j 3).toNat x) := by
    unfold zv_wI
    rw [if_pos ⟨by omega, by rw [o2], by omega, by rw [o2]; omega⟩]
  rw [zm_e w1, zm_e (show zv_gR (zv_sI h (j + 1) (zv_I h j 3).toNat x) j 1 1 = some (j + 2) from (if_pos ob).trans (by rw [show zv_R (zv_sI h (j + 1) (zv_I h j 3).toNat x) j 1 = zv_R h j 1 from rfl, o6])), zm_e (show zv_gI (zv_sI h (j + 1) (zv_I h j 3).toNat x) j 1 3 = some (zv_I h j 3) from (if_pos ob).trans (by rw [zc_sI1 _ _ _ _ (fun q => n1 q.1)]))]
  have w2 : zv_wI (zv_sI h (j + 1) (zv_I h j 3).toNat x) (j + 2) (zv_I h j 3) y = some (zv_sI (zv_sI h (j + 1) (zv_I h j 3).toNat x) (j + 2) (zv_I h j 3).toNat y) := by
    unfold zv_wI
    rw [if_pos ⟨o4, by rw [o3], by omega, by rw [o3]; omega⟩]
  rw [zm_e w2]
  refine zc_eI ob rfl ?_
  refine zc_dI ob ?_
  refine zm_iV ⟨rfl, rfl, fun r c1 c2 c3 => ?_, ?_⟩
  · rw [zc_sIo _ _ _ _ c1, zc_sIo _ _ _ _ c3, zc_sIo _ _ _ _ c2]
  · exact zc_rg_s (zc_rg_s (zc_rg_s hg rx) ry) (zc_w _)
theorem zc_jcmp {d : Nat} {h : zv_H} {j : Nat} {x y z : Int} (o : zc_jo j h) (hg : ∀ r k, r < 347 → zv_rg (zv_I h r k)) (rz : zv_rg z) : zm_R (C1_compare (d + 2) j x y z h) (fun h' => zc_jt j h h') := by
  have ob : zv_ob h j 1 := ⟨by have := o.2.2.2.1; omega, o.1⟩
  refine zm_cV (fun e => lC1_compare ob e) ?_
  rw [qE1_compare]
  obtain ⟨g, e, f⟩ := zc_jadd (d := d) o hg (zc_w ((zv_w (x * 3)) + y)) rz
  rw [zm_e e]
  exact zm_iV f
theorem zc_jusual {d : Nat} {h : zv_H} {j : Nat} (o : zc_jo j h) (hg : ∀ r k, r < 347 → zv_rg (zv_I h r k)) : zm_R (C1_usual (d + 3) j h) (fun h' => zc_jt j h h') := by
  have ob : zv_ob h j 1 := ⟨by have := o.2.2.2.1; omega, o.1⟩
  have st : ∀ x : Int, -2 < x ∧ x < 100 → zv_rg x := fun x q => by unfold zv_rg; omega
  refine zm_cV (fun e => lC1_usual ob e) ?_
  rw [qE1_usual]
  have c0 : C1_clear (d + 2) j h = some (zv_sI h j 3 0) := lC1_clear ob (by rw [qE1_clear, zm_e (show zv_pI h j 1 3 0 = some (zv_sI h j 3 0) from if_pos ob)])
  have f0 : zc_jt j h (zv_sI h j 3 0) := ⟨rfl, rfl, fun r a b c => zc_sIo _ _ _ _ a, zc_rg_s hg (st _ (by decide))⟩
  rw [zm_e c0]
  have nx : ∀ (g : zv_H), zc_jt j h g → ∀ (c : Option zv_H) (k : zv_H → zv_O), (zc_jo j g → (∀ r k, r < 347 → zv_rg (zv_I g r k)) → zm_R c (fun h' => zc_jt j g h')) → (∀ g', zc_jt j h g' → zm_R (k g') (zm_V fun h' => zc_jt j h h')) → zm_R (c.bind k) (zm_V fun h' => zc_jt j h h') := fun g f c k hc hk => by
    obtain ⟨g', e, f'⟩ := hc (zc_jo_jt o f) f.2.2.2
    rw [zm_e e]
    exact hk g' (zc_jt_t f f')
  refine nx _ f0 _ _ (fun o hg => zc_jcmp o hg (st _ (by decide))) fun g f => ?_
  refine nx _ f _ _ (fun o hg => zc_jcmp o hg (st _ (by decide))) fun g f => ?_
  refine nx _ f _ _ (fun o hg => zc_jadd o hg (st _ (by decide)) (st _ (by decide))) fun g f => ?_
  refine nx _ f _ _ (fun o hg => zc_jcmp o hg (st _ (by decide))) fun g f => ?_
  refine nx _ f _ _ (fun o hg => zc_jadd o hg (st _ (by decide)) (st _ (by decide))) fun g f => ?_
  refine nx _ f _ _ (fun o hg => zc_jcmp o hg (st _ (by decide))) fun g f => ?_
  refine nx _ f _ _ (fun o hg => zc_jadd o hg (st _ (by decide)) (st _ (by decide))) fun g f => ?_
  exact zm_iV f
/-- begin: the States, then the rest -/
def zc_bg (a : Nat) (h0 h : zv_H) : Prop := ∃ h1, zc_bs a h0 h1 48 ∧ zc_bt a h1 h
theorem zc_begin {d : Nat} {h0 : zv_H} {a : Nat} (ha : zv_lay a = (1, 0)) (hB : zc_Bh a h0) : zm_R (C0_begin (d + 4) a h0) (fun h => zc_bg a h0 h) := by
  have lo : zv_lay (a + 4) = (6, 48) ∧ zv_lay (a + 14) = (1, 2) ∧ zv_lay (a + 17) = (1, 6) ∧ zv_lay (a + 22) = (1, 1) ∧ zv_lay (a + 23) = (2, 176) ∧ zv_lay (a + 24) = (2, 176) := by cases zc_lh ha with
    | inl e => rw [e]; exact ⟨rfl, rfl, rfl, rfl, rfl, rfl⟩
    | inr e => rw [e]; exact ⟨rfl, rfl, rfl, rfl, rfl, rfl⟩
  have oa : zv_ob h0 a 0 := ⟨hB.1 a (Nat.le_refl _) (by omega), ha⟩
  have fa : ∀ k v, zc_off 0 k = v → v ≠ 0 → zv_R h0 a k = a + v := fun k v e n => by
    have := hB.2.1 a k (Nat.le_refl _) (by omega) (by rw [ha]) (by rw [ha]; dsimp only; rw [e]; exact n)
    rw [this, ha]
    dsimp only
    rw [e]
  have la : ∀ j, j < 48 → ∀ r x, zv_lay r = x → x ≠ (1, 5) → r ≠ zc_stt a j := fun j hj r x e n q => n (by rw [← e, q]; exact (zc_stl ha hj).1)
  refine zm_cV (fun e => lC0_begin oa e) ?_
  rw [qE0_begin]
  have loop : ∀ (n : Nat) (i : Nat) (h : zv_H), i + n = 48 → zc_bs a h0 h i → zm_R (L0_begin_2 (d + 3) a (i : Int) h) (zm_V fun h => zc_bg a h0 h) := by
    intro n
    induction n with
    | zero =>
      intro i h hi hs
      have hi' : i = 48 := by omega
      subst hi'
      obtain ⟨s1, s2, s3, s4⟩ := hs
      have nn : zv_n h = zv_n h0 := by unfold zv_n; rw [s1]
      have oa' : zv_ob h a 0 := ⟨by rw [nn]; exact oa.1, ha⟩
      have ra : zv_R h a = zv_R h0 a := (s3 a (fun j hj => la j hj a _ ha (by decide))).2.2
      have rgh : ∀ r k, r < 347 → zv_rg (zv_I h r k) := fun r k hr => by
        by_cases c : ∃ j, j < 48 ∧ r = zc_stt a j
        · obtain ⟨j, hj, e⟩ := c
          rw [e]
          exact (s4 j hj).2.2.2.2.2.2.2.1 k
        · rw [show zv_I h r = zv_I h0 r from (s3 r (fun j hj e => c ⟨j, hj, e⟩)).1]
          exact hB.2.2.2 r k hr
      have r0 : zv_rg 0 := by unfold zv_rg; omega
      have r1 : zv_rg 1 := by unfold zv_rg; omega
      have on : zv_ob h (a + 14) 2 := ⟨by rw [nn]; exact hB.1 _ (by omega) (by omega), lo.2.1⟩
      have ov : zv_ob h (a + 17) 6 := ⟨by rw [nn]; exact hB.1 _ (by omega) (by omega), lo.2.2.1⟩
      have rk : ∀ k v, k ≠ 10 → zc_off 0 k = v → v ≠ 0 → zv_R (zv_sR h a 10 (a + 1)) a k = a + v := fun k v hk e n => by
        have q : zv_R (zv_sR h a 10 (a + 1)) a k = zv_R h a k := if_neg (fun q => hk q.2)
        rw [q, ra]
        exact fa k v e n
      rw [qL0_begin_2, if_neg (by omega), zm_e (show zv_gR h a 0 0 = some (a + 1) from (if_pos oa').trans (by rw [ra, fa 0 1 rfl (by decide)]))]
      refine zc_dR oa' ?_
      refine zc_dI oa' ?_
      refine zc_dI oa' ?_
      refine zc_eR oa' (rk 6 14 (by decide) rfl (by decide)) ?_
      refine zc_dI on ?_
      refine zc_eR oa' (rk 7 17 (by decide) rfl (by decide)) ?_
      refine zc_dI ov ?_
      refine zc_eR oa' (rk 8 22 (by decide) rfl (by decide)) ?_
      have jr : ∀ k v, zc_off 1 k = v → v ≠ 0 → zv_R h (a + 22) k = a + 22 + v := fun k v e n => by
        have q1 : zv_R h (a + 22) = zv_R h0 (a + 22) := (s3 _ (fun j hj => la j hj _ _ lo.2.2.2.1 (by decide))).2.2
        have := hB.2.1 (a + 22) k (by omega) (by omega) (by rw [lo.2.2.2.1]) (by rw [lo.2.2.2.1]; dsimp only; rw [e]; exact n)
        rw [q1, this, lo.2.2.2.1]
        dsimp only
        rw [e]
      have jR : ∀ k, zv_R (zv_sR h a 10 (a + 1)) (a + 22) k = zv_R h (a + 22) k := fun k => if_neg (fun q => by omega)
      have jo : zc_jo (a + 22) (zv_sI (zv_sI (zv_sI (zv_sI (zv_sR h a 10 (a + 1)) a 11 0) a 12 1) (a + 14) 2 0) (a + 17) 4 0) := ⟨lo.2.2.2.1, lo.2.2.2.2.1, lo.2.2.2.2.2, by show a + 22 + 2 ≤ zv_n h; rw [nn]; exact hB.1 _ (by omega) (by omega), (jR 0).trans (jr 0 1 rfl (by decide)), (jR 1).trans (jr 1 2 rfl (by decide))⟩
      obtain ⟨g, eg, f1, f2, f3, f4⟩ := zc_jusual (d := d) jo (zc_rg_s (zc_rg_s (zc_rg_s (zc_rg_s (g := zv_sR h a 10 (a + 1)) rgh r0) r1) r0) r0)
      rw [zm_e eg]
      refine zm_iV ⟨h, ⟨s1, s2, s3, s4⟩, f1, ?_, ?_, fun r k c => ?_, ?_, fun r c1 c2 c3 c4 c5 c6 => ?_, f4⟩
      · have := congrArg (fun z : (Nat → Nat → Int64) × ((Nat → Nat → Nat) × (Nat × (Nat → Int))) => z.2.2) f2
        exact this
      · have := congrArg (fun z : (Nat → Nat → Int64) × ((Nat → Nat → Nat) × (Nat × (Nat → Int))) => z.1) f2
        exact this
      · have := congrArg (fun z : (Nat → Nat → Int64) × ((Nat → Nat → Nat) × (Nat × (Nat → Int))) => z.2.1 r k) f2
        exact this.trans (if_neg c)
      · have := congrArg (fun z : (Nat → Nat → Int64) × ((Nat → Nat → Nat) × (Nat × (Nat → Int))) => z.2.1 a 10) f2
        exact this.trans (if_pos ⟨rfl, rfl⟩)
      · rw [f3 r c4 c5 c6, zc_sIo _ _ _ _ c3, zc_sIo _ _ _ _ c2, zc_sIo _ _ _ _ c1, zc_sIo _ _ _ _ c1]
        rfl
    | succ n ih =>
      intro i h hi hs
      have hi' : i < 48 := by omega
      have sl := zc_stl ha hi'
      obtain ⟨s1, s2, s3, s4⟩ := hs
      have nn : zv_n h = zv_n h0 := by unfold zv_n; rw [s1]
      have oa' : zv_ob h a 0 := ⟨by rw [nn]; exact oa.1, ha⟩
      have ra : zv_R h a = zv_R h0 a := (s3 a (fun j hj => la j (by omega) a _ ha (by decide))).2.2
      have r4 : zv_R h (a + 4) = zv_R h0 (a + 4) := (s3 _ (fun j hj => la j (by omega) _ _ lo.1 (by decide))).2.2
      have a4 : a + 4 ≤ zv_n h0 := hB.1 _ (by omega) (by omega)
      have g1 : ∀ g : zv_H, zv_n g = zv_n h0 → zv_R g a = zv_R h0 a → zv_gR g a 0 1 = some (a + 4) := fun g e1 e2 => (if_pos (show a ≤ zv_n g ∧ _ from ⟨by rw [e1]; exact oa.1, ha⟩)).trans (by rw [e2, fa 1 4 rfl (by decide)])
      have g2 : ∀ g : zv_H, zv_n g = zv_n h0 → zv_R g (a + 4) = zv_R h0 (a + 4) → zv_aR g (a + 4) (i : Int) = some (zc_stt a i) := fun g e1 e2 => by
        unfold zv_aR
        rw [if_pos ⟨by rw [e1]; exact a4, by rw [lo.1], by omega, by rw [lo.1]; omega⟩, e2, show ((i : Int)).toNat = i from rfl, hB.2.2.1 i hi']
      have w : zv_w ((i : Int) + 1) = ((i + 1 : Nat) : Int) := by rw [zm_w (by omega)]; omega
      obtain ⟨g5, e5, n5, ra5, r45, bs0⟩ := zc_bs_step (d := d + 2) ha hB hi' ⟨s1, s2, s3, s4⟩ (x := if i = 0 then 1 else 0) rfl
      have os5 : zv_ob g5 (zc_stt a i) 5 := ⟨by rw [n5]; exact hB.1 _ (by have := zc_sttb (a := a) hi'; omega) (by have := zc_sttb (a := a) hi'; omega), sl.1⟩
      rw [qL0_begin_2, if_pos (by omega), zm_e (g1 h nn ra), zm_e (g2 h nn r4), if_neg (zc_nz sl.1), zm_e (g1 h nn ra), zm_e (g2 h nn r4), zm_e e5, zm_e (g1 g5 n5 ra5), zm_e (g2 g5 n5 r45), w]
      by_cases c : i = 0
      · rw [if_pos c] at bs0
        rw [if_pos (show (i : Int) = 0 by omega), zm_e (show zv_pZ g5 (zc_stt a i) 5 3 1 = some _ from if_pos ⟨os5, Or.inr rfl⟩)]
        exact ih (i + 1) _ (by omega) bs0
      · rw [if_neg c] at bs0
        rw [if_neg (show ¬ (i : Int) = 0 by omega), zm_e (show zv_pZ g5 (zc_stt a i) 5 3 0 = some _ from if_pos ⟨os5, Or.inl rfl⟩)]
        exact ih (i + 1) _ (by omega) bs0
  exact loop 48 0 h0 rfl ⟨rfl, rfl, fun _ _ => ⟨rfl, rfl, rfl⟩, fun j hj => absurd hj (Nat.not_lt_zero j)⟩
end
/-! 99i.load -/
section
/-! ===== the class: load ===== -/
theorem zc_bdc {c k : Nat} {m : Int} (h : zc_bd c k = some m) : (c = 4 ∧ k = 5) ∨ (c = 5 ∧ k = 12 ∧ m = 120) ∨ (c = 7 ∧ k = 1) := by
  unfold zc_bd at h
  by_cases q : c = 4 ∧ k = 5
  · exact Or.inl q
  · rw [if_neg q] at h
    by_cases q1 : c = 5 ∧ k = 12
    · rw [if_pos q1] at h
      cases h
      exact Or.inr (Or.inl ⟨q1.1, q1.2, rfl⟩)
    · rw [if_neg q1] at h
      by_cases q2 : c = 7 ∧ k = 1
      · exact Or.inr (Or.inr q2)
      · rw [if_neg q2] at h
        cases h
theorem zc_bgA {h h' : zv_H} {a : Nat} (hA : zc_A h) (ha : zv_lay a = (1, 0)) (g : zc_bg a h h') : zc_X h h' := by
  obtain ⟨h1, ⟨s1, s2, s3, s4⟩, t1, t2, t3, t4, t5, t6, t7⟩ := g
  have lo : zv_lay (a + 14) = (1, 2) ∧ zv_lay (a + 17) = (1, 6) ∧ zv_lay (a + 22) = (1, 1) ∧ zv_lay (a + 23) = (2, 176) ∧ zv_lay (a + 24) = (2, 176) := by cases zc_lh ha with
    | inl e => rw [e]; exact ⟨rfl, rfl, rfl, rfl, rfl⟩
    | inr e => rw [e]; exact ⟨rfl, rfl, rfl, rfl, rfl⟩
  have hlt := zc_lh ha
  have hB := hA.1
  have l4 : ∀ a', zv_lay a' = (1, 0) → zv_lay (a' + 4) = (6, 48) := fun a' h' => by cases zc_lh h' with
    | inl e => rw [e]; rfl
    | inr e => rw [e]; rfl
  have l17 : ∀ r, zv_lay r = (1, 4) → zv_lay (r + 1) = (6, 48) := fun a' h' => by cases zc_l4 h' with
    | inl e => rw [e]; rfl
    | inr e => rw [e]; rfl
  have nst : ∀ r x, zv_lay r = x → x ≠ (1, 5) → ∀ j, j < 48 → r ≠ zc_stt a j := fun r x e n j hj q => n (by rw [← e, q]; exact (zc_stl ha hj).1)
  have na : ∀ r x, zv_lay r = x → x ≠ (1, 0) → r ≠ a := fun r x e n q => n (by rw [← e, q, ha])
  /- rows of ints, of other layouts -/
  have iL : ∀ r x, zv_lay r = x → x ≠ (1, 0) → x ≠ (1, 2) → x ≠ (1, 6) → x ≠ (1, 1) → x ≠ (2, 176) → h'.2.1 r = h1.2.1 r := fun r x e n0 n2 n6 n1 n7 => t6 r (na r x e n0) (fun q => n2 (by rw [← e, q, lo.1])) (fun q => n6 (by rw [← e, q, lo.2.1])) (fun q => n1 (by rw [← e, q, lo.2.2.1])) (fun q => n7 (by rw [← e, q, lo.2.2.2.1])) (fun q => n7 (by rw [← e, q, lo.2.2.2.2]))
  have i5 : ∀ r, zv_lay r = (1, 5) → h'.2.1 r = h1.2.1 r := fun r e => iL r _ e (by decide) (by decide) (by decide) (by decide) (by decide)
  have rO : ∀ r, (∀ j, j < 48 → r ≠ zc_stt a j) → ∀ k, ¬ (r = a ∧ k = 10) → zv_R h' r k = zv_R h r k := fun r hr k c => (t4 r k c).trans (congrFun (s3 r hr).2.2 k)
  have rS : ∀ j, j < 48 → ∀ k, zv_R h' (zc_stt a j) k = zv_R h1 (zc_stt a j) k := fun j hj k => t4 _ k (fun q => na _ _ (zc_stl ha hj).1 (by decide) q.1)
  have B : zc_B h' := by
    refine ⟨?_, fun r k hr hk => ?_, fun a' i q hi' => ?_, ?_, t7, fun r c k m hr hm => ?_, fun r k hr => ?_, fun a' i q hi' => ?_⟩
    · unfold zv_n
      rw [t1, s1]
      exact hB.1
    · by_cases c : ∃ j, j < 48 ∧ r = zc_stt a j
      · obtain ⟨j, hj, e⟩ := c
        have sl := (zc_stl ha hj).1
        rw [e, sl] at hk
        have k4 : k ≠ 4 := fun q => by rw [q] at hk; exact hk rfl
        have k5 : k ≠ 5 := fun q => by rw [q] at hk; exact hk rfl
        have := hB.2.1 r k hr (by rw [e, sl]; exact hk)
        rw [e] at this ⊢
        rw [rS j hj k, (s4 j hj).2.2.2.2.2.2.2.2 k k4 k5]
        exact this
      · rw [rO r (fun j hj e => c ⟨j, hj, e⟩) k (fun q => by rw [q.1, ha, q.2] at hk; exact hk rfl)]
        exact hB.2.1 r k hr hk
    · rw [rO _ (nst _ _ (l4 a' q) (by decide)) i (fun w => na _ _ (l4 a' q) (by decide) w.1)]
      exact hB.2.2.1 a' i q hi'
    · rw [rO 1 (nst 1 (1, 8) rfl (by decide)) 3 (fun w => absurd w.2 (by decide)), rO 1 (nst 1 (1, 8) rfl (by decide)) 4 (fun w => absurd w.2 (by decide))]
      exact hB.2.2.2.1
    · rcases zc_bdc hm with w | w | w
      · obtain ⟨w1, w2⟩ := w
        subst w1
        rw [show zv_I h' r = zv_I h r from (iL r _ hr (by decide) (by decide) (by decide) (by decide) (by decide)).trans (s3 r (nst r _ hr (by decide))).1]
        exact hB.2.2.2.2.2.1 r 4 k m hr hm
      · obtain ⟨w1, w2, w3⟩ := w
        subst w1
        rw [show zv_I h' r = zv_I h1 r from i5 r hr]
        by_cases c : ∃ j, j < 48 ∧ r = zc_stt a j
        · obtain ⟨j, hj, e⟩ := c
          rw [e, w2, (s4 j hj).2.2.2.2.2.2.1, w3]
          decide
        · rw [show zv_I h1 r = zv_I h r from (s3 r (fun j hj e => c ⟨j, hj, e⟩)).1]
          exact hB.2.2.2.2.2.1 r 5 k m hr hm
      · obtain ⟨w1, w2⟩ := w
        subst w1
        rw [show zv_I h' r = zv_I h r from (iL r _ hr (by decide) (by decide) (by decide) (by decide) (by decide)).trans (s3 r (nst r _ hr (by decide))).1]
        exact hB.2.2.2.2.2.1 r 7 k m hr hm
    · rw [rO _ (nst _ _ (l17 r hr) (by decide)) k (fun w => na _ _ (l17 r hr) (by decide) w.1)]
      exact hB.2.2.2.2.2.2.1 r k hr
    · have sl := (zc_stl q hi').1
      rw [show zv_I h' (zc_stt a' i) = zv_I h1 (zc_stt a' i) from i5 _ sl]
      by_cases c : ∃ j, j < 48 ∧ zc_stt a' i = zc_stt a j
      · obtain ⟨j, hj, e⟩ := c
        have := hB.2.2.2.2.2.2.2 a' i q hi'
        rw [e] at this ⊢
        rw [(s4 j hj).1]
        exact this
      · rw [show zv_I h1 (zc_stt a' i) = zv_I h (zc_stt a' i) from (s3 _ (fun j hj e => c ⟨j, hj, e⟩)).1]
        exact hB.2.2.2.2.2.2.2 a' i q hi'
  /- the other half -/
  have oth : ∀ t, zv_lay t = (1, 5) → zc_hf t ≠ a → (∀ k, zv_I h' t k = zv_I h t k) ∧ ∀ k, zv_R h' t k = zv_R h t k := fun t ht hn => by
    have ns : ∀ j, j < 48 → t ≠ zc_stt a j := fun j hj e => hn (by rw [e]; exact (zc_stl ha hj).2.1)
    exact ⟨fun k => (congrFun (i5 t ht) k).trans (congrFun (s3 t ns).1 k), fun k => rO t ns k (fun w => na t _ ht (by decide) w.1)⟩
  have mine : ∀ t, zv_lay t = (1, 5) → zc_hf t = a → ∃ j, j < 48 ∧ t = zc_stt a j := fun t ht he => by
    obtain ⟨j, hj, e⟩ := zc_l5i ht
    rw [he] at e
    exact ⟨j, hj, e⟩
  have my4 : ∀ j, j < 48 → zv_R h' (zc_stt a j) 4 = 0 := fun j hj => (rS j hj 4).trans (s4 j hj).2.2.1
  have myI : ∀ j, j < 48 → ∀ k, zv_I h' (zc_stt a j) k = zv_I h1 (zc_stt a j) k := fun j hj k => congrFun (i5 _ (zc_stl ha hj).1) k
  have T : zc_T h' := by
    refine ⟨fun t ht => ?_, fun b hb => ?_⟩
    · by_cases c : zc_hf t = a
      · obtain ⟨j, hj, e⟩ := mine t ht c
        obtain ⟨q1, q2, q3, q4, q5, q6, q7, q8, q9⟩ := s4 j hj
        by_cases z : j = 0
        · rw [if_pos z] at q2
          refine Or.inr ?_
          rw [e, my4 j hj, myI j hj, myI j hj, myI j hj, rS j hj, q2, q4, q5, q6]
          refine ⟨rfl, by decide, Or.inl ⟨rfl, rfl⟩, Or.inl rfl, ?_⟩
          have hf := (zc_stl ha hj).2.1
          have c0 : ∀ n, n ≤ 48 → zc_ch h' (zc_stt a j) n = 0 := by
            intro n
            induction n with
            | zero => intro _; rfl
            | succ n ih =>
              intro hn
              show zc_ch h' (zc_stt a j) n + (if zv_R h' (zc_stt (zc_hf (zc_stt a j)) n) 4 = zc_stt a j then 1 else 0) = 0
              rw [ih (by omega), hf, my4 n (by omega), if_neg (fun q => zc_nz (zc_stl ha hj).1 q.symm)]
              rfl
          exact (c0 48 (Nat.le_refl _)).symm
        · rw [if_neg z] at q2
          refine Or.inl ?_
          rw [e, my4 j hj, myI j hj]
          exact ⟨q2, rfl⟩
      · have o := oth t ht c
        have tt := hA.2.1 t ht
        unfold zc_t
        rw [o.1, o.1, o.1, o.2, o.2]
        cases tt with
        | inl u => exact Or.inl u
        | inr u =>
          refine Or.inr ⟨u.1, u.2.1, ?_, ?_, ?_⟩
          · cases u.2.2.1 with
            | inl w => exact Or.inl w
            | inr w =>
              have o2 := oth _ w.1 (by rw [w.2.2.1]; exact c)
              exact Or.inr ⟨w.1, (o2.1 3).trans w.2.1, w.2.2.1, by rw [o2.1 10]; exact w.2.2.2⟩
          · cases u.2.2.2.1 with
            | inl w => exact Or.inl w
            | inr w =>
              refine Or.inr ⟨w.1, ?_⟩
              cases u.2.2.1 with
              | inl y => exact absurd y.1 w.1
              | inr y =>
                rw [(oth _ y.1 (by rw [y.2.2.1]; exact c)).2 5]
                exact w.2
          · rw [u.2.2.2.2]
            have : ∀ n, n ≤ 48 → zc_ch h' t n = zc_ch h t n := by
              intro n
              induction n with
              | zero => intro _; rfl
              | succ n ih =>
                intro hn
                have l := zc_stl (zc_hl t) (show n < 48 by omega)
                show zc_ch h' t n + (if zv_R h' (zc_stt (zc_hf t) n) 4 = t then 1 else 0) = zc_ch h t n + (if zv_R h (zc_stt (zc_hf t) n) 4 = t then 1 else 0)
                rw [ih (by omega), (oth _ l.1 (by rw [l.2.1]; exact c)).2 4]
            exact (this 48 (Nat.le_refl _)).symm
    · by_cases c : b = a
      · rw [c, t5]
        have sl := zc_stl ha (show 0 < 48 by decide)
        have e0 : zc_stt a 0 = a + 1 := rfl
        rw [e0] at sl
        refine ⟨sl.1, ?_, sl.2.1⟩
        have := (myI 0 (by decide) 3).trans (s4 0 (by decide)).2.1
        exact this
      · have u := hA.2.2 b hb
        rw [rO b (nst b _ hb (by decide)) 10 (fun w => c w.1)]
        refine ⟨u.1, ?_, u.2.2⟩
        rw [(oth _ u.1 (by rw [u.2.2]; exact c)).1 3]
        exact u.2.1
  refine ⟨⟨t1.trans s1, t2.trans s2, fun r hr => ?_, ?_⟩, B, T⟩
  · have ns : ∀ j, j < 48 → r ≠ zc_stt a j := fun j hj e => by have := zc_sttb (a := a) hj; omega
    have w := s3 r ns
    refine ⟨(t6 r (by omega) (by omega) (by omega) (by omega) (by omega) (by omega)).trans w.1, (congrFun t3 r).trans w.2.1, ?_⟩
    funext k
    exact (t4 r k (by omega)).trans (congrFun w.2.2 k)
  · exact (congrFun (iL 5 (1, 3) rfl (by decide) (by decide) (by decide) (by decide) (by decide)) 2).trans (congrFun (s3 5 (nst 5 (1, 3) rfl (by decide))).1 2)
theorem zc_Bh_of {h : zv_H} {a : Nat} (hA : zc_A h) (ha : zv_lay a = (1, 0)) : zc_Bh a h := by
  have := zc_lh ha
  refine ⟨fun r h1 h2 => by rw [hA.1.1]; omega, fun r k _ _ => hA.1.2.1 r k, fun i hi => hA.1.2.2.1 a i ha hi, hA.1.2.2.2.2.1⟩
theorem zc_C0_begin {d : Nat} {h : zv_H} {a : Nat} (hA : zc_A h) (ha : zv_lay a = (1, 0)) : zm_R (C0_begin (d + 4) a h) (fun q => zc_X h q) := by
  obtain ⟨h', e, g⟩ := zc_begin (d := d) ha (zc_Bh_of hA ha)
  exact ⟨h', e, zc_bgA hA ha g⟩
theorem zc_C8_done {d : Nat} {h : zv_H} {a : Nat} (hA : zc_A h) (ha : zv_lay a = (1, 0)) : zm_R (C8_done (d + 7) 1 a h) (fun q => zc_X h q.2 ∧ zv_rg q.1) := by
  have F := zc_Q_r hA
  have h8 : zv_lay 1 = (1, 8) := rfl
  have h3 : zv_lay 5 = (1, 3) := rfl
  refine zm_cI (P := fun v h' => zc_X h h' ∧ zv_rg v) (fun e => lC8_done (zc_ob hA h8) e) ?_
  have fin : ∀ {o : Option (Int × zv_H)}, zm_R o (fun q => zc_X h q.2 ∧ zv_rg q.1) → zm_R (o.bind fun q => some (some (zv_i q.1), q.2)) (zm_I fun v h' => zc_X h h' ∧ zv_rg v) := fun e => by
    obtain ⟨q, rfl, p⟩ := e
    exact zm_iI p
  have fO : ∀ {o : Option (Int × zv_H)}, zm_R o (zc_O a h) → zm_R o (fun q => zc_X h q.2 ∧ zv_rg q.1) := fun e => zm_mono e (fun v p => ⟨p.1, p.2.1⟩)
  have fY : ∀ {o : Option (Int × zv_H)}, zm_R o (zc_yI h) → zm_R o (fun q => zc_X h q.2 ∧ zv_rg q.1) := fun e => zm_mono e (fun v p => ⟨p.1.1, p.2⟩)
  rw [qE8_done]
  refine zc_rF F 4 h8 ?_
  refine zc_rI F h3 fun v2 e2 r2 => ?_
  refine zm_if (fun c => ?_) (fun c => ?_)
  · refine zc_rF F 4 h8 ?_
    refine zc_rI F h3 fun v4 e4 r4 => ?_
    refine zc_rF F 4 h8 ?_
    refine zc_rF F 2 h3 ?_
    exact fin (fO (zc_C0_putWord hA ha (zc_y3_1 h3).1 r4))
  refine zm_if (fun c => ?_) (fun c => ?_)
  · refine zc_rF F 4 h8 ?_
    refine zc_rI F h3 fun v4 e4 r4 => ?_
    refine zc_rF F 4 h8 ?_
    refine zc_rI F h3 fun v5 e5 r5 => ?_
    exact fin (fO (zc_C0_cutOut hA ha r4 r5))
  refine zm_if (fun c => ?_) (fun c => ?_)
  · refine zc_rF F 4 h8 ?_
    refine zc_rI F h3 fun v4 e4 r4 => ?_
    exact fin (zm_mono (zc_C0_passTime hA ha r4) (fun v p => ⟨zc_QX p.1, p.2.1⟩))
  refine zm_if (fun c => ?_) (fun c => ?_)
  · exact fin (fY (zc_C0_stepBack hA ha))
  refine zm_if (fun c => ?_) (fun c => ?_)
  · exact fin (fY (zc_C0_stepOn hA ha))
  refine zm_if (fun c => ?_) (fun c => ?_)
  · refine zc_rF F 4 h8 ?_
    refine zc_rI F h3 fun v4 e4 r4 => ?_
    exact fin (fY (zc_C0_goTo hA ha r4))
  refine zm_if (fun c => ?_) (fun c => ?_)
  · refine zc_rF F 4 h8 ?_
    refine zc_rF F 2 h3 ?_
    refine zc_pI (K := fun _ => True) (zc_C7_key hA (zc_y3_1 h3).1) fun v23 r23 _ => ?_
    dsimp only
    exact fin (zm_mono (zc_C0_nameHere hA ha r23) (fun v p => ⟨zc_QX p.1, p.2.1⟩))
  refine zm_if (fun c => ?_) (fun c => ?_)
  · refine zc_rF F 4 h8 ?_
    refine zc_rI F h3 fun v4 e4 r4 => ?_
    exact fin (fO (zc_C0_takeBack hA ha r4))
  refine zm_if (fun c => ?_) (fun c => ?_)
  · refine zc_rF F 4 h8 ?_
    refine zc_rI F h3 fun v4 e4 r4 => ?_
    exact fin (fO (zc_C0_giveBack hA ha r4))
  refine zm_if (fun c => ?_) (fun c => ?_)
  · refine zc_rF F 4 h8 ?_
    refine zc_rI F h3 fun v4 e4 r4 => ?_
    exact fin (fO (zc_C0_carryOver hA ha r4))
  refine zm_if (fun c => ?_) (fun c => ?_)
  · refine zc_rF F 4 h8 ?_
    refine zc_rI F h3 fun v4 e4 r4 => ?_
    exact fin (zm_mono (zc_C0_mergeIn hA ha r4) (fun v p => ⟨p.1.1, p.2.1⟩))
  refine zm_if (fun c => ?_) (fun c => ?_)
  · refine zc_rF F 4 h8 ?_
    refine zc_rI F h3 fun v4 e4 r4 => ?_
    exact fin (zc_C0_pruneTo hA ha r4)
  · exact zm_iI ⟨zc_X_r hA, by unfold zv_rg; omega⟩
/-- as zc_P, but for the tape's size -/
def zc_P' (h h' : zv_H) : Prop := h'.1 = h.1 ∧ h'.2.2.2.2 = h.2.2.2.2 ∧ (∀ r, 347 ≤ r → h'.2.1 r = h.2.1 r ∧ h'.2.2.1 r = h.2.2.1 r ∧ h'.2.2.2.1 r = h.2.2.2.1 r)
theorem zc_P'_t {h h1 h2 : zv_H} (f : zc_P' h h1) (g : zc_P' h1 h2) : zc_P' h h2 := ⟨g.1.trans f.1, g.2.1.trans f.2.1, fun r x => ⟨(g.2.2 r x).1.trans (f.2.2 r x).1, (g.2.2 r x).2.1.trans (f.2.2 r x).2.1, (g.2.2 r x).2.2.trans (f.2.2 r x).2.2⟩⟩
theorem zc_PP' {h h' : zv_H} (f : zc_P h h') : zc_P' h h' := ⟨f.1, f.2.1, f.2.2.1⟩
/-- the tape's size is set -/
theorem zc_tape {h : zv_H} (hA : zc_A h) {v : Int} (hv : zv_rg v) : zc_A (zv_sI h 5 2 v) ∧ zc_P' h (zv_sI h 5 2 v) := by
  have n5 : ∀ t c, zv_lay t = (1, c) → c ≠ 3 → t ≠ 5 := fun t c e n q => by rw [q] at e; rw [show zv_lay 5 = (1, 3) from rfl] at e; cases e; exact n rfl
  refine ⟨⟨zc_BI hA.1 hv (fun e => by cases e) (fun c m e e1 => ?_), fun t ht => ?_, fun b hb => ?_⟩, rfl, rfl, fun r hr => ⟨zc_sIo _ _ _ _ (by omega), rfl, rfl⟩⟩
  · rw [show zv_lay 5 = (1, 3) from rfl] at e
    cases e
    cases e1
  · have tt := hA.2.1 t ht
    have i : ∀ s, zv_lay s = (1, 5) → ∀ k, zv_I (zv_sI h 5 2 v) s k = zv_I h s k := fun s hs k => zc_sI1 _ _ _ _ (fun q => n5 s 5 hs (by decide) q.1)
    have c : ∀ n, zc_ch (zv_sI h 5 2 v) t n = zc_ch h t n := by
      intro n
      induction n with
      | zero => rfl
      | succ n ih =>
        show zc_ch (zv_sI h 5 2 v) t n + _ = zc_ch h t n + _
        rw [ih]
        rfl
    unfold zc_t
    rw [i t ht, i t ht, i t ht, c 48]
    cases tt with
    | inl u => exact Or.inl u
    | inr u =>
      refine Or.inr ⟨u.1, u.2.1, ?_, u.2.2.2⟩
      cases u.2.2.1 with
      | inl w => exact Or.inl w
      | inr w =>
        refine Or.inr ⟨w.1, ?_, w.2.2.1, ?_⟩
        · exact (i _ w.1 3).trans w.2.1
        · exact (congrArg (· + 1) (i _ w.1 10)).trans w.2.2.2
  · have u := hA.2.2 b hb
    refine ⟨u.1, ?_, u.2.2⟩
    exact (zc_sI1 _ _ _ _ (fun q => n5 _ 5 u.1 (by decide) q.1)).trans u.2.1
theorem zc_C3_begin {d : Nat} {h : zv_H} (hA : zc_A h) {n : Int} (rn : zv_rg n) : zm_R (C3_begin (d + 3) 5 n h) (fun h' => zc_P' h h' ∧ zc_A h' ∧ zv_I h' 5 2 = 0) := by
  have h3 : zv_lay 5 = (1, 3) := rfl
  have F := zc_Q_r hA
  refine zm_cV (fun e => lC3_begin (zc_ob hA h3) e) ?_
  rw [qE3_begin]
  refine zc_rI F h3 fun v1 e1 r1 => ?_
  refine zc_wO F h3 (zc_fr3 h3) (zc_mn rn r1) fun g2 F => ?_
  rw [zm_e (show zv_pI g2 5 3 2 0 = some _ from if_pos (zc_ob F.2 h3))]
  have T := zc_tape F.2 (v := 0) (by unfold zv_rg; omega)
  have e0 : zv_I (zv_sI g2 5 2 0) 5 2 = 0 := zc_sI2 _ _ _ _
  have P := zc_P'_t (zc_PP' (zc_qP F.1)) T.2
  have A1 := T.1
  generalize zv_sI g2 5 2 0 = g3 at A1 P e0
  have F := zc_Q_r A1
  refine zc_wO F h3 (zc_fr3 h3) (by unfold zv_rg; omega) fun g4 F => ?_
  refine zc_wO F h3 (zc_fr3 h3) (by unfold zv_rg; omega) fun g5 F => ?_
  refine zc_wO F h3 (zc_fr3 h3) (by unfold zv_rg; omega) fun g6 F => ?_
  refine zc_cI (K := fun v => (v = 0 ∨ v = 1)) F (zc_C3_next F.2 h3) fun v g7 F _ _ => ?_
  dsimp only
  exact zm_iV ⟨zc_P'_t P (zc_PP' (zc_qP F.1)), F.2, F.1.2.2.2.2.2.trans e0⟩
end
/-! 99j.pub -/
section
/-! ===== the class: its public calls ===== -/
theorem zc_toInt {n : Nat} (b : BitVec 32) (e : b.toNat = n) (hn : n < 2147483648) : b.toInt = (n : Int) := by
  rw [BitVec.toInt_eq_toNat_cond, e, if_pos (by omega)]
theorem zc_and31 (x : Int) : 0 ≤ zv_and x 31 ∧ zv_and x 31 ≤ 31 := by
  have n : ((Int32.ofInt x &&& Int32.ofInt 31).toBitVec).toNat ≤ 31 := by
    rw [Int32.toBitVec_and, BitVec.toNat_and]
    exact Nat.and_le_right
  have e : zv_and x 31 = (((Int32.ofInt x &&& Int32.ofInt 31).toBitVec).toNat : Int) := zc_toInt _ rfl (by omega)
  rw [e]
  omega
theorem zc_ushr5 {x : Int} (h0 : 0 ≤ x) (h1 : x < 2147483648) : zv_ushr x 5 = x / 32 := by
  have e5 : ((Int32.ofInt 5).toUInt32 &&& Int32.toUInt32 31) = (5 : UInt32) := by decide
  have eu : ((Int32.ofInt x).toUInt32 >>> (5 : UInt32)).toNat = x.toNat / 32 := by
    rw [UInt32.toNat_shiftRight]
    have e1 : (Int32.ofInt x).toUInt32.toNat = x.toNat := by
      show (BitVec.ofInt 32 x).toNat = x.toNat
      rw [BitVec.toNat_ofInt]
      omega
    rw [e1]
    show x.toNat >>> 5 = _
    rw [Nat.shiftRight_eq_div_pow]
  unfold zv_ushr
  rw [e5]
  have e := zc_toInt ((Int32.ofInt x).toUInt32 >>> (5 : UInt32)).toInt32.toBitVec (n := x.toNat / 32) eu (by omega)
  refine Eq.trans e ?_
  omega
theorem zc_h8 : zv_lay 1 = (1, 8) := rfl
theorem zc_h3 : zv_lay 5 = (1, 3) := rfl
def zc_pX (h : zv_H) (q : Int × zv_H) : Prop := zc_X h q.2 ∧ zv_rg q.1
theorem zc_Qp {h : zv_H} {o : Option (Int × zv_H)} {K : Int → Prop} (e : zm_R o (fun q => zc_Q h q.2 ∧ zv_rg q.1 ∧ K q.1)) : zm_R o (zc_pX h) := zm_mono e (fun _ q => ⟨zc_QX q.1, q.2.1⟩)
theorem zc_ans {d : Nat} {h : zv_H} {o : Option (Int × zv_H)} (e : zm_R o (zc_pX h)) : zm_R (o.bind fun q => (C8_answered (d + 2) 1 q.1 q.2).bind fun q4 => some (some (zv_i q4.1), q4.2)) (zm_I fun v h' => zc_pX h (v, h')) := by
  obtain ⟨q, rfl, X, r⟩ := e
  refine zc_cI (K := fun _ => True) (zc_Q_r X.2) (zc_C8_answered X.2 zc_h8 r) fun v h' F rv _ => ?_
  exact zm_iI ⟨zc_X_t X (zc_QX F), rv⟩
theorem zc_Op {a : Nat} {h : zv_H} {o : Option (Int × zv_H)} (e : zm_R o (zc_O a h)) : zm_R o (zc_pX h) := zm_mono e (fun _ q => ⟨q.1, q.2.1⟩)
theorem zc_Yp {h : zv_H} {o : Option (Int × zv_H)} (e : zm_R o (zc_yI h)) : zm_R o (zc_pX h) := zm_mono e (fun _ q => ⟨q.1.1, q.2⟩)
section
variable {d : Nat} {h : zv_H} (hA : zc_A h)
theorem zc_C8_put (hA : zc_A h) {x : Int} (rx : zv_rg x) : zm_R (C8_put (d + 4) 1 x h) (zc_pX h) := by
  refine zm_cI (P := fun v h' => zc_pX h (v, h')) (fun e => lC8_put (zc_ob hA zc_h8) e) ?_
  have F := zc_Q_r hA
  rw [qE8_put]
  refine zc_rRo F zc_h8 ?_
  refine zc_rF F 2 zc_h8 ?_
  exact zc_ans (zc_Op (zc_C0_putWord hA (zc_xH F).1 (zc_y8_1 zc_h8).1 rx))
theorem zc_C8_cut (hA : zc_A h) {x y : Int} (rx : zv_rg x) (ry : zv_rg y) : zm_R (C8_cut (d + 4) 1 x y h) (zc_pX h) := by
  refine zm_cI (P := fun v h' => zc_pX h (v, h')) (fun e => lC8_cut (zc_ob hA zc_h8) e) ?_
  have F := zc_Q_r hA
  rw [qE8_cut]
  refine zc_rRo F zc_h8 ?_
  exact zc_ans (zc_Op (zc_C0_cutOut hA (zc_xH F).1 rx ry))
theorem zc_C8_undo (hA : zc_A h) : zm_R (C8_undo (d + 4) 1 h) (zc_pX h) := by
  refine zm_cI (P := fun v h' => zc_pX h (v, h')) (fun e => lC8_undo (zc_ob hA zc_h8) e) ?_
  have F := zc_Q_r hA
  rw [qE8_undo]
  refine zc_rRo F zc_h8 ?_
  exact zc_ans (zc_Yp (zc_C0_stepBack hA (zc_xH F).1))
theorem zc_C8_redo (hA : zc_A h) : zm_R (C8_redo (d + 5) 1 h) (zc_pX h) := by
  refine zm_cI (P := fun v h' => zc_pX h (v, h')) (fun e => lC8_redo (zc_ob hA zc_h8) e) ?_
  have F := zc_Q_r hA
  rw [qE8_redo]
  refine zc_rRo F zc_h8 ?_
  exact zc_ans (zc_Yp (zc_C0_stepOn hA (zc_xH F).1))
theorem zc_C8_go (hA : zc_A h) {x : Int} (rx : zv_rg x) : zm_R (C8_go (d + 5) 1 x h) (zc_pX h) := by
  refine zm_cI (P := fun v h' => zc_pX h (v, h')) (fun e => lC8_go (zc_ob hA zc_h8) e) ?_
  have F := zc_Q_r hA
  rw [qE8_go]
  refine zc_rRo F zc_h8 ?_
  exact zc_ans (zc_Yp (zc_C0_goTo hA (zc_xH F).1 rx))
theorem zc_C8_withdraw (hA : zc_A h) {x : Int} (rx : zv_rg x) : zm_R (C8_withdraw (d + 5) 1 x h) (zc_pX h) := by
  refine zm_cI (P := fun v h' => zc_pX h (v, h')) (fun e => lC8_withdraw (zc_ob hA zc_h8) e) ?_
  have F := zc_Q_r hA
  rw [qE8_withdraw]
  refine zc_rRo F zc_h8 ?_
  exact zc_ans (zc_Op (zc_C0_takeBack hA (zc_xH F).1 rx))
theorem zc_C8_restore (hA : zc_A h) {x : Int} (rx : zv_rg x) : zm_R (C8_restore (d + 5) 1 x h) (zc_pX h) := by
  refine zm_cI (P := fun v h' => zc_pX h (v, h')) (fun e => lC8_restore (zc_ob hA zc_h8) e) ?_
  have F := zc_Q_r hA
  rw [qE8_restore]
  refine zc_rRo F zc_h8 ?_
  exact zc_ans (zc_Op (zc_C0_giveBack hA (zc_xH F).1 rx))
theorem zc_C8_carry (hA : zc_A h) {x : Int} (rx : zv_rg x) : zm_R (C8_carry (d + 7) 1 x h) (zc_pX h) := by
  refine zm_cI (P := fun v h' => zc_pX h (v, h')) (fun e => lC8_carry (zc_ob hA zc_h8) e) ?_
  have F := zc_Q_r hA
  rw [qE8_carry]
  refine zc_rRo F zc_h8 ?_
  exact zc_ans (zc_Op (zc_C0_carryOver hA (zc_xH F).1 rx))
theorem zc_C8_merge (hA : zc_A h) {x : Int} (rx : zv_rg x) : zm_R (C8_merge (d + 7) 1 x h) (zc_pX h) := by
  refine zm_cI (P := fun v h' => zc_pX h (v, h')) (fun e => lC8_merge (zc_ob hA zc_h8) e) ?_
  have F := zc_Q_r hA
  rw [qE8_merge]
  refine zc_rRo F zc_h8 ?_
  exact zc_ans (zm_mono (zc_C0_mergeIn hA (zc_xH F).1 rx) (fun _ q => ⟨q.1.1, q.2.1⟩))
theorem zc_C8_prune (hA : zc_A h) {x : Int} (rx : zv_rg x) : zm_R (C8_prune (d + 4) 1 x h) (zc_pX h) := by
  refine zm_cI (P := fun v h' => zc_pX h (v, h')) (fun e => lC8_prune (zc_ob hA zc_h8) e) ?_
  have F := zc_Q_r hA
  rw [qE8_prune]
  refine zc_rRo F zc_h8 ?_
  exact zc_ans (zc_C0_pruneTo hA (zc_xH F).1 rx)
theorem zc_C8_merges (hA : zc_A h) {x y : Int} (rx : zv_rg x) (ry : zv_rg y) : zm_R (C8_merges (d + 8) 1 x y h) (zc_pX h) := by
  refine zm_cI (P := fun v h' => zc_pX h (v, h')) (fun e => lC8_merges (zc_ob hA zc_h8) e) ?_
  have F := zc_Q_r hA
  rw [qE8_merges]
  refine zc_pI (K := fun v => (v = 0 ∨ v = 1)) (zc_C8_within hA ry (by unfold zv_rg; omega) (by unfold zv_rg; omega)) fun v1 r1 _ => ?_
  dsimp only
  refine zm_if (fun c => ?_) (fun c => ?_)
  · refine zc_cI (K := fun _ => True) F (zc_C8_refused hA zc_h8 (by unfold zv_rg; omega)) fun v2 h2 F2 r2 _ => ?_
    exact zm_iI ⟨zc_QX F2, r2⟩
  · refine zc_rRo F zc_h8 ?_
    exact zc_ans (zc_C0_mergeOnPaper hA (zc_xH F).1 rx)
theorem zc_C8_tellNames (hA : zc_A h) : zm_R (C8_tellNames (d + 4) 1 h) (fun q => zc_Q h q) := by
  refine zm_cV (fun e => lC8_tellNames (zc_ob hA zc_h8) e) ?_
  have F0 := zc_Q_r hA
  have hN := (zc_y0_6 (zc_xH F0).1).1
  have loop : ∀ (n : Nat) (g : zv_H) (i : Int), zc_Q h g → 0 ≤ i → (2147483647 - i).toNat = n → zv_rg i → zm_R (L8_tellNames_10 (d + 3) 1 (zv_R h 1 3 + 14) i g) (zm_V fun h' => zc_Q h h') := by
    intro n
    induction n using Nat.strongRecOn with
    | _ n ih =>
      intro g i F h0 hn ri
      rw [qL8_tellNames_10]
      refine zc_rI F hN fun v1 e1 r1 => ?_
      refine zm_if (fun c => ?_) (fun c => zm_iV F)
      have inner : ∀ (m : Nat) (g : zv_H) (k : Int), zc_Q h g → zv_rg k → k.toNat ≤ m → zm_R (L8_tellNames_34 (d + 3) 1 (zv_R h 1 3 + 14) i k g) (zm_V fun h' => zc_Q h h') := by
        intro m
        have stop : ∀ (g : zv_H) (k : Int), zc_Q h g → k ≤ 0 → zm_R (L8_tellNames_34 (d + 3) 1 (zv_R h 1 3 + 14) i k g) (zm_V fun h' => zc_Q h h') := fun g k F hk => by
          rw [qL8_tellNames_34, if_pos hk]
          refine zc_cV F (zc_C8_tellByte F.2 zc_h8 (by unfold zv_rg; omega)) fun g1 F => ?_
          refine zc_pI (K := fun _ => True) (zc_C2_ownerAt F.2 hN ri) fun v2 r2 _ => ?_
          dsimp only
          refine zc_cV F (zc_C8_tellNumber F.2 zc_h8 r2) fun g3 F => ?_
          exact ih _ (by rw [← hn]; exact zc_up ri r1 c) g3 _ F (by rw [zc_up1 ri r1 c]; omega) rfl (zc_w _)
        induction m with
        | zero => intro g k F rk hk; exact stop g k F (by omega)
        | succ m ihm =>
          intro g k F rk hk
          by_cases c0 : k ≤ 0
          · exact stop g k F c0
          · rw [qL8_tellNames_34, if_neg c0]
            refine zc_cV F (zc_C8_tellByte F.2 zc_h8 (zc_w _)) fun g1 F => ?_
            refine ihm g1 _ F (zc_ushr _ _) ?_
            unfold zv_rg at rk
            rw [zc_ushr5 (by omega) (by omega)]
            omega
      have L28 : ∀ g, zc_Q h g → zm_R (L8_tellNames_28 (d + 3) 1 (zv_R h 1 3 + 14) i g) (zm_V fun h' => zc_Q h h') := fun g F => by
        rw [qL8_tellNames_28]
        refine zc_pI (K := fun _ => True) (zc_C2_keyAt F.2 hN ri) fun v2 r2 _ => ?_
        exact inner _ g v2 F r2 (Nat.le_refl _)
      refine zm_if (fun c => L28 g F) (fun c => ?_)
      refine zc_cV F (zc_C8_tellByte F.2 zc_h8 (by unfold zv_rg; omega)) fun g1 F => ?_
      exact L28 g1 F
  rw [qE8_tellNames]
  refine zc_rRo F0 zc_h8 ?_
  refine zc_rF F0 14 (zc_xH F0).1 ?_
  exact loop _ h 0 F0 (by omega) rfl (by unfold zv_rg; omega)
theorem zc_C8_tell (hA : zc_A h) {x : Int} (rx : zv_rg x) : zm_R (C8_tell (d + 6) 1 x h) (zc_pX h) := by
  refine zm_cI (P := fun v h' => zc_pX h (v, h')) (fun e => lC8_tell (zc_ob hA zc_h8) e) ?_
  have F := zc_Q_r hA
  have fin : ∀ g, zc_Q h g → zm_R (L8_tell_47 (d + 5) 1 g) (zm_I fun v h' => zc_pX h (v, h')) := fun g F => by
    rw [qL8_tell_47]
    refine zc_rI F zc_h8 fun v1 e1 r1 => ?_
    refine zc_cI (K := fun _ => True) F (zc_C8_given F.2 zc_h8 r1) fun v2 h2 F2 r2 _ => ?_
    exact zm_iI ⟨zc_QX F2, r2⟩
  rw [qE8_tell]
  refine zc_pI (K := fun v => (v = 0 ∨ v = 1)) (zc_C8_within hA rx (by unfold zv_rg; omega) (by unfold zv_rg; omega)) fun v1 r1 _ => ?_
  dsimp only
  refine zm_if (fun c => ?_) (fun c => ?_)
  · refine zc_cI (K := fun _ => True) F (zc_C8_refused hA zc_h8 (by unfold zv_rg; omega)) fun v2 h2 F2 r2 _ => ?_
    exact zm_iI ⟨zc_QX F2, r2⟩
  · refine zc_wO F zc_h8 (zc_frO zc_h8 (by decide) (by decide) rfl (by decide)) (by unfold zv_rg; omega) fun g3 F => ?_
    refine zm_if (fun c => ?_) (fun c => ?_)
    · exact zc_cV F (zc_C8_tellDocument F.2 zc_h8) fun g4 F => fin g4 F
    · refine zm_if (fun c => ?_) (fun c => ?_)
      · exact zc_cV F (zc_C8_tellLine F.2 zc_h8) fun g4 F => fin g4 F
      · exact zc_cV F (zc_C8_tellNames F.2) fun g4 F => fin g4 F
theorem zc_tlk : ∀ k : Nat, k < 12 → ((k : Int)).tmod 6 = if (k : Int) < 6 then (k : Int) else (k : Int) - 6 := by decide
theorem zc_letter (a b : Int) {k : Nat} (hk : k < 12) : C8_typedLetter (d + 1) a b k h = some (zm_tl a b k, h) := by
  refine lC8_typedLetter ?_
  rw [qE8_typedLetter]
  unfold zm_tl
  rw [zc_tlk k hk]
  by_cases c : (k : Int) < 6
  · rw [if_pos c, if_pos c, if_pos c]
  · rw [if_neg c, if_neg c, if_neg c, zm_w (show -2147483648 ≤ (k : Int) - 6 ∧ (k : Int) - 6 < 2147483648 by omega)]
theorem zc_type36 (a b : Int) (k : Nat) (hk : k ≤ 12) (hA : zc_A h) : zm_R (L8_type_36 (d + 2) 1 a b k h) (zm_I fun v h' => zc_Q h h' ∧ v = (k : Int)) := by
  have F := zc_Q_r hA
  rw [qL8_type_36]
  refine zc_rF F 2 zc_h8 ?_
  refine zc_cV F (zc_C7_clear hA (zc_y8_1 zc_h8).1) fun g2 F => ?_
  have loop : ∀ (n i : Nat) (g : zv_H), i + n = k → zc_Q h g → zm_R (L8_type_46 (d + 2) 1 a b k i g) (zm_I fun v h' => zc_Q h h' ∧ v = (k : Int)) := by
    intro n
    induction n with
    | zero =>
      intro i g hi F
      rw [qL8_type_46, if_neg (by omega)]
      exact zm_iI ⟨F, rfl⟩
    | succ n ih =>
      intro i g hi F
      rw [qL8_type_46, if_pos (by omega)]
      refine zc_rF F 2 zc_h8 ?_
      rw [zm_e (zc_letter a b (show i < 12 by omega))]
      dsimp only
      refine zc_cV F (zc_C7_add F.2 (zc_y8_1 zc_h8).1 (zc_w _)) fun g3 F => ?_
      rw [zm_w (by omega)]
      exact ih (i + 1) g3 (by omega) F
  exact loop k 0 g2 (by omega) F
theorem zc_type2 (a b : Int) (hA : zc_A h) : ∀ (m k : Nat), k + m = 12 → zm_R (L8_type_2 (d + 2) 1 a b k h) (zm_I fun v h' => zc_Q h h' ∧ v = zm_ty a b m k) := by
  intro m
  induction m with
  | zero =>
    intro k hk
    rw [qL8_type_2, if_neg (by omega)]
    exact zc_type36 a b k (by omega) hA
  | succ m ih =>
    intro k hk
    have t := zc_and31 (zv_ushr (if (k : Int) < 6 then a else b) (zv_w (5 * ((k : Int).tmod 6))))
    have e1 : zm_ty a b (m + 1) k = if zm_tl a b k ≤ 26 then (if zm_tl a b k ≤ 0 then (k : Int) else zm_ty a b m (k + 1)) else -1 := rfl
    have t' : 0 ≤ zm_tl a b k ∧ zm_tl a b k ≤ 31 := t
    rw [qL8_type_2, if_pos (by omega), zm_e (zc_letter a b (show k < 12 by omega)), e1]
    dsimp only
    by_cases c : zm_tl a b k = 0
    · rw [if_pos c, if_pos (by omega), if_pos (by omega)]
      exact zc_type36 a b k (by omega) hA
    · rw [if_neg c, zm_e (zc_letter a b (show k < 12 by omega))]
      dsimp only
      by_cases c1 : zm_tl a b k ≤ 26
      · rw [if_pos c1, if_pos c1, if_neg (by omega), zm_w (by omega)]
        exact ih (k + 1) (by omega)
      · rw [if_neg c1, if_neg c1]
        exact zm_iI ⟨zc_Q_r hA, rfl⟩
theorem zc_C8_type (hA : zc_A h) (a b : Int) : zm_R (C8_type (d + 3) 1 a b h) (fun q => zc_Q h q.2 ∧ q.1 = zm_ty a b 12 0) := by
  refine zm_cI (P := fun v h' => zc_Q h h' ∧ v = zm_ty a b 12 0) (fun e => lC8_type (zc_ob hA zc_h8) e) ?_
  rw [qE8_type]
  exact zc_type2 a b hA 12 0 rfl
end
end
