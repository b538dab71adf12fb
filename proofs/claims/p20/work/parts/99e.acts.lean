/-! ===== the class: what is done ===== -/
/-- the tree is the same -/
def zc_E (h h' : zv_H) : Prop := (∀ t, zv_lay t = (1, 5) → zv_I h' t 3 = zv_I h t 3 ∧ zv_R h' t 4 = zv_R h t 4 ∧ (zv_I h t 3 = 1 → zv_I h' t 11 = zv_I h t 11)) ∧ ∀ b, zv_lay b = (1, 0) → zv_R h' b 10 = zv_R h b 10
theorem zc_E_r (h : zv_H) : zc_E h h := ⟨fun _ _ => ⟨rfl, rfl, fun _ => rfl⟩, fun _ _ => rfl⟩
theorem zc_qE {h h' : zv_H} (f : zc_q h h') : zc_E h h' := ⟨fun t ht => ⟨(f.2.2.2.2.1 t ht).2.1, zc_qR f ht 4, fun _ => (f.2.2.2.2.1 t ht).2.2.2⟩, fun b hb => zc_qR f hb 10⟩
theorem zc_E_t {h h1 h2 : zv_H} (f : zc_E h h1) (g : zc_E h1 h2) : zc_E h h2 := ⟨fun t ht => ⟨(g.1 t ht).1.trans (f.1 t ht).1, (g.1 t ht).2.1.trans (f.1 t ht).2.1, fun q => ((g.1 t ht).2.2 ((f.1 t ht).1.trans q)).trans ((f.1 t ht).2.2 q)⟩, fun b hb => (g.2 b hb).trans (f.2 b hb)⟩
theorem zc_G_E {a : Nat} {h h1 h2 : zv_H} {s : Nat} (ha : zv_lay a = (1, 0)) (g : zc_G a h h1 s) (f : zc_E h1 h2) : zc_G a h h2 s := by
  obtain ⟨g1, g2, g3, g4, g5, g6, g7, g8, g9, g10⟩ := g
  obtain ⟨i, r⟩ := f
  exact ⟨g1, g2, g3, g4, (i s g1).1.trans g5, ((i s g1).2.2 g5).trans g6, (i s g1).2.1.trans g7, (r a ha).trans g8, fun t ht hs => ⟨(i t ht).1.trans (g9 t ht hs).1, (i t ht).2.1.trans (g9 t ht hs).2.1, fun q => ((i t ht).2.2 ((g9 t ht hs).1.trans q)).trans ((g9 t ht hs).2.2 q)⟩, fun b hb hn => (r b hb).trans (g10 b hb hn)⟩
/-- the first of its group is its parent's -/
theorem zc_firstA {h : zv_H} (hA : zc_A h) {s f : Nat} (hs : zc_V h s) (hp : zv_R h s 4 = f) (hf : zv_lay f = (1, 5)) (h0 : zv_I h s 11 = 0) : zc_A (zv_sR h s 5 (zv_R h f 5)) ∧ zc_E h (zv_sR h s 5 (zv_R h f 5)) ∧ zc_P h (zv_sR h s 5 (zv_R h f 5)) := by
  obtain ⟨b1, b2, b3, b4, b5, b6, b7, b8⟩ := hA.1
  have o : ∀ r k, ¬ (r = s ∧ k = 5) → zv_R (zv_sR h s 5 (zv_R h f 5)) r k = zv_R h r k := fun r k c => if_neg c
  have n1 : ∀ r x, zv_lay r = x → x ≠ (1, 5) → r ≠ s := fun r x e n q => n (by rw [← e, q, hs.1])
  have hl : ∀ a', zv_lay a' = (1, 0) → zv_lay (a' + 4) = (6, 48) := fun a' h' => by cases zc_lh h' with
    | inl e => rw [e]; rfl
    | inr e => rw [e]; rfl
  have l17 : ∀ r, zv_lay r = (1, 4) → zv_lay (r + 1) = (6, 48) := fun a' h' => by cases zc_l4 h' with
    | inl e => rw [e]; rfl
    | inr e => rw [e]; rfl
  have lf : ∀ {t : Nat}, zv_lay t = (1, 5) → zv_R h t 4 ≠ s := fun ht => zc_leaf hA hs h0 ht
  have nfs : f ≠ s := fun e => lf hs.1 (hp.trans e)
  have r5 : zv_R (zv_sR h s 5 (zv_R h f 5)) s 5 = zv_R h f 5 := if_pos ⟨rfl, rfl⟩
  refine ⟨⟨⟨b1, fun r k hr hk => ?_, fun a' i h' hi => ?_, ?_, b5, b6, fun r k hr => ?_, b8⟩, fun t ht => ?_, fun b hb => ?_⟩, ⟨fun t ht => ⟨rfl, o t 4 (fun q => absurd q.2 (by decide)), fun _ => rfl⟩, fun b hb => o b 10 (fun q => absurd q.2 (by decide))⟩, rfl, rfl, fun r hr => ⟨rfl, rfl, zc_sRo _ _ _ _ (by have := zc_lt hs.1 (by decide); omega)⟩, rfl⟩
  · rw [o r k (fun q => ?_)]
    · exact b2 r k hr hk
    · rw [q.1, hs.1, q.2] at hk
      exact hk rfl
  · rw [o _ _ (fun q => n1 _ _ (hl a' h') (by decide) q.1)]
    exact b3 a' i h' hi
  · rw [o 1 3 (fun q => absurd q.2 (by decide)), o 1 4 (fun q => absurd q.2 (by decide))]
    exact b4
  · rw [o _ _ (fun q => n1 _ _ (l17 r hr) (by decide) q.1)]
    exact b7 r k hr
  · have tt := hA.2.1 t ht
    have ec : zc_ch (zv_sR h s 5 (zv_R h f 5)) t 48 = zc_ch h t 48 := by
      have : ∀ n, zc_ch (zv_sR h s 5 (zv_R h f 5)) t n = zc_ch h t n := by
        intro n
        induction n with
        | zero => rfl
        | succ n ih =>
          show zc_ch (zv_sR h s 5 (zv_R h f 5)) t n + (if zv_R (zv_sR h s 5 (zv_R h f 5)) (zc_stt (zc_hf t) n) 4 = t then 1 else 0) = zc_ch h t n + (if zv_R h (zc_stt (zc_hf t) n) 4 = t then 1 else 0)
          rw [ih, o _ 4 (fun q => absurd q.2 (by decide))]
      exact this 48
    unfold zc_t
    rw [ec, o t 4 (fun q => absurd q.2 (by decide))]
    cases tt with
    | inl u => exact Or.inl u
    | inr u =>
      refine Or.inr ⟨u.1, u.2.1, u.2.2.1, ?_, u.2.2.2.2⟩
      by_cases e : t = s
      · rw [e, r5, hp]
        refine Or.inr ⟨zc_nz hf, ?_⟩
        exact (o f 5 (fun q => nfs q.1)).symm
      · rw [o t 5 (fun q => e q.1)]
        cases u.2.2.2.1 with
        | inl w => exact Or.inl w
        | inr w => exact Or.inr ⟨w.1, w.2.trans (o _ 5 (fun q => lf ht q.1)).symm⟩
  · rw [o b 10 (fun q => absurd q.2 (by decide))]
    exact hA.2.2 b hb
/-- joinGroup -/
def zc_j (h h' : zv_H) : Prop := zc_X h h' ∧ zc_E h h'
theorem zc_Qj {h h' : zv_H} (f : zc_Q h h') : zc_j h h' := ⟨zc_QX f, zc_qE f.1⟩
theorem zc_C0_joinGroup {d : Nat} {h : zv_H} (hA : zc_A h) {a s f : Nat} (ha : zv_lay a = (1, 0)) (hs : zc_V h s) (hp : zv_R h s 4 = f) (hf : zc_V h f) (h0 : zv_I h s 11 = 0) : zm_R (C0_joinGroup (d + 2) a s f h) (fun q => zc_j h q) := by
  have F := zc_Q_r hA
  refine zm_cV (fun e => lC0_joinGroup (zc_ob hA ha) e) ?_
  have L108 : ∀ (g : zv_H) (x : Int), zc_Q h g → zv_rg x → zm_R (L0_joinGroup_108 (d + 1) a s f (a + 22) 4 x g) (zm_V fun h' => zc_j h h') := fun g x F rx => by
    rw [qL0_joinGroup_108]
    refine zc_cV F (zc_C1_set F.2 (zc_y0_8 ha).1 (by unfold zv_rg; omega) rx) fun g1 F => ?_
    refine zc_rF F 22 ha ?_
    refine zc_rI F hs.1 fun v3 e3 r3 => ?_
    refine zc_cV F (zc_C1_set F.2 (zc_y0_8 ha).1 (by unfold zv_rg; omega) r3) fun g4 F => ?_
    refine zc_rF F 22 ha ?_
    refine zc_pI (K := fun _ => True) (zc_C1_holds F.2 (zc_y0_8 ha).1) fun v6 r6 _ => ?_
    dsimp only
    refine zm_if (fun c => zm_iV (zc_Qj F)) (fun c => ?_)
    refine zc_rR F hf.1 fun v7 e7 => ?_
    rw [zm_e (show zv_pR g4 s 5 5 v7 = some _ from if_pos (zc_ob F.2 hs.1)), e7]
    have w := zc_firstA F.2 (zc_Vq F.1 hs) ((zc_qR F.1 hs.1 4).trans hp) hf.1 ((F.1.2.2.2.2.1 s hs.1).2.2.2.trans h0)
    exact zm_iV ⟨⟨zc_P_t (zc_qP F.1) w.2.2, w.1⟩, zc_E_t (zc_qE F.1) w.2.1⟩
  have L87 : ∀ (g : zv_H) (x : Int), zc_Q h g → zv_rg x → zm_R (L0_joinGroup_87 (d + 1) a s f (a + 22) 3 x g) (zm_V fun h' => zc_j h h') := fun g x F rx => by
    rw [qL0_joinGroup_87]
    refine zc_cV F (zc_C1_set F.2 (zc_y0_8 ha).1 (by unfold zv_rg; omega) rx) fun g1 F => ?_
    refine zc_rF F 22 ha ?_
    refine zc_pI (K := fun _ => True) (zc_C0_isNear F.2 hs.1 hf.1) fun v6 r6 _ => ?_
    dsimp only
    exact zm_if (fun c => L108 _ _ F (by unfold zv_rg; omega)) (fun c => L108 _ _ F (by unfold zv_rg; omega))
  rw [qE0_joinGroup]
  refine zc_pI (K := fun _ => True) (zc_C5_edits hA hf.1) fun v1 r1 _ => ?_
  dsimp only
  refine zm_if (fun c => zm_iV (zc_Qj F)) (fun c => ?_)
  refine zc_rR5 F hf.1 ?_
  refine zm_if (fun c => zm_iV (zc_Qj F)) (fun c => ?_)
  refine zc_rF F 22 ha ?_
  refine zc_rI F hs.1 fun v4 e4 r4 => ?_
  refine zc_rI F hf.1 fun v5 e5 r5 => ?_
  refine zc_cV F (zc_C1_set F.2 (zc_y0_8 ha).1 (by unfold zv_rg; omega) (zc_w _)) fun g6 F => ?_
  refine zc_rF F 22 ha ?_
  refine zc_rI F hf.1 fun v8 e8 r8 => ?_
  refine zc_rR5 F hf.1 ?_
  refine zc_rI F (zc_fV F hf).1 fun v10 e10 r10 => ?_
  refine zc_cV F (zc_C1_set F.2 (zc_y0_8 ha).1 (by unfold zv_rg; omega) (zc_w _)) fun g11 F => ?_
  refine zc_rF F 22 ha ?_
  refine zc_rI F hs.1 fun v13 e13 r13 => ?_
  refine zc_cV F (zc_C1_set F.2 (zc_y0_8 ha).1 (by unfold zv_rg; omega) r13) fun g14 F => ?_
  refine zc_rF F 22 ha ?_
  refine zc_rI F hs.1 fun v16 e16 r16 => ?_
  refine zc_rI F hf.1 fun v17 e17 r17 => ?_
  exact zm_if (fun c => L87 _ _ F (by unfold zv_rg; omega)) (fun c => L87 _ _ F (by unfold zv_rg; omega))
/-- what an act answers: refused, nothing done; or one new State -/
def zc_O (a : Nat) (h : zv_H) (q : Int × zv_H) : Prop := zc_X h q.2 ∧ zv_rg q.1 ∧ ((q.1 < 0 ∧ zc_Q h q.2) ∨ (0 ≤ q.1 ∧ ∃ s, zc_G a h q.2 s))
def zc_Oi (a : Nat) (h : zv_H) : Option zv_V × zv_H → Prop := zm_I fun v h' => zc_O a h (v, h')
theorem zc_On {a : Nat} {h h' : zv_H} (F : zc_Q h h') {v : Int} (hv : v < 0) (rv : zv_rg v) : zm_R (some (some (zv_i v), h')) (zc_Oi a h) := zm_iI ⟨zc_QX F, rv, Or.inl ⟨hv, F⟩⟩
theorem zc_O_q {a : Nat} {h h1 : zv_H} (ha : zv_lay a = (1, 0)) (F : zc_Q h h1) {q : Int × zv_H} (o : zc_O a h1 q) : zc_O a h q := by
  obtain ⟨x, r, o⟩ := o
  refine ⟨zc_X_t (zc_QX F) x, r, ?_⟩
  cases o with
  | inl o => exact Or.inl ⟨o.1, zc_Q_t F o.2⟩
  | inr o => obtain ⟨o1, s, g⟩ := o; exact Or.inr ⟨o1, s, zc_q_G ha F.1 g⟩
theorem zc_num {h : zv_H} (hA : zc_A h) {s : Nat} (hs : zv_lay s = (1, 5)) : 0 ≤ zv_I h s 0 ∧ zv_I h s 0 < 48 := by
  obtain ⟨i, hi, e⟩ := zc_l5i hs
  have := hA.1.2.2.2.2.2.2.2 (zc_hf s) i (zc_hl s) hi
  rw [← e] at this
  omega
/-- the end of an act: the new State joins its group, its number is answered -/
theorem zc_joins {d : Nat} {h h1 g : zv_H} {a s : Nat} (ha : zv_lay a = (1, 0)) (X1 : zc_X h h1) (G : zc_G a h h1 s) (hA : zc_A h) (F : zc_Q h1 g) : zm_R ((C0_joinGroup (d + 2) a s (zv_R h a 10) g).bind fun g4 => (zv_gI g4 s 5 0).bind fun v5 => some (some (zv_i v5), g4)) (zc_Oi a h) := by
  have hV := zc_hV (zc_Q_r hA) ha
  have G2 := zc_G_q ha G F.1
  have Vh := zc_G_V G2 hV.1
  obtain ⟨g4, e4, J⟩ := zc_C0_joinGroup (d := d) F.2 ha ⟨G2.1, G2.2.2.2.2.1⟩ G2.2.2.2.2.2.2.1 Vh.1 G2.2.2.2.2.2.1
  rw [zm_e e4]
  have G3 := zc_G_E ha G2 J.2
  refine zc_rI (zc_Q_r J.1.2) G2.1 fun v5 e5 r5 => ?_
  have := zc_num J.1.2 G2.1
  rw [← e5] at this
  exact zm_iI ⟨zc_X_t (zc_X_t X1 (zc_QX F)) J.1, r5, Or.inr ⟨this.1, s, G3⟩⟩
theorem zc_C0_putWord {d : Nat} {h : zv_H} (hA : zc_A h) {a w : Nat} {x : Int} (ha : zv_lay a = (1, 0)) (hw : zv_lay w = (1, 7)) (rx : zv_rg x) : zm_R (C0_putWord (d + 3) a x w h) (zc_O a h) := by
  have F := zc_Q_r hA
  have hV := zc_hV F ha
  refine zm_cI (P := fun v h' => zc_O a h (v, h')) (fun e => lC0_putWord (zc_ob hA ha) e) ?_
  have no1 : zm_R (some (some (zv_i (-1)), h)) (zc_Oi a h) := zc_On F (by decide) (by unfold zv_rg; omega)
  have no3 : zm_R (some (some (zv_i (-3)), h)) (zc_Oi a h) := zc_On F (by decide) (by unfold zv_rg; omega)
  have no6 : zm_R (some (some (zv_i (-6)), h)) (zc_Oi a h) := zc_On F (by decide) (by unfold zv_rg; omega)
  rw [qE0_putWord]
  refine zm_if (fun c => no1) (fun c1 => ?_)
  refine zc_rRo F ha ?_
  refine zc_rI F hV.1.1 fun v2 e2 r2 => ?_
  refine zm_if (fun c2 => ?_) (fun c => no1)
  refine zc_rI F hw fun v3 e3 r3 => ?_
  refine zm_if (fun c => no1) (fun c3 => ?_)
  refine zc_rI F ha fun v4 e4 r4 => ?_
  refine zm_if (fun c4 => ?_) (fun c => no3)
  refine zc_rRo F ha ?_
  refine zc_rI F hV.1.1 fun v6 e6 r6 => ?_
  refine zc_rI F hw fun v7 e7 r7 => ?_
  refine zm_if (fun c5 => ?_) (fun c => no6)
  refine zc_rRo F ha ?_
  refine zc_rI F hw fun v9 e9 r9 => ?_
  obtain ⟨⟨s, h1⟩, e10, hq⟩ := zc_C0_grow (d := d) hA ha (x := 0) (y := x) (z := v9) (by unfold zv_rg; omega) rx r9
  rw [zm_e e10]
  cases hq with
  | inl q =>
    obtain ⟨q1, q2⟩ := q
    have q1' : s = 0 := q1
    have q2' : h1 = h := q2
    subst q1' q2'
    dsimp only
    rw [if_pos rfl]
    exact no3
  | inr q =>
    obtain ⟨X1, G⟩ := q
    have A1 : zc_A h1 := X1.2
    have G' : zc_G a h h1 s := G
    have hs := G'.1
    dsimp only
    rw [if_neg (zc_nz hs)]
    have F := zc_Q_r A1
    refine zc_pI (K := fun _ => True) (zc_C5_idAt A1 hV.1.1 (zc_w _)) fun v11 r11 _ => ?_
    dsimp only
    refine zc_wO F hs (zc_frO hs (zc_lt hs (by decide)) (by decide) rfl (by decide)) r11 fun g12 F => ?_
    refine zc_rI F hs fun v13 e13 r13 => ?_
    refine zc_pJ (zc_C0_baseOf F.2 r13) fun v14 => ?_
    dsimp only
    refine zc_wJ F hs (zc_lt hs (by decide)) fun g15 F => ?_
    have L184 : ∀ (n : Nat) (g : zv_H) (i : Int), zc_Q h1 g → 0 ≤ i → (2147483647 - i).toNat = n → zv_rg i → zm_R (L0_putWord_184 (d + 2) a (zv_R h a 10) s i g) (zc_Oi a h) := by
      intro n
      induction n using Nat.strongRecOn with
      | _ n ih =>
        intro g i F h0 hn ri
        rw [qL0_putWord_184]
        refine zc_rI F hV.1.1 fun v1 e1 r1 => ?_
        refine zm_if (fun c => ?_) (fun c => zc_joins ha X1 G' hA F)
        refine zc_pI (K := fun _ => True) (zc_C5_idAt F.2 hV.1.1 ri) fun v2 r2 _ => ?_
        dsimp only
        refine zc_cV F (zc_C5_addId F.2 hs r2) fun g3 F => ?_
        exact ih _ (by rw [← hn]; exact zc_up ri r1 c) g3 _ F (by rw [zc_up1 ri r1 c]; omega) rfl (zc_w _)
    have L135 : ∀ (n : Nat) (g : zv_H) (i : Int), zc_Q h1 g → 0 ≤ i → (2147483647 - i).toNat = n → zv_rg i → zm_R (L0_putWord_135 (d + 2) a x w (zv_R h a 10) s i g) (zc_Oi a h) := by
      intro n
      induction n using Nat.strongRecOn with
      | _ n ih =>
        intro g i F h0 hn ri
        rw [qL0_putWord_135]
        refine zc_rI F hw fun v1 e1 r1 => ?_
        refine zm_if (fun c => ?_) (fun c => L184 _ _ _ F (by omega) rfl rx)
        refine zc_rI F hs fun v2 e2 r2 => ?_
        refine zc_pI (K := fun _ => True) (zc_C4_id F.2 r2 ri) fun v3 r3 _ => ?_
        dsimp only
        refine zc_pI (K := fun _ => True) (zc_C7_at F.2 hw ri) fun v4 r4 _ => ?_
        dsimp only
        refine zc_cV F (zc_C0_setGlyph F.2 ha r3 r4) fun g5 F => ?_
        refine zc_cV F (zc_C5_addId F.2 hs r3) fun g6 F => ?_
        exact ih _ (by rw [← hn]; exact zc_up ri r1 c) g6 _ F (by rw [zc_up1 ri r1 c]; omega) rfl (zc_w _)
    have L109 : ∀ (n : Nat) (g : zv_H) (i : Int), zc_Q h1 g → 0 ≤ i → (2147483647 - i).toNat = n → zv_rg i → zm_R (L0_putWord_109 (d + 2) a x w (zv_R h a 10) s i g) (zc_Oi a h) := by
      intro n
      induction n using Nat.strongRecOn with
      | _ n ih =>
        intro g i F h0 hn ri
        rw [qL0_putWord_109]
        refine zm_if (fun c => ?_) (fun c => L135 _ _ _ F (by omega) rfl (by unfold zv_rg; omega))
        refine zc_pI (K := fun _ => True) (zc_C5_idAt F.2 hV.1.1 ri) fun v2 r2 _ => ?_
        dsimp only
        refine zc_cV F (zc_C5_addId F.2 hs r2) fun g3 F => ?_
        exact ih _ (by rw [← hn]; exact zc_up ri rx c) g3 _ F (by rw [zc_up1 ri rx c]; omega) rfl (zc_w _)
    exact L109 _ _ 0 F (by omega) rfl (by unfold zv_rg; omega)
theorem zc_C0_cutOut {d : Nat} {h : zv_H} (hA : zc_A h) {a : Nat} {x y : Int} (ha : zv_lay a = (1, 0)) (rx : zv_rg x) (ry : zv_rg y) : zm_R (C0_cutOut (d + 3) a x y h) (zc_O a h) := by
  have F := zc_Q_r hA
  have hV := zc_hV F ha
  refine zm_cI (P := fun v h' => zc_O a h (v, h')) (fun e => lC0_cutOut (zc_ob hA ha) e) ?_
  have no1 : zm_R (some (some (zv_i (-1)), h)) (zc_Oi a h) := zc_On F (by decide) (by unfold zv_rg; omega)
  have no3 : zm_R (some (some (zv_i (-3)), h)) (zc_Oi a h) := zc_On F (by decide) (by unfold zv_rg; omega)
  have no5 : zm_R (some (some (zv_i (-5)), h)) (zc_Oi a h) := zc_On F (by decide) (by unfold zv_rg; omega)
  rw [qE0_cutOut]
  refine zm_if (fun c => no1) (fun c1 => ?_)
  refine zc_pI (K := fun v => (v = 0 ∨ v = 1)) (zc_C8_within hA ry (by unfold zv_rg; omega) (by unfold zv_rg; omega)) fun v1 r1 _ => ?_
  dsimp only
  refine zm_if (fun c => no1) (fun c2 => ?_)
  refine zc_rRo F ha ?_
  refine zc_rI F hV.1.1 fun v3 e3 r3 => ?_
  refine zm_if (fun c3 => ?_) (fun c => no5)
  refine zc_rI F ha fun v4 e4 r4 => ?_
  refine zm_if (fun c4 => ?_) (fun c => no3)
  refine zc_rRo F ha ?_
  obtain ⟨⟨s, h1⟩, e10, hq⟩ := zc_C0_grow (d := d) hA ha (x := 1) (y := x) (z := y) (by unfold zv_rg; omega) rx ry
  rw [zm_e e10]
  cases hq with
  | inl q =>
    obtain ⟨q1, q2⟩ := q
    have q1' : s = 0 := q1
    have q2' : h1 = h := q2
    subst q1' q2'
    dsimp only
    rw [if_pos rfl]
    exact no3
  | inr q =>
    obtain ⟨X1, G⟩ := q
    have A1 : zc_A h1 := X1.2
    have G' : zc_G a h h1 s := G
    have hs := G'.1
    dsimp only
    rw [if_neg (zc_nz hs)]
    have F := zc_Q_r A1
    have loop : ∀ (n : Nat) (g : zv_H) (i : Int), zc_Q h1 g → 0 ≤ i → (2147483647 - i).toNat = n → zv_rg i → zm_R (L0_cutOut_69 (d + 2) a x y (zv_R h a 10) s i g) (zc_Oi a h) := by
      intro n
      induction n using Nat.strongRecOn with
      | _ n ih =>
        intro g i F h0 hn ri
        rw [qL0_cutOut_69]
        refine zc_rI F hV.1.1 fun v1 e1 r1 => ?_
        refine zm_if (fun c => ?_) (fun c => zc_joins ha X1 G' hA F)
        refine zc_pI (K := fun _ => True) (zc_C5_idAt F.2 hV.1.1 ri) fun v2 r2 _ => ?_
        dsimp only
        have nx : ∀ g, zc_Q h1 g → zm_R (L0_cutOut_69 (d + 2) a x y (zv_R h a 10) s (zv_w (i + 1)) g) (zc_Oi a h) := fun g F => ih _ (by rw [← hn]; exact zc_up ri r1 c) g _ F (by rw [zc_up1 ri r1 c]; omega) rfl (zc_w _)
        have els : zm_R (L0_cutOut_138 (d + 2) a x y (zv_R h a 10) s i v2 g) (zc_Oi a h) := by
          rw [qL0_cutOut_138]
          refine zc_cV F (zc_C5_addId F.2 hs r2) fun g3 F => ?_
          exact nx g3 F
        refine zm_if (fun c => els) (fun c5 => ?_)
        refine zm_if (fun c6 => ?_) (fun c => els)
        refine zm_if (fun c7 => ?_) (fun c => els)
        refine zc_rF F 1 hs ?_
        refine zc_wA F (zc_y5_1 hs).1 (zc_y5_1 hs).2 (by omega) (by omega) r2 fun g4 F _ => ?_
        refine zc_rJ F hs fun v5 => ?_
        refine zc_pJ (zc_C0_baseOf F.2 r2) fun v6 => ?_
        dsimp only
        refine zc_wJ F hs (zc_lt hs (by decide)) fun g7 F => ?_
        exact nx g7 F
    exact loop _ _ 0 F (by omega) rfl (by unfold zv_rg; omega)
