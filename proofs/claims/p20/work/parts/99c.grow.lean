/-! ===== the class: a new State keeps what holds ===== -/
theorem zc_growA {h g : zv_H} {a s p i0 : Nat} (hA : zc_A h) (ha : zv_lay a = (1, 0)) (hp : p = zv_R h a 10) (hi : i0 < 48) (es : s = zc_stt a i0) (h3 : zv_I h s 3 ≠ 1) (g1 : g.1 = h.1)
  (iO : ∀ r k, r ≠ s → ¬ (r = p ∧ k = 11) → ¬ (r = a ∧ k = 12) → zv_I g r k = zv_I h r k)
  (rO : ∀ r k, ¬ (r = s ∧ (k = 4 ∨ k = 5)) → ¬ (r = a ∧ k = 10) → zv_R g r k = zv_R h r k)
  (rg : ∀ r k, r < 347 → zv_rg (zv_I g r k)) (is0 : zv_I g s 0 = zv_I h s 0) (is3 : zv_I g s 3 = 1) (rs4 : zv_R g s 4 = p) (rs5 : zv_R g s 5 = s) (is10 : zv_I g s 10 = zv_I h p 10 + 1) (is11 : zv_I g s 11 = 0) (is12 : zv_I g s 12 = 0) (ip : zv_I g p 11 = zv_I h p 11 + 1) (ra : zv_R g a 10 = s) : zc_A g ∧ zc_G a h g s := by
  have sl := zc_stl ha hi
  rw [← es] at sl
  have F := zc_Q_r hA
  have hV := zc_hV F ha
  rw [← hp] at hV
  have nep : p ≠ s := fun e => h3 (by rw [← e]; exact hV.1.2)
  have h30 : zv_I h s 3 = 0 ∧ zv_R h s 4 = 0 := by
    cases hA.2.1 s sl.1 with
    | inl t => exact t
    | inr t => exact absurd t.1 h3
  have ls : ∀ r x, zv_lay r = x → x ≠ (1, 5) → r ≠ s := fun r x e n q => n (by rw [← e, q, sl.1])
  have lp : ∀ r x, zv_lay r = x → x ≠ (1, 5) → r ≠ p := fun r x e n q => n (by rw [← e, q, hV.1.1])
  have la : ∀ r x, zv_lay r = x → x ≠ (1, 0) → r ≠ a := fun r x e n q => n (by rw [← e, q, ha])
  have hB := hA.1
  have l4 : ∀ a', zv_lay a' = (1, 0) → zv_lay (a' + 4) = (6, 48) := fun a' h' => by cases zc_lh h' with
    | inl e => rw [e]; rfl
    | inr e => rw [e]; rfl
  have l17 : ∀ r, zv_lay r = (1, 4) → zv_lay (r + 1) = (6, 48) := fun a' h' => by cases zc_l4 h' with
    | inl e => rw [e]; rfl
    | inr e => rw [e]; rfl
  have B : zc_B g := by
    refine ⟨?_, fun r k hr hk => ?_, fun a' i h' hi' => ?_, ?_, rg, fun r c k m hr hm => ?_, fun r k hr => ?_, fun a' i h' hi' => ?_⟩
    · unfold zv_n
      rw [g1]
      exact hB.1
    · rw [rO r k (fun q => ?_) (fun q => ?_)]
      · exact hB.2.1 r k hr hk
      · rw [q.1, sl.1] at hk
        cases q.2 with
        | inl e => rw [e] at hk; exact hk rfl
        | inr e => rw [e] at hk; exact hk rfl
      · rw [q.1, ha, q.2] at hk
        exact hk rfl
    · rw [rO _ _ (fun q => ls _ _ (l4 a' h') (by decide) q.1) (fun q => la _ _ (l4 a' h') (by decide) q.1)]
      exact hB.2.2.1 a' i h' hi'
    · have n1 : ∀ k, zv_R g 1 k = zv_R h 1 k := fun k => rO _ _ (fun q => ls 1 (1, 8) rfl (by decide) q.1) (fun q => la 1 (1, 8) rfl (by decide) q.1)
      rw [n1, n1]
      exact hB.2.2.2.1
    · by_cases e : r = s
      · rw [e, sl.1] at hr
        cases hr
        have k12 : k = 12 ∧ m = 120 := by
          unfold zc_bd at hm
          rw [if_neg (fun q => absurd q.1 (by decide))] at hm
          by_cases q : (5 = 5 ∧ k = 12)
          · rw [if_pos q] at hm
            cases hm
            exact ⟨q.2, rfl⟩
          · rw [if_neg q, if_neg (fun q => absurd q.1 (by decide))] at hm
            cases hm
        rw [e, k12.1, is12, k12.2]
        decide
      · rw [iO r k e (fun q => ?_) (fun q => ?_)]
        · exact hB.2.2.2.2.2.1 r c k m hr hm
        · rw [q.1, hV.1.1] at hr
          cases hr
          rw [q.2] at hm
          cases hm
        · rw [q.1, ha] at hr
          cases hr
          rw [q.2] at hm
          cases hm
    · rw [rO _ _ (fun q => ls _ _ (l17 r hr) (by decide) q.1) (fun q => la _ _ (l17 r hr) (by decide) q.1)]
      exact hB.2.2.2.2.2.2.1 r k hr
    · have sl' := zc_stl h' hi'
      by_cases e : zc_stt a' i = s
      · have := hB.2.2.2.2.2.2.2 a' i h' hi'
        rw [e] at this ⊢
        exact is0.trans this
      · rw [iO _ _ e (fun q => by cases q.2) (fun q => by cases q.2)]
        exact hB.2.2.2.2.2.2.2 a' i h' hi'
  have i3 : ∀ t, t ≠ s → zv_I g t 3 = zv_I h t 3 := fun t e => iO _ _ e (fun q => by cases q.2) (fun q => by cases q.2)
  have i10 : ∀ t, t ≠ s → zv_I g t 10 = zv_I h t 10 := fun t e => iO _ _ e (fun q => by cases q.2) (fun q => by cases q.2)
  have r4 : ∀ t, zv_lay t = (1, 5) → t ≠ s → zv_R g t 4 = zv_R h t 4 := fun t ht e => rO _ _ (fun q => e q.1) (fun q => la t _ ht (by decide) q.1)
  have r5 : ∀ t, zv_lay t = (1, 5) → t ≠ s → zv_R g t 5 = zv_R h t 5 := fun t ht e => rO _ _ (fun q => e q.1) (fun q => la t _ ht (by decide) q.1)
  have cnt : ∀ r, r ≠ 0 → (r = p → zc_hf r = a) → zc_ch g r 48 = zc_ch h r 48 + (if r = p then 1 else 0) := fun r hr hrp => by
    rw [zc_ch_add ha hi es h30.2 rs4 r4 hr hrp 48 (Nat.le_refl _)]
    by_cases c : r = p
    · rw [if_pos ⟨c, hi⟩, if_pos c]
    · rw [if_neg (fun q => c q.1), if_neg c]
  have dp := (zc_dep F hV.1).1
  have room := zc_room hA hV.1 (j := i0) hi (by rw [hV.2, ← es]; exact h3)
  have T : zc_T g := by
    refine ⟨fun t ht => ?_, fun b hb => ?_⟩
    · by_cases e : t = s
      · subst e
        refine Or.inr ⟨is3, by rw [is10]; omega, Or.inr ?_, Or.inl rs5, ?_⟩
        · rw [rs4]
          refine ⟨hV.1.1, (i3 p nep).trans hV.1.2, hV.2.trans sl.2.1.symm, ?_⟩
          rw [i10 p nep, is10]
        · rw [is11, cnt t (zc_nz sl.1) (fun q => absurd q.symm nep), if_neg (fun q => nep q.symm)]
          have c0 : ∀ n, n ≤ 48 → zc_ch h t n = 0 := by
            intro n
            induction n with
            | zero => intro _; rfl
            | succ n ih =>
              intro hn
              have l := zc_stl (zc_hl t) (show n < 48 by omega)
              show zc_ch h t n + (if zv_R h (zc_stt (zc_hf t) n) 4 = t then 1 else 0) = 0
              rw [ih (by omega), if_neg ?_]
              · rfl
              · intro q
                cases hA.2.1 _ l.1 with
                | inl u => exact zc_nz sl.1 (q.symm.trans u.2)
                | inr u =>
                  cases u.2.2.1 with
                  | inl w => exact zc_nz sl.1 (q.symm.trans w.1)
                  | inr w => have := w.2.1; rw [q] at this; exact h3 this
          rw [c0 48 (Nat.le_refl _)]
          rfl
      · cases hA.2.1 t ht with
        | inl u => exact Or.inl ⟨(i3 t e).trans u.1, (r4 t ht e).trans u.2⟩
        | inr u =>
          have nq : zv_R h t 4 ≠ 0 → zv_lay (zv_R h t 4) = (1, 5) ∧ zv_R h t 4 ≠ s := fun q => by
            cases u.2.2.1 with
            | inl w => exact absurd w.1 q
            | inr w => exact ⟨w.1, fun q1 => by have := w.2.1; rw [q1] at this; exact h3 this⟩
          refine Or.inr ⟨(i3 t e).trans u.1, by rw [i10 t e]; exact u.2.1, ?_, ?_, ?_⟩
          · rw [r4 t ht e, i10 t e]
            cases u.2.2.1 with
            | inl w => exact Or.inl w
            | inr w =>
              have n1 := (nq (zc_nz w.1)).2
              refine Or.inr ⟨w.1, (i3 _ n1).trans w.2.1, w.2.2.1, ?_⟩
              rw [i10 _ n1]
              exact w.2.2.2
          · rw [r4 t ht e, r5 t ht e]
            cases u.2.2.2.1 with
            | inl w => exact Or.inl w
            | inr w =>
              have n1 := nq w.1
              refine Or.inr ⟨w.1, ?_⟩
              rw [r5 _ n1.1 n1.2]
              exact w.2
          · rw [cnt t (zc_nz ht) (fun q => by rw [q]; exact hV.2), ← u.2.2.2.2]
            by_cases c : t = p
            · rw [c, if_pos rfl, ip]
            · rw [if_neg c, iO t 11 e (fun q => c q.1) (fun q => by cases q.2)]
              omega
    · by_cases e : b = a
      · rw [e, ra]
        exact ⟨sl.1, is3, sl.2.1⟩
      · have u := hA.2.2 b hb
        rw [rO b 10 (fun q => ls b _ hb (by decide) q.1) (fun q => e q.1)]
        refine ⟨u.1, ?_, u.2.2⟩
        rw [i3 _ (fun q => ?_)]
        · exact u.2.1
        · have := u.2.1
          rw [q] at this
          exact h3 this
  refine ⟨⟨B, T⟩, sl.1, sl.2.1, h30.1, h30.2, is3, is11, rs4.trans hp, ra, fun t ht e => ⟨i3 t e, r4 t ht e, fun q => ?_⟩, fun b hb e => rO b 10 (fun q => ls b _ hb (by decide) q.1) (fun q => e q.1)⟩
  rw [← hp]
  by_cases c : t = p
  · rw [if_pos c, c, ip]
  · rw [if_neg c, iO t 11 e (fun q => c q.1) (fun q => by cases q.2)]
theorem zc_PB {h h' : zv_H} (f1 : h'.1 = h.1) (f2 : h'.2.2.2.2 = h.2.2.2.2) (f3 : ∀ r, 347 ≤ r → h'.2.1 r = h.2.1 r ∧ h'.2.2.1 r = h.2.2.1 r ∧ h'.2.2.2.1 r = h.2.2.2.1 r) (f4 : zv_I h' 5 2 = zv_I h 5 2) : zc_P h h' := ⟨f1, f2, f3, f4⟩
/-- grow: refused, or one new State -/
def zc_gr (a : Nat) (h : zv_H) (q : Nat × zv_H) : Prop := (q.1 = 0 ∧ q.2 = h) ∨ (zc_X h q.2 ∧ zc_G a h q.2 q.1)
theorem zc_sIo (h : zv_H) (r k : Nat) (v : Int) {b : Nat} (hb : b ≠ r) : (zv_sI h r k v).2.1 b = h.2.1 b := by
  funext c
  exact if_neg (fun q => hb q.1)
theorem zc_sRo (h : zv_H) (r k : Nat) (v : Nat) {b : Nat} (hb : b ≠ r) : (zv_sR h r k v).2.2.2.1 b = h.2.2.2.1 b := by
  funext c
  exact if_neg (fun q => hb q.1)
theorem zc_L0_grow_25 {d : Nat} {h : zv_H} {a : Nat} {x y z i : Int} (hA : zc_A h) (ha : zv_lay a = (1, 0)) (rx : zv_rg x) (ry : zv_rg y) (rz : zv_rg z) (h0 : 0 ≤ i) (h1 : i < 48 → zv_I h (zc_stt a i.toNat) 3 ≠ 1) : zm_R (L0_grow_25 (d + 1) a x y z i h) (fun o => ∃ q, o = (some (zv_r q.1), q.2) ∧ zc_gr a h q) := by
  have F := zc_Q_r hA
  rw [qL0_grow_25]
  by_cases c : i < 48
  · have s1 := zc_stl ha (show i.toNat < 48 by omega)
    have h3 := h1 c
    have hV := zc_hV F ha
    have hl : zv_lay (a + 4) = (6, 48) := by cases zc_lh ha with
      | inl e => rw [e]; rfl
      | inr e => rw [e]; rfl
    have e1 : zv_aR h (a + 4) i = some (zc_stt a i.toNat) := by
      unfold zv_aR
      rw [if_pos ⟨zc_n hA.1 (zc_ly hl), by rw [hl], h0, by rw [hl]; exact c⟩, hA.1.2.2.1 a i.toNat ha (by omega)]
    rw [if_pos c, zm_e (zc_gF hA ha 1 4 rfl (by decide)), zm_e e1, if_neg (zc_nz s1.1), zm_e (zc_gF hA ha 1 4 rfl (by decide)), zm_e e1, zm_e (zc_gR hA ha 10)]
    have es : zc_stt a i.toNat = zc_stt a i.toNat := rfl
    generalize hs : zc_stt a i.toNat = s at *
    generalize hp : zv_R h a 10 = p at *
    have nep : p ≠ s := fun e => h3 (by rw [← e]; exact hV.1.2)
    have nas : a ≠ s := fun e => by rw [e, s1.1] at ha; cases ha
    have nap : a ≠ p := fun e => by rw [e, hV.1.1] at ha; cases ha
    have room := zc_room hA hV.1 (j := i.toNat) (by omega) (by rw [hV.2, hs]; exact h3)
    have dp := (zc_dep F hV.1).1
    have cb := zc_chb hA hV.1
    obtain ⟨g6, e6, N⟩ := zc_C5_open (d := d) (x := x) (y := y) (z := z) (zc_ob hA s1.1) (Or.inr ⟨zc_ob hA hV.1.1, nep⟩) rx ry rz (fun k => zc_rg hA (zc_lt s1.1 (by decide)) k)
    obtain ⟨n1, n2, n3, n4, n5, n6, n7, n8, n9, n10, n11, n12⟩ := N
    rw [zm_e e6]
    have nn : zv_n g6 = zv_n h := by unfold zv_n; rw [n1]
    have oa : zv_ob g6 a 0 := ⟨by rw [nn]; exact (zc_ob hA ha).1, ha⟩
    have os : zv_ob g6 s 5 := ⟨by rw [nn]; exact (zc_ob hA s1.1).1, s1.1⟩
    have op : zv_ob g6 p 5 := ⟨by rw [nn]; exact (zc_ob hA hV.1.1).1, hV.1.1⟩
    have ra : zv_R g6 a = zv_R h a := (n3 a nas).2.2
    have ia : zv_I g6 a = zv_I h a := (n3 a nas).1
    have ipp : zv_I g6 p = zv_I h p := (n3 p nep).1
    refine zc_eI oa rfl ?_
    refine zc_dI os ?_
    refine zc_eR oa (by rw [show zv_R (zv_sI g6 s 7 (zv_I g6 a 11)) a 10 = zv_R g6 a 10 from rfl, ra, hp]) ?_
    refine zc_eI op (v := zv_I h p 11) (by rw [zc_sI1 _ _ _ _ (fun q => nep q.1), ipp]) ?_
    refine zc_dI op ?_
    refine zc_eI oa (v := zv_I h a 12) (by rw [zc_sI1 _ _ _ _ (fun q => nap q.1), zc_sI1 _ _ _ _ (fun q => nas q.1), ia]) ?_
    refine zc_dI oa ?_
    refine zc_dR oa ?_
    rw [zm_w (show -2147483648 ≤ zv_I h p 11 + 1 ∧ zv_I h p 11 + 1 < 2147483648 by omega)]
    have r11 : zv_rg (zv_I g6 a 11) := by rw [ia]; exact zc_rg hA (zc_lt ha (by decide)) 11
    have K : zc_A (zv_sR (zv_sI (zv_sI (zv_sI g6 s 7 (zv_I g6 a 11)) p 11 (zv_I h p 11 + 1)) a 12 (zv_w (zv_I h a 12 + 1))) a 10 s) ∧ zc_G a h (zv_sR (zv_sI (zv_sI (zv_sI g6 s 7 (zv_I g6 a 11)) p 11 (zv_I h p 11 + 1)) a 12 (zv_w (zv_I h a 12 + 1))) a 10 s) s := by
      refine zc_growA (p := p) (i0 := i.toNat) hA ha hp.symm (by omega) hs.symm h3 n1 (fun r k c1 c2 c3 => ?_) (fun r k c1 c2 => ?_) (fun r k hr => ?_) ?_ ?_ ?_ ?_ ?_ ?_ ?_ ?_ ?_
      · rw [show ∀ g, zv_I (zv_sR g a 10 s) r k = zv_I g r k from fun _ => rfl, zc_sI1 _ _ _ _ c3, zc_sI1 _ _ _ _ c2, zc_sI1 _ _ _ _ (fun q => c1 q.1)]
        exact congrFun (n3 r c1).1 k
      · rw [show ∀ g, zv_R (zv_sR g a 10 s) r k = zv_R g r k from fun _ => if_neg c2]
        rw [show ∀ g r' k' v, zv_R (zv_sI g r' k' v) r k = zv_R g r k from fun _ _ _ _ => rfl, show ∀ g r' k' v, zv_R (zv_sI g r' k' v) r k = zv_R g r k from fun _ _ _ _ => rfl, show ∀ g r' k' v, zv_R (zv_sI g r' k' v) r k = zv_R g r k from fun _ _ _ _ => rfl]
        by_cases q : r = s
        · rw [q]
          exact n12 k (fun e => c1 ⟨q, Or.inl e⟩) (fun e => c1 ⟨q, Or.inr e⟩)
        · exact congrFun (n3 r q).2.2 k
      · rw [show ∀ g, zv_I (zv_sR g a 10 s) r k = zv_I g r k from fun _ => rfl]
        have b6 : ∀ r k, r < 347 → zv_rg (zv_I g6 r k) := fun r k hr => by
          by_cases q : r = s
          · rw [q]; exact n4 k
          · rw [show zv_I g6 r = zv_I h r from (n3 r q).1]; exact zc_rg hA hr k
        have st : ∀ (g : zv_H) (r' k' : Nat) (v : Int), (∀ r k, r < 347 → zv_rg (zv_I g r k)) → zv_rg v → ∀ r k, r < 347 → zv_rg (zv_I (zv_sI g r' k' v) r k) := fun g r' k' v hg hv r k hr => by
          by_cases q : r = r' ∧ k = k'
          · rw [q.1, q.2, zc_sI2]; exact hv
          · rw [zc_sI1 _ _ _ _ q]; exact hg r k hr
        exact st _ _ _ _ (st _ _ _ _ (st _ _ _ _ b6 r11) (by unfold zv_rg; omega)) (zc_w _) r k hr
      · rw [show ∀ g, zv_I (zv_sR g a 10 s) s 0 = zv_I g s 0 from fun _ => rfl, zc_sI1 _ _ _ _ (fun q => nas q.1.symm), zc_sI1 _ _ _ _ (fun q => nep q.1.symm), zc_sI1 _ _ _ _ (fun q => absurd q.2 (by decide))]
        exact n5
      · rw [show ∀ g, zv_I (zv_sR g a 10 s) s 3 = zv_I g s 3 from fun _ => rfl, zc_sI1 _ _ _ _ (fun q => nas q.1.symm), zc_sI1 _ _ _ _ (fun q => nep q.1.symm), zc_sI1 _ _ _ _ (fun q => absurd q.2 (by decide))]
        exact n6
      · exact (show zv_R (zv_sR _ a 10 s) s 4 = zv_R g6 s 4 from if_neg (fun q => absurd q.2 (by decide))).trans n7
      · exact (show zv_R (zv_sR _ a 10 s) s 5 = zv_R g6 s 5 from if_neg (fun q => absurd q.2 (by decide))).trans n8
      · rw [show ∀ g, zv_I (zv_sR g a 10 s) s 10 = zv_I g s 10 from fun _ => rfl, zc_sI1 _ _ _ _ (fun q => nas q.1.symm), zc_sI1 _ _ _ _ (fun q => nep q.1.symm), zc_sI1 _ _ _ _ (fun q => absurd q.2 (by decide)), n9, if_neg (zc_nz hV.1.1), zm_w (by omega)]
      · rw [show ∀ g, zv_I (zv_sR g a 10 s) s 11 = zv_I g s 11 from fun _ => rfl, zc_sI1 _ _ _ _ (fun q => nas q.1.symm), zc_sI1 _ _ _ _ (fun q => nep q.1.symm), zc_sI1 _ _ _ _ (fun q => absurd q.2 (by decide))]
        exact n10
      · rw [show ∀ g, zv_I (zv_sR g a 10 s) s 12 = zv_I g s 12 from fun _ => rfl, zc_sI1 _ _ _ _ (fun q => nas q.1.symm), zc_sI1 _ _ _ _ (fun q => nep q.1.symm), zc_sI1 _ _ _ _ (fun q => absurd q.2 (by decide))]
        exact n11
      · rw [show ∀ g, zv_I (zv_sR g a 10 s) p 11 = zv_I g p 11 from fun _ => rfl, zc_sI1 _ _ _ _ (fun q => nap q.1.symm), zc_sI2]
      · exact if_pos ⟨rfl, rfl⟩
    have PP : zc_P h (zv_sR (zv_sI (zv_sI (zv_sI g6 s 7 (zv_I g6 a 11)) p 11 (zv_I h p 11 + 1)) a 12 (zv_w (zv_I h a 12 + 1))) a 10 s) := by
      have lts := zc_lt s1.1 (by decide)
      have ltp := zc_lt hV.1.1 (by decide)
      have lta := zc_lt ha (by decide)
      have s5 : 5 ≠ s := fun e => by rw [← e] at s1; exact absurd s1.1 (by decide)
      have p5 : 5 ≠ p := fun e => by rw [← e] at hV; exact absurd hV.1.1 (by decide)
      have a5 : 5 ≠ a := fun e => by rw [← e] at ha; exact absurd ha (by decide)
      refine ⟨n1, n2, fun r hr => ⟨?_, (n3 r (by omega)).2.1, ?_⟩, ?_⟩
      · rw [show ∀ g : zv_H, (zv_sR g a 10 s).2.1 = g.2.1 from fun _ => rfl, zc_sIo _ _ _ _ (by omega), zc_sIo _ _ _ _ (by omega), zc_sIo _ _ _ _ (by omega)]
        exact (n3 r (by omega)).1
      · rw [zc_sRo _ _ _ _ (by omega)]
        exact (n3 r (by omega)).2.2
      · rw [show ∀ g, zv_I (zv_sR g a 10 s) 5 2 = zv_I g 5 2 from fun _ => rfl, zc_sI1 _ _ _ _ (fun q => a5 q.1), zc_sI1 _ _ _ _ (fun q => p5 q.1), zc_sI1 _ _ _ _ (fun q => s5 q.1)]
        exact congrFun (n3 5 s5).1 2
    generalize zv_sR (zv_sI (zv_sI (zv_sI g6 s 7 (zv_I g6 a 11)) p 11 (zv_I h p 11 + 1)) a 12 (zv_w (zv_I h a 12 + 1))) a 10 s = gg at K PP
    refine zc_rF (zc_Q_r K.1) 17 ha ?_
    refine zc_rI (zc_Q_r K.1) ha fun v16 e16 r16 => ?_
    refine zc_cV (zc_Q_r K.1) (zc_C6_add K.1 (zc_y0_7 ha).1 s1.1 r16) fun g17 F17 => ?_
    exact ⟨_, rfl, (s, g17), rfl, Or.inr ⟨⟨zc_P_t PP (zc_qP F17.1), F17.2⟩, zc_G_q ha K.2 F17.1⟩⟩
  · rw [if_neg c]
    exact ⟨_, rfl, (0, h), rfl, Or.inl ⟨rfl, rfl⟩⟩
theorem zc_E0_grow {d : Nat} {h : zv_H} {a : Nat} {x y z : Int} (hA : zc_A h) (ha : zv_lay a = (1, 0)) (rx : zv_rg x) (ry : zv_rg y) (rz : zv_rg z) : zm_R (E0_grow (d + 1) a x y z h) (fun o => ∃ q, o = (some (zv_r q.1), q.2) ∧ zc_gr a h q) := by
  have loop : ∀ (n : Nat) (i : Int), 0 ≤ i → (48 - i).toNat = n → zm_R (L0_grow_3 (d + 1) a x y z i h) (fun o => ∃ q, o = (some (zv_r q.1), q.2) ∧ zc_gr a h q) := by
    intro n
    induction n with
    | zero =>
      intro i h0 hn
      rw [qL0_grow_3, if_neg (by omega)]
      exact zc_L0_grow_25 hA ha rx ry rz h0 (fun q => absurd q (by omega))
    | succ n ih =>
      intro i h0 hn
      rw [qL0_grow_3, if_pos (by omega), zm_e (zc_at hA ha h0 (by omega))]
      dsimp only
      by_cases c : zv_I h (zc_stt a i.toNat) 3 = 0
      · rw [if_pos c, if_pos rfl]
        exact zc_L0_grow_25 hA ha rx ry rz h0 (fun _ => by rw [c]; decide)
      · rw [if_neg c, if_neg (zc_nz (zc_stl ha (show i.toNat < 48 by omega)).1), zm_w (by omega)]
        exact ih _ (by omega) (by omega)
  rw [qE0_grow]
  exact loop _ 0 (by omega) rfl
theorem zc_C0_grow {d : Nat} {h : zv_H} {a : Nat} {x y z : Int} (hA : zc_A h) (ha : zv_lay a = (1, 0)) (rx : zv_rg x) (ry : zv_rg y) (rz : zv_rg z) : zm_R (C0_grow (d + 2) a x y z h) (zc_gr a h) := by
  obtain ⟨o, e, q, rfl, hq⟩ := zc_E0_grow (d := d) hA ha rx ry rz
  exact ⟨q, lC0_grow (zc_ob hA ha) e, hq⟩
