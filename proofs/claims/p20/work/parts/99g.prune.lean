/-! ===== the class: a State goes ===== -/
def zc_D (h h' : zv_H) (s : Nat) : Prop := (∀ t, zv_lay t = (1, 5) → zv_I h' t 3 = (if t = s then 0 else zv_I h t 3) ∧ zv_R h' t 4 = (if t = s then 0 else zv_R h t 4) ∧ (t ≠ s → zv_I h t 3 = 1 → zv_I h' t 11 = (if t = zv_R h s 4 then zv_I h t 11 - 1 else zv_I h t 11))) ∧ ∀ b, zv_lay b = (1, 0) → zv_R h' b 10 = zv_R h b 10
theorem zc_D_E {h h1 h2 : zv_H} {s : Nat} (d : zc_D h h1 s) (f : zc_E h1 h2) : zc_D h h2 s := by
  refine ⟨fun t ht => ⟨(f.1 t ht).1.trans (d.1 t ht).1, (f.1 t ht).2.1.trans (d.1 t ht).2.1, fun q q1 => ?_⟩, fun b hb => (f.2 b hb).trans (d.2 b hb)⟩
  have i := (d.1 t ht).1
  rw [if_neg q] at i
  exact ((f.1 t ht).2.2 (i.trans q1)).trans ((d.1 t ht).2.2 q q1)
theorem zc_removeA {h g : zv_H} {a s p : Nat} (hA : zc_A h) (ha : zv_lay a = (1, 0)) (hs : zc_V h s) (hf : zc_hf s = a) (h0 : zv_I h s 11 = 0) (hn : zv_R h a 10 ≠ s) (hp : p = zv_R h s 4) (g1 : g.1 = h.1)
  (iO : ∀ r k, ¬ (r = s ∧ k = 3) → ¬ (p ≠ 0 ∧ r = p ∧ k = 11) → zv_I g r k = zv_I h r k)
  (rO : ∀ r k, ¬ (r = s ∧ k = 4) → zv_R g r k = zv_R h r k)
  (rg : ∀ r k, r < 347 → zv_rg (zv_I g r k)) (is3 : zv_I g s 3 = 0) (rs4 : zv_R g s 4 = 0) (ip : p ≠ 0 → zv_I g p 11 = zv_I h p 11 - 1) : zc_A g ∧ zc_D h g s := by
  have F := zc_Q_r hA
  obtain ⟨i0, hi, es⟩ := zc_l5i hs.1
  rw [hf] at es
  have lf := fun {t : Nat} (ht : zv_lay t = (1, 5)) => zc_leaf hA hs h0 ht
  have dp := zc_dep F hs
  have hpV : p ≠ 0 → zc_V h p ∧ zc_hf p = a := fun q => by
    rw [hp] at q ⊢
    have := dp.2.resolve_left q
    exact ⟨this.1, this.2.1.trans hf⟩
  have nep : p ≠ s := fun e => lf hs.1 (hp.symm.trans e)
  have ls : ∀ r x, zv_lay r = x → x ≠ (1, 5) → r ≠ s := fun r x e n q => n (by rw [← e, q, hs.1])
  have l4 : ∀ a', zv_lay a' = (1, 0) → zv_lay (a' + 4) = (6, 48) := fun a' h' => by cases zc_lh h' with
    | inl e => rw [e]; rfl
    | inr e => rw [e]; rfl
  have l17 : ∀ r, zv_lay r = (1, 4) → zv_lay (r + 1) = (6, 48) := fun a' h' => by cases zc_l4 h' with
    | inl e => rw [e]; rfl
    | inr e => rw [e]; rfl
  have hB := hA.1
  have B : zc_B g := by
    refine ⟨?_, fun r k hr hk => ?_, fun a' i h' hi' => ?_, ?_, rg, fun r c k m hr hm => ?_, fun r k hr => ?_, fun a' i h' hi' => ?_⟩
    · unfold zv_n
      rw [g1]
      exact hB.1
    · rw [rO r k (fun q => ?_)]
      · exact hB.2.1 r k hr hk
      · rw [q.1, hs.1, q.2] at hk
        exact hk rfl
    · rw [rO _ _ (fun q => ls _ _ (l4 a' h') (by decide) q.1)]
      exact hB.2.2.1 a' i h' hi'
    · rw [rO 1 3 (fun q => absurd q.2 (by decide)), rO 1 4 (fun q => ls 1 (1, 8) rfl (by decide) q.1)]
      exact hB.2.2.2.1
    · rw [iO r k (fun q => ?_) (fun q => ?_)]
      · exact hB.2.2.2.2.2.1 r c k m hr hm
      · rw [q.1, hs.1] at hr
        cases hr
        rw [q.2] at hm
        cases hm
      · rw [q.2.1, (hpV q.1).1.1] at hr
        cases hr
        rw [q.2.2] at hm
        cases hm
    · rw [rO _ _ (fun q => ls _ _ (l17 r hr) (by decide) q.1)]
      exact hB.2.2.2.2.2.2.1 r k hr
    · rw [iO _ _ (fun q => by cases q.2) (fun q => by cases q.2.2)]
      exact hB.2.2.2.2.2.2.2 a' i h' hi'
  have i3 : ∀ t, t ≠ s → zv_I g t 3 = zv_I h t 3 := fun t e => iO _ _ (fun q => e q.1) (fun q => by cases q.2.2)
  have i10 : ∀ t, zv_I g t 10 = zv_I h t 10 := fun t => iO _ _ (fun q => by cases q.2) (fun q => by cases q.2.2)
  have r4 : ∀ t, zv_lay t = (1, 5) → t ≠ s → zv_R g t 4 = zv_R h t 4 := fun t ht e => rO _ _ (fun q => e q.1)
  have r5 : ∀ t, zv_R g t 5 = zv_R h t 5 := fun t => rO _ _ (fun q => by cases q.2)
  have r10 : ∀ t, zv_R g t 10 = zv_R h t 10 := fun t => rO _ _ (fun q => by cases q.2)
  have cnt : ∀ r, r ≠ 0 → zc_ch h r 48 = zc_ch g r 48 + (if r = p then 1 else 0) := fun r hr => by
    rw [zc_ch_add ha hi es rs4 hp.symm (fun t ht e => (r4 t ht e).symm) hr (fun q => (hpV (by rw [← q]; exact hr)).2.symm ▸ by rw [q]) 48 (Nat.le_refl _)]
    by_cases c : r = p
    · rw [if_pos ⟨c, hi⟩, if_pos c]
    · rw [if_neg (fun q => c q.1), if_neg c]
  have e11 : ∀ t, zv_lay t = (1, 5) → zv_I g t 11 = (if t = p then zv_I h t 11 - 1 else zv_I h t 11) := fun t ht => by
    by_cases c : t = p
    · rw [if_pos c, c]
      exact ip (by rw [← c]; exact zc_nz ht)
    · rw [if_neg c]
      exact iO _ _ (fun q => by cases q.2) (fun q => c q.2.1)
  have T : zc_T g := by
    refine ⟨fun t ht => ?_, fun b hb => ?_⟩
    · by_cases e : t = s
      · rw [e]
        exact Or.inl ⟨is3, rs4⟩
      · have nl := lf ht
        cases hA.2.1 t ht with
        | inl u => exact Or.inl ⟨(i3 t e).trans u.1, (r4 t ht e).trans u.2⟩
        | inr u =>
          refine Or.inr ⟨(i3 t e).trans u.1, by rw [i10 t]; exact u.2.1, ?_, ?_, ?_⟩
          · rw [r4 t ht e, i10 t, i10]
            cases u.2.2.1 with
            | inl w => exact Or.inl w
            | inr w => exact Or.inr ⟨w.1, (i3 _ nl).trans w.2.1, w.2.2.1, w.2.2.2⟩
          · rw [r4 t ht e, r5 t, r5]
            exact u.2.2.2.1
          · have := cnt t (zc_nz ht)
            have u1 := u.2.2.2.2
            rw [e11 t ht]
            by_cases c : t = p
            · rw [if_pos c] at this ⊢; omega
            · rw [if_neg c] at this ⊢; omega
    · have u := hA.2.2 b hb
      rw [r10 b]
      refine ⟨u.1, ?_, u.2.2⟩
      rw [i3 _ (fun q => ?_)]
      · exact u.2.1
      · by_cases e : b = a
        · rw [e] at q; exact hn q
        · have := u.2.2
          rw [q, hf] at this
          exact e this.symm
  refine ⟨⟨B, T⟩, fun t ht => ⟨?_, ?_, fun q _ => ?_⟩, fun b hb => r10 b⟩
  · by_cases e : t = s
    · rw [if_pos e, e]; exact is3
    · rw [if_neg e]; exact i3 t e
  · by_cases e : t = s
    · rw [if_pos e, e]; exact rs4
    · rw [if_neg e]; exact r4 t ht e
  · rw [e11 t ht, hp]
theorem zc_C0_remove {d : Nat} {h : zv_H} (hA : zc_A h) {a s : Nat} (ha : zv_lay a = (1, 0)) (hs : zc_V h s) (hf : zc_hf s = a) (h0 : zv_I h s 11 = 0) (hn : zv_R h a 10 ≠ s) : zm_R (C0_remove (d + 2) a s h) (fun h' => zc_X h h' ∧ zc_D h h' s) := by
  have F := zc_Q_r hA
  refine zm_cV (fun e => lC0_remove (zc_ob hA ha) e) ?_
  have lts := zc_lt hs.1 (by decide)
  have s5 : 5 ≠ s := fun e => by have := hs.1; rw [← e] at this; exact absurd this (by decide)
  have dp := zc_dep F hs
  have fin : ∀ g, zc_A (zv_sR g s 4 0) → zc_P h (zv_sR g s 4 0) → zc_D h (zv_sR g s 4 0) s → zv_ob g s 5 → zm_R (L0_remove_25 (d + 1) a s g) (zm_V fun h' => zc_X h h' ∧ zc_D h h' s) := fun g A1 P1 D1 ob => by
    rw [qL0_remove_25, zm_e (show zv_pR g s 5 4 0 = some _ from if_pos ob)]
    generalize zv_sR g s 4 0 = g1 at A1 P1 D1
    have F := zc_Q_r A1
    refine zc_rF F 17 ha ?_
    refine zc_rI F hs.1 fun v3 e3 r3 => ?_
    refine zc_cV F (zc_C6_forget A1 (zc_y0_7 ha).1 r3) fun g4 F => ?_
    refine zc_rI F ha fun v5 e5 r5 => ?_
    refine zc_wO F ha (zc_frO ha (zc_lt ha (by decide)) (by decide) rfl (by decide)) (zc_w _) fun g6 F => ?_
    exact zm_iV ⟨⟨zc_P_t P1 (zc_qP F.1), F.2⟩, zc_D_E D1 (zc_qE F.1)⟩
  have r0 : zv_rg 0 := by unfold zv_rg; omega
  have st : ∀ (g : zv_H) (r' k' : Nat) (v : Int), (∀ r k, r < 347 → zv_rg (zv_I g r k)) → zv_rg v → ∀ r k, r < 347 → zv_rg (zv_I (zv_sI g r' k' v) r k) := fun g r' k' v hg hv r k hr => by
    by_cases q : r = r' ∧ k = k'
    · rw [q.1, q.2, zc_sI2]; exact hv
    · rw [zc_sI1 _ _ _ _ q]; exact hg r k hr
  rw [qE0_remove]
  refine zc_dZ (zc_ob hA hs.1) (Or.inl rfl) ?_
  refine zc_eR (zc_ob hA hs.1) (v := zv_R h s 4) rfl ?_
  by_cases c : zv_R h s 4 = 0
  · rw [if_pos c]
    have K := zc_removeA (g := zv_sR (zv_sI h s 3 0) s 4 0) hA ha hs hf h0 hn rfl rfl (fun r k c1 c2 => zc_sI1 _ _ _ _ c1) (fun r k c1 => if_neg c1) (fun r k hr => st _ _ _ _ (fun r k hr => zc_rg hA hr k) r0 r k hr) (zc_sI2 _ _ _ _) (if_pos ⟨rfl, rfl⟩) (fun q => absurd c q)
    refine fin _ K.1 ⟨rfl, rfl, fun r hr => ⟨?_, rfl, ?_⟩, ?_⟩ K.2 (zc_ob hA hs.1)
    · exact zc_sIo _ _ _ _ (by omega)
    · exact zc_sRo _ _ _ _ (by omega)
    · exact zc_sI1 _ _ _ _ (fun q => s5 q.1)
  · rw [if_neg c]
    have u := dp.2.resolve_left c
    have nep : zv_R h s 4 ≠ s := fun e => zc_leaf hA hs h0 hs.1 e
    have ltp := zc_lt u.1.1 (by decide)
    have p5 : 5 ≠ zv_R h s 4 := fun e => by have := u.1.1; rw [← e] at this; exact absurd this (by decide)
    have cb := zc_chb hA u.1
    refine zc_eR (zc_ob hA hs.1) (v := zv_R h s 4) rfl ?_
    refine zc_eI (zc_ob hA u.1.1) (v := zv_I h (zv_R h s 4) 11) (zc_sI1 _ _ _ _ (fun q => nep q.1)) ?_
    refine zc_dI (zc_ob hA u.1.1) ?_
    rw [zm_w (by omega)]
    have K := zc_removeA (g := zv_sR (zv_sI (zv_sI h s 3 0) (zv_R h s 4) 11 (zv_I h (zv_R h s 4) 11 - 1)) s 4 0) hA ha hs hf h0 hn rfl rfl (fun r k c1 c2 => ?_) (fun r k c1 => if_neg c1) (fun r k hr => st _ _ _ _ (st _ _ _ _ (fun r k hr => zc_rg hA hr k) r0) (by unfold zv_rg; omega) r k hr) ?_ (if_pos ⟨rfl, rfl⟩) (fun q => zc_sI2 _ _ _ _)
    · refine fin _ K.1 ⟨rfl, rfl, fun r hr => ⟨?_, rfl, ?_⟩, ?_⟩ K.2 (zc_ob hA hs.1)
      · exact (zc_sIo _ _ _ _ (by omega)).trans (zc_sIo _ _ _ _ (by omega))
      · exact zc_sRo _ _ _ _ (by omega)
      · exact (zc_sI1 _ _ _ _ (fun q => p5 q.1)).trans (zc_sI1 _ _ _ _ (fun q => s5 q.1))
    · exact (zc_sI1 _ _ _ _ (fun q => c2 ⟨c, q.1, q.2⟩)).trans (zc_sI1 _ _ _ _ c1)
    · exact (zc_sI1 _ _ _ _ (fun q => nep q.1.symm)).trans (zc_sI2 _ _ _ _)
theorem zc_toGo {d : Nat} {h : zv_H} (hA : zc_A h) {a : Nat} (ha : zv_lay a = (1, 0)) : zm_R (C0_nextToGo (d + 2) a h) (fun q => q.2 = h ∧ (q.1 = 0 ∨ (zc_V h q.1 ∧ zc_hf q.1 = a ∧ zv_I h q.1 11 = 0 ∧ zv_R h a 10 ≠ q.1))) := by
  have F := zc_Q_r hA
  have hV := zc_hV F ha
  refine zm_cN (P := fun v h' => h' = h ∧ (v = 0 ∨ (zc_V h v ∧ zc_hf v = a ∧ zv_I h v 11 = 0 ∧ zv_R h a 10 ≠ v))) (fun e => lC0_nextToGo (zc_ob hA ha) e) ?_
  have loop : ∀ (n : Nat) (i : Int) (f : Nat), 0 ≤ i → (f = 0 ∨ (zc_V h f ∧ zc_hf f = a ∧ zv_I h f 11 = 0 ∧ zv_R h a 10 ≠ f)) → (48 - i).toNat = n → zm_R (L0_nextToGo_4 (d + 1) a f i h) (zm_N fun v h' => h' = h ∧ (v = 0 ∨ (zc_V h v ∧ zc_hf v = a ∧ zv_I h v 11 = 0 ∧ zv_R h a 10 ≠ v))) := by
    intro n
    induction n with
    | zero =>
      intro i f h0 hu hn
      rw [qL0_nextToGo_4, if_neg (by omega)]
      exact zm_iN ⟨rfl, hu⟩
    | succ n ih =>
      intro i f h0 hu hn
      rw [qL0_nextToGo_4, if_pos (by omega)]
      refine zc_pN (K := fun v => zc_U h a v) (zc_at2 hA ha (by unfold zv_rg; omega)) fun v u => ?_
      dsimp only
      rw [zm_w (show -2147483648 ≤ i + 1 ∧ i + 1 < 2147483648 by omega)]
      have nx : ∀ f, (f = 0 ∨ (zc_V h f ∧ zc_hf f = a ∧ zv_I h f 11 = 0 ∧ zv_R h a 10 ≠ f)) → zm_R (L0_nextToGo_4 (d + 1) a f (i + 1) h) (zm_N fun v h' => h' = h ∧ (v = 0 ∨ (zc_V h v ∧ zc_hf v = a ∧ zv_I h v 11 = 0 ∧ zv_R h a 10 ≠ v))) := fun f hf => ih _ f (by omega) hf (by omega)
      refine zm_if (fun c => nx f hu) (fun c => ?_)
      have u1 := u.resolve_left c
      have w1 := zv_lay_lt (zc_ly u1.1.1)
      have w2 := zv_lay_lt (zc_ly hV.1.1)
      refine zc_rRo F ha ?_
      rw [if_neg (by omega)]
      refine zm_if (fun c => nx f hu) (fun c1 => ?_)
      refine zc_rI F u1.1.1 fun v3 e3 r3 => ?_
      refine zm_if (fun c2 => ?_) (fun c => nx f hu)
      have good : v = 0 ∨ (zc_V h v ∧ zc_hf v = a ∧ zv_I h v 11 = 0 ∧ zv_R h a 10 ≠ v) := Or.inr ⟨u1.1, u1.2, e3.symm.trans c2, fun q => c1 q.symm⟩
      refine zc_rF F 14 ha ?_
      refine zc_pI (K := fun _ => True) (zc_C2_countOf hA (zc_y0_6 ha).1 (by unfold zv_rg; omega)) fun v5 r5 _ => ?_
      dsimp only
      refine zm_if (fun c => ?_) (fun c => nx f hu)
      refine zm_if (fun c => nx v good) (fun c => ?_)
      refine zc_rI F u1.1.1 fun v6 e6 r6 => ?_
      refine zc_rI F (hu.resolve_left c).1.1 fun v7 e7 r7 => ?_
      exact zm_if (fun c => nx v good) (fun c => nx f hu)
  rw [qE0_nextToGo]
  exact loop _ 1 0 (by omega) (Or.inl rfl) rfl
theorem zc_C0_pruneTo {d : Nat} {h : zv_H} (hA : zc_A h) {a : Nat} {x : Int} (ha : zv_lay a = (1, 0)) (rx : zv_rg x) : zm_R (C0_pruneTo (d + 3) a x h) (fun q => zc_X h q.2 ∧ zv_rg q.1) := by
  have F := zc_Q_r hA
  refine zm_cI (P := fun v h' => zc_X h h' ∧ zv_rg v) (fun e => lC0_pruneTo (zc_ob hA ha) e) ?_
  have loop : ∀ (n : Nat) (g : zv_H) (i : Int), zc_X h g → 0 ≤ i → i ≤ 48 → (48 - i).toNat = n → zm_R (L0_pruneTo_14 (d + 2) a x i g) (zm_I fun v h' => zc_X h h' ∧ zv_rg v) := by
    intro n
    induction n with
    | zero =>
      intro g i X h0 h4 hn
      have stop : zm_R (some (some (zv_i i), g)) (zm_I fun v h' => zc_X h h' ∧ zv_rg v) := zm_iI ⟨X, by unfold zv_rg; omega⟩
      rw [qL0_pruneTo_14]
      refine zc_rI (zc_Q_r X.2) ha fun v1 e1 r1 => ?_
      refine zm_if (fun c => stop) (fun c => ?_)
      rw [if_neg (by omega)]
      exact stop
    | succ n ih =>
      intro g i X h0 h4 hn
      have stop : zm_R (some (some (zv_i i), g)) (zm_I fun v h' => zc_X h h' ∧ zv_rg v) := zm_iI ⟨X, by unfold zv_rg; omega⟩
      rw [qL0_pruneTo_14]
      refine zc_rI (zc_Q_r X.2) ha fun v1 e1 r1 => ?_
      refine zm_if (fun c => stop) (fun c => ?_)
      rw [if_pos (by omega)]
      refine zc_pN (K := fun v => (v = 0 ∨ (zc_V g v ∧ zc_hf v = a ∧ zv_I g v 11 = 0 ∧ zv_R g a 10 ≠ v))) (zc_toGo X.2 ha) fun v u => ?_
      dsimp only
      refine zm_if (fun c => stop) (fun c => ?_)
      obtain ⟨u1, u2, u3, u4⟩ := u.resolve_left c
      obtain ⟨g3, e3, D⟩ := zc_C0_remove (d := d) X.2 ha u1 u2 u3 u4
      rw [zm_e e3, zm_w (by omega)]
      exact ih g3 _ (zc_X_t X D.1) (by omega) (by omega) (by omega)
  rw [qE0_pruneTo]
  refine zc_pI (K := fun v => (v = 0 ∨ v = 1)) (zc_C8_within hA rx (by unfold zv_rg; omega) (by unfold zv_rg; omega)) fun v1 r1 _ => ?_
  dsimp only
  refine zm_if (fun c => zm_iI ⟨zc_X_r hA, by unfold zv_rg; omega⟩) (fun c => ?_)
  exact loop _ h 0 (zc_X_r hA) (by omega) (by omega) rfl
/-- a copy between arrays of ints -/
theorem zc_cpQ {h : zv_H} (hA : zc_A h) {s t : Nat} (hs : zv_lay s = (2, 40)) (ht : zv_lay t = (2, 40)) (hl : t < 347) (hl2 : s < 347) (hn : s ≠ t) : ∃ h', zv_cy h s 0 t 0 40 = some h' ∧ zc_Q h h' := by
  refine ⟨_, if_pos ⟨⟨zc_n hA.1 (zc_ly hs), zc_n hA.1 (zc_ly ht), by rw [hs], by rw [ht]⟩, by decide, by rw [hs]; decide, by rw [ht]; decide, hn⟩, ?_⟩
  have o : ∀ r k, r ≠ t → zv_I (zv_cp h s (Int.toNat 0) t (Int.toNat 0) (Int.toNat 40)) r k = zv_I h r k := fun r k e => if_neg (fun q => e q.1)
  have on : ∀ r c, zv_lay r = (1, c) → r ≠ t := fun r c e q => by rw [q, ht] at e; cases e
  have q : zc_q h (zv_cp h s (Int.toNat 0) t (Int.toNat 0) (Int.toNat 40)) := by
    refine ⟨rfl, rfl, fun r hr => ⟨?_, rfl⟩, fun _ _ _ => rfl, fun r hr => ⟨o r 0 (on r _ hr), o r 3 (on r _ hr), o r 10 (on r _ hr), o r 11 (on r _ hr)⟩, o 5 2 (on 5 3 rfl)⟩
    funext k
    exact o r k (by omega)
  obtain ⟨b1, b2, b3, b4, b5, b6, b7, b8⟩ := hA.1
  refine ⟨q, ⟨b1, b2, b3, b4, fun r k hr => ?_, fun r c k m hr hm => ?_, b7, fun a i ha hi => ?_⟩, zc_T_q q hA.2⟩
  · show zv_rg (if r = t ∧ Int.toNat 0 ≤ k ∧ k < Int.toNat 0 + Int.toNat 40 then h.2.1 s (Int.toNat 0 + (k - Int.toNat 0)) else h.2.1 r k)
    by_cases c : r = t ∧ Int.toNat 0 ≤ k ∧ k < Int.toNat 0 + Int.toNat 40
    · rw [if_pos c]; exact b5 _ _ hl2
    · rw [if_neg c]; exact b5 _ _ hr
  · rw [o r k (on r c hr)]
    exact b6 r c k m hr hm
  · exact (o _ 0 (on _ _ (zc_stl ha hi).1)).trans (b8 a i ha hi)
theorem zc_cyQ {α : Type} {h0 h : zv_H} {P : α → Prop} (F : zc_Q h0 h) {s t : Nat} (hs : zv_lay s = (2, 40)) (ht : zv_lay t = (2, 40)) (hl : t < 347) (hl2 : s < 347) (hn : s ≠ t) {g : zv_H → Option α} (n : ∀ h', zc_Q h0 h' → zm_R (g h') P) : zm_R ((zv_cy h s 0 t 0 40).bind g) P := by
  obtain ⟨h', e, q⟩ := zc_cpQ F.2 hs ht hl hl2 hn
  rw [zm_e e]
  exact n h' (zc_Q_t F q)
theorem zc_C6_keep {d : Nat} {h : zv_H} (hA : zc_A h) {r : Nat} (hr : zv_lay r = (1, 6)) : zm_R (C6_keep (d + 1) r h) (fun h' => zc_Q h h') := by
  have F := zc_Q_r hA
  refine zm_cV (fun e => lC6_keep (zc_ob hA hr) e) ?_
  rw [qE6_keep]
  refine zc_rF F 1 hr ?_
  refine zc_rF F 3 hr ?_
  refine zc_cyQ F (zc_y6_0 hr).1 (zc_y6_2 hr).1 (zc_y6_2 hr).2 (zc_y6_0 hr).2 (by omega) fun g3 F => ?_
  refine zc_rF F 2 hr ?_
  refine zc_rF F 4 hr ?_
  refine zc_cyQ F (zc_y6_1 hr).1 (zc_y6_3 hr).1 (zc_y6_3 hr).2 (zc_y6_1 hr).2 (by omega) fun g6 F => ?_
  refine zc_rI F hr fun v7 e7 r7 => ?_
  refine zc_wO F hr (zc_frO hr (zc_lt hr (by decide)) (by decide) rfl (by decide)) r7 fun g8 F => ?_
  exact zm_iV F
theorem zc_C6_giveBack {d : Nat} {h : zv_H} (hA : zc_A h) {r : Nat} (hr : zv_lay r = (1, 6)) : zm_R (C6_giveBack (d + 1) r h) (fun h' => zc_Q h h') := by
  have F := zc_Q_r hA
  refine zm_cV (fun e => lC6_giveBack (zc_ob hA hr) e) ?_
  rw [qE6_giveBack]
  refine zc_rF F 3 hr ?_
  refine zc_rF F 1 hr ?_
  refine zc_cyQ F (zc_y6_2 hr).1 (zc_y6_0 hr).1 (zc_y6_0 hr).2 (zc_y6_2 hr).2 (by omega) fun g3 F => ?_
  refine zc_rF F 4 hr ?_
  refine zc_rF F 2 hr ?_
  refine zc_cyQ F (zc_y6_3 hr).1 (zc_y6_1 hr).1 (zc_y6_1 hr).2 (zc_y6_3 hr).2 (by omega) fun g6 F => ?_
  refine zc_rI F hr fun v7 e7 r7 => ?_
  refine zc_wO F hr (zc_frO hr (zc_lt hr (by decide)) (by decide) rfl (by decide)) r7 fun g8 F => ?_
  exact zm_iV F
theorem zc_C0_mergeOnPaper {d : Nat} {h : zv_H} (hA : zc_A h) {a : Nat} {x y : Int} (ha : zv_lay a = (1, 0)) (rx : zv_rg x) : zm_R (C0_mergeOnPaper (d + 7) a x y h) (fun q => zc_X h q.2 ∧ zv_rg q.1) := by
  have F := zc_Q_r hA
  have hV := zc_hV F ha
  have wV := zv_lay_lt (zc_ly hV.1.1)
  refine zm_cI (P := fun v h' => zc_X h h' ∧ zv_rg v) (fun e => lC0_mergeOnPaper (zc_ob hA ha) e) ?_
  have fin : ∀ (g : zv_H) (v : Int), zc_X h g → zv_rg v → zm_R (L0_mergeOnPaper_112 (d + 6) a v g) (zm_I fun v h' => zc_X h h' ∧ zv_rg v) := fun g v X rv => by
    rw [qL0_mergeOnPaper_112]
    have F := zc_Q_r X.2
    refine zc_rF F 17 ha ?_
    refine zc_cV F (zc_C6_giveBack F.2 (zc_y0_7 ha).1) fun g2 F => ?_
    exact zm_iI ⟨zc_X_t X (zc_QX F), rv⟩
  have loop : ∀ (n : Nat) (g : zv_H) (m v i : Int), zc_X h g → zc_C a n g → 0 ≤ i → (m - i).toNat = n → zv_rg m → zv_rg v → zm_R (L0_mergeOnPaper_60 (d + 6) a (zv_R h a 10) m v i g) (zm_I fun v h' => zc_X h h' ∧ zv_rg v) := by
    intro n
    induction n with
    | zero =>
      intro g m v i X C h0 hn rm rv
      rw [qL0_mergeOnPaper_60, if_neg (by omega)]
      exact fin g v X rv
    | succ n ih =>
      intro g m v i X C h0 hn rm rv
      have F := zc_Q_r X.2
      obtain ⟨h1, s, A1, C1, G⟩ := C
      obtain ⟨g1, g2, g3, g4, g5, g6, g7, g8, g9, g10⟩ := G
      have hV1 := zc_hV (zc_Q_r A1) ha
      have w1 := zv_lay_lt (zc_ly g1)
      have ns : zv_R h1 a 10 ≠ s := fun e => by have := hV1.1.2; rw [e, g3] at this; cases this
      have Vp : zc_V g (zv_R h1 a 10) := ⟨hV1.1.1, (g9 _ hV1.1.1 ns).1.trans hV1.1.2⟩
      rw [qL0_mergeOnPaper_60, if_pos (by omega), zm_e (zc_gR X.2 ha 10), g8, if_neg (by omega)]
      refine zm_if (fun c => fin g v X rv) (fun c => ?_)
      rw [zm_e (zc_gR X.2 ha 10), g8, zm_e (zc_gR X.2 g1 4), g7]
      refine zm_if (fun c => fin g v X rv) (fun c => ?_)
      rw [zm_e (zc_gR X.2 ha 10), g8, zm_e (zc_gR X.2 g1 4), g7, zm_e (show zv_pR g a 0 10 _ = some _ from if_pos (zc_ob X.2 ha))]
      have A2 := zc_hereA X.2 ha Vp hV1.2
      have P2 := zc_hereP (h := g) (s := zv_R h1 a 10) ha
      have r10 : zv_R (zv_sR g a 10 (zv_R h1 a 10)) a 10 = zv_R h1 a 10 := if_pos ⟨rfl, rfl⟩
      have o4 : ∀ t, zv_R (zv_sR g a 10 (zv_R h1 a 10)) t 4 = zv_R g t 4 := fun t => if_neg (fun q => absurd q.2 (by decide))
      have ob10 : ∀ b, b ≠ a → zv_R (zv_sR g a 10 (zv_R h1 a 10)) b 10 = zv_R g b 10 := fun b hb => if_neg (fun q => hb q.1)
      have oI : ∀ t k, zv_I (zv_sR g a 10 (zv_R h1 a 10)) t k = zv_I g t k := fun _ _ => rfl
      obtain ⟨g7', e7, X7, D⟩ := zc_C0_remove (d := d + 4) A2 (s := s) ha ⟨g1, g5⟩ g2 g6 (by rw [r10]; exact ns)
      rw [zm_e e7, zm_w (by unfold zv_rg at rm; omega)]
      refine ih g7' m v _ (zc_X_t (zc_X_t X ⟨P2, A2⟩) X7) (zc_C_E ha C1 ?_) (by omega) (by omega) rm rv
      refine ⟨fun t ht => ?_, fun b hb => ?_⟩
      · have dt := D.1 t ht
        rw [oI, oI, o4, o4] at dt
        by_cases e : t = s
        · rw [if_pos e, if_pos e] at dt
          rw [e] at dt ⊢
          exact ⟨dt.1.trans g3.symm, dt.2.1.trans g4.symm, fun q => by rw [g3] at q; cases q⟩
        · rw [if_neg e, if_neg e] at dt
          have gt := g9 t ht e
          refine ⟨dt.1.trans gt.1, dt.2.1.trans gt.2.1, fun q => ?_⟩
          rw [dt.2.2 e (gt.1.trans q), g7, gt.2.2 q]
          by_cases c : t = zv_R h1 a 10
          · rw [if_pos c, if_pos c]; omega
          · rw [if_neg c, if_neg c]
      · rw [D.2 b hb]
        by_cases e : b = a
        · rw [e]; exact r10
        · rw [ob10 b e]
          exact g10 b hb e
  rw [qE0_mergeOnPaper]
  refine zc_rRo F ha ?_
  refine zc_rF F 17 ha ?_
  refine zc_cV F (zc_C6_keep hA (zc_y0_7 ha).1) fun g3 F3 => ?_
  obtain ⟨⟨v4, g4⟩, e4, Y, r4, C⟩ := zc_C0_mergeIn (d := d) F3.2 ha rx
  rw [zm_e e4]
  have X4 : zc_X h g4 := zc_X_t (zc_QX F3) Y.1
  have r4' : zv_rg v4 := r4
  have C4 : zc_C a v4.toNat g4 := C
  have F4 := zc_Q_r X4.2
  dsimp only
  refine zm_if (fun c => zm_iI ⟨X4, r4'⟩) (fun c => ?_)
  have go : ∀ w, zv_rg w → zm_R (L0_mergeOnPaper_60 (d + 6) a (zv_R h a 10) v4 w 0 g4) (zm_I fun v h' => zc_X h h' ∧ zv_rg v) := fun w rw' => loop v4.toNat g4 v4 w 0 X4 C4 (by omega) (by omega) r4' rw'
  refine zm_if (fun c => go _ r4') (fun c => ?_)
  refine zm_if (fun c => ?_) (fun c => ?_)
  · refine zc_rI F4 ha fun v5 e5 r5 => ?_
    exact go _ r5
  · refine zc_rRo F4 ha ?_
    refine zc_rI F4 (zc_hV F4 ha).1.1 fun v7 e7 r7 => ?_
    exact go _ r7
