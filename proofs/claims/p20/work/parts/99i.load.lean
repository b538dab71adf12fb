/-! ===== the class: load ===== -/
theorem zc_bdc {c k : Nat} {m : Int} (h : zc_bd c k = some m) : (c = 4 ∧ k = 5) ∨ (c = 5 ∧ k = 12 ∧ m = 120) ∨ (c = 7 ∧ k = 1) := by
  unfold zc_bd at h
  by_cases q : c = 4 ∧ k = 5
  · exact Or.inl q
  · rw [if_neg q] at h
    by_cases q1 : c = 5 ∧ k = 12
    · rw [if_pos q1] at h
      cases h
      exact Or.inr (Or.inl ⟨q1.1, q1.2, rfl⟩)
    · rw [if_neg q1] at h
      by_cases q2 : c = 7 ∧ k = 1
      · exact Or.inr (Or.inr q2)
      · rw [if_neg q2] at h
        cases h
theorem zc_bgA {h h' : zv_H} {a : Nat} (hA : zc_A h) (ha : zv_lay a = (1, 0)) (g : zc_bg a h h') : zc_X h h' := by
  obtain ⟨h1, ⟨s1, s2, s3, s4⟩, t1, t2, t3, t4, t5, t6, t7⟩ := g
  have lo : zv_lay (a + 14) = (1, 2) ∧ zv_lay (a + 17) = (1, 6) ∧ zv_lay (a + 22) = (1, 1) ∧ zv_lay (a + 23) = (2, 176) ∧ zv_lay (a + 24) = (2, 176) := by cases zc_lh ha with
    | inl e => rw [e]; exact ⟨rfl, rfl, rfl, rfl, rfl⟩
    | inr e => rw [e]; exact ⟨rfl, rfl, rfl, rfl, rfl⟩
  have hlt := zc_lh ha
  have hB := hA.1
  have l4 : ∀ a', zv_lay a' = (1, 0) → zv_lay (a' + 4) = (6, 48) := fun a' h' => by cases zc_lh h' with
    | inl e => rw [e]; rfl
    | inr e => rw [e]; rfl
  have l17 : ∀ r, zv_lay r = (1, 4) → zv_lay (r + 1) = (6, 48) := fun a' h' => by cases zc_l4 h' with
    | inl e => rw [e]; rfl
    | inr e => rw [e]; rfl
  have nst : ∀ r x, zv_lay r = x → x ≠ (1, 5) → ∀ j, j < 48 → r ≠ zc_stt a j := fun r x e n j hj q => n (by rw [← e, q]; exact (zc_stl ha hj).1)
  have na : ∀ r x, zv_lay r = x → x ≠ (1, 0) → r ≠ a := fun r x e n q => n (by rw [← e, q, ha])
  /- rows of ints, of other layouts -/
  have iL : ∀ r x, zv_lay r = x → x ≠ (1, 0) → x ≠ (1, 2) → x ≠ (1, 6) → x ≠ (1, 1) → x ≠ (2, 176) → h'.2.1 r = h1.2.1 r := fun r x e n0 n2 n6 n1 n7 => t6 r (na r x e n0) (fun q => n2 (by rw [← e, q, lo.1])) (fun q => n6 (by rw [← e, q, lo.2.1])) (fun q => n1 (by rw [← e, q, lo.2.2.1])) (fun q => n7 (by rw [← e, q, lo.2.2.2.1])) (fun q => n7 (by rw [← e, q, lo.2.2.2.2]))
  have i5 : ∀ r, zv_lay r = (1, 5) → h'.2.1 r = h1.2.1 r := fun r e => iL r _ e (by decide) (by decide) (by decide) (by decide) (by decide)
  have rO : ∀ r, (∀ j, j < 48 → r ≠ zc_stt a j) → ∀ k, ¬ (r = a ∧ k = 10) → zv_R h' r k = zv_R h r k := fun r hr k c => (t4 r k c).trans (congrFun (s3 r hr).2.2 k)
  have rS : ∀ j, j < 48 → ∀ k, zv_R h' (zc_stt a j) k = zv_R h1 (zc_stt a j) k := fun j hj k => t4 _ k (fun q => na _ _ (zc_stl ha hj).1 (by decide) q.1)
  have B : zc_B h' := by
    refine ⟨?_, fun r k hr hk => ?_, fun a' i q hi' => ?_, ?_, t7, fun r c k m hr hm => ?_, fun r k hr => ?_, fun a' i q hi' => ?_⟩
    · unfold zv_n
      rw [t1, s1]
      exact hB.1
    · by_cases c : ∃ j, j < 48 ∧ r = zc_stt a j
      · obtain ⟨j, hj, e⟩ := c
        have sl := (zc_stl ha hj).1
        rw [e, sl] at hk
        have k4 : k ≠ 4 := fun q => by rw [q] at hk; exact hk rfl
        have k5 : k ≠ 5 := fun q => by rw [q] at hk; exact hk rfl
        have := hB.2.1 r k hr (by rw [e, sl]; exact hk)
        rw [e] at this ⊢
        rw [rS j hj k, (s4 j hj).2.2.2.2.2.2.2.2 k k4 k5]
        exact this
      · rw [rO r (fun j hj e => c ⟨j, hj, e⟩) k (fun q => by rw [q.1, ha, q.2] at hk; exact hk rfl)]
        exact hB.2.1 r k hr hk
    · rw [rO _ (nst _ _ (l4 a' q) (by decide)) i (fun w => na _ _ (l4 a' q) (by decide) w.1)]
      exact hB.2.2.1 a' i q hi'
    · rw [rO 1 (nst 1 (1, 8) rfl (by decide)) 3 (fun w => absurd w.2 (by decide)), rO 1 (nst 1 (1, 8) rfl (by decide)) 4 (fun w => absurd w.2 (by decide))]
      exact hB.2.2.2.1
    · rcases zc_bdc hm with w | w | w
      · obtain ⟨w1, w2⟩ := w
        subst w1
        rw [show zv_I h' r = zv_I h r from (iL r _ hr (by decide) (by decide) (by decide) (by decide) (by decide)).trans (s3 r (nst r _ hr (by decide))).1]
        exact hB.2.2.2.2.2.1 r 4 k m hr hm
      · obtain ⟨w1, w2, w3⟩ := w
        subst w1
        rw [show zv_I h' r = zv_I h1 r from i5 r hr]
        by_cases c : ∃ j, j < 48 ∧ r = zc_stt a j
        · obtain ⟨j, hj, e⟩ := c
          rw [e, w2, (s4 j hj).2.2.2.2.2.2.1, w3]
          decide
        · rw [show zv_I h1 r = zv_I h r from (s3 r (fun j hj e => c ⟨j, hj, e⟩)).1]
          exact hB.2.2.2.2.2.1 r 5 k m hr hm
      · obtain ⟨w1, w2⟩ := w
        subst w1
        rw [show zv_I h' r = zv_I h r from (iL r _ hr (by decide) (by decide) (by decide) (by decide) (by decide)).trans (s3 r (nst r _ hr (by decide))).1]
        exact hB.2.2.2.2.2.1 r 7 k m hr hm
    · rw [rO _ (nst _ _ (l17 r hr) (by decide)) k (fun w => na _ _ (l17 r hr) (by decide) w.1)]
      exact hB.2.2.2.2.2.2.1 r k hr
    · have sl := (zc_stl q hi').1
      rw [show zv_I h' (zc_stt a' i) = zv_I h1 (zc_stt a' i) from i5 _ sl]
      by_cases c : ∃ j, j < 48 ∧ zc_stt a' i = zc_stt a j
      · obtain ⟨j, hj, e⟩ := c
        have := hB.2.2.2.2.2.2.2 a' i q hi'
        rw [e] at this ⊢
        rw [(s4 j hj).1]
        exact this
      · rw [show zv_I h1 (zc_stt a' i) = zv_I h (zc_stt a' i) from (s3 _ (fun j hj e => c ⟨j, hj, e⟩)).1]
        exact hB.2.2.2.2.2.2.2 a' i q hi'
  /- the other half -/
  have oth : ∀ t, zv_lay t = (1, 5) → zc_hf t ≠ a → (∀ k, zv_I h' t k = zv_I h t k) ∧ ∀ k, zv_R h' t k = zv_R h t k := fun t ht hn => by
    have ns : ∀ j, j < 48 → t ≠ zc_stt a j := fun j hj e => hn (by rw [e]; exact (zc_stl ha hj).2.1)
    exact ⟨fun k => (congrFun (i5 t ht) k).trans (congrFun (s3 t ns).1 k), fun k => rO t ns k (fun w => na t _ ht (by decide) w.1)⟩
  have mine : ∀ t, zv_lay t = (1, 5) → zc_hf t = a → ∃ j, j < 48 ∧ t = zc_stt a j := fun t ht he => by
    obtain ⟨j, hj, e⟩ := zc_l5i ht
    rw [he] at e
    exact ⟨j, hj, e⟩
  have my4 : ∀ j, j < 48 → zv_R h' (zc_stt a j) 4 = 0 := fun j hj => (rS j hj 4).trans (s4 j hj).2.2.1
  have myI : ∀ j, j < 48 → ∀ k, zv_I h' (zc_stt a j) k = zv_I h1 (zc_stt a j) k := fun j hj k => congrFun (i5 _ (zc_stl ha hj).1) k
  have T : zc_T h' := by
    refine ⟨fun t ht => ?_, fun b hb => ?_⟩
    · by_cases c : zc_hf t = a
      · obtain ⟨j, hj, e⟩ := mine t ht c
        obtain ⟨q1, q2, q3, q4, q5, q6, q7, q8, q9⟩ := s4 j hj
        by_cases z : j = 0
        · rw [if_pos z] at q2
          refine Or.inr ?_
          rw [e, my4 j hj, myI j hj, myI j hj, myI j hj, rS j hj, q2, q4, q5, q6]
          refine ⟨rfl, by decide, Or.inl ⟨rfl, rfl⟩, Or.inl rfl, ?_⟩
          have hf := (zc_stl ha hj).2.1
          have c0 : ∀ n, n ≤ 48 → zc_ch h' (zc_stt a j) n = 0 := by
            intro n
            induction n with
            | zero => intro _; rfl
            | succ n ih =>
              intro hn
              show zc_ch h' (zc_stt a j) n + (if zv_R h' (zc_stt (zc_hf (zc_stt a j)) n) 4 = zc_stt a j then 1 else 0) = 0
              rw [ih (by omega), hf, my4 n (by omega), if_neg (fun q => zc_nz (zc_stl ha hj).1 q.symm)]
              rfl
          exact (c0 48 (Nat.le_refl _)).symm
        · rw [if_neg z] at q2
          refine Or.inl ?_
          rw [e, my4 j hj, myI j hj]
          exact ⟨q2, rfl⟩
      · have o := oth t ht c
        have tt := hA.2.1 t ht
        unfold zc_t
        rw [o.1, o.1, o.1, o.2, o.2]
        cases tt with
        | inl u => exact Or.inl u
        | inr u =>
          refine Or.inr ⟨u.1, u.2.1, ?_, ?_, ?_⟩
          · cases u.2.2.1 with
            | inl w => exact Or.inl w
            | inr w =>
              have o2 := oth _ w.1 (by rw [w.2.2.1]; exact c)
              exact Or.inr ⟨w.1, (o2.1 3).trans w.2.1, w.2.2.1, by rw [o2.1 10]; exact w.2.2.2⟩
          · cases u.2.2.2.1 with
            | inl w => exact Or.inl w
            | inr w =>
              refine Or.inr ⟨w.1, ?_⟩
              cases u.2.2.1 with
              | inl y => exact absurd y.1 w.1
              | inr y =>
                rw [(oth _ y.1 (by rw [y.2.2.1]; exact c)).2 5]
                exact w.2
          · rw [u.2.2.2.2]
            have : ∀ n, n ≤ 48 → zc_ch h' t n = zc_ch h t n := by
              intro n
              induction n with
              | zero => intro _; rfl
              | succ n ih =>
                intro hn
                have l := zc_stl (zc_hl t) (show n < 48 by omega)
                show zc_ch h' t n + (if zv_R h' (zc_stt (zc_hf t) n) 4 = t then 1 else 0) = zc_ch h t n + (if zv_R h (zc_stt (zc_hf t) n) 4 = t then 1 else 0)
                rw [ih (by omega), (oth _ l.1 (by rw [l.2.1]; exact c)).2 4]
            exact (this 48 (Nat.le_refl _)).symm
    · by_cases c : b = a
      · rw [c, t5]
        have sl := zc_stl ha (show 0 < 48 by decide)
        have e0 : zc_stt a 0 = a + 1 := rfl
        rw [e0] at sl
        refine ⟨sl.1, ?_, sl.2.1⟩
        have := (myI 0 (by decide) 3).trans (s4 0 (by decide)).2.1
        exact this
      · have u := hA.2.2 b hb
        rw [rO b (nst b _ hb (by decide)) 10 (fun w => c w.1)]
        refine ⟨u.1, ?_, u.2.2⟩
        rw [(oth _ u.1 (by rw [u.2.2]; exact c)).1 3]
        exact u.2.1
  refine ⟨⟨t1.trans s1, t2.trans s2, fun r hr => ?_, ?_⟩, B, T⟩
  · have ns : ∀ j, j < 48 → r ≠ zc_stt a j := fun j hj e => by have := zc_sttb (a := a) hj; omega
    have w := s3 r ns
    refine ⟨(t6 r (by omega) (by omega) (by omega) (by omega) (by omega) (by omega)).trans w.1, (congrFun t3 r).trans w.2.1, ?_⟩
    funext k
    exact (t4 r k (by omega)).trans (congrFun w.2.2 k)
  · exact (congrFun (iL 5 (1, 3) rfl (by decide) (by decide) (by decide) (by decide) (by decide)) 2).trans (congrFun (s3 5 (nst 5 (1, 3) rfl (by decide))).1 2)
theorem zc_Bh_of {h : zv_H} {a : Nat} (hA : zc_A h) (ha : zv_lay a = (1, 0)) : zc_Bh a h := by
  have := zc_lh ha
  refine ⟨fun r h1 h2 => by rw [hA.1.1]; omega, fun r k _ _ => hA.1.2.1 r k, fun i hi => hA.1.2.2.1 a i ha hi, hA.1.2.2.2.2.1⟩
theorem zc_C0_begin {d : Nat} {h : zv_H} {a : Nat} (hA : zc_A h) (ha : zv_lay a = (1, 0)) : zm_R (C0_begin (d + 4) a h) (fun q => zc_X h q) := by
  obtain ⟨h', e, g⟩ := zc_begin (d := d) ha (zc_Bh_of hA ha)
  exact ⟨h', e, zc_bgA hA ha g⟩
theorem zc_C8_done {d : Nat} {h : zv_H} {a : Nat} (hA : zc_A h) (ha : zv_lay a = (1, 0)) : zm_R (C8_done (d + 7) 1 a h) (fun q => zc_X h q.2 ∧ zv_rg q.1) := by
  have F := zc_Q_r hA
  have h8 : zv_lay 1 = (1, 8) := rfl
  have h3 : zv_lay 5 = (1, 3) := rfl
  refine zm_cI (P := fun v h' => zc_X h h' ∧ zv_rg v) (fun e => lC8_done (zc_ob hA h8) e) ?_
  have fin : ∀ {o : Option (Int × zv_H)}, zm_R o (fun q => zc_X h q.2 ∧ zv_rg q.1) → zm_R (o.bind fun q => some (some (zv_i q.1), q.2)) (zm_I fun v h' => zc_X h h' ∧ zv_rg v) := fun e => by
    obtain ⟨q, rfl, p⟩ := e
    exact zm_iI p
  have fO : ∀ {o : Option (Int × zv_H)}, zm_R o (zc_O a h) → zm_R o (fun q => zc_X h q.2 ∧ zv_rg q.1) := fun e => zm_mono e (fun v p => ⟨p.1, p.2.1⟩)
  have fY : ∀ {o : Option (Int × zv_H)}, zm_R o (zc_yI h) → zm_R o (fun q => zc_X h q.2 ∧ zv_rg q.1) := fun e => zm_mono e (fun v p => ⟨p.1.1, p.2⟩)
  rw [qE8_done]
  refine zc_rF F 4 h8 ?_
  refine zc_rI F h3 fun v2 e2 r2 => ?_
  refine zm_if (fun c => ?_) (fun c => ?_)
  · refine zc_rF F 4 h8 ?_
    refine zc_rI F h3 fun v4 e4 r4 => ?_
    refine zc_rF F 4 h8 ?_
    refine zc_rF F 2 h3 ?_
    exact fin (fO (zc_C0_putWord hA ha (zc_y3_1 h3).1 r4))
  refine zm_if (fun c => ?_) (fun c => ?_)
  · refine zc_rF F 4 h8 ?_
    refine zc_rI F h3 fun v4 e4 r4 => ?_
    refine zc_rF F 4 h8 ?_
    refine zc_rI F h3 fun v5 e5 r5 => ?_
    exact fin (fO (zc_C0_cutOut hA ha r4 r5))
  refine zm_if (fun c => ?_) (fun c => ?_)
  · refine zc_rF F 4 h8 ?_
    refine zc_rI F h3 fun v4 e4 r4 => ?_
    exact fin (zm_mono (zc_C0_passTime hA ha r4) (fun v p => ⟨zc_QX p.1, p.2.1⟩))
  refine zm_if (fun c => ?_) (fun c => ?_)
  · exact fin (fY (zc_C0_stepBack hA ha))
  refine zm_if (fun c => ?_) (fun c => ?_)
  · exact fin (fY (zc_C0_stepOn hA ha))
  refine zm_if (fun c => ?_) (fun c => ?_)
  · refine zc_rF F 4 h8 ?_
    refine zc_rI F h3 fun v4 e4 r4 => ?_
    exact fin (fY (zc_C0_goTo hA ha r4))
  refine zm_if (fun c => ?_) (fun c => ?_)
  · refine zc_rF F 4 h8 ?_
    refine zc_rF F 2 h3 ?_
    refine zc_pI (K := fun _ => True) (zc_C7_key hA (zc_y3_1 h3).1) fun v23 r23 _ => ?_
    dsimp only
    exact fin (zm_mono (zc_C0_nameHere hA ha r23) (fun v p => ⟨zc_QX p.1, p.2.1⟩))
  refine zm_if (fun c => ?_) (fun c => ?_)
  · refine zc_rF F 4 h8 ?_
    refine zc_rI F h3 fun v4 e4 r4 => ?_
    exact fin (fO (zc_C0_takeBack hA ha r4))
  refine zm_if (fun c => ?_) (fun c => ?_)
  · refine zc_rF F 4 h8 ?_
    refine zc_rI F h3 fun v4 e4 r4 => ?_
    exact fin (fO (zc_C0_giveBack hA ha r4))
  refine zm_if (fun c => ?_) (fun c => ?_)
  · refine zc_rF F 4 h8 ?_
    refine zc_rI F h3 fun v4 e4 r4 => ?_
    exact fin (fO (zc_C0_carryOver hA ha r4))
  refine zm_if (fun c => ?_) (fun c => ?_)
  · refine zc_rF F 4 h8 ?_
    refine zc_rI F h3 fun v4 e4 r4 => ?_
    exact fin (zm_mono (zc_C0_mergeIn hA ha r4) (fun v p => ⟨p.1.1, p.2.1⟩))
  refine zm_if (fun c => ?_) (fun c => ?_)
  · refine zc_rF F 4 h8 ?_
    refine zc_rI F h3 fun v4 e4 r4 => ?_
    exact fin (zc_C0_pruneTo hA ha r4)
  · exact zm_iI ⟨zc_X_r hA, by unfold zv_rg; omega⟩
/-- as zc_P, but for the tape's size -/
def zc_P' (h h' : zv_H) : Prop := h'.1 = h.1 ∧ h'.2.2.2.2 = h.2.2.2.2 ∧ (∀ r, 347 ≤ r → h'.2.1 r = h.2.1 r ∧ h'.2.2.1 r = h.2.2.1 r ∧ h'.2.2.2.1 r = h.2.2.2.1 r)
theorem zc_P'_t {h h1 h2 : zv_H} (f : zc_P' h h1) (g : zc_P' h1 h2) : zc_P' h h2 := ⟨g.1.trans f.1, g.2.1.trans f.2.1, fun r x => ⟨(g.2.2 r x).1.trans (f.2.2 r x).1, (g.2.2 r x).2.1.trans (f.2.2 r x).2.1, (g.2.2 r x).2.2.trans (f.2.2 r x).2.2⟩⟩
theorem zc_PP' {h h' : zv_H} (f : zc_P h h') : zc_P' h h' := ⟨f.1, f.2.1, f.2.2.1⟩
/-- the tape's size is set -/
theorem zc_tape {h : zv_H} (hA : zc_A h) {v : Int} (hv : zv_rg v) : zc_A (zv_sI h 5 2 v) ∧ zc_P' h (zv_sI h 5 2 v) := by
  have n5 : ∀ t c, zv_lay t = (1, c) → c ≠ 3 → t ≠ 5 := fun t c e n q => by rw [q] at e; rw [show zv_lay 5 = (1, 3) from rfl] at e; cases e; exact n rfl
  refine ⟨⟨zc_BI hA.1 hv (fun e => by cases e) (fun c m e e1 => ?_), fun t ht => ?_, fun b hb => ?_⟩, rfl, rfl, fun r hr => ⟨zc_sIo _ _ _ _ (by omega), rfl, rfl⟩⟩
  · rw [show zv_lay 5 = (1, 3) from rfl] at e
    cases e
    cases e1
  · have tt := hA.2.1 t ht
    have i : ∀ s, zv_lay s = (1, 5) → ∀ k, zv_I (zv_sI h 5 2 v) s k = zv_I h s k := fun s hs k => zc_sI1 _ _ _ _ (fun q => n5 s 5 hs (by decide) q.1)
    have c : ∀ n, zc_ch (zv_sI h 5 2 v) t n = zc_ch h t n := by
      intro n
      induction n with
      | zero => rfl
      | succ n ih =>
        show zc_ch (zv_sI h 5 2 v) t n + _ = zc_ch h t n + _
        rw [ih]
        rfl
    unfold zc_t
    rw [i t ht, i t ht, i t ht, c 48]
    cases tt with
    | inl u => exact Or.inl u
    | inr u =>
      refine Or.inr ⟨u.1, u.2.1, ?_, u.2.2.2⟩
      cases u.2.2.1 with
      | inl w => exact Or.inl w
      | inr w =>
        refine Or.inr ⟨w.1, ?_, w.2.2.1, ?_⟩
        · exact (i _ w.1 3).trans w.2.1
        · exact (congrArg (· + 1) (i _ w.1 10)).trans w.2.2.2
  · have u := hA.2.2 b hb
    refine ⟨u.1, ?_, u.2.2⟩
    exact (zc_sI1 _ _ _ _ (fun q => n5 _ 5 u.1 (by decide) q.1)).trans u.2.1
theorem zc_C3_begin {d : Nat} {h : zv_H} (hA : zc_A h) {n : Int} (rn : zv_rg n) : zm_R (C3_begin (d + 3) 5 n h) (fun h' => zc_P' h h' ∧ zc_A h' ∧ zv_I h' 5 2 = 0) := by
  have h3 : zv_lay 5 = (1, 3) := rfl
  have F := zc_Q_r hA
  refine zm_cV (fun e => lC3_begin (zc_ob hA h3) e) ?_
  rw [qE3_begin]
  refine zc_rI F h3 fun v1 e1 r1 => ?_
  refine zc_wO F h3 (zc_fr3 h3) (zc_mn rn r1) fun g2 F => ?_
  rw [zm_e (show zv_pI g2 5 3 2 0 = some _ from if_pos (zc_ob F.2 h3))]
  have T := zc_tape F.2 (v := 0) (by unfold zv_rg; omega)
  have e0 : zv_I (zv_sI g2 5 2 0) 5 2 = 0 := zc_sI2 _ _ _ _
  have P := zc_P'_t (zc_PP' (zc_qP F.1)) T.2
  have A1 := T.1
  generalize zv_sI g2 5 2 0 = g3 at A1 P e0
  have F := zc_Q_r A1
  refine zc_wO F h3 (zc_fr3 h3) (by unfold zv_rg; omega) fun g4 F => ?_
  refine zc_wO F h3 (zc_fr3 h3) (by unfold zv_rg; omega) fun g5 F => ?_
  refine zc_wO F h3 (zc_fr3 h3) (by unfold zv_rg; omega) fun g6 F => ?_
  refine zc_cI (K := fun v => (v = 0 ∨ v = 1)) F (zc_C3_next F.2 h3) fun v g7 F _ _ => ?_
  dsimp only
  exact zm_iV ⟨zc_P'_t P (zc_PP' (zc_qP F.1)), F.2, F.1.2.2.2.2.2.trans e0⟩
