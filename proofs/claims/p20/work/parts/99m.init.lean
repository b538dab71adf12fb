/-! ===== the class: a History is made; the object is made ===== -/
theorem zk_stt {a i : Nat} (ha : a = 9 ∨ a = 178) (hi : i < 48) : zv_lay (zc_stt a i) = (1, 5) ∧ zv_lay (zc_stt a i + 1) = (2, 12) ∧ zv_lay (zc_stt a i + 2) = (2, 120) := by
  have l := (zc_stl (a := a) (by cases ha with
    | inl e => rw [e]; rfl
    | inr e => rw [e]; rfl) hi).1
  exact ⟨l, (zc_l5 l).1, (zc_l5 l).2⟩
/-- a History as it is made -/
def zk_fresh (a : Nat) (h : zv_H) : Prop := zv_R h a 10 = a + 1 ∧ ∀ i, i < 48 → zv_R h (a + 4) i = zc_stt a i ∧ zv_I h (zc_stt a i) 0 = (i : Int) ∧ zv_I h (zc_stt a i) 3 = (if i = 0 then 1 else 0) ∧ zv_R h (zc_stt a i) 4 = 0 ∧ zv_R h (zc_stt a i) 5 = zc_stt a i ∧ zv_I h (zc_stt a i) 10 = 0 ∧ zv_I h (zc_stt a i) 11 = 0
/-- how it was made: all anew at the end -/
def zk_from (a : Nat) (h : zv_H) : Prop := ∃ (d : Nat) (z hb : zv_H), zc_Bh a z ∧ (∀ i, i < 48 → zv_I z (zc_stt a i) 0 = (i : Int)) ∧ C0_begin (d + 4) a z = some hb ∧ ∀ r, a ≤ r → r < a + 169 → zk_o hb h r
def zk_L (a : Nat) (h0 h : zv_H) (i W : Nat) : Prop := zk_I h ∧ zv_n h = a + 24 + 3 * i ∧ zv_s h = zv_s h0 + W + 150 * i ∧ h.2.2.2.2 = h0.2.2.2.2 ∧ (∀ r, r < a → zk_o h0 h r) ∧ (∀ r, a ≤ r → r ≤ a + 24 + 3 * i → zk_fin h r) ∧ zv_R h a 10 = a + 1 ∧ (∀ j, j < i → zv_R h (a + 4) j = zc_stt a j) ∧ ∀ j, j < i → zv_I h (zc_stt a j) 0 = (j : Int)
theorem zk_begin {d : Nat} {h0 h : zv_H} {a W : Nat} (ha : a = 9 ∨ a = 178) (l : zk_L a h0 h 48 W) : zm_R (C0_begin (d + 4) a h) (fun h' => zk_P a (a + 168) (W + 150 * 48) h0 h' ∧ zk_fresh a h' ∧ zk_from a h') := by
  obtain ⟨l1, l2, l3, l4, l5, l6, l7, l8, l9⟩ := l
  have hl : zv_lay a = (1, 0) := by cases ha with
    | inl e => rw [e]; rfl
    | inr e => rw [e]; rfl
  have B : zc_Bh a h := ⟨fun r h1 h2 => by omega, fun r k h1 h2 h3 h4 => l6 r h1 (by omega) h3 k h4, fun i hi => l8 i hi, l1.1⟩
  obtain ⟨h', e, g⟩ := zc_begin (d := d) hl B
  refine ⟨h', e, ?_⟩
  obtain ⟨h1, ⟨s1, s2, s3, s4⟩, t1, t2, t3, t4, t5, t6, t7⟩ := g
  have lo : zv_lay (a + 4) = (6, 48) ∧ zv_lay (a + 14) = (1, 2) ∧ zv_lay (a + 17) = (1, 6) ∧ zv_lay (a + 22) = (1, 1) ∧ zv_lay (a + 23) = (2, 176) ∧ zv_lay (a + 24) = (2, 176) := by cases ha with
    | inl e => rw [e]; exact ⟨rfl, rfl, rfl, rfl, rfl, rfl⟩
    | inr e => rw [e]; exact ⟨rfl, rfl, rfl, rfl, rfl, rfl⟩
  have nst : ∀ r x, zv_lay r = x → x ≠ (1, 5) → ∀ j, j < 48 → r ≠ zc_stt a j := fun r x e n j hj q => n (by rw [← e, q]; exact (zc_stl hl hj).1)
  have out : ∀ r, r < a ∨ a + 169 ≤ r → ∀ j, j < 48 → r ≠ zc_stt a j := fun r hr j hj q => by have := zc_sttb (a := a) hj; omega
  have na : ∀ r x, zv_lay r = x → x ≠ (1, 0) → r ≠ a := fun r x e n q => n (by rw [← e, q, hl])
  have rO : ∀ r, (∀ j, j < 48 → r ≠ zc_stt a j) → ∀ k, ¬ (r = a ∧ k = 10) → zv_R h' r k = zv_R h r k := fun r hr k c => (t4 r k c).trans (congrFun (s3 r hr).2.2 k)
  have rS : ∀ j, j < 48 → ∀ k, zv_R h' (zc_stt a j) k = zv_R h1 (zc_stt a j) k := fun j hj k => t4 _ k (fun q => na _ _ (zc_stl hl hj).1 (by decide) q.1)
  have i5 : ∀ r, zv_lay r = (1, 5) → h'.2.1 r = h1.2.1 r := fun r e => t6 r (na r _ e (by decide)) (fun q => by rw [q, lo.2.1] at e; cases e) (fun q => by rw [q, lo.2.2.1] at e; cases e) (fun q => by rw [q, lo.2.2.2.1] at e; cases e) (fun q => by rw [q, lo.2.2.2.2.1] at e; cases e) (fun q => by rw [q, lo.2.2.2.2.2] at e; cases e)
  have oo : ∀ r, r < a ∨ a + 169 ≤ r → zk_o h h' r := fun r hr => by
    have w := s3 r (out r hr)
    refine ⟨(t6 r (by omega) (by omega) (by omega) (by omega) (by omega) (by omega)).trans w.1, (congrFun t3 r).trans w.2.1, ?_⟩
    funext k
    exact (t4 r k (by omega)).trans (congrFun w.2.2 k)
  have num : ∀ j, j < 48 → zv_I h' (zc_stt a j) 0 = (j : Int) := fun j hj => ((congrFun (i5 _ (zc_stl hl hj).1) 0).trans (s4 j hj).1).trans (l9 j hj)
  have I' : zk_I h' := by
    obtain ⟨i1, i2, i3, i4, i5'⟩ := l1
    refine ⟨t7, fun r c k m h1' h2 => ?_, fun r k hr => ?_, fun r hr k => ?_, fun r hr => ?_⟩
    · rcases zc_bdc h2 with w | w | w
      · obtain ⟨w1, w2⟩ := w
        subst w1
        have e1 : h'.2.1 r = h1.2.1 r := t6 r (na r _ h1' (by decide)) (fun q => by rw [q, lo.2.1] at h1'; cases h1') (fun q => by rw [q, lo.2.2.1] at h1'; cases h1') (fun q => by rw [q, lo.2.2.2.1] at h1'; cases h1') (fun q => by rw [q, lo.2.2.2.2.1] at h1'; cases h1') (fun q => by rw [q, lo.2.2.2.2.2] at h1'; cases h1')
        exact ((congrFun e1 k).trans (congrFun (s3 r (nst r _ h1' (by decide))).1 k)).trans (i2 r 4 k m h1' h2)
      · obtain ⟨w1, w2, w3⟩ := w
        subst w1
        rw [show zv_I h' r = zv_I h1 r from i5 r h1']
        by_cases c : ∃ j, j < 48 ∧ r = zc_stt a j
        · obtain ⟨j, hj, e⟩ := c
          rw [e, w2]
          exact (s4 j hj).2.2.2.2.2.2.1
        · rw [show zv_I h1 r = zv_I h r from (s3 r (fun j hj e => c ⟨j, hj, e⟩)).1]
          exact i2 r 5 k m h1' h2
      · obtain ⟨w1, w2⟩ := w
        subst w1
        have e1 : h'.2.1 r = h1.2.1 r := t6 r (na r _ h1' (by decide)) (fun q => by rw [q, lo.2.1] at h1'; cases h1') (fun q => by rw [q, lo.2.2.1] at h1'; cases h1') (fun q => by rw [q, lo.2.2.2.1] at h1'; cases h1') (fun q => by rw [q, lo.2.2.2.2.1] at h1'; cases h1') (fun q => by rw [q, lo.2.2.2.2.2] at h1'; cases h1')
        exact ((congrFun e1 k).trans (congrFun (s3 r (nst r _ h1' (by decide))).1 k)).trans (i2 r 7 k m h1' h2)
    · have l17 : zv_lay (r + 1) = (6, 48) := by cases zc_l4 hr with
        | inl e => rw [e]; rfl
        | inr e => rw [e]; rfl
      rw [rO _ (nst _ _ l17 (by decide)) k (fun w => na _ _ l17 (by decide) w.1)]
      exact i3 r k hr
    · have hr' : a + 168 < r := by
        unfold zv_n at hr
        rw [t1, s1] at hr
        have : zv_n h < r := hr
        omega
      have o := oo r (by omega)
      have z := i4 r (by omega) k
      exact ⟨(congrFun o.1 k).trans z.1, (congrFun o.2.2 k).trans z.2⟩
    · have lr : zv_lay r = (1, 5) := by cases hr with
        | inl e => rw [e]; rfl
        | inr e => rw [e]; rfl
      rw [show zv_I h' r = zv_I h1 r from i5 r lr]
      by_cases c : ∃ j, j < 48 ∧ r = zc_stt a j
      · obtain ⟨j, hj, e⟩ := c
        have := (s4 j hj).1
        rw [← e] at this
        rw [this]
        exact i5' r hr
      · rw [show zv_I h1 r = zv_I h r from (s3 r (fun j hj e => c ⟨j, hj, e⟩)).1]
        exact i5' r hr
  refine ⟨⟨I', ?_, ?_, (t2.trans s2).trans l4, fun r hr => zk_o_t (l5 r hr) (oo r (Or.inl hr)), fun r h1' h2' => ?_⟩, ⟨t5, fun i hi => ?_⟩, ⟨d, h, h', B, l9, e, fun r _ _ => ⟨rfl, rfl, rfl⟩⟩⟩
  · unfold zv_n
    rw [t1, s1]
    have : zv_n h = h.1.1 := rfl
    omega
  · unfold zv_s
    rw [t1, s1]
    have e1 : zv_s h = h.1.2 := rfl
    have e2 : zv_s h0 = h0.1.2 := rfl
    omega
  · intro lr k hk
    have f := l6 r h1' (by omega) lr k hk
    by_cases c : ∃ j, j < 48 ∧ r = zc_stt a j
    · obtain ⟨j, hj, e⟩ := c
      have sl := (zc_stl hl hj).1
      have k4 : k ≠ 4 := fun q => by rw [e, sl, q] at hk; exact hk rfl
      have k5 : k ≠ 5 := fun q => by rw [e, sl, q] at hk; exact hk rfl
      have e2 : zv_R h' r k = zv_R h r k := by
        rw [e, rS j hj k]
        exact (s4 j hj).2.2.2.2.2.2.2.2 k k4 k5
      rw [e2]
      exact f
    · rw [rO r (fun j hj e => c ⟨j, hj, e⟩) k (fun q => by rw [q.1, hl, q.2] at hk; exact hk rfl)]
      exact f
  · obtain ⟨q1, q2, q3, q4, q5, q6, q7, q8, q9⟩ := s4 i hi
    have eI := fun k => congrFun (i5 _ (zc_stl hl hi).1) k
    exact ⟨(rO _ (nst _ _ lo.1 (by decide)) i (fun w => na _ _ lo.1 (by decide) w.1)).trans (l8 i hi), num i hi, (eI 3).trans q2, (rS i hi 4).trans q3, (rS i hi 5).trans q4, (eI 10).trans q5, (eI 11).trans q6⟩
theorem zk_C0 {d : Nat} {h : zv_H} {a : Nat} (hI : zk_I h) (ha : a = 9 ∨ a = 178) (hn : zv_n h = a) (hR : ∀ k, zv_R h a k = 0) : zm_R (C0_init (d + 5) a h) (fun h' => zk_P a (a + 168) 11093 h h' ∧ zk_fresh a h' ∧ zk_from a h') := by
  have hl : zv_lay a = (1, 0) := by cases ha with
    | inl e => rw [e]; rfl
    | inr e => rw [e]; rfl
  have L : ∀ k, k < 28 → zv_lay (a + k) = zv_lay (9 + k) := by
    cases ha with
    | inl e => intro k _; rw [e]
    | inr e =>
      rw [e]
      intro k hk
      have : ((List.range 28).all fun k => decide (zv_lay (178 + k) = zv_lay (9 + k))) = true := by decide +kernel
      exact of_decide_eq_true (List.all_eq_true.mp this k (List.mem_range.mpr hk))
  have g : ∀ k, k < 28 → ∀ x, zv_lay (9 + k) = x → zv_lay (a + k) = x := fun k hk x e => (L k hk).trans e
  refine zm_cV (fun e => lC0_init ⟨by omega, hl⟩ e) ?_
  rw [qE0_init, if_neg (zc_nz hl)]
  refine zk_fo 0 5 (a + 3) 132 (con := fun r h => C5_init (d + 4) r 0 h) (zk_B0 hI hn hl hR) (g 1 (by decide) _ rfl) (by omega) (fun h1 i n z _ => zm_mono (zk_C5 i n z (by unfold zv_rg; omega) (fun _ => rfl) (g 1 (by decide) _ rfl) (g 2 (by decide) _ rfl) (g 3 (by decide) _ rfl)) (fun _ q => q.1)) fun h1 b => ?_
  refine zk_fa 1 6 48 b (g 4 (by decide) _ rfl) rfl rfl fun h1 b => ?_
  refine zk_fa 2 2 604 b (g 5 (by decide) _ rfl) rfl rfl fun h1 b => ?_
  refine zk_fa 3 2 48 b (g 6 (by decide) _ rfl) rfl rfl fun h1 b => ?_
  refine zk_fa 4 2 121 b (g 7 (by decide) _ rfl) rfl rfl fun h1 b => ?_
  refine zk_fo 5 4 (a + 13) 2465 (con := C4_init (d + 4)) b (g 8 (by decide) _ rfl) (by omega) (fun h1 i n z _ => zk_C4 i n z (g 8 (by decide) _ rfl) (g 9 (by decide) _ rfl) (g 10 (by decide) _ rfl) (g 11 (by decide) _ rfl) (g 12 (by decide) _ rfl) (g 13 (by decide) _ rfl)) fun h1 b => ?_
  refine zk_fo 6 2 (a + 16) 24 (con := C2_init (d + 4)) b (g 14 (by decide) _ rfl) (by omega) (fun h1 i n z _ => zk_C2 i n z (g 14 (by decide) _ rfl) (g 15 (by decide) _ rfl) (g 16 (by decide) _ rfl)) fun h1 b => ?_
  refine zk_fo 7 6 (a + 21) 160 (con := C6_init (d + 4)) b (g 17 (by decide) _ rfl) (by omega) (fun h1 i n z _ => zk_C6 i n z (g 17 (by decide) _ rfl) (g 18 (by decide) _ rfl) (g 19 (by decide) _ rfl) (g 20 (by decide) _ rfl) (g 21 (by decide) _ rfl)) fun h1 b => ?_
  refine zk_fo 8 1 (a + 25) 358 (con := C1_init (d + 4)) b (g 22 (by decide) _ rfl) (by omega) (fun h1 i n z _ => zk_C1 i n z (g 22 (by decide) _ rfl) (g 23 (by decide) _ rfl) (g 24 (by decide) _ rfl) (g 25 (by decide) _ rfl)) fun h1 b => ?_
  refine zk_fo 9 7 (a + 27) 40 (con := C7_init (d + 4)) b (g 26 (by decide) _ rfl) (by omega) (fun h1 i n z _ => zk_C7 i n z (g 26 (by decide) _ rfl) (g 27 (by decide) _ rfl)) fun h1 b => ?_
  obtain ⟨p1, p2, p3, p4, p5, p6⟩ := zk_end b (fun k hk => by
    match k with
    | 0 => rfl
    | 1 => rfl
    | 2 => rfl
    | 3 => rfl
    | 4 => rfl
    | 5 => rfl
    | 6 => rfl
    | 7 => rfl
    | 8 => rfl
    | 9 => rfl
    | n + 10 => exact absurd rfl hk)
  have oa : zv_ob h1 a 0 := ⟨by omega, hl⟩
  have fa := p6 a (by omega) (by omega)
  have f0 : zv_R h1 a 0 = a + 1 := by
    have := fa (by rw [hl]) 0 (by rw [hl]; decide)
    rw [this, hl]
    rfl
  have f1 : zv_R h1 a 1 = a + 4 := by
    have := fa (by rw [hl]) 1 (by rw [hl]; decide)
    rw [this, hl]
    rfl
  have ne4 : a + 4 ≠ a := by omega
  have l4 : zv_lay (a + 4) = (6, 48) := g 4 (by decide) _ rfl
  refine zc_eR oa f0 ?_
  refine zc_dR oa ?_
  refine zc_eR oa (v := a + 4) ((if_neg (fun q => absurd q.2 (by decide))).trans f1) ?_
  refine zc_eR oa (v := a + 1) ((if_neg (fun q => absurd q.2 (by decide))).trans f0) ?_
  have w1 : zv_wR (zv_sR h1 a 10 (a + 1)) (a + 4) 0 (a + 1) = some (zv_sR (zv_sR h1 a 10 (a + 1)) (a + 4) 0 (a + 1)) := by
    unfold zv_wR
    rw [if_pos ⟨⟨by show a + 4 ≤ zv_n h1; omega, by rw [l4], by decide, by rw [l4]; decide⟩, Or.inr ⟨by show a + 1 ≤ zv_n h1; omega, g 1 (by decide) _ rfl⟩⟩]
    rfl
  rw [zm_e w1]
  have path : ∀ r', zv_lay r' = (1, 4) → r' + 1 ≠ a + 4 := fun r' q e => by
    cases zc_l4 q with
    | inl q => rw [q] at e; omega
    | inr q => rw [q] at e; omega
  have l0 : zk_L a h (zv_sR (zv_sR h1 a 10 (a + 1)) (a + 4) 0 (a + 1)) 1 3893 := by
    refine ⟨zk_I_sR (zk_I_sR p1 (by omega) (zk_obn hl)) (by show a + 4 ≤ zv_n h1; omega) path, ?_, ?_, p4, fun r hr => zk_o_t (p5 r hr) ⟨rfl, rfl, ?_⟩, fun r h2 h3 => ?_, ?_, fun j hj => ?_, fun j hj => ?_⟩
    · show zv_n h1 = _
      omega
    · show zv_s h1 = _
      rw [p3]
      exact congrArg (zv_s h + ·) (show _ = 4043 by decide)
    · rw [zc_sRo _ _ _ _ (by omega), zc_sRo _ _ _ _ (by omega)]
    · intro lr k hk
      have f := p6 r h2 (by omega) lr k hk
      refine Eq.trans ?_ f
      refine (if_neg (fun q => ?_)).trans (if_neg (fun q => ?_))
      · rw [q.1, l4] at lr
        cases lr
      · rw [q.1, hl, q.2] at hk
        exact hk rfl
    · exact (if_neg (fun q => by omega)).trans (if_pos ⟨rfl, rfl⟩)
    · have e : j = 0 := by omega
      subst e
      exact if_pos ⟨rfl, rfl⟩
    · have e : j = 0 := by omega
      subst e
      show zv_I h1 (a + 1) 0 = 0
      exact p1.2.2.2.2 (a + 1) (by omega)
  generalize zv_sR (zv_sR h1 a 10 (a + 1)) (a + 4) 0 (a + 1) = h2 at l0
  have loop : ∀ (n i : Nat) (g2 : zv_H), i + n = 48 → 1 ≤ i → zk_L a h g2 i 3893 → zm_R (L0_init_125 (d + 4) a (i : Int) g2) (zm_V fun h' => zk_P a (a + 168) 11093 h h' ∧ zk_fresh a h' ∧ zk_from a h') := by
    intro n
    induction n with
    | zero =>
      intro i g2 hi h1i l
      have e : i = 48 := by omega
      subst e
      rw [qL0_init_125, if_neg (by omega)]
      obtain ⟨h', e, q⟩ := zk_begin (d := d) ha l
      rw [zm_e e]
      exact zm_iV q
    | succ n ih =>
      intro i g2 hi h1i l
      obtain ⟨l1, l2, l3, l4', l5, l6, l7, l8, l9⟩ := l
      have hi48 : i < 48 := by omega
      have st := zk_stt ha hi48
      have est : zv_n g2 + 1 = zc_stt a i := by
        unfold zc_stt
        rw [if_neg (by omega)]
        omega
      have sb := zc_sttb (a := a) hi48
      have fa1 : zv_gR g2 a 0 1 = some (a + 4) := by
        have f := l6 a (Nat.le_refl _) (by omega) (by rw [hl]) 1 (by rw [hl]; decide)
        rw [show zv_gR g2 a 0 1 = some (zv_R g2 a 1) from if_pos ⟨by omega, hl⟩, f, hl]
        rfl
      have e1 : zv_nO g2 5 = some (zv_mk g2 (zv_nf 5)) := if_pos (by rw [est]; exact st.1)
      have z := zk_mk_0 g2 (zv_nf 5)
      rw [est] at z
      have n1 : zv_n (zv_mk g2 (zv_nf 5)) = zc_stt a i := by
        rw [← est]
        rfl
      obtain ⟨g3, e3, ⟨q1, q2, q3, q4, q5, q6⟩, q7⟩ := zk_C5 (d := d + 3) (i := (i : Int)) (zk_I_mk l1 _) n1 (fun k => (z k).1) (by unfold zv_rg; omega) (fun q => by
        exfalso
        have : zc_stt a i = a + 25 + 3 * i := by
          unfold zc_stt
          rw [if_neg (by omega)]
        omega) st.1 st.2.1 st.2.2
      rw [qL0_init_125, if_pos (by omega), zm_e fa1, zm_e e1, est, zm_e e3]
      have w2 : zv_wR g3 (a + 4) (i : Int) (zc_stt a i) = some (zv_sR g3 (a + 4) i (zc_stt a i)) := by
        unfold zv_wR
        rw [if_pos ⟨⟨by omega, by rw [l4], by omega, by rw [l4]; omega⟩, Or.inr ⟨by omega, st.1⟩⟩]
        rfl
      rw [zm_e w2, show zv_w ((i : Int) + 1) = ((i + 1 : Nat) : Int) by rw [zm_w (by omega)]; omega]
      have om : ∀ r, r < zc_stt a i → zk_o g2 g3 r := fun r hr => zk_o_t (zk_mk_o g2 _ (by omega)) (q5 r hr)
      have os : ∀ r, r ≠ a + 4 → zk_o g3 (zv_sR g3 (a + 4) i (zc_stt a i)) r := fun r hr => ⟨rfl, rfl, zc_sRo _ _ _ _ hr⟩
      have r4 : ∀ j, zv_R g3 (a + 4) j = zv_R g2 (a + 4) j := fun j => congrFun (om (a + 4) (by omega)).2.2 j
      have lt : ∀ j, j < i → zc_stt a j < zc_stt a i := fun j hj => by
        unfold zc_stt
        rw [if_neg (show ¬ i = 0 by omega)]
        by_cases c : j = 0
        · rw [if_pos c]; omega
        · rw [if_neg c]; omega
      have nst4 : ∀ j, j < 48 → zc_stt a j ≠ a + 4 := fun j hj e => by
        have := (zk_stt ha hj).1
        rw [e, l4] at this
        cases this
      refine ih (i + 1) _ (by omega) (by omega) ⟨zk_I_sR q1 (by omega) path, by show zv_n g3 = _; omega, ?_, q4.trans l4', fun r hr => zk_o_t (l5 r hr) (zk_o_t (om r (by omega)) (os r (by omega))), fun r h3 h4 => ?_, ?_, fun j hj => ?_, fun j hj => ?_⟩
      · show zv_s g3 = _
        rw [q3]
        show zv_s g2 + 18 + 132 = _
        omega
      · by_cases c : r = a + 4
        · intro lr
          rw [c, l4] at lr
          cases lr
        · refine zk_fin_o (os r c) ?_
          by_cases c1 : r < zc_stt a i
          · exact zk_fin_o (om r c1) (l6 r h3 (by omega))
          · exact q6 r (by omega) (by omega)
      · exact (congrFun (os a (by omega)).2.2 10).trans ((congrFun (om a (by omega)).2.2 10).trans l7)
      · by_cases c : j = i
        · rw [c]
          exact if_pos ⟨rfl, rfl⟩
        · exact (if_neg (fun q => c q.2)).trans ((r4 j).trans (l8 j (by omega)))
      · show zv_I g3 (zc_stt a j) 0 = _
        by_cases c : j = i
        · rw [c]
          exact q7
        · exact (congrFun (om _ (lt j (by omega))).1 0).trans (l9 j (by omega))
  exact loop 47 1 h2 rfl (by omega) l0
