/-! ===== the class: all anew ===== -/
/-- what is as it must be of a half, also while the other one isn't made -/
def zc_Bh (a : Nat) (h : zv_H) : Prop := (∀ r, a ≤ r → r < a + 169 → r ≤ zv_n h) ∧ (∀ r k, a ≤ r → r < a + 169 → (zv_lay r).1 = 1 → zc_off (zv_lay r).2 k ≠ 0 → zv_R h r k = r + zc_off (zv_lay r).2 k) ∧ (∀ i, i < 48 → zv_R h (a + 4) i = zc_stt a i) ∧ ∀ r k, r < 347 → zv_rg (zv_I h r k)
theorem zc_sttb {a i : Nat} (hi : i < 48) : a + 1 ≤ zc_stt a i ∧ zc_stt a i + 2 < a + 169 := by
  unfold zc_stt
  by_cases c : i = 0
  · rw [if_pos c]; omega
  · rw [if_neg c]; omega
def zc_bj (a : Nat) (h0 h : zv_H) (j : Nat) : Prop := zv_I h (zc_stt a j) 0 = zv_I h0 (zc_stt a j) 0 ∧ zv_I h (zc_stt a j) 3 = (if j = 0 then 1 else 0) ∧ zv_R h (zc_stt a j) 4 = 0 ∧ zv_R h (zc_stt a j) 5 = zc_stt a j ∧ zv_I h (zc_stt a j) 10 = 0 ∧ zv_I h (zc_stt a j) 11 = 0 ∧ zv_I h (zc_stt a j) 12 = 0 ∧ (∀ k, zv_rg (zv_I h (zc_stt a j) k)) ∧ ∀ k, k ≠ 4 → k ≠ 5 → zv_R h (zc_stt a j) k = zv_R h0 (zc_stt a j) k
def zc_bs (a : Nat) (h0 h : zv_H) (i : Nat) : Prop := h.1 = h0.1 ∧ h.2.2.2.2 = h0.2.2.2.2 ∧ (∀ r, (∀ j, j < i → r ≠ zc_stt a j) → h.2.1 r = h0.2.1 r ∧ h.2.2.1 r = h0.2.2.1 r ∧ h.2.2.2.1 r = h0.2.2.2.1 r) ∧ ∀ j, j < i → zc_bj a h0 h j
theorem zc_bs_step {d : Nat} {a : Nat} {h0 h : zv_H} (ha : zv_lay a = (1, 0)) (hB : zc_Bh a h0) {i : Nat} (hi : i < 48) (hs : zc_bs a h0 h i) {x : Int} (hx : x = if i = 0 then 1 else 0) : ∃ g5, C5_open (d + 1) (zc_stt a i) 0 (-1) (-1) 0 h = some g5 ∧ zv_n g5 = zv_n h0 ∧ zv_R g5 a = zv_R h0 a ∧ zv_R g5 (a + 4) = zv_R h0 (a + 4) ∧ zc_bs a h0 (zv_sI g5 (zc_stt a i) 3 x) (i + 1) := by
  obtain ⟨s1, s2, s3, s4⟩ := hs
  have sl := zc_stl ha hi
  have sb := zc_sttb (a := a) hi
  have nin : ∀ j, j < i → zc_stt a i ≠ zc_stt a j := fun j hj e => by have := zc_stinj ha e; omega
  have r0 : zv_rg 0 := by unfold zv_rg; omega
  have rm : zv_rg (-1) := by unfold zv_rg; omega
  have rx : zv_rg x := by
    rw [hx]
    by_cases c : i = 0
    · rw [if_pos c]; unfold zv_rg; omega
    · rw [if_neg c]; exact r0
  have ob : zv_ob h (zc_stt a i) 5 := ⟨by unfold zv_n; rw [s1]; exact hB.1 _ (by omega) (by omega), sl.1⟩
  have row := s3 (zc_stt a i) nin
  obtain ⟨g5, e5, N⟩ := zc_C5_open (d := d) (x := -1) (y := -1) (z := 0) ob (Or.inl rfl) rm rm r0 (fun k => by rw [show zv_I h (zc_stt a i) = zv_I h0 (zc_stt a i) from row.1]; exact hB.2.2.2 _ k (zc_lt sl.1 (by decide)))
  obtain ⟨n1, n2, n3, n4, n5, n6, n7, n8, n9, n10, n11, n12⟩ := N
  have la : ∀ j, j < 48 → a ≠ zc_stt a j := fun j hj e => by have := (zc_stl ha hj).1; rw [← e, ha] at this; cases this
  have l4 : zv_lay (a + 4) = (6, 48) := by cases zc_lh ha with
    | inl e => rw [e]; rfl
    | inr e => rw [e]; rfl
  have la4 : ∀ j, j < 48 → a + 4 ≠ zc_stt a j := fun j hj e => by have := (zc_stl ha hj).1; rw [← e, l4] at this; cases this
  refine ⟨g5, e5, by unfold zv_n; rw [n1, s1], ((n3 a (la i hi)).2.2).trans (s3 a (fun j hj => la j (by omega))).2.2, ((n3 _ (la4 i hi)).2.2).trans (s3 _ (fun j hj => la4 j (by omega))).2.2, ?_⟩
  refine ⟨n1.trans s1, n2.trans s2, fun r hr => ?_, fun j hj => ?_⟩
  · have hri := hr i (by omega)
    have n := n3 r hri
    have s := s3 r (fun j hj => hr j (by omega))
    refine ⟨?_, n.2.1.trans s.2.1, n.2.2.trans s.2.2⟩
    rw [zc_sIo _ _ _ _ hri]
    exact n.1.trans s.1
  · by_cases e : j = i
    · subst e
      refine ⟨?_, ?_, n7, n8, ?_, ?_, ?_, zc_sIr n4 rx, fun k k4 k5 => (n12 k k4 k5).trans (congrFun row.2.2 k)⟩
      · rw [zc_sI1 _ _ _ _ (fun q => absurd q.2 (by decide)), n5]
        exact congrFun row.1 0
      · rw [zc_sI2, hx]
      · rw [zc_sI1 _ _ _ _ (fun q => absurd q.2 (by decide)), n9, if_pos rfl]
      · rw [zc_sI1 _ _ _ _ (fun q => absurd q.2 (by decide)), n10]
      · rw [zc_sI1 _ _ _ _ (fun q => absurd q.2 (by decide)), n11]
    · have hj' : j < i := by omega
      have nj : zc_stt a j ≠ zc_stt a i := fun q => e (zc_stinj ha q)
      have n := n3 _ nj
      have eI : ∀ k, zv_I (zv_sI g5 (zc_stt a i) 3 x) (zc_stt a j) k = zv_I h (zc_stt a j) k := fun k => (zc_sI1 _ _ _ _ (fun q => nj q.1)).trans (congrFun n.1 k)
      have eR : ∀ k, zv_R (zv_sI g5 (zc_stt a i) 3 x) (zc_stt a j) k = zv_R h (zc_stt a j) k := fun k => congrFun n.2.2 k
      obtain ⟨q1, q2, q3, q4, q5, q6, q7, q8, q9⟩ := s4 j hj'
      exact ⟨(eI 0).trans q1, (eI 3).trans q2, (eR 4).trans q3, (eR 5).trans q4, (eI 10).trans q5, (eI 11).trans q6, (eI 12).trans q7, fun k => by rw [eI k]; exact q8 k, fun k k4 k5 => (eR k).trans (q9 k k4 k5)⟩
/-- what the end of begin changes: rows of the History, of names, visits and the test -/
def zc_bt (a : Nat) (h h' : zv_H) : Prop := h'.1 = h.1 ∧ h'.2.2.2.2 = h.2.2.2.2 ∧ h'.2.2.1 = h.2.2.1 ∧ (∀ r k, ¬ (r = a ∧ k = 10) → zv_R h' r k = zv_R h r k) ∧ zv_R h' a 10 = a + 1 ∧ (∀ r, r ≠ a → r ≠ a + 14 → r ≠ a + 17 → r ≠ a + 22 → r ≠ a + 23 → r ≠ a + 24 → h'.2.1 r = h.2.1 r) ∧ ∀ r k, r < 347 → zv_rg (zv_I h' r k)
/-- a test -/
def zc_jt (j : Nat) (h h' : zv_H) : Prop := h'.1 = h.1 ∧ h'.2.2 = h.2.2 ∧ (∀ r, r ≠ j → r ≠ j + 1 → r ≠ j + 2 → h'.2.1 r = h.2.1 r) ∧ ∀ r k, r < 347 → zv_rg (zv_I h' r k)
theorem zc_jt_t {j : Nat} {h h1 h2 : zv_H} (f : zc_jt j h h1) (g : zc_jt j h1 h2) : zc_jt j h h2 := ⟨g.1.trans f.1, g.2.1.trans f.2.1, fun r a b c => (g.2.2.1 r a b c).trans (f.2.2.1 r a b c), g.2.2.2⟩
def zc_jo (j : Nat) (h : zv_H) : Prop := zv_lay j = (1, 1) ∧ zv_lay (j + 1) = (2, 176) ∧ zv_lay (j + 2) = (2, 176) ∧ j + 2 ≤ zv_n h ∧ zv_R h j 0 = j + 1 ∧ zv_R h j 1 = j + 2
theorem zc_jo_jt {j : Nat} {h h' : zv_H} (o : zc_jo j h) (f : zc_jt j h h') : zc_jo j h' := by
  obtain ⟨o1, o2, o3, o4, o5, o6⟩ := o
  refine ⟨o1, o2, o3, by unfold zv_n; rw [f.1]; exact o4, ?_, ?_⟩
  · show h'.2.2.2.1 j 0 = _; rw [f.2.1]; exact o5
  · show h'.2.2.2.1 j 1 = _; rw [f.2.1]; exact o6
theorem zc_rg_s {g : zv_H} {r' k' : Nat} {v : Int} (hg : ∀ r k, r < 347 → zv_rg (zv_I g r k)) (hv : zv_rg v) : ∀ r k, r < 347 → zv_rg (zv_I (zv_sI g r' k' v) r k) := fun r k hr => by
  by_cases q : r = r' ∧ k = k'
  · rw [q.1, q.2, zc_sI2]; exact hv
  · rw [zc_sI1 _ _ _ _ q]; exact hg r k hr
theorem zc_jadd {d : Nat} {h : zv_H} {j : Nat} {x y : Int} (o : zc_jo j h) (hg : ∀ r k, r < 347 → zv_rg (zv_I h r k)) (rx : zv_rg x) (ry : zv_rg y) : zm_R (C1_add (d + 1) j x y h) (fun h' => zc_jt j h h') := by
  obtain ⟨o1, o2, o3, o4, o5, o6⟩ := o
  have ob : zv_ob h j 1 := ⟨by omega, o1⟩
  have rf : zc_jt j h h := ⟨rfl, rfl, fun _ _ _ _ => rfl, hg⟩
  refine zm_cV (fun e => lC1_add ob e) ?_
  rw [qE1_add, zm_e (show zv_gI h j 1 3 = some _ from if_pos ob)]
  refine zm_if (fun c => zm_iV rf) (fun c => ?_)
  rw [zm_e (show zv_gI h j 1 3 = some _ from if_pos ob)]
  refine zm_if (fun c1 => ?_) (fun c => zm_iV rf)
  have n1 : j ≠ j + 1 := by omega
  have n2 : j ≠ j + 2 := by omega
  rw [zm_e (show zv_gR h j 1 0 = some (j + 1) from (if_pos ob).trans (by rw [o5])), zm_e (show zv_gI h j 1 3 = some _ from if_pos ob)]
  have w1 : zv_wI h (j + 1) (zv_I h j 3) x = some (zv_sI h (j + 1) (zv_I h j 3).toNat x) := by
    unfold zv_wI
    rw [if_pos ⟨by omega, by rw [o2], by omega, by rw [o2]; omega⟩]
  rw [zm_e w1, zm_e (show zv_gR (zv_sI h (j + 1) (zv_I h j 3).toNat x) j 1 1 = some (j + 2) from (if_pos ob).trans (by rw [show zv_R (zv_sI h (j + 1) (zv_I h j 3).toNat x) j 1 = zv_R h j 1 from rfl, o6])), zm_e (show zv_gI (zv_sI h (j + 1) (zv_I h j 3).toNat x) j 1 3 = some (zv_I h j 3) from (if_pos ob).trans (by rw [zc_sI1 _ _ _ _ (fun q => n1 q.1)]))]
  have w2 : zv_wI (zv_sI h (j + 1) (zv_I h j 3).toNat x) (j + 2) (zv_I h j 3) y = some (zv_sI (zv_sI h (j + 1) (zv_I h j 3).toNat x) (j + 2) (zv_I h j 3).toNat y) := by
    unfold zv_wI
    rw [if_pos ⟨o4, by rw [o3], by omega, by rw [o3]; omega⟩]
  rw [zm_e w2]
  refine zc_eI ob rfl ?_
  refine zc_dI ob ?_
  refine zm_iV ⟨rfl, rfl, fun r c1 c2 c3 => ?_, ?_⟩
  · rw [zc_sIo _ _ _ _ c1, zc_sIo _ _ _ _ c3, zc_sIo _ _ _ _ c2]
  · exact zc_rg_s (zc_rg_s (zc_rg_s hg rx) ry) (zc_w _)
theorem zc_jcmp {d : Nat} {h : zv_H} {j : Nat} {x y z : Int} (o : zc_jo j h) (hg : ∀ r k, r < 347 → zv_rg (zv_I h r k)) (rz : zv_rg z) : zm_R (C1_compare (d + 2) j x y z h) (fun h' => zc_jt j h h') := by
  have ob : zv_ob h j 1 := ⟨by have := o.2.2.2.1; omega, o.1⟩
  refine zm_cV (fun e => lC1_compare ob e) ?_
  rw [qE1_compare]
  obtain ⟨g, e, f⟩ := zc_jadd (d := d) o hg (zc_w ((zv_w (x * 3)) + y)) rz
  rw [zm_e e]
  exact zm_iV f
theorem zc_jusual {d : Nat} {h : zv_H} {j : Nat} (o : zc_jo j h) (hg : ∀ r k, r < 347 → zv_rg (zv_I h r k)) : zm_R (C1_usual (d + 3) j h) (fun h' => zc_jt j h h') := by
  have ob : zv_ob h j 1 := ⟨by have := o.2.2.2.1; omega, o.1⟩
  have st : ∀ x : Int, -2 < x ∧ x < 100 → zv_rg x := fun x q => by unfold zv_rg; omega
  refine zm_cV (fun e => lC1_usual ob e) ?_
  rw [qE1_usual]
  have c0 : C1_clear (d + 2) j h = some (zv_sI h j 3 0) := lC1_clear ob (by rw [qE1_clear, zm_e (show zv_pI h j 1 3 0 = some (zv_sI h j 3 0) from if_pos ob)])
  have f0 : zc_jt j h (zv_sI h j 3 0) := ⟨rfl, rfl, fun r a b c => zc_sIo _ _ _ _ a, zc_rg_s hg (st _ (by decide))⟩
  rw [zm_e c0]
  have nx : ∀ (g : zv_H), zc_jt j h g → ∀ (c : Option zv_H) (k : zv_H → zv_O), (zc_jo j g → (∀ r k, r < 347 → zv_rg (zv_I g r k)) → zm_R c (fun h' => zc_jt j g h')) → (∀ g', zc_jt j h g' → zm_R (k g') (zm_V fun h' => zc_jt j h h')) → zm_R (c.bind k) (zm_V fun h' => zc_jt j h h') := fun g f c k hc hk => by
    obtain ⟨g', e, f'⟩ := hc (zc_jo_jt o f) f.2.2.2
    rw [zm_e e]
    exact hk g' (zc_jt_t f f')
  refine nx _ f0 _ _ (fun o hg => zc_jcmp o hg (st _ (by decide))) fun g f => ?_
  refine nx _ f _ _ (fun o hg => zc_jcmp o hg (st _ (by decide))) fun g f => ?_
  refine nx _ f _ _ (fun o hg => zc_jadd o hg (st _ (by decide)) (st _ (by decide))) fun g f => ?_
  refine nx _ f _ _ (fun o hg => zc_jcmp o hg (st _ (by decide))) fun g f => ?_
  refine nx _ f _ _ (fun o hg => zc_jadd o hg (st _ (by decide)) (st _ (by decide))) fun g f => ?_
  refine nx _ f _ _ (fun o hg => zc_jcmp o hg (st _ (by decide))) fun g f => ?_
  refine nx _ f _ _ (fun o hg => zc_jadd o hg (st _ (by decide)) (st _ (by decide))) fun g f => ?_
  exact zm_iV f
/-- begin: the States, then the rest -/
def zc_bg (a : Nat) (h0 h : zv_H) : Prop := ∃ h1, zc_bs a h0 h1 48 ∧ zc_bt a h1 h
theorem zc_begin {d : Nat} {h0 : zv_H} {a : Nat} (ha : zv_lay a = (1, 0)) (hB : zc_Bh a h0) : zm_R (C0_begin (d + 4) a h0) (fun h => zc_bg a h0 h) := by
  have lo : zv_lay (a + 4) = (6, 48) ∧ zv_lay (a + 14) = (1, 2) ∧ zv_lay (a + 17) = (1, 6) ∧ zv_lay (a + 22) = (1, 1) ∧ zv_lay (a + 23) = (2, 176) ∧ zv_lay (a + 24) = (2, 176) := by cases zc_lh ha with
    | inl e => rw [e]; exact ⟨rfl, rfl, rfl, rfl, rfl, rfl⟩
    | inr e => rw [e]; exact ⟨rfl, rfl, rfl, rfl, rfl, rfl⟩
  have oa : zv_ob h0 a 0 := ⟨hB.1 a (Nat.le_refl _) (by omega), ha⟩
  have fa : ∀ k v, zc_off 0 k = v → v ≠ 0 → zv_R h0 a k = a + v := fun k v e n => by
    have := hB.2.1 a k (Nat.le_refl _) (by omega) (by rw [ha]) (by rw [ha]; dsimp only; rw [e]; exact n)
    rw [this, ha]
    dsimp only
    rw [e]
  have la : ∀ j, j < 48 → ∀ r x, zv_lay r = x → x ≠ (1, 5) → r ≠ zc_stt a j := fun j hj r x e n q => n (by rw [← e, q]; exact (zc_stl ha hj).1)
  refine zm_cV (fun e => lC0_begin oa e) ?_
  rw [qE0_begin]
  have loop : ∀ (n : Nat) (i : Nat) (h : zv_H), i + n = 48 → zc_bs a h0 h i → zm_R (L0_begin_2 (d + 3) a (i : Int) h) (zm_V fun h => zc_bg a h0 h) := by
    intro n
    induction n with
    | zero =>
      intro i h hi hs
      have hi' : i = 48 := by omega
      subst hi'
      obtain ⟨s1, s2, s3, s4⟩ := hs
      have nn : zv_n h = zv_n h0 := by unfold zv_n; rw [s1]
      have oa' : zv_ob h a 0 := ⟨by rw [nn]; exact oa.1, ha⟩
      have ra : zv_R h a = zv_R h0 a := (s3 a (fun j hj => la j hj a _ ha (by decide))).2.2
      have rgh : ∀ r k, r < 347 → zv_rg (zv_I h r k) := fun r k hr => by
        by_cases c : ∃ j, j < 48 ∧ r = zc_stt a j
        · obtain ⟨j, hj, e⟩ := c
          rw [e]
          exact (s4 j hj).2.2.2.2.2.2.2.1 k
        · rw [show zv_I h r = zv_I h0 r from (s3 r (fun j hj e => c ⟨j, hj, e⟩)).1]
          exact hB.2.2.2 r k hr
      have r0 : zv_rg 0 := by unfold zv_rg; omega
      have r1 : zv_rg 1 := by unfold zv_rg; omega
      have on : zv_ob h (a + 14) 2 := ⟨by rw [nn]; exact hB.1 _ (by omega) (by omega), lo.2.1⟩
      have ov : zv_ob h (a + 17) 6 := ⟨by rw [nn]; exact hB.1 _ (by omega) (by omega), lo.2.2.1⟩
      have rk : ∀ k v, k ≠ 10 → zc_off 0 k = v → v ≠ 0 → zv_R (zv_sR h a 10 (a + 1)) a k = a + v := fun k v hk e n => by
        have q : zv_R (zv_sR h a 10 (a + 1)) a k = zv_R h a k := if_neg (fun q => hk q.2)
        rw [q, ra]
        exact fa k v e n
      rw [qL0_begin_2, if_neg (by omega), zm_e (show zv_gR h a 0 0 = some (a + 1) from (if_pos oa').trans (by rw [ra, fa 0 1 rfl (by decide)]))]
      refine zc_dR oa' ?_
      refine zc_dI oa' ?_
      refine zc_dI oa' ?_
      refine zc_eR oa' (rk 6 14 (by decide) rfl (by decide)) ?_
      refine zc_dI on ?_
      refine zc_eR oa' (rk 7 17 (by decide) rfl (by decide)) ?_
      refine zc_dI ov ?_
      refine zc_eR oa' (rk 8 22 (by decide) rfl (by decide)) ?_
      have jr : ∀ k v, zc_off 1 k = v → v ≠ 0 → zv_R h (a + 22) k = a + 22 + v := fun k v e n => by
        have q1 : zv_R h (a + 22) = zv_R h0 (a + 22) := (s3 _ (fun j hj => la j hj _ _ lo.2.2.2.1 (by decide))).2.2
        have := hB.2.1 (a + 22) k (by omega) (by omega) (by rw [lo.2.2.2.1]) (by rw [lo.2.2.2.1]; dsimp only; rw [e]; exact n)
        rw [q1, this, lo.2.2.2.1]
        dsimp only
        rw [e]
      have jR : ∀ k, zv_R (zv_sR h a 10 (a + 1)) (a + 22) k = zv_R h (a + 22) k := fun k => if_neg (fun q => by omega)
      have jo : zc_jo (a + 22) (zv_sI (zv_sI (zv_sI (zv_sI (zv_sR h a 10 (a + 1)) a 11 0) a 12 1) (a + 14) 2 0) (a + 17) 4 0) := ⟨lo.2.2.2.1, lo.2.2.2.2.1, lo.2.2.2.2.2, by show a + 22 + 2 ≤ zv_n h; rw [nn]; exact hB.1 _ (by omega) (by omega), (jR 0).trans (jr 0 1 rfl (by decide)), (jR 1).trans (jr 1 2 rfl (by decide))⟩
      obtain ⟨g, eg, f1, f2, f3, f4⟩ := zc_jusual (d := d) jo (zc_rg_s (zc_rg_s (zc_rg_s (zc_rg_s (g := zv_sR h a 10 (a + 1)) rgh r0) r1) r0) r0)
      rw [zm_e eg]
      refine zm_iV ⟨h, ⟨s1, s2, s3, s4⟩, f1, ?_, ?_, fun r k c => ?_, ?_, fun r c1 c2 c3 c4 c5 c6 => ?_, f4⟩
      · have := congrArg (fun z : (Nat → Nat → Int64) × ((Nat → Nat → Nat) × (Nat × (Nat → Int))) => z.2.2) f2
        exact this
      · have := congrArg (fun z : (Nat → Nat → Int64) × ((Nat → Nat → Nat) × (Nat × (Nat → Int))) => z.1) f2
        exact this
      · have := congrArg (fun z : (Nat → Nat → Int64) × ((Nat → Nat → Nat) × (Nat × (Nat → Int))) => z.2.1 r k) f2
        exact this.trans (if_neg c)
      · have := congrArg (fun z : (Nat → Nat → Int64) × ((Nat → Nat → Nat) × (Nat × (Nat → Int))) => z.2.1 a 10) f2
        exact this.trans (if_pos ⟨rfl, rfl⟩)
      · rw [f3 r c4 c5 c6, zc_sIo _ _ _ _ c3, zc_sIo _ _ _ _ c2, zc_sIo _ _ _ _ c1, zc_sIo _ _ _ _ c1]
        rfl
    | succ n ih =>
      intro i h hi hs
      have hi' : i < 48 := by omega
      have sl := zc_stl ha hi'
      obtain ⟨s1, s2, s3, s4⟩ := hs
      have nn : zv_n h = zv_n h0 := by unfold zv_n; rw [s1]
      have oa' : zv_ob h a 0 := ⟨by rw [nn]; exact oa.1, ha⟩
      have ra : zv_R h a = zv_R h0 a := (s3 a (fun j hj => la j (by omega) a _ ha (by decide))).2.2
      have r4 : zv_R h (a + 4) = zv_R h0 (a + 4) := (s3 _ (fun j hj => la j (by omega) _ _ lo.1 (by decide))).2.2
      have a4 : a + 4 ≤ zv_n h0 := hB.1 _ (by omega) (by omega)
      have g1 : ∀ g : zv_H, zv_n g = zv_n h0 → zv_R g a = zv_R h0 a → zv_gR g a 0 1 = some (a + 4) := fun g e1 e2 => (if_pos (show a ≤ zv_n g ∧ _ from ⟨by rw [e1]; exact oa.1, ha⟩)).trans (by rw [e2, fa 1 4 rfl (by decide)])
      have g2 : ∀ g : zv_H, zv_n g = zv_n h0 → zv_R g (a + 4) = zv_R h0 (a + 4) → zv_aR g (a + 4) (i : Int) = some (zc_stt a i) := fun g e1 e2 => by
        unfold zv_aR
        rw [if_pos ⟨by rw [e1]; exact a4, by rw [lo.1], by omega, by rw [lo.1]; omega⟩, e2, show ((i : Int)).toNat = i from rfl, hB.2.2.1 i hi']
      have w : zv_w ((i : Int) + 1) = ((i + 1 : Nat) : Int) := by rw [zm_w (by omega)]; omega
      obtain ⟨g5, e5, n5, ra5, r45, bs0⟩ := zc_bs_step (d := d + 2) ha hB hi' ⟨s1, s2, s3, s4⟩ (x := if i = 0 then 1 else 0) rfl
      have os5 : zv_ob g5 (zc_stt a i) 5 := ⟨by rw [n5]; exact hB.1 _ (by have := zc_sttb (a := a) hi'; omega) (by have := zc_sttb (a := a) hi'; omega), sl.1⟩
      rw [qL0_begin_2, if_pos (by omega), zm_e (g1 h nn ra), zm_e (g2 h nn r4), if_neg (zc_nz sl.1), zm_e (g1 h nn ra), zm_e (g2 h nn r4), zm_e e5, zm_e (g1 g5 n5 ra5), zm_e (g2 g5 n5 r45), w]
      by_cases c : i = 0
      · rw [if_pos c] at bs0
        rw [if_pos (show (i : Int) = 0 by omega), zm_e (show zv_pZ g5 (zc_stt a i) 5 3 1 = some _ from if_pos ⟨os5, Or.inr rfl⟩)]
        exact ih (i + 1) _ (by omega) bs0
      · rw [if_neg c] at bs0
        rw [if_neg (show ¬ (i : Int) = 0 by omega), zm_e (show zv_pZ g5 (zc_stt a i) 5 3 0 = some _ from if_pos ⟨os5, Or.inl rfl⟩)]
        exact ih (i + 1) _ (by omega) bs0
  exact loop 48 0 h0 rfl ⟨rfl, rfl, fun _ _ => ⟨rfl, rfl, rfl⟩, fun j hj => absurd hj (Nat.not_lt_zero j)⟩
