/-! ===== the two side by side ===== -/
/-- what holds of the class is of its cells alone -/
theorem zc_A_o {h h' : zv_H} (hA : zc_A h) (hn : h'.1 = h.1) (o : ∀ r, r < 347 → h'.2.1 r = h.2.1 r ∧ h'.2.2.2.1 r = h.2.2.2.1 r) : zc_A h' := by
  have oI : ∀ r, r < 347 → ∀ k, zv_I h' r k = zv_I h r k := fun r hr k => congrFun (o r hr).1 k
  have oR : ∀ r, r < 347 → ∀ k, zv_R h' r k = zv_R h r k := fun r hr k => congrFun (o r hr).2 k
  have l5 : ∀ t, zv_lay t = (1, 5) → t < 347 := fun t ht => zc_lt ht (by decide)
  obtain ⟨b1, b2, b3, b4, b5, b6, b7, b8⟩ := hA.1
  have ec : ∀ t n, n ≤ 48 → zc_ch h' t n = zc_ch h t n := fun t n => by
    induction n with
    | zero => intro _; rfl
    | succ n ih =>
      intro hn
      have l := (zc_stl (zc_hl t) (show n < 48 by omega)).1
      show zc_ch h' t n + (if zv_R h' (zc_stt (zc_hf t) n) 4 = t then 1 else 0) = zc_ch h t n + (if zv_R h (zc_stt (zc_hf t) n) 4 = t then 1 else 0)
      rw [ih (by omega), oR _ (l5 _ l)]
  refine ⟨⟨?_, fun r k hr hk => ?_, fun a i ha hi => ?_, ?_, fun r k hr => ?_, fun r c k m hr hm => ?_, fun r k hr => ?_, fun a i ha hi => ?_⟩, fun t ht => ?_, fun b hb => ?_⟩
  · unfold zv_n; rw [hn]; exact b1
  · have hr' : r < 347 := by
      by_cases c : (zv_lay r).2 < 9
      · exact zc_lt (c := (zv_lay r).2) (by rw [← hr]) c
      · exfalso
        refine hk ?_
        have e : zc_offL.getD (zv_lay r).2 [] = [] := by
          rw [List.getD_eq_getElem?_getD, List.getElem?_eq_none (show zc_offL.length ≤ (zv_lay r).2 from by show 9 ≤ _; omega)]
          rfl
        unfold zc_off
        rw [e]
        rfl
    rw [oR r hr']; exact b2 r k hr hk
  · rw [oR (a + 4) (by have := zc_lh ha; omega)]; exact b3 a i ha hi
  · rw [oR 1 (by decide), oR 1 (by decide)]; exact b4
  · rw [oI r hr]; exact b5 r k hr
  · have hr' : r < 347 := by
      refine zc_lt hr ?_
      rcases zc_bdc hm with w | w | w <;> omega
    rw [oI r hr']; exact b6 r c k m hr hm
  · have := zc_l4 hr
    rw [oR (r + 1) (by omega)]; exact b7 r k hr
  · rw [oI _ (l5 _ (zc_stl ha hi).1)]; exact b8 a i ha hi
  · have tt := hA.2.1 t ht
    unfold zc_t
    rw [ec t 48 (Nat.le_refl _), oI t (l5 t ht), oI t (l5 t ht), oI t (l5 t ht), oR t (l5 t ht), oR t (l5 t ht)]
    cases tt with
    | inl u => exact Or.inl u
    | inr u =>
      refine Or.inr ⟨u.1, u.2.1, ?_, ?_, u.2.2.2.2⟩
      · cases u.2.2.1 with
        | inl w => exact Or.inl w
        | inr w => exact Or.inr ⟨w.1, by rw [oI _ (l5 _ w.1)]; exact w.2.1, w.2.2.1, by rw [oI _ (l5 _ w.1)]; exact w.2.2.2⟩
      · cases u.2.2.2.1 with
        | inl w => exact Or.inl w
        | inr w =>
          refine Or.inr ⟨w.1, ?_⟩
          cases u.2.2.1 with
          | inl y => exact absurd y.1 w.1
          | inr y => rw [oR _ (l5 _ y.1)]; exact w.2
  · have u := hA.2.2 b hb
    have := zc_lh hb
    rw [oR b (by omega)]
    exact ⟨u.1, by rw [oI _ (l5 _ u.1)]; exact u.2.1, u.2.2⟩
theorem zc_A_F {A B : List Nat} {h h' : zv_H} (hA : zc_A h) (f : zm_F A B h h') (hl : (A.all fun x => Nat.ble 347 x) = true := by decide) : zc_A h' := zc_A_o hA f.1 (fun r hr => ⟨zm_F_a' f hr hl, congrFun f.2.1 r⟩)
theorem zm_MI_P {h h' : zv_H} (i : zm_MI h) (p : zc_P' h h') : zm_MI h' := by
  have o := p.2.2
  have oI : ∀ k, zv_I h' 347 k = zv_I h 347 k := fun k => congrFun (o 347 (by decide)).1 k
  obtain ⟨i1, i2, i3, i4, i5, i6, i7⟩ := i
  refine ⟨⟨?_, fun k hk => (congrFun (o 347 (by decide)).2.2 k).trans (i1.2 k hk)⟩, ?_, ⟨(congrFun (o 368 (by decide)).2.1 2).trans i3.1, (congrFun (o 368 (by decide)).2.1 3).trans i3.2.1, (congrFun (o 368 (by decide)).2.1 4).trans i3.2.2.1, fun j hj => (congrFun (o 367 (by decide)).2.1 j).trans (i3.2.2.2.1 j hj), fun j hj => (congrFun (o 368 (by decide)).2.1 j).trans (i3.2.2.2.2.1 j hj), fun j hj => (congrFun (o 369 (by decide)).2.1 j).trans (i3.2.2.2.2.2 j hj)⟩, by rw [oI]; exact i4, by rw [oI]; exact i5, by rw [oI]; exact i6, by rw [oI]; exact i7⟩
  · unfold zv_n; rw [p.1]; exact i1.1
  · rw [show zv_I h' 348 = zv_I h 348 from (o 348 (by decide)).1]; exact i2
/-- all that holds between two calls -/
def zl_S (L : Nat) (X : Nat → Int) (h : zv_H) : Prop := h.2.2.2.2 = (L, X) ∧ zv_s h ≤ 7302250 ∧ L ≤ 3072 ∧ ∀ k, zv_rg (X k)
def zl_I (L : Nat) (X : Nat → Int) (h : zv_H) : Prop := zc_A h ∧ zm_MI h ∧ zv_I h 5 2 = zv_I h 347 27 ∧ zl_S L X h
theorem zl_S_P {L : Nat} {X : Nat → Int} {h h' : zv_H} (s : zl_S L X h) (p : zc_P' h h') : zl_S L X h' := ⟨p.2.1.trans s.1, by unfold zv_s; rw [p.1]; exact s.2.1, s.2.2⟩
theorem zl_S_F {L : Nat} {X : Nat → Int} {A B : List Nat} {h h' : zv_H} (s : zl_S L X h) (f : zm_F A B h h') : zl_S L X h' := ⟨f.2.2.1.trans s.1, by unfold zv_s; rw [f.1]; exact s.2.1, s.2.2⟩
section
variable {L : Nat} {X : Nat → Int} {α : Type} {h : zv_H} {P : α → Prop}
theorem zl_rd (s : zl_S L X h) {j : Int} (h0 : 0 ≤ j) (h1 : j < L) : zv_aI h 2000000 j = some (X j.toNat) := by
  have e1 : zv_L h = L := congrArg Prod.fst s.1
  have e2 : zv_X h = X := congrArg Prod.snd s.1
  unfold zv_aI
  rw [if_pos rfl, e1, if_pos ⟨h0, h1⟩, e2]
/-- a step of the class, one of the reference -/
theorem zl_cI (i : zl_I L X h) {h1 : zv_H} (x1 : zc_X h h1) : zl_I L X h1 := by
  refine ⟨x1.2, zm_MI_P i.2.1 (zc_PP' x1.1), ?_, zl_S_P i.2.2.2 (zc_PP' x1.1)⟩
  rw [x1.1.2.2.2, show zv_I h1 347 = zv_I h 347 from (x1.1.2.2.1 347 (by decide)).1]
  exact i.2.2.1
theorem zl_rI (i : zl_I L X h) {h1 : zv_H} (x1 : zm_X h h1) : zl_I L X h1 := by
  refine ⟨zc_A_F i.1 x1.1, x1.2, ?_, zl_S_F i.2.2.2 x1.1⟩
  rw [zm_F_g x1.1 27]
  exact (congrFun (zm_F_a' x1.1 (r := 5) (by decide)) 2).trans i.2.2.1
theorem zl_c (i : zl_I L X h) {o : Option (Int × zv_H)} (e : zm_R o (fun q => zc_X h q.2)) {G : Int × zv_H → Option α} (n : ∀ v h1, zl_I L X h1 → zm_R (G (v, h1)) P) : zm_R (o.bind G) P := by
  obtain ⟨⟨v, h1⟩, rfl, x⟩ := e
  exact n v h1 (zl_cI i x)
theorem zl_r (i : zl_I L X h) {o : Option (Int × zv_H)} (e : zm_R o (fun q => zm_X h q.2)) {G : Int × zv_H → Option α} (n : ∀ v h1, zl_I L X h1 → zm_R (G (v, h1)) P) : zm_R (o.bind G) P := by
  obtain ⟨⟨v, h1⟩, rfl, x⟩ := e
  exact n v h1 (zl_rI i x)
theorem zl_p {o : Option (Int × zv_H)} (hA : zc_A h) (e : zm_R o (fun q => q.2 = h ∧ zv_rg q.1 ∧ True)) : zm_R o (zc_pX h) := zm_mono e (fun q w => ⟨by rw [w.1]; exact zc_X_r hA, w.2.1⟩)
/-- the tape: both have grown alike, or none -/
theorem zl_feed (i : zl_I L X h) {D : Nat} (hD : ∃ d, D = d + 10) (a b c e f : Int) : ∃ h1 h2, C8_feed D 1 a b c e f h = some (zm_fd (zv_I h 5 2), h1) ∧ C9_feed D 347 a b c e f h1 = some (zm_fd (zv_I h 5 2), h2) ∧ zl_S L X h1 ∧ zl_I L X h2 := by
  have i4 := i.2.1.2.2.2.1
  have ie := i.2.2.1
  obtain ⟨d, rfl⟩ := hD
  obtain ⟨⟨v, h1⟩, e1, v1, A1, P1, t1⟩ := zc_C8_feed (d := d + 7) i.1 a b c e f (by omega) (by omega)
  have e1' : C8_feed (d + 10) 1 a b c e f h = some (v, h1) := e1
  have A1' : zc_A h1 := A1
  have P1' : zc_P' h h1 := P1
  have t1' : zv_I h1 5 2 = if zv_I h 5 2 + 20 ≤ 700 then zv_I h 5 2 + 20 else zv_I h 5 2 := t1
  have M1 := zm_MI_P i.2.1 P1'
  obtain ⟨h2, e2, f2, M2, t2⟩ := zm_feed M1 d a b c e f
  have o27 : zv_I h1 347 27 = zv_I h 347 27 := congrFun (P1'.2.2 347 (by decide)).1 27
  have S1 := zl_S_P i.2.2.2 P1'
  refine ⟨h1, h2, by rw [e1']; exact congrArg (fun x => some (x, h1)) v1, by rw [e2, o27, ie], S1, zc_A_F A1' f2, M2, ?_, zl_S_F S1 f2⟩
  rw [t2, o27, ← ie, ← t1']
  exact congrFun (zm_F_a' f2 (r := 5) (by decide)) 2
theorem zl_load (i : zl_I L X h) {D : Nat} (hD : ∃ d, D = d + 28) {n : Int} (rn : zv_rg n) : ∃ v1 h1 v2 h2, C8_load D 1 n h = some (v1, h1) ∧ C9_load D 347 n h1 = some (v2, h2) ∧ zl_S L X h1 ∧ zl_I L X h2 := by
  have i4 := i.2.1.2.2.2.1
  have ie := i.2.2.1
  obtain ⟨d, rfl⟩ := hD
  obtain ⟨⟨v, h1⟩, e1, A1, P1, t1⟩ := zc_C8_load (d := d) i.1 rn (by omega)
  have A1' : zc_A h1 := A1
  have P1' : zc_P' h h1 := P1
  have t1' : zv_I h1 5 2 = if 0 ≤ n ∧ n ≤ zv_I h 5 2 then 0 else zv_I h 5 2 := t1
  have M1 := zm_MI_P i.2.1 P1'
  have o27 : zv_I h1 347 27 = zv_I h 347 27 := congrFun (P1'.2.2 347 (by decide)).1 27
  have o20 := M1.2.2.2.2.2.1
  have o47 := M1.2.2.2.2.2.2
  obtain ⟨⟨v2, h2⟩, e2, f2, W2, t2, n0, n1⟩ := zm_load M1.1 M1.2.1 M1.2.2.1 M1.2.2.2.1 M1.2.2.2.2.1 d n
  have f2' : zm_F [348, 349, 351, 352, 353, 354, 355, 358, 359, 360, 362, 363, 364, 365] [3, 4, 10, 11, 12, 19, 24, 27, 28, 29, 30, 31, 32, 33, 34, 35, 36, 37, 38, 42, 43] h1 h2 := f2
  have t2' : zv_I h2 347 27 = if 0 ≤ n ∧ n ≤ zv_I h1 347 27 then 0 else zv_I h1 347 27 := t2
  have S1 := zl_S_P i.2.2.2 P1'
  refine ⟨v, h1, v2, h2, e1, e2, S1, zc_A_F A1' f2', ⟨zm_F_M f2' M1.1, W2, zm_K_F M1.2.2.1 f2', ?_, ⟨n0, n1⟩, by rw [zm_F_g f2' 20]; exact o20, by rw [zm_F_g f2' 47]; exact o47⟩, ?_, zl_S_F S1 f2'⟩
  · have t3 : 0 ≤ zv_I h2 347 27 ∧ zv_I h2 347 27 ≤ 700 := by
      rw [t2', o27]
      split <;> omega
    exact t3
  · rw [t2', o27, ← ie, ← t1']
    exact congrFun (zm_F_a' f2' (r := 5) (by decide)) 2
end
/-- the class as it is made -/
theorem zk_A {h : zv_H} (b : zk_ob8 h) {h' : zv_H} (hn : zv_n h' = 372) (o : ∀ r, r < 347 → h'.2.1 r = h.2.1 r ∧ h'.2.2.2.1 r = h.2.2.2.1 r) : zc_A h' := by
  obtain ⟨⟨i1, i2, i3, i4, i5⟩, b2, b3, b4, b5, b6, b7⟩ := b
  have fr : ∀ a, zv_lay a = (1, 0) → zk_fresh a h := fun a ha => by
    cases zc_lh ha with
    | inl e => rw [e]; exact b5
    | inr e => rw [e]; exact b6
  have l5 : ∀ t, zv_lay t = (1, 5) → t < 347 := fun t ht => zc_lt ht (by decide)
  have oI : ∀ r, r < 347 → ∀ k, zv_I h' r k = zv_I h r k := fun r hr k => congrFun (o r hr).1 k
  have oR : ∀ r, r < 347 → ∀ k, zv_R h' r k = zv_R h r k := fun r hr k => congrFun (o r hr).2 k
  refine ⟨⟨hn, fun r k hr hk => ?_, fun a i ha hi => ?_, ?_, fun r k hr => ?_, fun r c k m hr hm => ?_, fun r k hr => ?_, fun a i ha hi => ?_⟩, fun t ht => ?_, fun a ha => ?_⟩
  · have hr' : r < 347 := by
      by_cases c : (zv_lay r).2 < 9
      · exact zc_lt (c := (zv_lay r).2) (by rw [← hr]) c
      · exfalso
        refine hk ?_
        have e : zc_offL.getD (zv_lay r).2 [] = [] := by
          rw [List.getD_eq_getElem?_getD, List.getElem?_eq_none (show zc_offL.length ≤ (zv_lay r).2 from by show 9 ≤ _; omega)]
          rfl
        unfold zc_off
        rw [e]
        rfl
    have h1 : 1 ≤ r := by
      by_cases c : r = 0
      · rw [c, zv_lay0] at hr; cases hr
      · omega
    rw [oR r hr']
    exact b2 r h1 (by omega) hr k hk
  · rw [oR (a + 4) (by have := zc_lh ha; omega)]
    exact ((fr a ha).2 i hi).1
  · rw [oR 1 (by decide), oR 1 (by decide)]
    exact Or.inl ⟨b3, b4⟩
  · rw [oI r hr]; exact i1 r k hr
  · have hr' : r < 347 := by
      refine zc_lt hr ?_
      rcases zc_bdc hm with w | w | w <;> omega
    have hm0 : 0 ≤ m := by
      unfold zc_bd at hm
      split at hm
      · cases hm; decide
      · split at hm
        · cases hm; decide
        · split at hm
          · cases hm; decide
          · cases hm
    rw [oI r hr', i2 r c k m hr hm]
    omega
  · have := zc_l4 hr
    rw [oR (r + 1) (by omega)]
    exact Or.inl (i3 r k hr)
  · rw [oI _ (l5 _ (zc_stl ha hi).1)]
    exact ((fr a ha).2 i hi).2.1
  · obtain ⟨i, hi, e⟩ := zc_l5i ht
    obtain ⟨q1, q2, q3, q4, q5, q6, q7⟩ := (fr _ (zc_hl t)).2 i hi
    rw [← e] at q2 q3 q4 q5 q6 q7
    have lt := l5 t ht
    unfold zc_t
    rw [oI t lt, oI t lt, oI t lt, oR t lt, oR t lt, q3, q4, q5, q6, q7]
    by_cases z : i = 0
    · rw [if_pos z]
      have c0 : ∀ n, n ≤ 48 → zc_ch h' t n = 0 := by
        intro n
        induction n with
        | zero => intro _; rfl
        | succ n ih =>
          intro hn
          have l := (zc_stl (zc_hl t) (show n < 48 by omega)).1
          show zc_ch h' t n + (if zv_R h' (zc_stt (zc_hf t) n) 4 = t then 1 else 0) = 0
          rw [ih (by omega), oR _ (l5 _ l), ((fr _ (zc_hl t)).2 n (by omega)).2.2.2.1, if_neg (fun q => zc_nz ht q.symm)]
          rfl
      exact Or.inr ⟨rfl, by decide, Or.inl ⟨rfl, rfl⟩, Or.inl rfl, (c0 48 (Nat.le_refl _)).symm⟩
    · rw [if_neg z]
      exact Or.inl ⟨rfl, rfl⟩
  · have f := fr a ha
    have e0 : zc_stt a 0 = a + 1 := rfl
    have sl := zc_stl ha (show 0 < 48 by decide)
    rw [e0] at sl
    have := zc_lh ha
    rw [oR a (by omega), f.1]
    refine ⟨sl.1, ?_, sl.2.1⟩
    rw [oI _ (l5 _ sl.1)]
    have := (f.2 0 (by decide)).2.2.1
    rw [e0] at this
    exact this
