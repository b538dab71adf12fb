/-! ===== the tie: TEST, as the class reckons it ===== -/
theorem zt_ls1 : ((Int32.ofInt (1 : Int)).toInt64 &&& (63 : Int64)) = 1 := by decide +kernel
theorem zt_b_shl (v : Int64) {i : Nat} (hi : i < 64) : zt_b (zv_lshl v 1) i = (decide (i ≠ 0) && zt_b v (i - 1)) := by
  have e2 : (zv_lshl v 1).toBitVec = v.toBitVec <<< 1 := by
    unfold zv_lshl
    rw [zt_ls1]
    rfl
  unfold zt_b
  rw [e2, BitVec.getLsbD_shiftLeft]
  by_cases e : i = 0
  · subst e; rfl
  · rw [decide_eq_true hi, decide_eq_false (show ¬ i < 1 by omega), decide_eq_true e]
    rfl
theorem zt_b_ushr (v : Int64) (i : Nat) : zt_b (zv_lushr v 1) i = zt_b v (i + 1) := by
  have e2 : (zv_lushr v 1).toBitVec = v.toBitVec >>> 1 := by
    unfold zv_lushr
    have : ((Int32.ofInt (1 : Int)).toInt64.toUInt64 &&& Int64.toUInt64 63) = 1 := by decide +kernel
    rw [this]
    rfl
  unfold zt_b
  rw [e2, BitVec.getLsbD_ushiftRight, Nat.add_comm]
theorem zt_b_1 {i : Nat} (hi : i < 64) : zt_b (Int64.ofNat 1) i = decide (i = 0) := by
  have : ∀ i, i < 64 → zt_b (Int64.ofNat 1) i = decide (i = 0) := by decide +kernel
  exact this i hi
theorem zt_b_m2 {i : Nat} (hi : i < 64) : zt_b (-2) i = decide (i ≠ 0) := by
  have : ∀ i, i < 64 → zt_b (-2) i = decide (i ≠ 0) := by decide +kernel
  exact this i hi
theorem zt_b_x1 (v : Int64) {i : Nat} (hi : i < 64) : zt_b (v ^^^ Int64.ofNat 1) i = xor (zt_b v i) (decide (i = 0)) := by
  rw [← zt_b_1 hi]
  unfold zt_b
  rw [Int64.toBitVec_xor, BitVec.getLsbD_xor]
/-- the heap of truths as bits -/
def zt_hb (v : Int64) (st : List Bool) : Prop := ∀ (k : Nat) (b : Bool), st[k]? = some b → zt_b v k = b
theorem zt_hb_p {v : Int64} {st : List Bool} (h : zt_hb v st) (hl : st.length ≤ 60) (b : Bool) : zt_hb (zv_lshl v 1 ||| (if b = true then Int64.ofNat 1 else Int64.ofNat 0)) (b :: st) := by
  have e : ∀ i, i < 64 → zt_b (if b = true then Int64.ofNat 1 else Int64.ofNat 0) i = (decide (i = 0) && b) := fun i hi => by
    cases b with
    | true => rw [if_pos rfl, zt_b_1 hi, Bool.and_true]
    | false => rw [if_neg (by decide), zt_b_0, Bool.and_false]
  intro k x hx
  cases k with
  | zero =>
    have ex : b = x := Option.some.inj hx
    rw [zt_b_or, zt_b_shl v (by decide), e 0 (by decide), ← ex]
    rfl
  | succ k =>
    have hx' : st[k]? = some x := hx
    have hk := zm_lt_of_get hx'
    rw [zt_b_or, zt_b_shl v (by omega), e (k + 1) (by omega), decide_eq_true (show k + 1 ≠ 0 by omega), decide_eq_false (show ¬ k + 1 = 0 by omega), Nat.add_sub_cancel, Bool.true_and, Bool.false_and, Bool.or_false]
    exact h k x hx'
theorem zt_hb_n {v : Int64} {b : Bool} {st : List Bool} (h : zt_hb v (b :: st)) (hl : st.length ≤ 60) : zt_hb (v ^^^ Int64.ofNat 1) ((!b) :: st) := by
  intro k x hx
  have hk : k < 64 := by
    have := zm_lt_of_get hx
    rw [List.length_cons] at this
    omega
  rw [zt_b_x1 v hk]
  cases k with
  | zero =>
    have ex : (!b) = x := Option.some.inj hx
    rw [h 0 b rfl, ← ex]
    cases b <;> rfl
  | succ k =>
    rw [h (k + 1) x hx, decide_eq_false (show ¬ k + 1 = 0 by omega), Bool.xor_false]
theorem zt_hb_a {v : Int64} {x y : Bool} {st : List Bool} (h : zt_hb v (y :: x :: st)) (hl : st.length ≤ 60) : zt_hb (zv_lushr v 1 &&& (v ||| (-2 : Int64))) ((x && y) :: st) := by
  intro k z hz
  have hk : k < 64 := by
    have := zm_lt_of_get hz
    rw [List.length_cons] at this
    omega
  rw [zt_b_and, zt_b_ushr, zt_b_or, zt_b_m2 hk]
  cases k with
  | zero =>
    have ex : (x && y) = z := Option.some.inj hz
    rw [h 0 y rfl, h 1 x rfl, ← ex]
    cases x <;> cases y <;> rfl
  | succ k =>
    have hz' : (y :: x :: st)[k + 2]? = some z := hz
    rw [h (k + 2) z hz', decide_eq_true (show k + 1 ≠ 0 by omega), Bool.or_true, Bool.and_true]
theorem zt_hb_o {v : Int64} {x y : Bool} {st : List Bool} (h : zt_hb v (y :: x :: st)) (hl : st.length ≤ 60) : zt_hb (zv_lushr v 1 ||| (v &&& Int64.ofNat 1)) ((x || y) :: st) := by
  intro k z hz
  have hk : k < 64 := by
    have := zm_lt_of_get hz
    rw [List.length_cons] at this
    omega
  rw [zt_b_or, zt_b_ushr, zt_b_and, zt_b_1 hk]
  cases k with
  | zero =>
    have ex : (x || y) = z := Option.some.inj hz
    rw [h 0 y rfl, h 1 x rfl, ← ex]
    cases x <;> cases y <;> rfl
  | succ k =>
    have hz' : (y :: x :: st)[k + 2]? = some z := hz
    rw [h (k + 2) z hz', decide_eq_false (show ¬ k + 1 = 0 by omega), Bool.and_false, Bool.or_false]
/-- a code as a step, and its number -/
def zt_sp (v : Int) : Int × Int := if 0 ≤ v then ((v.tmod 6) * 3 + (v.tdiv 6).tmod 3, v.tdiv 18) else if v = -1 then (18, 0) else if v = -2 then (19, 0) else (20, 0)
/-- steps over a heap of truths that is never deep -/
def zt_ph : List Int → Nat → Prop
  | [], n => n = 1
  | v :: r, n => n ≤ 60 ∧ (if 0 ≤ v then zt_ph r (n + 1) else if v = -1 then 1 ≤ n ∧ zt_ph r n else 2 ≤ n ∧ zt_ph r (n - 1))
theorem zt_jn_l {a : Nat} (ha : zv_lay a = (1, 0)) : zv_lay (a + 22) = (1, 1) ∧ zv_lay (a + 23) = (2, 176) ∧ zv_lay (a + 24) = (2, 176) ∧ zv_lay (a + 25) = (2, 6) := by cases zc_lh ha with
  | inl e => rw [e]; exact ⟨rfl, rfl, rfl, rfl⟩
  | inr e => rw [e]; exact ⟨rfl, rfl, rfl, rfl⟩
/-- the TEST of half a -/
def zt_T1 (a : Nat) (cs : List Int) (h : zv_H) : Prop := (zv_I h (a + 22) 3 = cs.length) ∧ (cs.length ≤ 176) ∧ (∀ (k : Nat) (v : Int), cs[k]? = some v → zv_I h (a + 23) k = (zt_sp v).1 ∧ zv_I h (a + 24) k = (zt_sp v).2) ∧ (∀ v ∈ cs, -3 ≤ v ∧ v < 100000) ∧ (zt_ph cs 0)
theorem zt_T1_sz {a : Nat} {cs : List Int} {h : zv_H} (t : zt_T1 a cs h) : zv_I h (a + 22) 3 = cs.length := t.1
theorem zt_T1_le {a : Nat} {cs : List Int} {h : zv_H} (t : zt_T1 a cs h) : cs.length ≤ 176 := t.2.1
theorem zt_T1_st {a : Nat} {cs : List Int} {h : zv_H} (t : zt_T1 a cs h) : ∀ (k : Nat) (v : Int), cs[k]? = some v → zv_I h (a + 23) k = (zt_sp v).1 ∧ zv_I h (a + 24) k = (zt_sp v).2 := t.2.2.1
theorem zt_T1_rg {a : Nat} {cs : List Int} {h : zv_H} (t : zt_T1 a cs h) : ∀ v ∈ cs, -3 ≤ v ∧ v < 100000 := t.2.2.2.1
theorem zt_T1_ph {a : Nat} {cs : List Int} {h : zv_H} (t : zt_T1 a cs h) : zt_ph cs 0 := t.2.2.2.2
def zt_usual : List Int := [54, 27, -2, 28, -2, 145, -2]
/-- it is the reference's -/
def zt_J (a : Nat) (c : Nat → Int) (h : zv_H) : Prop := ∃ cs, zt_T1 a cs h ∧ ((c 4 = 0 ∧ cs = zt_usual) ∨ (c 4 ≠ 0 ∧ cs = zm_cd c))
theorem zt_ev_us (f : Int → Int) : zt_ev f zt_usual [] = (decide (f 0 < 3) && (decide (f 3 = 1) && (decide (f 4 = 1) && decide (f 1 < 8)))) := by
  have e : zt_ev f zt_usual [] = (((decide (f 0 < 3) && decide (f 3 = 1)) && decide (f 4 = 1)) && decide (f 1 < 8)) := rfl
  rw [e, Bool.and_assoc, Bool.and_assoc]
theorem zt_hd_ev {c : Nat → Int} {cs : List Int} (h : (c 4 = 0 ∧ cs = zt_usual) ∨ (c 4 ≠ 0 ∧ cs = zm_cd c)) (f : Int → Int) : zt_hd c f = zt_ev f cs [] := by
  unfold zt_hd
  rcases h with q | q
  · rw [if_pos q.1, q.2, zt_ev_us]
  · rw [if_neg q.1, q.2]
theorem zt_C1_holds_l {d : Nat} {a : Nat} {h : zv_H} (gL : zt_L h) (ha : zv_lay a = (1, 0)) {cs : List Int} (T : zt_T1 a cs h) : ∀ (r p : List Int), p ++ r = cs → ∀ (st : List Bool) (v : Int64), zt_ph r st.length → zt_hb v st → L1_holds_4 d (a + 22) v p.length h = some (some (zv_i (zt_bi (zt_ev (fun i => zv_I h (a + 25) i.toNat) r st))), h)
  | [], p, e, st, v, hp, hb => by
    obtain ⟨l1, l2, l3, l4⟩ := zt_jn_l ha
    rw [List.append_nil] at e
    have e1 : st.length = 1 := hp
    obtain ⟨b, rfl⟩ : ∃ b, st = [b] := by
      cases st with
      | nil => cases e1
      | cons b st =>
        cases st with
        | nil => exact ⟨b, rfl⟩
        | cons x st => rw [List.length_cons, List.length_cons] at e1; omega
    rw [qL1_holds_4, zm_e (zl_gI gL l1 3), zt_T1_sz T, e, if_neg (by omega), qL1_holds_204]
    have h1 : zv_lcmp (v &&& Int64.ofNat 1) (Int64.ofNat 0) = 0 ↔ b = false := by
      rw [zt_lcmp]
      constructor
      · intro q
        have := q 0 (by decide)
        rw [zt_b_and, zt_b_1 (by decide), hb 0 b rfl] at this
        cases b with
        | false => rfl
        | true => exact absurd this (by decide)
      · intro q i hi
        rw [zt_b_and, zt_b_1 hi]
        by_cases z : i = 0
        · rw [z, hb 0 b rfl, q]; rfl
        · rw [decide_eq_false z, Bool.and_false]
    cases b with
    | false => rw [if_pos (h1.mpr rfl)]; rfl
    | true => rw [if_neg (fun q => by cases h1.mp q)]; rfl
  | w :: r, p, e, st, v, hp, hb => by
    obtain ⟨l1, l2, l3, l4⟩ := zt_jn_l ha
    have len : cs.length = p.length + (r.length + 1) := by rw [← e, List.length_append, List.length_cons]
    have le := zt_T1_le T
    have hx : cs[p.length]? = some w := by
      rw [← e, List.getElem?_append_right (Nat.le_refl _), Nat.sub_self]
      rfl
    have e' : (p ++ [w]) ++ r = cs := by rw [List.append_assoc]; exact e
    have el : zv_w ((p.length : Int) + 1) = (((p ++ [w]).length : Nat) : Int) := by rw [zm_w (by omega), List.length_append]; rfl
    obtain ⟨s1, s2⟩ := zt_T1_st T _ _ hx
    have rgw := zt_T1_rg T w (List.mem_of_getElem? hx)
    have r23 : zv_aI h (a + 23) (p.length : Int) = some (zt_sp w).1 := by
      rw [zl_aI gL l2 (by omega) (by omega), show ((p.length : Int)).toNat = p.length by omega, s1]
    have r24 : zv_aI h (a + 24) (p.length : Int) = some (zt_sp w).2 := by
      rw [zl_aI gL l3 (by omega) (by omega), show ((p.length : Int)).toNat = p.length by omega, s2]
    have hp2 : st.length ≤ 60 ∧ (if 0 ≤ w then zt_ph r (st.length + 1) else if w = -1 then 1 ≤ st.length ∧ zt_ph r st.length else 2 ≤ st.length ∧ zt_ph r (st.length - 1)) := hp
    obtain ⟨h60, hp3⟩ := hp2
    rw [qL1_holds_4, zm_e (zl_gI gL l1 3), zt_T1_sz T, if_pos (by omega), if_pos (by omega), zm_e (zl_gF gL l1 0 1), show a + 22 + 1 = a + 23 from rfl, zm_e r23, el]
    by_cases c1 : 0 ≤ w
    · rw [if_pos c1] at hp3
      have esp : zt_sp w = ((w.tmod 6) * 3 + (w.tdiv 6).tmod 3, w.tdiv 18) := if_pos c1
      have m6 := zm_tmod (n := 6) c1 (by decide)
      have d6 : 0 ≤ w.tdiv 6 := by rw [Int.tdiv_eq_ediv_of_nonneg c1]; omega
      have m3 := zm_tmod (n := 3) d6 (by decide)
      rw [esp] at r24 ⊢
      dsimp only
      dsimp only at r24
      have ht := zt_ev_p (f := fun i => zv_I h (a + 25) i.toNat) (r := r) (st := st) c1
      generalize w.tmod 6 = i at m6 ht
      generalize (w.tdiv 6).tmod 3 = j at m3 ht
      generalize w.tdiv 18 = n at r24 ht
      have q3 : (i * 3 + j).tdiv 3 = i := by rw [Int.tdiv_eq_ediv_of_nonneg (by omega)]; omega
      have r3 : (i * 3 + j).tmod 3 = j := by rw [Int.tmod_eq_emod_of_nonneg (by omega)]; omega
      have go : ∀ b : Bool, b = zt_cm j (zv_I h (a + 25) i.toNat) n → L1_holds_181 d (a + 22) v p.length (zt_bi b) h = some (some (zv_i (zt_bi (zt_ev (fun i => zv_I h (a + 25) i.toNat) (w :: r) st))), h) := by
        intro b hbb
        rw [ht, ← hbb, qL1_holds_181, el]
        have P := zt_hb_p hb h60 b
        cases b with
        | false =>
          rw [if_pos (show zt_bi false = 0 from rfl)]
          exact zt_C1_holds_l gL ha T r (p ++ [w]) e' (false :: st) _ hp3 P
        | true =>
          rw [if_neg (show ¬ zt_bi true = 0 by decide)]
          exact zt_C1_holds_l gL ha T r (p ++ [w]) e' (true :: st) _ hp3 P
      have r25 : zv_aI h (a + 25) i = some (zv_I h (a + 25) i.toNat) := zl_aI gL l4 m6.1 (by omega)
      rw [if_neg (by omega), if_neg (by omega), if_neg (by omega), q3, zm_w (by omega), if_neg (by omega), if_pos m6.2, zm_e (zl_gF gL l1 2 3), show a + 22 + 3 = a + 25 from rfl, zm_e r25, qL1_holds_108, r3]
      unfold zt_cm at go
      by_cases j0 : j = 0
      · rw [if_pos j0, zm_e (zl_gF gL l1 1 2), show a + 22 + 2 = a + 24 from rfl, zm_e r24]
        simp only [if_pos j0] at go
        by_cases z : zv_I h (a + 25) i.toNat < n
        · rw [if_pos z]; exact go true (decide_eq_true z).symm
        · rw [if_neg z]; exact go false (decide_eq_false z).symm
      · simp only [if_neg j0] at go
        rw [if_neg j0]
        by_cases j1 : j = 1
        · rw [if_pos j1, zm_e (zl_gF gL l1 1 2), show a + 22 + 2 = a + 24 from rfl, zm_e r24]
          simp only [if_pos j1] at go
          by_cases z : zv_I h (a + 25) i.toNat = n
          · rw [if_pos z]; exact go true (decide_eq_true z).symm
          · rw [if_neg z]; exact go false (decide_eq_false z).symm
        · rw [if_neg j1, zm_e (zl_gF gL l1 1 2), show a + 22 + 2 = a + 24 from rfl, zm_e r24]
          simp only [if_neg j1] at go
          by_cases z : zv_I h (a + 25) i.toNat ≤ n
          · rw [if_pos z]; exact go false (by rw [decide_eq_true z]; rfl)
          · rw [if_neg z]; exact go true (by rw [decide_eq_false z]; rfl)
    · rw [if_neg c1] at hp3
      by_cases c2 : w = -1
      · rw [if_pos c2] at hp3
        have esp : zt_sp w = (18, 0) := by unfold zt_sp; rw [if_neg c1, if_pos c2]
        cases st with
        | nil => exact absurd hp3.1 (by decide)
        | cons b st =>
          rw [esp, if_pos rfl]
          rw [List.length_cons] at h60
          have := zt_C1_holds_l (d := d) gL ha T r (p ++ [w]) e' ((!b) :: st) _ hp3.2 (zt_hb_n hb (by omega))
          rw [this, c2, zt_ev_n]
      · rw [if_neg c2] at hp3
        cases st with
        | nil => exact absurd hp3.1 (by decide)
        | cons y st =>
          cases st with
          | nil =>
            have := hp3.1
            rw [List.length_cons, List.length_nil] at this
            omega
          | cons x st =>
            rw [List.length_cons, List.length_cons] at h60
            have hp4 : zt_ph r (st.length + 1) := hp3.2
            rw [zt_ev_2 c1 c2]
            by_cases c3 : w = -2
            · have esp : zt_sp w = (19, 0) := by unfold zt_sp; rw [if_neg c1, if_neg c2, if_pos c3]
              rw [esp, if_neg (by decide), if_pos rfl, if_pos c3]
              exact zt_C1_holds_l gL ha T r (p ++ [w]) e' ((x && y) :: st) _ hp4 (zt_hb_a hb (by omega))
            · have esp : zt_sp w = (20, 0) := by unfold zt_sp; rw [if_neg c1, if_neg c2, if_neg c3]
              rw [esp, if_neg (by decide), if_neg (by decide), if_pos rfl, if_neg c3]
              exact zt_C1_holds_l gL ha T r (p ++ [w]) e' ((x || y) :: st) _ hp4 (zt_hb_o hb (by omega))
theorem zt_C1_holds {d : Nat} {a : Nat} {c : Nat → Int} {h : zv_H} (gL : zt_L h) (ha : zv_lay a = (1, 0)) (J : zt_J a c h) : C1_holds (d + 1) (a + 22) h = some (zt_bi (zt_hd c (fun i => zv_I h (a + 25) i.toNat)), h) := by
  obtain ⟨cs, T, hc⟩ := J
  refine lC1_holds (zl_ob gL (zt_jn_l ha).1) ?_
  rw [qE1_holds, zt_hd_ev hc]
  exact zt_C1_holds_l gL ha T cs [] rfl [] _ (zt_T1_ph T) (fun k b hb => by cases hb)
