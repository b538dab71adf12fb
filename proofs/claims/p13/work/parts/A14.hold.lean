/-! A14.hold -/
section
/-! ===== the tie: TEST, as the class reckons it ===== -/
theorem zt_ls1 : ((Int32.ofInt (1 : Int)).toInt64 &&& (63 : Int64)) = 1 := by decide +kernel
theorem zt_b_shl (v : Int64) {i : Nat} (hi : i < 64) : zt_b (zv_lshl v 1) i = (decide (i ≠ 0) && zt_b v (i - 1)) := by
  have e2 : (zv_lshl v 1).toBitVec = v.toBitVec <<< 1 := by
    unfold zv_lshl
    rw [zt_ls1]
    rfl
  unfold zt_b
  rw [e2, BitVec.getLsbD_shiftLeft]
  by_cases e : i = 0
  · subst e; rfl
  · rw [decide_eq_true hi, decide_eq_false (show ¬ i < 1 by omega), decide_eq_true e]
    rfl
theorem zt_b_ushr (v : Int64) (i : Nat) : zt_b (zv_lushr v 1) i = zt_b v (i + 1) := by
  have e2 : (zv_lushr v 1).toBitVec = v.toBitVec >>> 1 := by
    unfold zv_lushr
    have : ((Int32.ofInt (1 : Int)).toInt64.toUInt64 &&& Int64.toUInt64 63) = 1 := by decide +kernel
    rw [this]
    rfl
  unfold zt_b
  rw [e2, BitVec.getLsbD_ushiftRight, Nat.add_comm]
theorem zt_b_1 {i : Nat} (hi : i < 64) : zt_b (Int64.ofNat 1) i = decide (i = 0) := by
  have : ∀ i, i < 64 → zt_b (Int64.ofNat 1) i = decide (i = 0) := by decide +kernel
  exact this i hi
theorem zt_b_m2 {i : Nat} (hi : i < 64) : zt_b (-2) i = decide (i ≠ 0) := by
  have : ∀ i, i < 64 → zt_b (-2) i = decide (i ≠ 0) := by decide +kernel
  exact this i hi
theorem zt_b_x1 (v : Int64) {i : Nat} (hi : i < 64) : zt_b (v ^^^ Int64.ofNat 1) i = xor (zt_b v i) (decide (i = 0)) := by
  rw [← zt_b_1 hi]
  unfold zt_b
  rw [Int64.toBitVec_xor, BitVec.getLsbD_xor]
/-- the heap of truths as bits -/
def zt_hb (v : Int64) (st : List Bool) : Prop := ∀ (k : Nat) (b : Bool), st[k]? = some b → zt_b v k = b
theorem zt_hb_p {v : Int64} {st : List Bool} (h : zt_hb v st) (hl : st.length ≤ 60) (b : Bool) : zt_hb (zv_lshl v 1 ||| (if b = true then Int64.ofNat 1 else Int64.ofNat 0)) (b :: st) := by
  have e : ∀ i, i < 64 → zt_b (if b = true then Int64.ofNat 1 else Int64.ofNat 0) i = (decide (i = 0) && b) := fun i hi => by
    cases b with
    | true => rw [if_pos rfl, zt_b_1 hi, Bool.and_true]
    | false => rw [if_neg (by decide), zt_b_0, Bool.and_false]
  intro k x hx
  cases k with
  | zero =>
    have ex : b = x := Option.some.inj hx
    rw [zt_b_or, zt_b_shl v (by decide), e 0 (by decide), ← ex]
    rfl
  | succ k =>
    have hx' : st[k]? = some x := hx
    have hk := zm_lt_of_get hx'
    rw [zt_b_or, zt_b_shl v (by omega), e (k + 1) (by omega), decide_eq_true (show k + 1 ≠ 0 by omega), decide_eq_false (show ¬ k + 1 = 0 by omega), Nat.add_sub_cancel, Bool.true_and, Bool.false_and, Bool.or_false]
    exact h k x hx'
theorem zt_hb_n {v : Int64} {b : Bool} {st : List Bool} (h : zt_hb v (b :: st)) (hl : st.length ≤ 60) : zt_hb (v ^^^ Int64.ofNat 1) ((!b) :: st) := by
  intro k x hx
  have hk : k < 64 := by
    have := zm_lt_of_get hx
    rw [List.length_cons] at this
    omega
  rw [zt_b_x1 v hk]
  cases k with
  | zero =>
    have ex : (!b) = x := Option.some.inj hx
    rw [h 0 b rfl, ← ex]
    cases b <;> rfl
  | succ k =>
    rw [h (k + 1) x hx, decide_eq_false (show ¬ k + 1 = 0 by omega), Bool.xor_false]
theorem zt_hb_a {v : Int64} {x y : Bool} {st : List Bool} (h : zt_hb v (y :: x :: st)) (hl : st.length ≤ 60) : zt_hb (zv_lushr v 1 &&& (v ||| (-2 : Int64))) ((x && y) :: st) := by
  intro k z hz
  have hk : k < 64 := by
    have := zm_lt_of_get hz
    rw [List.length_cons] at this
    omega
  rw [zt_b_and, zt_b_ushr, zt_b_or, zt_b_m2 hk]
  cases k with
  | zero =>
    have ex : (x && y) = z := Option.some.inj hz
    rw [h 0 y rfl, h 1 x rfl, ← ex]
    cases x <;> cases y <;> rfl
  | succ k =>
    have hz' : (y :: x :: st)[k + 2]? = some z := hz
    rw [h (k + 2) z hz', decide_eq_true (show k + 1 ≠ 0 by omega), Bool.or_true, Bool.and_true]
theorem zt_hb_o {v : Int64} {x y : Bool} {st : List Bool} (h : zt_hb v (y :: x :: st)) (hl : st.length ≤ 60) : zt_hb (zv_lushr v 1 ||| (v &&& Int64.ofNat 1)) ((x || y) :: st) := by
  intro k z hz
  have hk : k < 64 := by
    have := zm_lt_of_get hz
    rw [List.length_cons] at this
    omega
  rw [zt_b_or, zt_b_ushr, zt_b_and, zt_b_1 hk]
  cases k with
  | zero =>
    have ex : (x || y) = z := Option.some.inj hz
    rw [h 0 y rfl, h 1 x rfl, ← ex]
    cases x <;> cases y <;> rfl
  | succ k =>
    have hz' : (y :: x :: st)[k + 2]? = some z := hz
    rw [h (k + 2) z hz', decide_eq_false (show ¬ k + 1 = 0 by omega), Bool.and_false, Bool.or_false]
/-- a code as a step, and its number -/
def zt_sp (v : Int) : Int × Int := if 0 ≤ v then ((v.tmod 6) * 3 + (v.tdiv 6).tmod 3, v.tdiv 18) else if v = -1 then (18, 0) else if v = -2 then (19, 0) else (20, 0)
/-- steps over a heap of truths that is never deep -/
def zt_ph : List Int → Nat → Prop
  | [], n => n = 1
  | v :: r, n => n ≤ 60 ∧ (if 0 ≤ v then zt_ph r (n + 1) else if v = -1 then 1 ≤ n ∧ zt_ph r n else 2 ≤ n ∧ zt_ph r (n - 1))
theorem zt_jn_l {a : Nat} (ha : zv_lay a = (1, 0)) : zv_lay (a + 22) = (1, 1) ∧ zv_lay (a + 23) = (2, 176) ∧ zv_lay (a + 24) = (2, 176) ∧ zv_lay (a + 25) = (2, 6) := by cases zc_lh ha with
  | inl e => rw [e]; exact ⟨rfl, rfl, rfl, rfl⟩
  | inr e => rw [e]; exact ⟨rfl, rfl, rfl, rfl⟩
/-- the TEST of half a -/
def zt_T1 (a : Nat) (cs : List Int) (h : zv_H) : Prop := (zv_I h (a + 22) 3 = cs.length) ∧ (cs.length ≤ 176) ∧ (∀ (k : Nat) (v : Int), cs[k]? = some v → zv_I h (a + 23) k = (zt_sp v).1 ∧ zv_I h (a + 24) k = (zt_sp v).2) ∧ (∀ v ∈ cs, -3 ≤ v ∧ v < 100000) ∧ (zt_ph cs 0)
theorem zt_T1_sz {a : Nat} {cs : List Int} {h : zv_H} (t : zt_T1 a cs h) : zv_I h (a + 22) 3 = cs.length := t.1
theorem zt_T1_le {a : Nat} {cs : List Int} {h : zv_H} (t : zt_T1 a cs h) : cs.length ≤ 176 := t.2.1
theorem zt_T1_st {a : Nat} {cs : List Int} {h : zv_H} (t : zt_T1 a cs h) : ∀ (k : Nat) (v : Int), cs[k]? = some v → zv_I h (a + 23) k = (zt_sp v).1 ∧ zv_I h (a + 24) k = (zt_sp v).2 := t.2.2.1
theorem zt_T1_rg {a : Nat} {cs : List Int} {h : zv_H} (t : zt_T1 a cs h) : ∀ v ∈ cs, -3 ≤ v ∧ v < 100000 := t.2.2.2.1
theorem zt_T1_ph {a : Nat} {cs : List Int} {h : zv_H} (t : zt_T1 a cs h) : zt_ph cs 0 := t.2.2.2.2
def zt_usual : List Int := [54, 27, -2, 28, -2, 145, -2]
/-- it is the reference's -/
def zt_J (a : Nat) (c : Nat → Int) (h : zv_H) : Prop := ∃ cs, zt_T1 a cs h ∧ ((c 4 = 0 ∧ cs = zt_usual) ∨ (c 4 ≠ 0 ∧ cs = zm_cd c))
theorem zt_ev_us (f : Int → Int) : zt_ev f zt_usual [] = (decide (f 0 < 3) && (decide (f 3 = 1) && (decide (f 4 = 1) && decide (f 1 < 8)))) := by
  have e : zt_ev f zt_usual [] = (((decide (f 0 < 3) && decide (f 3 = 1)) && decide (f 4 = 1)) && decide (f 1 < 8)) := rfl
  rw [e, Bool.and_assoc, Bool.and_assoc]
theorem zt_hd_ev {c : Nat → Int} {cs : List Int} (h : (c 4 = 0 ∧ cs = zt_usual) ∨ (c 4 ≠ 0 ∧ cs = zm_cd c)) (f : Int → Int) : zt_hd c f = zt_ev f cs [] := by
  unfold zt_hd
  rcases h with q | q
  · rw [if_pos q.1, q.2, zt_ev_us]
  · rw [if_neg q.1, q.2]
theorem zt_C1_holds_l {d : Nat} {a : Nat} {h : zv_H} (gL : zt_L h) (ha : zv_lay a = (1, 0)) {cs : List Int} (T : zt_T1 a cs h) : ∀ (r p : List Int), p ++ r = cs → ∀ (st : List Bool) (v : Int64), zt_ph r st.length → zt_hb v st → L1_holds_4 d (a + 22) v p.length h = some (some (zv_i (zt_bi (zt_ev (fun i => zv_I h (a + 25) i.toNat) r st))), h)
  | [], p, e, st, v, hp, hb => by
    obtain ⟨l1, l2, l3, l4⟩ := zt_jn_l ha
    rw [List.append_nil] at e
    have e1 : st.length = 1 := hp
    obtain ⟨b, rfl⟩ : ∃ b, st = [b] := by
      cases st with
      | nil => cases e1
      | cons b st =>
        cases st with
        | nil => exact ⟨b, rfl⟩
        | cons x st => rw [List.length_cons, List.length_cons] at e1; omega
    rw [qL1_holds_4, zm_e (zl_gI gL l1 3), zt_T1_sz T, e, if_neg (by omega), qL1_holds_204]
    have h1 : zv_lcmp (v &&& Int64.ofNat 1) (Int64.ofNat 0) = 0 ↔ b = false := by
      rw [zt_lcmp]
      constructor
      · intro q
        have := q 0 (by decide)
        rw [zt_b_and, zt_b_1 (by decide), hb 0 b rfl] at this
        cases b with
        | false => rfl
        | true => exact absurd this (by decide)
      · intro q i hi
        rw [zt_b_and, zt_b_1 hi]
        by_cases z : i = 0
        · rw [z, hb 0 b rfl, q]; rfl
        · rw [decide_eq_false z, Bool.and_false]
    cases b with
    | false => rw [if_pos (h1.mpr rfl)]; rfl
    | true => rw [if_neg (fun q => by cases h1.mp q)]; rfl
  | w :: r, p, e, st, v, hp, hb => by
    obtain ⟨l1, l2, l3, l4⟩ := zt_jn_l ha
    have len : cs.length = p.length + (r.length + 1) := by rw [← e, List.length_append, List.length_cons]
    have le := zt_T1_le T
    have hx : cs[p.length]? = some w := by
      rw [← e, List.getElem?_append_right (Nat.le_refl _), Nat.sub_self]
      rfl
    have e' : (p ++ [w]) ++ r = cs := by rw [List.append_assoc]; exact e
    have el : zv_w ((p.length : Int) + 1) = (((p ++ [w]).length : Nat) : Int) := by rw [zm_w (by omega), List.length_append]; rfl
    obtain ⟨s1, s2⟩ := zt_T1_st T _ _ hx
    have rgw := zt_T1_rg T w (List.mem_of_getElem? hx)
    have r23 : zv_aI h (a + 23) (p.length : Int) = some (zt_sp w).1 := by
      rw [zl_aI gL l2 (by omega) (by omega), show ((p.length : Int)).toNat = p.length by omega, s1]
    have r24 : zv_aI h (a + 24) (p.length : Int) = some (zt_sp w).2 := by
      rw [zl_aI gL l3 (by omega) (by omega), show ((p.length : Int)).toNat = p.length by omega, s2]
    have hp2 : st.length ≤ 60 ∧ (if 0 ≤ w then zt_ph r (st.length + 1) else if w = -1 then 1 ≤ st.length ∧ zt_ph r st.length else 2 ≤ st.length ∧ zt_ph r (st.length - 1)) := hp
    obtain ⟨h60, hp3⟩ := hp2
    rw [qL1_holds_4, zm_e (zl_gI gL l1 3), zt_T1_sz T, if_pos (by omega), if_pos (by omega), zm_e (zl_gF gL l1 0 1), show a + 22 + 1 = a + 23 from rfl, zm_e r23, el]
    by_cases c1 : 0 ≤ w
    · rw [if_pos c1] at hp3
      have esp : zt_sp w = ((w.tmod 6) * 3 + (w.tdiv 6).tmod 3, w.tdiv 18) := if_pos c1
      have m6 := zm_tmod (n := 6) c1 (by decide)
      have d6 : 0 ≤ w.tdiv 6 := by rw [Int.tdiv_eq_ediv_of_nonneg c1]; omega
      have m3 := zm_tmod (n := 3) d6 (by decide)
      rw [esp] at r24 ⊢
      dsimp only
      dsimp only at r24
      have ht := zt_ev_p (f := fun i => zv_I h (a + 25) i.toNat) (r := r) (st := st) c1
      generalize w.tmod 6 = i at m6 ht
      generalize (w.tdiv 6).tmod 3 = j at m3 ht
      generalize w.tdiv 18 = n at r24 ht
      have q3 : (i * 3 + j).tdiv 3 = i := by rw [Int.tdiv_eq_ediv_of_nonneg (by omega)]; omega
      have r3 : (i * 3 + j).tmod 3 = j := by rw [Int.tmod_eq_emod_of_nonneg (by omega)]; omega
      have go : ∀ b : Bool, b = zt_cm j (zv_I h (a + 25) i.toNat) n → L1_holds_181 d (a + 22) v p.length (zt_bi b) h = some (some (zv_i (zt_bi (zt_ev (fun i => zv_I h (a + 25) i.toNat) (w :: r) st))), h) := by
        intro b hbb
        rw [ht, ← hbb, qL1_holds_181, el]
        have P := zt_hb_p hb h60 b
        cases b with
        | false =>
          rw [if_pos (show zt_bi false = 0 from rfl)]
          exact zt_C1_holds_l gL ha T r (p ++ [w]) e' (false :: st) _ hp3 P
        | true =>
          rw [if_neg (show ¬ zt_bi true = 0 by decide)]
          exact zt_C1_holds_l gL ha T r (p ++ [w]) e' (true :: st) _ hp3 P
      have r25 : zv_aI h (a + 25) i = some (zv_I h (a + 25) i.toNat) := zl_aI gL l4 m6.1 (by omega)
      rw [if_neg (by omega), if_neg (by omega), if_neg (by omega), q3, zm_w (by omega), if_neg (by omega), if_pos m6.2, zm_e (zl_gF gL l1 2 3), show a + 22 + 3 = a + 25 from rfl, zm_e r25, qL1_holds_108, r3]
      unfold zt_cm at go
      by_cases j0 : j = 0
      · rw [if_pos j0, zm_e (zl_gF gL l1 1 2), show a + 22 + 2 = a + 24 from rfl, zm_e r24]
        simp only [if_pos j0] at go
        by_cases z : zv_I h (a + 25) i.toNat < n
        · rw [if_pos z]; exact go true (decide_eq_true z).symm
        · rw [if_neg z]; exact go false (decide_eq_false z).symm
      · simp only [if_neg j0] at go
        rw [if_neg j0]
        by_cases j1 : j = 1
        · rw [if_pos j1, zm_e (zl_gF gL l1 1 2), show a + 22 + 2 = a + 24 from rfl, zm_e r24]
          simp only [if_pos j1] at go
          by_cases z : zv_I h (a + 25) i.toNat = n
          · rw [if_pos z]; exact go true (decide_eq_true z).symm
          · rw [if_neg z]; exact go false (decide_eq_false z).symm
        · rw [if_neg j1, zm_e (zl_gF gL l1 1 2), show a + 22 + 2 = a + 24 from rfl, zm_e r24]
          simp only [if_neg j1] at go
          by_cases z : zv_I h (a + 25) i.toNat ≤ n
          · rw [if_pos z]; exact go false (by rw [decide_eq_true z]; rfl)
          · rw [if_neg z]; exact go true (by rw [decide_eq_false z]; rfl)
    · rw [if_neg c1] at hp3
      by_cases c2 : w = -1
      · rw [if_pos c2] at hp3
        have esp : zt_sp w = (18, 0) := by unfold zt_sp; rw [if_neg c1, if_pos c2]
        cases st with
        | nil => exact absurd hp3.1 (by decide)
        | cons b st =>
          rw [esp, if_pos rfl]
          rw [List.length_cons] at h60
          have := zt_C1_holds_l (d := d) gL ha T r (p ++ [w]) e' ((!b) :: st) _ hp3.2 (zt_hb_n hb (by omega))
          rw [this, c2, zt_ev_n]
      · rw [if_neg c2] at hp3
        cases st with
        | nil => exact absurd hp3.1 (by decide)
        | cons y st =>
          cases st with
          | nil =>
            have := hp3.1
            rw [List.length_cons, List.length_nil] at this
            omega
          | cons x st =>
            rw [List.length_cons, List.length_cons] at h60
            have hp4 : zt_ph r (st.length + 1) := hp3.2
            rw [zt_ev_2 c1 c2]
            by_cases c3 : w = -2
            · have esp : zt_sp w = (19, 0) := by unfold zt_sp; rw [if_neg c1, if_neg c2, if_pos c3]
              rw [esp, if_neg (by decide), if_pos rfl, if_pos c3]
              exact zt_C1_holds_l gL ha T r (p ++ [w]) e' ((x && y) :: st) _ hp4 (zt_hb_a hb (by omega))
            · have esp : zt_sp w = (20, 0) := by unfold zt_sp; rw [if_neg c1, if_neg c2, if_neg c3]
              rw [esp, if_neg (by decide), if_neg (by decide), if_pos rfl, if_neg c3]
              exact zt_C1_holds_l gL ha T r (p ++ [w]) e' ((x || y) :: st) _ hp4 (zt_hb_o hb (by omega))
theorem zt_C1_holds {d : Nat} {a : Nat} {c : Nat → Int} {h : zv_H} (gL : zt_L h) (ha : zv_lay a = (1, 0)) (J : zt_J a c h) : C1_holds (d + 1) (a + 22) h = some (zt_bi (zt_hd c (fun i => zv_I h (a + 25) i.toNat)), h) := by
  obtain ⟨cs, T, hc⟩ := J
  refine lC1_holds (zl_ob gL (zt_jn_l ha).1) ?_
  rw [qE1_holds, zt_hd_ev hc]
  exact zt_C1_holds_l gL ha T cs [] rfl [] _ (zt_T1_ph T) (fun k b hb => by cases hb)
end
/-! A15.join -/
section
/-! ===== the tie: joining a group ===== -/
theorem zt_C1_set {d : Nat} {a : Nat} {g : zv_H} (gL : zt_L g) (ha : zv_lay a = (1, 0)) {i : Int} (hi : 0 ≤ i ∧ i < 6) (v : Int) : C1_set (d + 1) (a + 22) i v g = some (zv_sI g (a + 25) i.toNat v) := by
  obtain ⟨l1, l2, l3, l4⟩ := zt_jn_l ha
  refine lC1_set (zl_ob gL l1) ?_
  rw [qE1_set, if_neg (by omega), if_pos hi.2, zm_e (zl_gF gL l1 2 3), show a + 22 + 3 = a + 25 from rfl, zm_e (zl_wI gL l4 hi.1 (by omega) _)]
/-- the one it came from, and the new one -/
def zt_pq (c : Nat → Int) (g : zv_H) (S : Nat) (P : Nat) (x : Int) (y : Int) (z : Int) : Prop := (zv_lay S = (1, 5)) ∧ (zv_lay P = (1, 5)) ∧ (zv_I g S 6 = x) ∧ (zv_I g S 7 = c 1) ∧ (zv_I g S 8 = y) ∧ (zv_I g S 9 = z) ∧ (zv_I g P 6 = zm_o c (c 0) 2) ∧ (zv_I g P 7 = zm_o c (c 0) 3) ∧ (zv_I g P 8 = zm_o c (c 0) 4) ∧ (zv_I g P 9 = zm_o c (c 0) 5)
theorem zt_pq_lS {c : Nat → Int} {g : zv_H} {S : Nat} {P : Nat} {x : Int} {y : Int} {z : Int} (t : zt_pq c g S P x y z) : zv_lay S = (1, 5) := t.1
theorem zt_pq_lP {c : Nat → Int} {g : zv_H} {S : Nat} {P : Nat} {x : Int} {y : Int} {z : Int} (t : zt_pq c g S P x y z) : zv_lay P = (1, 5) := t.2.1
theorem zt_pq_s6 {c : Nat → Int} {g : zv_H} {S : Nat} {P : Nat} {x : Int} {y : Int} {z : Int} (t : zt_pq c g S P x y z) : zv_I g S 6 = x := t.2.2.1
theorem zt_pq_s7 {c : Nat → Int} {g : zv_H} {S : Nat} {P : Nat} {x : Int} {y : Int} {z : Int} (t : zt_pq c g S P x y z) : zv_I g S 7 = c 1 := t.2.2.2.1
theorem zt_pq_s8 {c : Nat → Int} {g : zv_H} {S : Nat} {P : Nat} {x : Int} {y : Int} {z : Int} (t : zt_pq c g S P x y z) : zv_I g S 8 = y := t.2.2.2.2.1
theorem zt_pq_s9 {c : Nat → Int} {g : zv_H} {S : Nat} {P : Nat} {x : Int} {y : Int} {z : Int} (t : zt_pq c g S P x y z) : zv_I g S 9 = z := t.2.2.2.2.2.1
theorem zt_pq_p6 {c : Nat → Int} {g : zv_H} {S : Nat} {P : Nat} {x : Int} {y : Int} {z : Int} (t : zt_pq c g S P x y z) : zv_I g P 6 = zm_o c (c 0) 2 := t.2.2.2.2.2.2.1
theorem zt_pq_p7 {c : Nat → Int} {g : zv_H} {S : Nat} {P : Nat} {x : Int} {y : Int} {z : Int} (t : zt_pq c g S P x y z) : zv_I g P 7 = zm_o c (c 0) 3 := t.2.2.2.2.2.2.2.1
theorem zt_pq_p8 {c : Nat → Int} {g : zv_H} {S : Nat} {P : Nat} {x : Int} {y : Int} {z : Int} (t : zt_pq c g S P x y z) : zv_I g P 8 = zm_o c (c 0) 4 := t.2.2.2.2.2.2.2.2.1
theorem zt_pq_p9 {c : Nat → Int} {g : zv_H} {S : Nat} {P : Nat} {x : Int} {y : Int} {z : Int} (t : zt_pq c g S P x y z) : zv_I g P 9 = zm_o c (c 0) 5 := t.2.2.2.2.2.2.2.2.2
theorem zt_pq_o {a : Nat} {c : Nat → Int} {g g2 : zv_H} {S P : Nat} {x y z : Int} (ha : zv_lay a = (1, 0)) (p : zt_pq c g S P x y z) (o : zt_o [a + 25] g g2) : zt_pq c g2 S P x y z := by
  have l4 := (zt_jn_l ha).2.2.2
  have nS : S ≠ a + 25 := fun e => by
    have := zt_pq_lS p
    rw [e, l4] at this
    cases this
  have nP : P ≠ a + 25 := fun e => by
    have := zt_pq_lP p
    rw [e, l4] at this
    cases this
  have S2 : ∀ k, zv_I g2 S k = zv_I g S k := fun k => zt_o_i o (zt_c1 nS) k
  have P2 : ∀ k, zv_I g2 P k = zv_I g P k := fun k => zt_o_i o (zt_c1 nP) k
  exact ⟨zt_pq_lS p, zt_pq_lP p, (S2 6).trans (zt_pq_s6 p), (S2 7).trans (zt_pq_s7 p), (S2 8).trans (zt_pq_s8 p), (S2 9).trans (zt_pq_s9 p), (P2 6).trans (zt_pq_p6 p), (P2 7).trans (zt_pq_p7 p), (P2 8).trans (zt_pq_p8 p), (P2 9).trans (zt_pq_p9 p)⟩
theorem zt_C0_isNear {d : Nat} {c : Nat → Int} {g : zv_H} {S P : Nat} {x y z : Int} (gL : zt_L g) (p : zt_pq c g S P x y z) (he : zm_ed c (c 0)) : C0_isNear (d + 1) S P g = some (zt_bi (zt_nr c (c 0) x y z), g) := by
  refine lC0_isNear ?_
  have lS := zt_pq_lS p
  have lP := zt_pq_lP p
  rw [qE0_isNear, zm_e (zl_gI gL lP 6), zt_pq_p6 p]
  unfold zt_nr
  by_cases c1 : zm_o c (c 0) 2 = 0
  · rw [if_pos c1, zm_e (zl_gI gL lP 8), zt_pq_p8 p, zm_e (zl_gI gL lP 9), zt_pq_p9 p, qL0_isNear_23, zm_e (zl_gI gL lS 6), zt_pq_s6 p]
    by_cases c2 : x = 0
    · rw [if_pos c2, zm_e (zl_gI gL lS 8), zt_pq_s8 p, if_pos c2, if_pos c1, zt_dd]
    · rw [if_neg c2, zm_e (zl_gI gL lS 8), zt_pq_s8 p, zm_e (zl_gI gL lS 9), zt_pq_s9 p, if_neg c2, if_pos c1]
      by_cases c3 : zv_w (y + z) = zv_w (zm_o c (c 0) 4 + zm_o c (c 0) 5)
      · rw [if_pos c3, decide_eq_true c3]; rfl
      · rw [if_neg c3, zm_e (zl_gI gL lP 6), zt_pq_p6 p, if_neg (by omega), decide_eq_false c3]; rfl
  · have c1' : zm_o c (c 0) 2 = 1 := he.resolve_left c1
    rw [if_neg c1, zm_e (zl_gI gL lP 8), zt_pq_p8 p, qL0_isNear_23, zm_e (zl_gI gL lS 6), zt_pq_s6 p]
    by_cases c2 : x = 0
    · rw [if_pos c2, zm_e (zl_gI gL lS 8), zt_pq_s8 p, if_pos c2, if_neg c1, zt_dd]
    · rw [if_neg c2, zm_e (zl_gI gL lS 8), zt_pq_s8 p, zm_e (zl_gI gL lS 9), zt_pq_s9 p, if_neg c2, if_neg c1]
      by_cases c3 : zv_w (y + z) = zm_o c (c 0) 4
      · rw [if_pos c3, decide_eq_true c3, Bool.or_true]; rfl
      · rw [if_neg c3, zm_e (zl_gI gL lP 6), zt_pq_p6 p, if_pos c1', zm_e (zl_gI gL lS 8), zt_pq_s8 p, decide_eq_false c3, Bool.or_false, zt_dd]
theorem zt_J_o {a : Nat} {c : Nat → Int} {g g2 : zv_H} (J : zt_J a c g) (o : zt_o [a + 25] g g2) : zt_J a c g2 := by
  obtain ⟨cs, T, h⟩ := J
  refine ⟨cs, ⟨?_, zt_T1_le T, fun k v hv => ?_, zt_T1_rg T, zt_T1_ph T⟩, h⟩
  · rw [zt_o_i o (zt_c1 (by omega))]; exact zt_T1_sz T
  · rw [zt_o_i o (zt_c1 (by omega)), zt_o_i o (zt_c1 (by omega))]; exact zt_T1_st T k v hv
theorem zt_joinGroup {d : Nat} {a : Nat} {c : Nat → Int} {g : zv_H} {S P F : Nat} {x y z n1 n2 : Int} (gL : zt_L g) (ha : zv_lay a = (1, 0)) (J : zt_J a c g) (p : zt_pq c g S P x y z) (hd : zm_ed c (c 0) → zv_R g P 5 = F ∧ zv_lay F = (1, 5) ∧ zv_I g P 10 = n1 ∧ zv_I g F 10 = n2) : zm_R (C0_joinGroup (d + 2) a S P g) (fun g' => ∃ g1, zt_o [a + 25] g g1 ∧ g' = if zt_jn c n1 n2 x y z = true then zv_sR g1 S 5 F else g1) := by
  obtain ⟨l1, l2, l3, l4⟩ := zt_jn_l ha
  have lS := zt_pq_lS p
  have lP := zt_pq_lP p
  refine zm_cV (P := fun g' => ∃ g1, zt_o [a + 25] g g1 ∧ g' = if zt_jn c n1 n2 x y z = true then zv_sR g1 S 5 F else g1) (fun e => lC0_joinGroup (zl_ob gL ha) e) ?_
  rw [qE0_joinGroup, zm_e (zt_C5_edits gL lP), zt_pq_p6 p]
  dsimp only
  by_cases he : zm_ed c (c 0)
  · obtain ⟨h5, lF, d1, d2⟩ := hd he
    have n25 : ∀ r, zv_lay r = (1, 5) → r ≠ a + 25 := fun r hr e => by
      rw [e, l4] at hr
      cases hr
    rw [if_pos (show zm_o c (c 0) 2 = 0 ∨ zm_o c (c 0) 2 = 1 from he), if_neg (by decide), zm_e (zl_gR gL lP 5), h5, if_neg (zc_nz lF), zm_e (zl_gF gL ha 8 22), zm_e (zl_gI gL lS 7), zt_pq_s7 p, zm_e (zl_gI gL lP 7), zt_pq_p7 p, zm_e (zt_C1_set gL ha (by decide) _)]
    have o1 : zt_o [a + 25] g (zv_sI g (a + 25) (Int.toNat 0) (zv_w (c 1 - zm_o c (c 0) 3))) := zt_o_I (zt_o_r _ _) (zt_c2 _) _ _
    have k1 : zv_I (zv_sI g (a + 25) (Int.toNat 0) (zv_w (c 1 - zm_o c (c 0) 3))) (a + 25) = zm_u (zv_I g (a + 25)) 0 (zv_w (c 1 - zm_o c (c 0) 3)) := zm_ss _ _ _ _
    generalize zv_sI g (a + 25) (Int.toNat 0) (zv_w (c 1 - zm_o c (c 0) 3)) = g1 at o1 k1
    have L1 := zt_o_L o1 gL
    have r1 : zv_R g1 P 5 = F := by
      show g1.2.2.2.1 P 5 = F
      rw [o1.2.1]; exact h5
    rw [zm_e (zl_gF L1 ha 8 22), zm_e (zl_gI L1 lP 10), zt_o_i o1 (zt_c1 (n25 P lP)), d1, zm_e (zl_gR L1 lP 5), r1, zm_e (zl_gI L1 lF 10), zt_o_i o1 (zt_c1 (n25 F lF)), d2, zm_e (zt_C1_set L1 ha (by decide) _)]
    have o2 : zt_o [a + 25] g (zv_sI g1 (a + 25) (Int.toNat 1) (zv_w (zv_w (n1 - n2) + 1))) := zt_o_I o1 (zt_c2 _) _ _
    have k2 : zv_I (zv_sI g1 (a + 25) (Int.toNat 1) (zv_w (zv_w (n1 - n2) + 1))) (a + 25) = zm_u (zv_I g1 (a + 25)) 1 (zv_w (zv_w (n1 - n2) + 1)) := zm_ss _ _ _ _
    generalize zv_sI g1 (a + 25) (Int.toNat 1) (zv_w (zv_w (n1 - n2) + 1)) = g2 at o2 k2
    have L2 := zt_o_L o2 gL
    have p2 := zt_pq_o ha p o2
    rw [zm_e (zl_gF L2 ha 8 22), zm_e (zl_gI L2 lS 6), zt_pq_s6 p2, zm_e (zt_C1_set L2 ha (by decide) _)]
    have o3 : zt_o [a + 25] g (zv_sI g2 (a + 25) (Int.toNat 2) x) := zt_o_I o2 (zt_c2 _) _ _
    have k3 : zv_I (zv_sI g2 (a + 25) (Int.toNat 2) x) (a + 25) = zm_u (zv_I g2 (a + 25)) 2 x := zm_ss _ _ _ _
    generalize zv_sI g2 (a + 25) (Int.toNat 2) x = g3 at o3 k3
    have L3 := zt_o_L o3 gL
    have p3 := zt_pq_o ha p o3
    rw [zm_e (zl_gF L3 ha 8 22), zm_e (zl_gI L3 lS 6), zt_pq_s6 p3, zm_e (zl_gI L3 lP 6), zt_pq_p6 p3]
    have l87 : ∀ v3 : Int, v3 = (if zm_o c (c 0) 2 = x then 1 else 0) → zm_R (L0_joinGroup_87 (d + 1) a S P (a + 22) 3 v3 g3) (zm_V fun g' => ∃ g1, zt_o [a + 25] g g1 ∧ g' = if zt_jn c n1 n2 x y z = true then zv_sR g1 S 5 F else g1) := by
      intro v3 ev3
      rw [qL0_joinGroup_87, zm_e (zt_C1_set L3 ha (by decide) _)]
      have o4 : zt_o [a + 25] g (zv_sI g3 (a + 25) (Int.toNat 3) v3) := zt_o_I o3 (zt_c2 _) _ _
      have k4 : zv_I (zv_sI g3 (a + 25) (Int.toNat 3) v3) (a + 25) = zm_u (zv_I g3 (a + 25)) 3 v3 := zm_ss _ _ _ _
      generalize zv_sI g3 (a + 25) (Int.toNat 3) v3 = g4 at o4 k4
      have L4 := zt_o_L o4 gL
      have p4 := zt_pq_o ha p o4
      rw [zm_e (zl_gF L4 ha 8 22), zm_e (zt_C0_isNear L4 p4 he)]
      dsimp only
      have l108 : ∀ v4 : Int, v4 = zt_bi (zt_nr c (c 0) x y z) → zm_R (L0_joinGroup_108 (d + 1) a S P (a + 22) 4 v4 g4) (zm_V fun g' => ∃ g1, zt_o [a + 25] g g1 ∧ g' = if zt_jn c n1 n2 x y z = true then zv_sR g1 S 5 F else g1) := by
        intro v4 ev4
        rw [qL0_joinGroup_108, zm_e (zt_C1_set L4 ha (by decide) _)]
        have o5 : zt_o [a + 25] g (zv_sI g4 (a + 25) (Int.toNat 4) v4) := zt_o_I o4 (zt_c2 _) _ _
        have k5 : zv_I (zv_sI g4 (a + 25) (Int.toNat 4) v4) (a + 25) = zm_u (zv_I g4 (a + 25)) 4 v4 := zm_ss _ _ _ _
        generalize zv_sI g4 (a + 25) (Int.toNat 4) v4 = g5 at o5 k5
        have L5 := zt_o_L o5 gL
        have p5 := zt_pq_o ha p o5
        rw [zm_e (zl_gF L5 ha 8 22), zm_e (zl_gI L5 lS 9), zt_pq_s9 p5, zm_e (zt_C1_set L5 ha (by decide) _)]
        have o6 : zt_o [a + 25] g (zv_sI g5 (a + 25) (Int.toNat 5) z) := zt_o_I o5 (zt_c2 _) _ _
        have k6 : zv_I (zv_sI g5 (a + 25) (Int.toNat 5) z) (a + 25) = zm_u (zv_I g5 (a + 25)) 5 z := zm_ss _ _ _ _
        generalize zv_sI g5 (a + 25) (Int.toNat 5) z = g6 at o6 k6
        have L6 := zt_o_L o6 gL
        have ef : zt_hd c (fun i => zv_I g6 (a + 25) i.toNat) = zt_hd c (zt_fa c n1 n2 x y z) := zt_hd_cg (fun i i0 i1 => by
          rw [k6, k5, k4, k3, k2, k1]
          unfold zm_u zt_fa
          by_cases z5 : i = 5
          · subst z5; rfl
          · by_cases z4 : i = 4
            · subst z4; exact ev4
            · by_cases z3 : i = 3
              · subst z3; exact ev3
              · by_cases z2 : i = 2
                · subst z2; rfl
                · by_cases z1 : i = 1
                  · subst z1; rfl
                  · have z0 : i = 0 := by omega
                    subst z0
                    rfl)
        rw [zm_e (zl_gF L6 ha 8 22), zm_e (zt_C1_holds L6 ha (zt_J_o J o6)), ef]
        dsimp only
        have ej : zt_jn c n1 n2 x y z = zt_hd c (zt_fa c n1 n2 x y z) := by
          unfold zt_jn
          rw [decide_eq_true he, Bool.true_and]
        rw [ej]
        cases hb : zt_hd c (zt_fa c n1 n2 x y z) with
        | false =>
          rw [if_pos (show zt_bi false = 0 from rfl)]
          exact zm_iV ⟨g6, o6, by rw [if_neg (by decide)]⟩
        | true =>
          have r6 : zv_R g6 P 5 = F := by
            show g6.2.2.2.1 P 5 = F
            rw [o6.2.1]; exact h5
          rw [if_neg (show ¬ zt_bi true = 0 by decide), zm_e (zl_gR L6 lP 5), r6, zm_e (zl_pR L6 lS 5 _)]
          exact zm_iV ⟨g6, o6, by rw [if_pos rfl]⟩
      refine zm_if (fun q => l108 0 q.symm) (fun q => l108 1 ?_)
      rcases zt_bi01 (zt_nr c (c 0) x y z) with w | w
      · exact absurd w q
      · exact w.symm
    refine zm_if (fun q => l87 1 (by rw [if_pos q.symm])) (fun q => l87 0 (by rw [if_neg (fun z => q z.symm)]))
  · rw [if_neg (show ¬ (zm_o c (c 0) 2 = 0 ∨ zm_o c (c 0) 2 = 1) from he), if_pos rfl]
    refine zm_iV ⟨g, zt_o_r _ _, ?_⟩
    unfold zt_jn
    rw [decide_eq_false he, Bool.false_and, if_neg (by decide)]
end
/-! A16.add -/
section
/-! ===== the tie: letters go into a document ===== -/
def zt_wd (r : Nat) (m : Nat) (wd : Nat → Int) (g : zv_H) : Prop := (zv_lay r = (1, 7)) ∧ (zv_lay (r + 1) = (2, 40)) ∧ (m ≤ 40) ∧ (zv_I g r 1 = m) ∧ (∀ k : Nat, k < m → zv_I g (r + 1) k = wd k)
theorem zt_wd_l7 {r : Nat} {m : Nat} {wd : Nat → Int} {g : zv_H} (t : zt_wd r m wd g) : zv_lay r = (1, 7) := t.1
theorem zt_wd_la {r : Nat} {m : Nat} {wd : Nat → Int} {g : zv_H} (t : zt_wd r m wd g) : zv_lay (r + 1) = (2, 40) := t.2.1
theorem zt_wd_m12 {r : Nat} {m : Nat} {wd : Nat → Int} {g : zv_H} (t : zt_wd r m wd g) : m ≤ 40 := t.2.2.1
theorem zt_wd_sz {r : Nat} {m : Nat} {wd : Nat → Int} {g : zv_H} (t : zt_wd r m wd g) : zv_I g r 1 = m := t.2.2.2.1
theorem zt_wd_lt {r : Nat} {m : Nat} {wd : Nat → Int} {g : zv_H} (t : zt_wd r m wd g) : ∀ k : Nat, k < m → zv_I g (r + 1) k = wd k := t.2.2.2.2
theorem zt_C7_at {d : Nat} {r m : Nat} {wd : Nat → Int} {g : zv_H} (gL : zt_L g) (w : zt_wd r m wd g) {k : Nat} (hk : k < m) : C7_at (d + 1) r (k : Int) g = some (wd k, g) := by
  have l7 := zt_wd_l7 w
  have la := zt_wd_la w
  have m12 := zt_wd_m12 w
  refine lC7_at (zl_ob gL l7) ?_
  rw [qE7_at, if_neg (by omega), zm_e (zl_gI gL l7 1), zt_wd_sz w, if_pos (by omega), zm_e (zl_gF gL l7 0 1), zm_e (zl_al gL la), if_pos (by omega), zm_e (zl_gF gL l7 0 1), zm_e (zl_aI gL la (by omega) (by omega)), show ((k : Int)).toNat = k by omega, zt_wd_lt w k hk]
theorem zt_C5_addId {d : Nat} {g : zv_H} {S : Nat} (gL : zt_L g) (lS : zv_lay S = (1, 5)) {n : Nat} (hn : zv_I g S 12 = n) (h120 : n < 120) (v : Int) : C5_addId (d + 1) S v g = some (zv_sI (zv_sI g (S + 2) n v) S 12 ((n : Int) + 1)) := by
  have l2 := (zc_l5 lS).2
  have ne : S ≠ S + 2 := by omega
  refine lC5_addId (zl_ob gL lS) ?_
  rw [qE5_addId, zm_e (zl_gI gL lS 12), hn, if_neg (by omega), zm_e (zl_gI gL lS 12), hn, zm_e (zl_gF gL lS 2 2), zm_e (zl_al gL l2), if_pos (by omega), zm_e (zl_gF gL lS 2 2), zm_e (zl_gI gL lS 12), hn, zm_e (zl_wI gL l2 (by omega) (by omega) _), show ((n : Int)).toNat = n by omega, zm_e (zl_gI (g := zv_sI g (S + 2) n v) gL lS 12), zy_In _ _ (fun q => ne q.1), hn, zm_w (by omega), zm_e (zl_pI (g := zv_sI g (S + 2) n v) gL lS 12 _)]
theorem zt_C0_setGlyph {d : Nat} {a : Nat} {g : zv_H} (gL : zt_L g) (ha : zv_lay a = (1, 0)) {i : Int} (hi : 0 ≤ i ∧ i < 604) (v : Int) : C0_setGlyph (d + 1) a i v g = some (zv_sI g (a + 5) i.toNat v) := by
  have l5 : zv_lay (a + 5) = (2, 604) := by cases zc_lh ha with
    | inl e => rw [e]; rfl
    | inr e => rw [e]; rfl
  refine lC0_setGlyph (zl_ob gL ha) ?_
  rw [qE0_setGlyph, if_neg (by omega), if_pos hi.2, zm_e (zl_gF gL ha 2 5), zm_e (zl_wI gL l5 hi.1 (by omega) _)]
/-- who put a letter in, as a bit -/
def zt_bo (p : Int) : Int64 := if p = 0 then Int64.ofNat 0 else zt_bt p.toNat
theorem zt_C0_baseOf {d : Nat} {g : zv_H} {p : Int × Int} (hp : zt_ok p) : C0_baseOf (d + 2) (zt_id p) g = some (zt_bo p.1, g) := by
  refine lC0_baseOf ?_
  have := zt_id_r hp
  rw [qE0_baseOf, if_neg (by omega), zm_e (zt_C4_putter hp)]
  dsimp only
  unfold zt_bo
  by_cases c : p.1 = 0
  · rw [if_pos c, if_pos c]
  · have p0 : 0 ≤ p.1 := by rcases hp with q | q <;> omega
    rw [if_neg c, zm_e (zt_C4_putter hp), if_neg c]
    dsimp only
    unfold zt_bt
    rw [show ((p.1.toNat : Nat) : Int) = p.1 by omega]
theorem zt_C0_baseOf1 {d : Nat} {g : zv_H} : C0_baseOf (d + 2) (-1) g = some (Int64.ofNat 0, g) := by
  refine lC0_baseOf ?_
  rw [qE0_baseOf, if_pos rfl]
/-- while letters come: D so far, glyphs G -/
def zt_ad (a : Nat) (g0 : zv_H) (S : Nat) (D : List (Int × Int)) (G : Nat → Int) (g : zv_H) : Prop := (g.1 = g0.1) ∧ (g.2.2 = g0.2.2) ∧ (∀ r k, ¬ (r = S ∧ k = 12) → r ≠ S + 2 → r ≠ a + 5 → zv_I g r k = zv_I g0 r k) ∧ (zv_I g S 12 = D.length) ∧ (∀ (k : Nat) (x : Int × Int), D[k]? = some x → zv_I g (S + 2) k = zt_id x) ∧ (∀ k, zv_I g (a + 5) k = G k)
theorem zt_ad_f1 {a : Nat} {g0 : zv_H} {S : Nat} {D : List (Int × Int)} {G : Nat → Int} {g : zv_H} (t : zt_ad a g0 S D G g) : g.1 = g0.1 := t.1
theorem zt_ad_f2 {a : Nat} {g0 : zv_H} {S : Nat} {D : List (Int × Int)} {G : Nat → Int} {g : zv_H} (t : zt_ad a g0 S D G g) : g.2.2 = g0.2.2 := t.2.1
theorem zt_ad_i {a : Nat} {g0 : zv_H} {S : Nat} {D : List (Int × Int)} {G : Nat → Int} {g : zv_H} (t : zt_ad a g0 S D G g) : ∀ r k, ¬ (r = S ∧ k = 12) → r ≠ S + 2 → r ≠ a + 5 → zv_I g r k = zv_I g0 r k := t.2.2.1
theorem zt_ad_n {a : Nat} {g0 : zv_H} {S : Nat} {D : List (Int × Int)} {G : Nat → Int} {g : zv_H} (t : zt_ad a g0 S D G g) : zv_I g S 12 = D.length := t.2.2.2.1
theorem zt_ad_d {a : Nat} {g0 : zv_H} {S : Nat} {D : List (Int × Int)} {G : Nat → Int} {g : zv_H} (t : zt_ad a g0 S D G g) : ∀ (k : Nat) (x : Int × Int), D[k]? = some x → zv_I g (S + 2) k = zt_id x := t.2.2.2.2.1
theorem zt_ad_g {a : Nat} {g0 : zv_H} {S : Nat} {D : List (Int × Int)} {G : Nat → Int} {g : zv_H} (t : zt_ad a g0 S D G g) : ∀ k, zv_I g (a + 5) k = G k := t.2.2.2.2.2
theorem zt_ad_L {a : Nat} {g0 : zv_H} {S : Nat} {D : List (Int × Int)} {G : Nat → Int} {g : zv_H} (A : zt_ad a g0 S D G g) (gL : zt_L g0) : zt_L g := by
  have f2 := zt_ad_f2 A
  refine ⟨?_, fun r k x y => ?_, fun b i x y => ?_⟩
  · show g.1.1 = 372
    rw [zt_ad_f1 A]; exact gL.1
  · show g.2.2.2.1 r k = _
    rw [f2]; exact gL.2.1 r k x y
  · show g.2.2.2.1 (b + 4) i = _
    rw [f2]; exact gL.2.2 b i x y
theorem zt_ad_a {a : Nat} {g0 : zv_H} {S : Nat} {D : List (Int × Int)} {G : Nat → Int} {g : zv_H} (A : zt_ad a g0 S D G g) (n5 : S + 2 ≠ a + 5) (n6 : S ≠ a + 5) (p : Int × Int) : zt_ad a g0 S (D ++ [p]) G (zv_sI (zv_sI g (S + 2) D.length (zt_id p)) S 12 ((D.length : Int) + 1)) := by
  have f1 := zt_ad_f1 A
  have f2 := zt_ad_f2 A
  refine ⟨f1, f2, fun r k c1 c2 c3 => ?_, ?_, fun k x hx => ?_, fun k => ?_⟩
  · rw [zy_In _ _ c1, zy_In _ _ (fun q => c2 q.1)]
    exact zt_ad_i A r k c1 c2 c3
  · rw [zy_I, List.length_append]
    rfl
  · rw [zy_In _ _ (by omega)]
    by_cases ck : k < D.length
    · rw [List.getElem?_append_left ck] at hx
      rw [zy_In _ _ (by omega)]
      exact zt_ad_d A k x hx
    · rw [List.getElem?_append_right (by omega)] at hx
      have h9 : k - D.length < 1 := zm_lt_of_get hx
      have hk : k = D.length := by omega
      rw [hk, Nat.sub_self] at hx
      rw [hk, zy_I, ← Option.some.inj hx]
  · rw [zy_In _ _ (fun q => n6 q.1.symm), zy_In _ _ (fun q => n5 q.1.symm)]
    exact zt_ad_g A k
/-- the document that is copied -/
def zt_src (P : Nat) (E : List (Int × Int)) (g : zv_H) : Prop := (zv_lay P = (1, 5)) ∧ (zv_I g P 12 = E.length) ∧ (E.length ≤ 120) ∧ (∀ (k : Nat) (x : Int × Int), E[k]? = some x → zv_I g (P + 2) k = zt_id x)
theorem zt_src_lP {P : Nat} {E : List (Int × Int)} {g : zv_H} (t : zt_src P E g) : zv_lay P = (1, 5) := t.1
theorem zt_src_n {P : Nat} {E : List (Int × Int)} {g : zv_H} (t : zt_src P E g) : zv_I g P 12 = E.length := t.2.1
theorem zt_src_n120 {P : Nat} {E : List (Int × Int)} {g : zv_H} (t : zt_src P E g) : E.length ≤ 120 := t.2.2.1
theorem zt_src_d {P : Nat} {E : List (Int × Int)} {g : zv_H} (t : zt_src P E g) : ∀ (k : Nat) (x : Int × Int), E[k]? = some x → zv_I g (P + 2) k = zt_id x := t.2.2.2
theorem zt_src_at {d : Nat} {P : Nat} {E : List (Int × Int)} {g : zv_H} (gL : zt_L g) (s : zt_src P E g) {k : Nat} {x : Int × Int} (hx : E[k]? = some x) : C5_idAt (d + 1) P (k : Int) g = some (zt_id x, g) := by
  have hk := zm_lt_of_get hx
  have n := zt_src_n s
  have n120 := zt_src_n120 s
  rw [zt_C5_idAt gL (zt_src_lP s) (by omega), n, if_pos (by omega), show ((k : Int)).toNat = k by omega, zt_src_d s k x hx]
theorem zt_src_ad {a : Nat} {g0 : zv_H} {S : Nat} {D : List (Int × Int)} {G : Nat → Int} {g : zv_H} (A : zt_ad a g0 S D G g) {P : Nat} {E : List (Int × Int)} (s : zt_src P E g0) (nP : P ≠ S) (n5 : P ≠ a + 5) (n2 : P + 2 ≠ S) (n3 : P + 2 ≠ a + 5) (n4 : P ≠ S + 2) : zt_src P E g := by
  refine ⟨zt_src_lP s, ?_, zt_src_n120 s, fun k x hx => ?_⟩
  · rw [zt_ad_i A P 12 (fun q => nP q.1) n4 n5]; exact zt_src_n s
  · rw [zt_ad_i A (P + 2) k (fun q => n2 q.1) (by omega) n3]; exact zt_src_d s k x hx
end
/-! A17.pl -/
section
/-! ===== the tie: the three ways through a put's letters ===== -/
theorem zt_take_s {α : Type} {E : List α} {i : Nat} {x : α} (hx : E[i]? = some x) : E.take (i + 1) = E.take i ++ [x] := by
  rw [List.take_add_one, hx]
  rfl
/-- where the cells lie apart -/
def zt_ap (a : Nat) (S : Nat) (P : Nat) : Prop := (zv_lay a = (1, 0)) ∧ (zv_lay S = (1, 5)) ∧ (S + 2 ≠ a + 5) ∧ (S ≠ a + 5) ∧ (P ≠ S) ∧ (P ≠ a + 5) ∧ (P + 2 ≠ S) ∧ (P + 2 ≠ a + 5) ∧ (P ≠ S + 2)
theorem zt_ap_la {a : Nat} {S : Nat} {P : Nat} (t : zt_ap a S P) : zv_lay a = (1, 0) := t.1
theorem zt_ap_lS {a : Nat} {S : Nat} {P : Nat} (t : zt_ap a S P) : zv_lay S = (1, 5) := t.2.1
theorem zt_ap_n5 {a : Nat} {S : Nat} {P : Nat} (t : zt_ap a S P) : S + 2 ≠ a + 5 := t.2.2.1
theorem zt_ap_n6 {a : Nat} {S : Nat} {P : Nat} (t : zt_ap a S P) : S ≠ a + 5 := t.2.2.2.1
theorem zt_ap_pS {a : Nat} {S : Nat} {P : Nat} (t : zt_ap a S P) : P ≠ S := t.2.2.2.2.1
theorem zt_ap_p5 {a : Nat} {S : Nat} {P : Nat} (t : zt_ap a S P) : P ≠ a + 5 := t.2.2.2.2.2.1
theorem zt_ap_p2 {a : Nat} {S : Nat} {P : Nat} (t : zt_ap a S P) : P + 2 ≠ S := t.2.2.2.2.2.2.1
theorem zt_ap_p3 {a : Nat} {S : Nat} {P : Nat} (t : zt_ap a S P) : P + 2 ≠ a + 5 := t.2.2.2.2.2.2.2.1
theorem zt_ap_p4 {a : Nat} {S : Nat} {P : Nat} (t : zt_ap a S P) : P ≠ S + 2 := t.2.2.2.2.2.2.2.2
theorem zt_ap_src {a : Nat} {g0 : zv_H} {S : Nat} {D : List (Int × Int)} {G : Nat → Int} {g : zv_H} {P : Nat} {E : List (Int × Int)} (ap : zt_ap a S P) (s : zt_src P E g0) (A : zt_ad a g0 S D G g) : zt_src P E g := zt_src_ad A s (zt_ap_pS ap) (zt_ap_p5 ap) (zt_ap_p2 ap) (zt_ap_p3 ap) (zt_ap_p4 ap)
theorem zt_put109 {d : Nat} {a : Nat} {g0 : zv_H} {S P r : Nat} {E : List (Int × Int)} {G : Nat → Int} {pl : Nat} (gL : zt_L g0) (ap : zt_ap a S P) (s : zt_src P E g0) (hpl : pl ≤ E.length) (h1 : E.length < 120 ∨ pl < 120) {X : Option zv_V × zv_H → Prop} (fin : ∀ g, zt_ad a g0 S (E.take pl) G g → zm_R (L0_putWord_135 (d + 1) a (pl : Int) r P S 0 g) X) : ∀ (n i : Nat) (g : zv_H), i + n = pl → zt_ad a g0 S (E.take i) G g → zm_R (L0_putWord_109 (d + 1) a (pl : Int) r P S (i : Int) g) X := by
  intro n
  induction n with
  | zero =>
    intro i g hi A
    have e : i = pl := by omega
    subst e
    rw [qL0_putWord_109, if_neg (by omega)]
    exact fin g A
  | succ n ih =>
    intro i g hi A
    have L1 := zt_ad_L A gL
    obtain ⟨x, hx⟩ : ∃ x, E[i]? = some x := ⟨_, List.getElem?_eq_getElem (by omega)⟩
    have el : (E.take i).length = i := by rw [List.length_take]; omega
    have n120 := zt_src_n120 s
    rw [qL0_putWord_109, if_pos (by omega), zm_e (zt_src_at L1 (zt_ap_src ap s A) hx)]
    dsimp only
    rw [zm_e (zt_C5_addId L1 (zt_ap_lS ap) (zt_ad_n A) (by omega) _), zm_w (by omega), show (i : Int) + 1 = ((i + 1 : Nat) : Int) by omega]
    refine ih (i + 1) _ (by omega) ?_
    rw [zt_take_s hx]
    exact zt_ad_a A (zt_ap_n5 ap) (zt_ap_n6 ap) x
/-- the glyphs of a word's letters -/
def zt_gy (G : Nat → Int) (s : Int) (wd : Nat → Int) : Nat → Nat → Int
  | 0 => G
  | k + 1 => zm_u (zt_gy G s wd k) (zt_id (s, (k : Int))).toNat (wd k)
theorem zt_ad_G {a : Nat} {g0 : zv_H} {S : Nat} {D : List (Int × Int)} {G : Nat → Int} {g : zv_H} (A : zt_ad a g0 S D G g) (n5 : S + 2 ≠ a + 5) (n6 : S ≠ a + 5) (i : Nat) (v : Int) : zt_ad a g0 S D (zm_u G i v) (zv_sI g (a + 5) i v) := by
  have f1 := zt_ad_f1 A
  have f2 := zt_ad_f2 A
  refine ⟨f1, f2, fun r k c1 c2 c3 => ?_, ?_, fun k x hx => ?_, fun k => ?_⟩
  · rw [zy_In _ _ (fun q => c3 q.1)]
    exact zt_ad_i A r k c1 c2 c3
  · rw [zy_In _ _ (fun q => n6 q.1)]
    exact zt_ad_n A
  · rw [zy_In _ _ (fun q => n5 q.1)]
    exact zt_ad_d A k x hx
  · unfold zm_u
    by_cases e : k = i
    · rw [if_pos e, e, zy_I]
    · rw [if_neg e, zy_In _ _ (fun q => e q.2)]
      exact zt_ad_g A k
theorem zt_put135 {d : Nat} {a : Nat} {g0 : zv_H} {S P r : Nat} {s : Int} {D : List (Int × Int)} {G : Nat → Int} {m : Nat} {wd : Nat → Int} (pl : Int) (gL : zt_L g0) (ap : zt_ap a S P) (hs : 1 ≤ s ∧ s ≤ 47) (h0 : zv_I g0 S 0 = s) (w : zt_wd r m wd g0) (hm : m ≤ 12) (nr : r ≠ S ∧ r ≠ S + 2 ∧ r ≠ a + 5 ∧ r + 1 ≠ S ∧ r + 1 ≠ a + 5) (hD : D.length + m ≤ 120) {X : Option zv_V × zv_H → Prop} (fin : ∀ g, zt_ad a g0 S (D ++ zm_rs s m) (zt_gy G s wd m) g → zm_R (L0_putWord_184 (d + 1) a P S pl g) X) : ∀ (n k : Nat) (g : zv_H), k + n = m → zt_ad a g0 S (D ++ (zm_rs s m).take k) (zt_gy G s wd k) g → zm_R (L0_putWord_135 (d + 1) a pl r P S (k : Int) g) X := by
  have wk : ∀ (D : List (Int × Int)) (G : Nat → Int) (g : zv_H), zt_ad a g0 S D G g → zt_wd r m wd g := fun D G g A => by
    refine ⟨zt_wd_l7 w, zt_wd_la w, zt_wd_m12 w, ?_, fun k hk => ?_⟩
    · rw [zt_ad_i A r 1 (fun q => nr.1 q.1) nr.2.1 nr.2.2.1]; exact zt_wd_sz w
    · rw [zt_ad_i A (r + 1) k (fun q => nr.2.2.2.1 q.1) (fun q => nr.1 (by
        have l1 := zt_wd_la w
        have l2 := (zc_l5 (zt_ap_lS ap)).2
        rw [q, l2] at l1
        cases l1)) nr.2.2.2.2]
      exact zt_wd_lt w k hk
  intro n
  induction n with
  | zero =>
    intro k g hk A
    have e : k = m := by omega
    subst e
    have L1 := zt_ad_L A gL
    have et : (zm_rs s k).take k = zm_rs s k := List.take_of_length_le (by rw [zm_rs_len]; omega)
    rw [et] at A
    rw [qL0_putWord_135, zm_e (zl_gI L1 (zt_wd_l7 w) 1), zt_wd_sz (wk _ _ _ A), if_neg (by omega)]
    exact fin g A
  | succ n ih =>
    intro k g hk A
    have L1 := zt_ad_L A gL
    have w1 := wk _ _ _ A
    have okp : zt_ok (s, (k : Int)) := Or.inr ⟨hs, by dsimp only; omega, by dsimp only; omega⟩
    have idr := zt_id_r okp
    have el : (D ++ (zm_rs s m).take k).length = D.length + k := by rw [List.length_append, List.length_take, zm_rs_len]; omega
    have n0 : zv_I g S 0 = s := by
      rw [zt_ad_i A S 0 (fun q => absurd q.2 (by decide)) (by omega) (zt_ap_n6 ap)]
      exact h0
    rw [qL0_putWord_135, zm_e (zl_gI L1 (zt_wd_l7 w) 1), zt_wd_sz w1, if_pos (by omega), zm_e (zl_gI L1 (zt_ap_lS ap) 0), n0, zm_e (zt_C4_id ⟨by omega, hs.2⟩ ⟨by omega, by omega⟩)]
    dsimp only
    rw [zm_e (zt_C7_at L1 w1 (by omega))]
    dsimp only
    rw [zm_e (zt_C0_setGlyph L1 (zt_ap_la ap) idr _)]
    have A1 := zt_ad_G A (zt_ap_n5 ap) (zt_ap_n6 ap) (zt_id (s, (k : Int))).toNat (wd k)
    have L2 := zt_ad_L A1 gL
    rw [zm_e (zt_C5_addId L2 (zt_ap_lS ap) (zt_ad_n A1) (by omega) _), zm_w (by omega), show (k : Int) + 1 = ((k + 1 : Nat) : Int) by omega]
    refine ih (k + 1) _ (by omega) ?_
    have et : D ++ (zm_rs s m).take (k + 1) = (D ++ (zm_rs s m).take k) ++ [(s, (k : Int))] := by
      rw [zt_take_s (zm_rs_get s m (by omega)), List.append_assoc]
    rw [et]
    exact zt_ad_a A1 (zt_ap_n5 ap) (zt_ap_n6 ap) (s, (k : Int))
theorem zt_put184 {d : Nat} {a : Nat} {g0 : zv_H} {S P : Nat} {D E : List (Int × Int)} {G : Nat → Int} {pl : Nat} (gL : zt_L g0) (ap : zt_ap a S P) (s : zt_src P E g0) (hpl : pl ≤ E.length) (hD : D.length + (E.length - pl) ≤ 120) {X : Option zv_V × zv_H → Prop} (fin : ∀ g, zt_ad a g0 S (D ++ E.drop pl) G g → zm_R ((C0_joinGroup (d + 1) a S P g).bind fun g4 => (zv_gI g4 S 5 0).bind fun v5 => (some (some (zv_i v5), g4) : zv_O)) X) : ∀ (n i : Nat) (g : zv_H), i + n = E.length → pl ≤ i → zt_ad a g0 S (D ++ (E.drop pl).take (i - pl)) G g → zm_R (L0_putWord_184 (d + 1) a P S (i : Int) g) X := by
  intro n
  induction n with
  | zero =>
    intro i g hi hp A
    have L1 := zt_ad_L A gL
    have s1 := zt_ap_src ap s A
    have et : (E.drop pl).take (i - pl) = E.drop pl := List.take_of_length_le (by rw [List.length_drop]; omega)
    rw [et] at A
    rw [qL0_putWord_184, zm_e (zl_gI L1 (zt_src_lP s) 12), zt_src_n s1, if_neg (by omega)]
    exact fin g A
  | succ n ih =>
    intro i g hi hp A
    have L1 := zt_ad_L A gL
    have s1 := zt_ap_src ap s A
    obtain ⟨x, hx⟩ : ∃ x, E[i]? = some x := ⟨_, List.getElem?_eq_getElem (by omega)⟩
    have el : (D ++ (E.drop pl).take (i - pl)).length = D.length + (i - pl) := by rw [List.length_append, List.length_take, List.length_drop]; omega
    rw [qL0_putWord_184, zm_e (zl_gI L1 (zt_src_lP s) 12), zt_src_n s1, if_pos (by omega), zm_e (zt_src_at L1 s1 hx)]
    dsimp only
    rw [zm_e (zt_C5_addId L1 (zt_ap_lS ap) (zt_ad_n A) (by omega) _), zm_w (by have := zt_src_n120 s; omega), show (i : Int) + 1 = ((i + 1 : Nat) : Int) by omega]
    refine ih (i + 1) _ (by omega) (by omega) ?_
    have hx2 : (E.drop pl)[i - pl]? = some x := by
      rw [List.getElem?_drop, show pl + (i - pl) = i by omega]
      exact hx
    rw [show i + 1 - pl = (i - pl) + 1 by omega, zt_take_s hx2, ← List.append_assoc]
    exact zt_ad_a A (zt_ap_n5 ap) (zt_ap_n6 ap) x
end
/-! A18.put -/
section
/-! ===== the tie: the class's put ===== -/
theorem zt_sep {a i j x y : Nat} (h : i ≠ j) (hx : x ≤ 2) (hy : y ≤ 2) : zc_stt a i + x ≠ zc_stt a j + y := by
  unfold zc_stt
  split <;> split <;> omega
theorem zt_sepH {a i n x : Nat} (hn : n ≤ 27) (hx : x ≤ 2) (h1 : n ≠ 1) (h2 : n ≠ 2) (h3 : n ≠ 3) : a + n ≠ zc_stt a i + x := by
  unfold zc_stt
  split <;> omega
/-- what merging keeps for itself is as it was -/
def zt_oh (a : Nat) (g g' : zv_H) : Prop := ∀ n k : Nat, ((n = 0 ∧ k = 13) ∨ n = 6 ∨ n = 20 ∨ n = 21 ∨ (n = 17 ∧ k = 5)) → zv_I g' (a + n) k = zv_I g (a + n) k
/-- half a with one new State s: all but its letters -/
def zt_nn (a : Nat) (c : Nat → Int) (h : zv_H) (s : Int) (x : Int) (y : Int) (z : Int) (fi : Int) (g : zv_H) : Prop := (zt_L g) ∧ (zt_k a h g) ∧ (∀ i : Nat, i < 48 → zv_I g (zc_stt a i) 3 = if i = s.toNat then 1 else zv_I h (zc_stt a i) 3) ∧ (∀ t, zm_st c t → ∀ k, k ≠ 11 → zv_I g (zt_r a t) k = zv_I h (zt_r a t) k) ∧ (∀ t, zm_st c t → ∀ k, zv_I g (zt_r a t + 1) k = zv_I h (zt_r a t + 1) k) ∧ (∀ t, zm_st c t → ∀ k, zv_I g (zt_r a t + 2) k = zv_I h (zt_r a t + 2) k) ∧ (∀ t, zm_st c t → ∀ k, zv_J g (zt_r a t) k = zv_J h (zt_r a t) k) ∧ (∀ t, zm_st c t → ∀ k, zv_R g (zt_r a t) k = zv_R h (zt_r a t) k) ∧ (zv_I g (zt_r a s) 6 = x) ∧ (zv_I g (zt_r a s) 7 = c 1) ∧ (zv_I g (zt_r a s) 8 = y) ∧ (zv_I g (zt_r a s) 9 = z) ∧ (zv_I g (zt_r a s) 13 = zv_w (zv_I h (a + 17) 4 + 1)) ∧ (zv_R g (zt_r a s) 4 = zt_r a (c 0)) ∧ (zv_R g (zt_r a s) 5 = zt_r a fi) ∧ (zv_R g a 10 = zt_r a s) ∧ (zv_I g a 11 = c 1) ∧ (zv_I g a 12 = zv_w (zm_nst c + 1)) ∧ (zv_I g (a + 17) 4 = zv_w (zv_I h (a + 17) 4 + 1)) ∧ (∀ k, zv_I g (a + 18) k = if k = (zv_I h (a + 17) 4 % 40).toNat then s else zv_I h (a + 18) k) ∧ (∀ k, zv_I g (a + 19) k = if k = (zv_I h (a + 17) 4 % 40).toNat then c 1 else zv_I h (a + 19) k) ∧ (∀ r k, a + 22 ≤ r → r ≤ a + 24 → zv_I g r k = zv_I h r k) ∧ (∀ r k, a + 14 ≤ r → r ≤ a + 16 → zv_I g r k = zv_I h r k) ∧ (zt_oh a h g)
theorem zt_nn_L {a : Nat} {c : Nat → Int} {h : zv_H} {s : Int} {x : Int} {y : Int} {z : Int} {fi : Int} {g : zv_H} (t : zt_nn a c h s x y z fi g) : zt_L g := t.1
theorem zt_nn_k {a : Nat} {c : Nat → Int} {h : zv_H} {s : Int} {x : Int} {y : Int} {z : Int} {fi : Int} {g : zv_H} (t : zt_nn a c h s x y z fi g) : zt_k a h g := t.2.1
theorem zt_nn_lv {a : Nat} {c : Nat → Int} {h : zv_H} {s : Int} {x : Int} {y : Int} {z : Int} {fi : Int} {g : zv_H} (t : zt_nn a c h s x y z fi g) : ∀ i : Nat, i < 48 → zv_I g (zc_stt a i) 3 = if i = s.toNat then 1 else zv_I h (zc_stt a i) 3 := t.2.2.1
theorem zt_nn_oI {a : Nat} {c : Nat → Int} {h : zv_H} {s : Int} {x : Int} {y : Int} {z : Int} {fi : Int} {g : zv_H} (t : zt_nn a c h s x y z fi g) : ∀ t, zm_st c t → ∀ k, k ≠ 11 → zv_I g (zt_r a t) k = zv_I h (zt_r a t) k := t.2.2.2.1
theorem zt_nn_o1 {a : Nat} {c : Nat → Int} {h : zv_H} {s : Int} {x : Int} {y : Int} {z : Int} {fi : Int} {g : zv_H} (t : zt_nn a c h s x y z fi g) : ∀ t, zm_st c t → ∀ k, zv_I g (zt_r a t + 1) k = zv_I h (zt_r a t + 1) k := t.2.2.2.2.1
theorem zt_nn_o2 {a : Nat} {c : Nat → Int} {h : zv_H} {s : Int} {x : Int} {y : Int} {z : Int} {fi : Int} {g : zv_H} (t : zt_nn a c h s x y z fi g) : ∀ t, zm_st c t → ∀ k, zv_I g (zt_r a t + 2) k = zv_I h (zt_r a t + 2) k := t.2.2.2.2.2.1
theorem zt_nn_oJ {a : Nat} {c : Nat → Int} {h : zv_H} {s : Int} {x : Int} {y : Int} {z : Int} {fi : Int} {g : zv_H} (t : zt_nn a c h s x y z fi g) : ∀ t, zm_st c t → ∀ k, zv_J g (zt_r a t) k = zv_J h (zt_r a t) k := t.2.2.2.2.2.2.1
theorem zt_nn_oR {a : Nat} {c : Nat → Int} {h : zv_H} {s : Int} {x : Int} {y : Int} {z : Int} {fi : Int} {g : zv_H} (t : zt_nn a c h s x y z fi g) : ∀ t, zm_st c t → ∀ k, zv_R g (zt_r a t) k = zv_R h (zt_r a t) k := t.2.2.2.2.2.2.2.1
theorem zt_nn_s6 {a : Nat} {c : Nat → Int} {h : zv_H} {s : Int} {x : Int} {y : Int} {z : Int} {fi : Int} {g : zv_H} (t : zt_nn a c h s x y z fi g) : zv_I g (zt_r a s) 6 = x := t.2.2.2.2.2.2.2.2.1
theorem zt_nn_s7 {a : Nat} {c : Nat → Int} {h : zv_H} {s : Int} {x : Int} {y : Int} {z : Int} {fi : Int} {g : zv_H} (t : zt_nn a c h s x y z fi g) : zv_I g (zt_r a s) 7 = c 1 := t.2.2.2.2.2.2.2.2.2.1
theorem zt_nn_s8 {a : Nat} {c : Nat → Int} {h : zv_H} {s : Int} {x : Int} {y : Int} {z : Int} {fi : Int} {g : zv_H} (t : zt_nn a c h s x y z fi g) : zv_I g (zt_r a s) 8 = y := t.2.2.2.2.2.2.2.2.2.2.1
theorem zt_nn_s9 {a : Nat} {c : Nat → Int} {h : zv_H} {s : Int} {x : Int} {y : Int} {z : Int} {fi : Int} {g : zv_H} (t : zt_nn a c h s x y z fi g) : zv_I g (zt_r a s) 9 = z := t.2.2.2.2.2.2.2.2.2.2.2.1
theorem zt_nn_sd {a : Nat} {c : Nat → Int} {h : zv_H} {s : Int} {x : Int} {y : Int} {z : Int} {fi : Int} {g : zv_H} (t : zt_nn a c h s x y z fi g) : zv_I g (zt_r a s) 13 = zv_w (zv_I h (a + 17) 4 + 1) := t.2.2.2.2.2.2.2.2.2.2.2.2.1
theorem zt_nn_r4 {a : Nat} {c : Nat → Int} {h : zv_H} {s : Int} {x : Int} {y : Int} {z : Int} {fi : Int} {g : zv_H} (t : zt_nn a c h s x y z fi g) : zv_R g (zt_r a s) 4 = zt_r a (c 0) := t.2.2.2.2.2.2.2.2.2.2.2.2.2.1
theorem zt_nn_r5 {a : Nat} {c : Nat → Int} {h : zv_H} {s : Int} {x : Int} {y : Int} {z : Int} {fi : Int} {g : zv_H} (t : zt_nn a c h s x y z fi g) : zv_R g (zt_r a s) 5 = zt_r a fi := t.2.2.2.2.2.2.2.2.2.2.2.2.2.2.1
theorem zt_nn_he {a : Nat} {c : Nat → Int} {h : zv_H} {s : Int} {x : Int} {y : Int} {z : Int} {fi : Int} {g : zv_H} (t : zt_nn a c h s x y z fi g) : zv_R g a 10 = zt_r a s := t.2.2.2.2.2.2.2.2.2.2.2.2.2.2.2.1
theorem zt_nn_nw {a : Nat} {c : Nat → Int} {h : zv_H} {s : Int} {x : Int} {y : Int} {z : Int} {fi : Int} {g : zv_H} (t : zt_nn a c h s x y z fi g) : zv_I g a 11 = c 1 := t.2.2.2.2.2.2.2.2.2.2.2.2.2.2.2.2.1
theorem zt_nn_ct {a : Nat} {c : Nat → Int} {h : zv_H} {s : Int} {x : Int} {y : Int} {z : Int} {fi : Int} {g : zv_H} (t : zt_nn a c h s x y z fi g) : zv_I g a 12 = zv_w (zm_nst c + 1) := t.2.2.2.2.2.2.2.2.2.2.2.2.2.2.2.2.2.1
theorem zt_nn_v4 {a : Nat} {c : Nat → Int} {h : zv_H} {s : Int} {x : Int} {y : Int} {z : Int} {fi : Int} {g : zv_H} (t : zt_nn a c h s x y z fi g) : zv_I g (a + 17) 4 = zv_w (zv_I h (a + 17) 4 + 1) := t.2.2.2.2.2.2.2.2.2.2.2.2.2.2.2.2.2.2.1
theorem zt_nn_vs {a : Nat} {c : Nat → Int} {h : zv_H} {s : Int} {x : Int} {y : Int} {z : Int} {fi : Int} {g : zv_H} (t : zt_nn a c h s x y z fi g) : ∀ k, zv_I g (a + 18) k = if k = (zv_I h (a + 17) 4 % 40).toNat then s else zv_I h (a + 18) k := t.2.2.2.2.2.2.2.2.2.2.2.2.2.2.2.2.2.2.2.1
theorem zt_nn_vt {a : Nat} {c : Nat → Int} {h : zv_H} {s : Int} {x : Int} {y : Int} {z : Int} {fi : Int} {g : zv_H} (t : zt_nn a c h s x y z fi g) : ∀ k, zv_I g (a + 19) k = if k = (zv_I h (a + 17) 4 % 40).toNat then c 1 else zv_I h (a + 19) k := t.2.2.2.2.2.2.2.2.2.2.2.2.2.2.2.2.2.2.2.2.1
theorem zt_nn_jn {a : Nat} {c : Nat → Int} {h : zv_H} {s : Int} {x : Int} {y : Int} {z : Int} {fi : Int} {g : zv_H} (t : zt_nn a c h s x y z fi g) : ∀ r k, a + 22 ≤ r → r ≤ a + 24 → zv_I g r k = zv_I h r k := t.2.2.2.2.2.2.2.2.2.2.2.2.2.2.2.2.2.2.2.2.2.1
theorem zt_nn_nm {a : Nat} {c : Nat → Int} {h : zv_H} {s : Int} {x : Int} {y : Int} {z : Int} {fi : Int} {g : zv_H} (t : zt_nn a c h s x y z fi g) : ∀ r k, a + 14 ≤ r → r ≤ a + 16 → zv_I g r k = zv_I h r k := t.2.2.2.2.2.2.2.2.2.2.2.2.2.2.2.2.2.2.2.2.2.2.1
theorem zt_nn_oh {a : Nat} {c : Nat → Int} {h : zv_H} {s : Int} {x : Int} {y : Int} {z : Int} {fi : Int} {g : zv_H} (t : zt_nn a c h s x y z fi g) : zt_oh a h g := t.2.2.2.2.2.2.2.2.2.2.2.2.2.2.2.2.2.2.2.2.2.2.2
/-- behind which letter a put comes, and whose it is -/
def zt_an (E : List (Int × Int)) (pl : Nat) : Int := if pl = 0 then -1 else (match E[pl - 1]? with | none => -1 | some x => zt_id x)
def zt_ab (E : List (Int × Int)) (pl : Nat) : Int64 := if pl = 0 then Int64.ofNat 0 else (match E[pl - 1]? with | none => Int64.ofNat 0 | some x => zt_bo x.1)
/-- a put's own -/
def zt_pn (a : Nat) (c : Nat → Int) (h : zv_H) (s : Int) (E : List (Int × Int)) (pl : Nat) (m : Nat) (wd : Nat → Int) (g : zv_H) : Prop := (zv_I g (zt_r a s) 15 = zt_an E pl) ∧ (zv_J g (zt_r a s) 17 = zt_ab E pl) ∧ (zv_J g (zt_r a s) 16 = Int64.ofNat 0) ∧ (zv_I g (zt_r a s) 12 = ((E.take pl ++ zm_rs s m) ++ E.drop pl).length) ∧ (∀ (k : Nat) (x : Int × Int), ((E.take pl ++ zm_rs s m) ++ E.drop pl)[k]? = some x → zv_I g (zt_r a s + 2) k = zt_id x) ∧ (∀ k, zv_I g (a + 5) k = zt_gy (fun k => zv_I h (a + 5) k) s wd m k)
theorem zt_pn_an {a : Nat} {c : Nat → Int} {h : zv_H} {s : Int} {E : List (Int × Int)} {pl : Nat} {m : Nat} {wd : Nat → Int} {g : zv_H} (t : zt_pn a c h s E pl m wd g) : zv_I g (zt_r a s) 15 = zt_an E pl := t.1
theorem zt_pn_bs {a : Nat} {c : Nat → Int} {h : zv_H} {s : Int} {E : List (Int × Int)} {pl : Nat} {m : Nat} {wd : Nat → Int} {g : zv_H} (t : zt_pn a c h s E pl m wd g) : zv_J g (zt_r a s) 17 = zt_ab E pl := t.2.1
theorem zt_pn_nd {a : Nat} {c : Nat → Int} {h : zv_H} {s : Int} {E : List (Int × Int)} {pl : Nat} {m : Nat} {wd : Nat → Int} {g : zv_H} (t : zt_pn a c h s E pl m wd g) : zv_J g (zt_r a s) 16 = Int64.ofNat 0 := t.2.2.1
theorem zt_pn_ln {a : Nat} {c : Nat → Int} {h : zv_H} {s : Int} {E : List (Int × Int)} {pl : Nat} {m : Nat} {wd : Nat → Int} {g : zv_H} (t : zt_pn a c h s E pl m wd g) : zv_I g (zt_r a s) 12 = ((E.take pl ++ zm_rs s m) ++ E.drop pl).length := t.2.2.2.1
theorem zt_pn_dc {a : Nat} {c : Nat → Int} {h : zv_H} {s : Int} {E : List (Int × Int)} {pl : Nat} {m : Nat} {wd : Nat → Int} {g : zv_H} (t : zt_pn a c h s E pl m wd g) : ∀ (k : Nat) (x : Int × Int), ((E.take pl ++ zm_rs s m) ++ E.drop pl)[k]? = some x → zv_I g (zt_r a s + 2) k = zt_id x := t.2.2.2.2.1
theorem zt_pn_gl {a : Nat} {c : Nat → Int} {h : zv_H} {s : Int} {E : List (Int × Int)} {pl : Nat} {m : Nat} {wd : Nat → Int} {g : zv_H} (t : zt_pn a c h s E pl m wd g) : ∀ k, zv_I g (a + 5) k = zt_gy (fun k => zv_I h (a + 5) k) s wd m k := t.2.2.2.2.2
/-- nothing but half a's States, and what lies behind -/
theorem zt_nn_of {a : Nat} {c : Nat → Int} {h g0 g1 g : zv_H} {i : Nat} {s x y z : Int} {D : List (Int × Int)} {G : Nat → Int} (U : zt_U a c h) (fr : zt_free c s) (hi : i = s.toNat) (W : zt_gw a h g0 i x y z) {v15 : Int} {v17 : Int64} (A : zt_ad a (zv_sJ (zv_sI g0 (zc_stt a i) 15 v15) (zc_stt a i) 17 v17) (zc_stt a i) D G g1) (o : zt_o [a + 25] g1 g) : zt_nn a c h s x y z s g := by
  have la := zt_U_la U
  have h9 := zc_lh la
  have w := zt_U_W U
  have i48 : i < 48 := by have := fr.1; omega
  have ers : zt_r a s = zc_stt a i := by rw [zt_r_p fr.1.1, hi]
  have lS := (zc_stl la i48).1
  have l5 := zc_l5 lS
  have lP : zv_lay (zv_R h a 10) = (1, 5) := by
    rw [zt_U_he U]
    exact zt_r_l la w.2.1.1
  have hn : ∀ n, n ≠ 1 → n ≤ 27 → a + n ≠ zc_stt a i := fun n h1 h2 => zt_stt_ne la i48 ⟨h1, h2⟩
  have hp : ∀ n, n ≠ 1 → n ≤ 27 → a + n ≠ zv_R h a 10 := fun n h1 h2 q => zt_hn la ⟨h1, h2⟩ (by rw [q]; exact lP)
  -- all ints
  have I : ∀ r k, ¬ (r = zc_stt a i ∧ (k = 12 ∨ k = 15)) → r ≠ zc_stt a i + 2 → r ≠ a + 5 → r ≠ a + 25 → zv_I g r k = zv_I g0 r k := fun r k c1 c2 c3 c4 => by
    rw [zt_o_i o (zt_c1 c4), zt_ad_i A r k (fun q => c1 ⟨q.1, Or.inl q.2⟩) c2 c3]
    exact zy_In _ _ (fun q => c1 ⟨q.1, Or.inr q.2⟩)
  have f2 : g.2.2 = (zv_sJ (zv_sI g0 (zc_stt a i) 15 v15) (zc_stt a i) 17 v17).2.2 := o.2.1.trans (zt_ad_f2 A)
  have Jx : ∀ r k, ¬ (r = zc_stt a i ∧ k = 17) → zv_J g r k = zv_J g0 r k := fun r k c1 => by
    show g.2.2.1 r k = _
    rw [f2]
    exact zy_Jn _ _ c1
  have Rx : ∀ r k, zv_R g r k = zv_R g0 r k := fun r k => by
    show g.2.2.2.1 r k = _
    rw [f2]
    rfl
  have L00 := zt_gw_L W
  have L0 : zt_L (zv_sJ (zv_sI g0 (zc_stt a i) 15 v15) (zc_stt a i) 17 v17) := L00
  have Lg : zt_L g := zt_o_L o (zt_ad_L A L0)
  -- cells of an old State
  have ol : ∀ t, zm_st c t → zt_r a t ≠ zc_stt a i ∧ zv_lay (zt_r a t) = (1, 5) := fun t ht => ⟨fun q => by
    rw [← ers] at q
    have e := zt_r_inj la ht.1 fr.1 q
    exact fr.2.2 (by rw [← e]; exact ht.2), zt_r_l la ht.1⟩
  have ne : ∀ {r r' : Nat} {p p' : Nat × Nat}, zv_lay r = p → zv_lay r' = p' → p ≠ p' → r ≠ r' := fun e1 e2 hne q => hne (by rw [← e1, ← e2, q])
  have l5a : zv_lay (a + 5) = (2, 604) := by rcases h9 with e | e <;> rw [e] <;> rfl
  have l25 : zv_lay (a + 25) = (2, 6) := (zt_jn_l la).2.2.2
  have l18 := (zt_vis_l la).2.1
  have l19 := (zt_vis_l la).2.2.1
  have l17 := (zt_vis_l la).1
  have Sg : ∀ k, k ≠ 12 → k ≠ 15 → zv_I g (zc_stt a i) k = zv_I g0 (zc_stt a i) k := fun k k1 k2 => I _ k (fun q => by rcases q.2 with e | e; exact k1 e; exact k2 e) (by omega) (ne lS l5a (by decide)) (ne lS l25 (by decide))
  have inA : ∀ n, n ≤ 27 → zt_in a (a + n) := fun n hn => ⟨by omega, by omega, by unfold zc_hf; split <;> omega⟩
  have inS : ∀ j n, j < 48 → n ≤ 2 → zt_in a (zc_stt a j + n) := fun j n hj hn => by
    refine ⟨?_, ?_, ?_⟩
    · unfold zc_stt; split <;> omega
    · unfold zc_stt; split <;> omega
    · unfold zc_hf zc_stt
      split <;> split <;> omega
  have out : ∀ {r r' : Nat}, ¬ zt_in a r → zt_in a r' → r ≠ r' := fun h1 h2 e => h1 (by rw [e]; exact h2)
  have eP : zv_R h a 10 = zc_stt a (c 0).toNat := by rw [zt_U_he U, zt_r_p w.2.1.1.1]
  have c047 := w.2.1.1
  have inP : zt_in a (zv_R h a 10) := by
    rw [eP]
    exact inS _ 0 (by omega) (by decide)
  have nx5 : ∀ t, zm_st c t → ∀ n, n ≤ 27 → n ≠ 1 → zt_r a t ≠ a + n := fun t ht n hn h1 q => zt_hn la ⟨h1, hn⟩ (by rw [← q]; exact (ol t ht).2)
  refine ⟨Lg, ⟨?_, ?_, fun r k _ hr => ?_, fun r _ hr => ?_, fun r _ _ hr => ?_⟩, fun j hj => ?_, fun t ht k hk => ?_, fun t ht k => ?_, fun t ht k => ?_, fun t ht k => ?_, fun t ht k => ?_, ?_, ?_, ?_, ?_, ?_, ?_, ?_, ?_, ?_, ?_, ?_, fun k => ?_, fun k => ?_, fun r k r1 r2 => ?_, fun r k r1 r2 => ?_, fun n k hc => ?_⟩
  · have a1 := zt_ad_f1 A
    have a2 := zt_gw_f1 W
    exact (o.1.trans a1).trans a2
  · have : g.2.2.2.2 = g0.2.2.2.2 := by rw [f2]; rfl
    exact this.trans (zt_gw_f2 W)
  · rw [I r k (fun q => out hr (inS i 0 i48 (by decide)) q.1) (out hr (inS i 2 i48 (by decide))) (out hr (inA 5 (by decide))) (out hr (inA 25 (by decide)))]
    exact zt_gw_oI W r k (out hr (inS i 0 i48 (by decide))) (fun q => out hr inP q.1) (fun q => out hr (inA 0 (by decide)) q.1) (fun q => out hr (inA 17 (by decide)) q.1) (out hr (inA 18 (by decide))) (out hr (inA 19 (by decide)))
  · funext k
    exact (Jx r k (fun q => out hr (inS i 0 i48 (by decide)) q.1)).trans (zt_gw_oJ W r k (out hr (inS i 0 i48 (by decide))))
  · funext k
    exact (Rx r k).trans (zt_gw_oR W r k (out hr (inS i 0 i48 (by decide))) (fun q => out hr (inA 0 (by decide)) q.1))
  · have lj := (zc_stl la hj).1
    rw [I _ 3 (fun q => by omega) (ne lj l5.2 (by decide)) (ne lj l5a (by decide)) (ne lj l25 (by decide)), ← hi]
    by_cases e : j = i
    · rw [if_pos e, e]
      exact zt_gw_s3 W
    · rw [if_neg e]
      exact zt_gw_oI W _ 3 (fun q => e (zc_stinj la q)) (fun q => absurd q.2 (by decide)) (fun q => absurd q.2 (by decide)) (fun q => absurd q.2 (by decide)) (ne lj l18 (by decide)) (ne lj l19 (by decide))
  · obtain ⟨n1, n2⟩ := ol t ht
    rw [I _ k (fun q => n1 q.1) (ne n2 l5.2 (by decide)) (ne n2 l5a (by decide)) (ne n2 l25 (by decide))]
    exact zt_gw_oI W _ k n1 (fun q => hk q.2) (fun q => nx5 t ht 0 (by decide) (by decide) q.1) (fun q => nx5 t ht 17 (by decide) (by decide) q.1) (ne n2 l18 (by decide)) (ne n2 l19 (by decide))
  · obtain ⟨n1, n2⟩ := ol t ht
    have l1 := (zc_l5 n2).1
    rw [I _ k (fun q => ne l1 lS (by decide) q.1) (ne l1 l5.2 (by decide)) (ne l1 l5a (by decide)) (ne l1 l25 (by decide))]
    exact zt_gw_oI W _ k (ne l1 lS (by decide)) (fun q => ne l1 lP (by decide) q.1) (fun q => ne l1 la (by decide) q.1) (fun q => ne l1 l17 (by decide) q.1) (ne l1 l18 (by decide)) (ne l1 l19 (by decide))
  · obtain ⟨n1, n2⟩ := ol t ht
    have l2 := (zc_l5 n2).2
    rw [I _ k (fun q => ne l2 lS (by decide) q.1) (fun q => n1 (by omega)) (ne l2 l5a (by decide)) (ne l2 l25 (by decide))]
    exact zt_gw_oI W _ k (ne l2 lS (by decide)) (fun q => ne l2 lP (by decide) q.1) (fun q => ne l2 la (by decide) q.1) (fun q => ne l2 l17 (by decide) q.1) (ne l2 l18 (by decide)) (ne l2 l19 (by decide))
  · obtain ⟨n1, n2⟩ := ol t ht
    exact (Jx _ k (fun q => n1 q.1)).trans (zt_gw_oJ W _ k n1)
  · obtain ⟨n1, n2⟩ := ol t ht
    exact (Rx _ k).trans (zt_gw_oR W _ k n1 (fun q => nx5 t ht 0 (by decide) (by decide) q.1))
  · rw [ers, Sg 6 (by decide) (by decide)]; exact zt_gw_s6 W
  · rw [ers, Sg 7 (by decide) (by decide)]; exact (zt_gw_s7 W).trans (zt_U_nw U)
  · rw [ers, Sg 8 (by decide) (by decide)]; exact zt_gw_s8 W
  · rw [ers, Sg 9 (by decide) (by decide)]; exact zt_gw_s9 W
  · rw [ers, Sg 13 (by decide) (by decide)]; exact zt_gw_sd W
  · rw [ers, Rx]; exact (zt_gw_r4 W).trans (zt_U_he U)
  · rw [ers, Rx]; exact zt_gw_r5 W
  · rw [ers, Rx]; exact zt_gw_he W
  · rw [I a 11 (fun q => ne la lS (by decide) q.1) (ne la l5.2 (by decide)) (by omega) (by omega)]
    exact (zt_gw_oI W a 11 (hn 0 (by decide) (by decide)) (fun q => hp 0 (by decide) (by decide) q.1) (fun q => absurd q.2 (by decide)) (by omega) (by omega) (by omega)).trans (zt_U_nw U)
  · rw [I a 12 (fun q => ne la lS (by decide) q.1) (ne la l5.2 (by decide)) (by omega) (by omega)]
    exact (zt_gw_ct W).trans (by rw [zt_U_ct U])
  · rw [I (a + 17) 4 (fun q => ne l17 lS (by decide) q.1) (ne l17 l5.2 (by decide)) (by omega) (by omega)]
    exact zt_gw_v4 W
  · rw [I (a + 18) k (fun q => ne l18 lS (by decide) q.1) (ne l18 l5.2 (by decide)) (by omega) (by omega), zt_gw_vs W, hi, show ((s.toNat : Nat) : Int) = s by have := fr.1; omega]
  · rw [I (a + 19) k (fun q => ne l19 lS (by decide) q.1) (ne l19 l5.2 (by decide)) (by omega) (by omega), zt_gw_vt W, zt_U_nw U]
  · obtain ⟨n, rfl⟩ : ∃ n, r = a + n := ⟨r - a, by omega⟩
    rw [I _ k (fun q => hn n (by omega) (by omega) q.1) (fun q => by
      have e2 := l5.2
      rw [← q] at e2
      rcases h9 with z | z <;> subst z <;> have : n = 22 ∨ n = 23 ∨ n = 24 := by omega
      all_goals rcases this with u | u | u <;> subst u <;> exact absurd e2 (by decide)) (by omega) (by omega)]
    exact zt_gw_oI W _ k (hn n (by omega) (by omega)) (fun q => hp n (by omega) (by omega) q.1) (by omega) (by omega) (by omega) (by omega)
  · obtain ⟨n, rfl⟩ : ∃ n, r = a + n := ⟨r - a, by omega⟩
    rw [I _ k (fun q => hn n (by omega) (by omega) q.1) (fun q => by
      have e2 := l5.2
      rw [← q] at e2
      rcases h9 with z | z <;> subst z <;> have : n = 14 ∨ n = 15 ∨ n = 16 := by omega
      all_goals rcases this with u | u | u <;> subst u <;> exact absurd e2 (by decide)) (by omega) (by omega)]
    exact zt_gw_oI W _ k (hn n (by omega) (by omega)) (fun q => hp n (by omega) (by omega) q.1) (by omega) (by omega) (by omega) (by omega)
  · rw [I _ k (fun q => zt_sepH (x := 0) (by omega) (by decide) (by omega) (by omega) (by omega) q.1) (zt_sepH (by omega) (by decide) (by omega) (by omega) (by omega)) (by omega) (by omega)]
    exact zt_gw_oI W _ k (hn n (by omega) (by omega)) (fun q => hp n (by omega) (by omega) q.1) (by omega) (by omega) (by omega) (by omega)
end
/-! A19.put -/
section
/-! ===== the tie: the class's put, whole ===== -/
theorem zt_nn_join {a : Nat} {c : Nat → Int} {h g : zv_H} {s x y z f : Int} (U : zt_U a c h) (fr : zt_free c s) (N : zt_nn a c h s x y z s g) : zt_nn a c h s x y z f (zv_sR g (zt_r a s) 5 (zt_r a f)) := by
  have la := zt_U_la U
  have h9 := zc_lh la
  have lS := zt_r_l la fr.1
  have k := zt_nn_k N
  have nA : a ≠ zt_r a s := fun q => by
    rw [← q, la] at lS
    cases lS
  have ol : ∀ t, zm_st c t → zt_r a t ≠ zt_r a s := fun t ht q => by
    have e := zt_r_inj la ht.1 fr.1 q
    exact fr.2.2 (by rw [← e]; exact ht.2)
  have gL := zt_nn_L N
  have L' : zt_L (zv_sR g (zt_r a s) 5 (zt_r a f)) := zl_sR gL (fun _ => by rw [lS]; rfl) (fun e => by rw [e] at lS; exact absurd lS (by decide)) (fun e => by rw [e] at lS; exact absurd lS (by decide))
  have k' : zt_k a h (zv_sR g (zt_r a s) 5 (zt_r a f)) := ⟨k.1, k.2.1, k.2.2.1, k.2.2.2.1, fun r c1 c2 c3 => by
    rw [← k.2.2.2.2 r c1 c2 c3]
    funext j
    refine if_neg (fun q => c3 ?_)
    rw [q.1]
    have hs := fr.1
    refine ⟨?_, zc_lt lS (by decide), zt_r_h la fr.1⟩
    rw [zt_r_p hs.1]
    unfold zc_stt
    split <;> omega⟩
  have e0 := zt_nn_lv N
  have e1 := zt_nn_oI N
  have e2 := zt_nn_o1 N
  have e3 := zt_nn_o2 N
  have e4 := zt_nn_oJ N
  have e5 := zt_nn_oR N
  have e6 := zt_nn_s6 N
  have e7 := zt_nn_s7 N
  have e8 := zt_nn_s8 N
  have e9 := zt_nn_s9 N
  have ea := zt_nn_sd N
  have eb := zt_nn_r4 N
  have ec := zt_nn_he N
  have ed := zt_nn_nw N
  have ee := zt_nn_ct N
  have ef := zt_nn_v4 N
  have eg := zt_nn_vs N
  have eh := zt_nn_vt N
  have ei := zt_nn_jn N
  have ej := zt_nn_nm N
  have ek := zt_nn_oh N
  exact ⟨L', k', e0, e1, e2, e3, e4, fun t ht j => (zy_Rn _ _ (fun q => ol t ht q.1)).trans (e5 t ht j), e6, e7, e8, e9, ea, (zy_Rn _ _ (fun q => absurd q.2 (by decide))).trans eb, zy_R _ _ _ _, (zy_Rn _ _ (fun q => nA q.1)).trans ec, ed, ee, ef, eg, eh, ei, ej, ek⟩
theorem zt_nst_le {c : Nat → Int} (w : zm_W c) : 0 ≤ zm_nst c ∧ zm_nst c ≤ 48 := by
  have := zm_sum_b (f := fun k => zm_o c k 0) (a := 0) (b := 1) 48 (fun k hk => by
    rcases w.1.1 k (by omega) (by omega) with q | q
    · rw [q]; omega
    · rw [q]; omega)
  unfold zm_nst
  omega
theorem zt_free_ex {c : Nat → Int} (w : zm_W c) (h : zm_nst c ≠ 48) : ∃ s, zt_free c s := by
  have key : ∀ n : Nat, n ≤ 48 → (∀ j : Int, 0 ≤ j → j < n → zm_o c j 0 = 1) ∨ ∃ s, zt_free c s := by
    intro n
    induction n with
    | zero => intro _; exact Or.inl (fun j j0 j1 => by omega)
    | succ n ih =>
      intro hn
      rcases ih (by omega) with q | q
      · by_cases e : zm_o c (n : Int) 0 = 1
        · refine Or.inl (fun j j0 j1 => ?_)
          by_cases z : j = n
          · rw [z]; exact e
          · exact q j j0 (by omega)
        · exact Or.inr ⟨n, by omega, q, e⟩
      · exact Or.inr q
  rcases key 48 (Nat.le_refl _) with q | q
  · exact absurd (zm_nst_48 q) h
  · exact q
theorem zt_J_cg {a : Nat} {c : Nat → Int} {h g : zv_H} (J : zt_J a c h) (e : ∀ r k, a + 22 ≤ r → r ≤ a + 24 → zv_I g r k = zv_I h r k) : zt_J a c g := by
  obtain ⟨cs, T, hc⟩ := J
  refine ⟨cs, ⟨?_, zt_T1_le T, fun k v hv => ?_, zt_T1_rg T, zt_T1_ph T⟩, hc⟩
  · rw [e _ _ (by omega) (by omega)]; exact zt_T1_sz T
  · rw [e _ _ (by omega) (by omega), e _ _ (by omega) (by omega)]; exact zt_T1_st T k v hv
/-- the word is none of half a's own -/
def zt_wr (a r : Nat) : Prop := r = 3 ∨ r = 7 ∨ r = a + 26
theorem zt_putWord {d : Nat} {a : Nat} {c : Nat → Int} {h : zv_H} {r m : Nat} {wd : Nat → Int} (gL : zt_L h) (U : zt_U a c h) (J : zt_J a c h) (h0 : 0 ≤ zv_I h (a + 17) 4) (w : zt_wd r m wd h) (hm : m ≤ 12) (hr : zt_wr a r) {l : List Int} (hl : zm_Ln c (c 0 :: l) (c 0)) {n1 n2 : Int} (d1 : zt_dp c (c 0) n1) (d2 : zm_ed c (c 0) → zt_dp c (zm_o c (c 0) 6) n2) (place : Int) : zm_R (C0_putWord (d + 4) a place r h) (fun q => (q.1 < 0 ∧ q.2 = h ∧ ¬ zt_pk c (zt_dc c (c 0 :: l)).length m place) ∨ (zt_pk c (zt_dc c (c 0 :: l)).length m place ∧ ∃ s, zt_free c s ∧ q.1 = s ∧ zt_nn a c h s 0 place m (if zt_jn c n1 n2 0 place m = true then zm_o c (c 0) 6 else s) q.2 ∧ zt_pn a c h s (zt_dc c (c 0 :: l)) place.toNat m wd q.2)) := by
  have la := zt_U_la U
  have W := zt_U_W U
  have hs0 := W.2.1
  have lP := zt_r_l la hs0.1
  have S0 := zt_U_st U _ hs0
  obtain ⟨ok, g0, gt, W1⟩ := zt_line_u W hs0 hl
  have n120 : (zt_dc c (c 0 :: l)).length ≤ 120 := W1.2.2.2.2.2.2
  have en := zt_S_ln S0 l hl
  have nst := zt_nst_le W
  generalize hE : zt_dc c (c 0 :: l) = E at *
  refine zm_cI (P := fun v g => (v < 0 ∧ g = h ∧ ¬ zt_pk c E.length m place) ∨ (zt_pk c E.length m place ∧ ∃ s, zt_free c s ∧ v = s ∧ zt_nn a c h s 0 place m (if zt_jn c n1 n2 0 place m = true then zm_o c (c 0) 6 else s) g ∧ zt_pn a c h s E place.toNat m wd g)) (fun e => lC0_putWord (zl_ob gL la) e) ?_
  rw [qE0_putWord]
  refine zm_if (fun q => zm_iI (Or.inl ⟨by decide, rfl, fun z => by have := z.1.1; omega⟩)) (fun p0 => ?_)
  rw [zm_e (zl_gR gL la 10), zt_U_he U, zm_e (zl_gI gL lP 12), en]
  refine zm_if (fun p1 => ?_) (fun q => zm_iI (Or.inl ⟨by decide, rfl, fun z => q z.1.2⟩))
  rw [zm_e (zl_gI gL (zt_wd_l7 w) 1), zt_wd_sz w]
  refine zm_if (fun q => zm_iI (Or.inl ⟨by decide, rfl, fun z => z.2.1 q⟩)) (fun m0 => ?_)
  rw [zm_e (zl_gI gL la 12), zt_U_ct U]
  refine zm_if (fun c48 => ?_) (fun q => zm_iI (Or.inl ⟨by decide, rfl, fun z => by have := z.2.2.1; omega⟩))
  rw [zm_e (zl_gR gL la 10), zt_U_he U, zm_e (zl_gI gL lP 12), en, zm_e (zl_gI gL (zt_wd_l7 w) 1), zt_wd_sz w, zm_w (by omega)]
  refine zm_if (fun c120 => ?_) (fun q => zm_iI (Or.inl ⟨by decide, rfl, fun z => q z.2.2.2⟩))
  have okp : zt_pk c E.length m place := ⟨⟨by omega, p1⟩, m0, by omega, c120⟩
  obtain ⟨s, fr⟩ := zt_free_ex W (show zm_nst c ≠ 48 by omega)
  obtain ⟨pl, epl⟩ : ∃ pl : Nat, place = pl := ⟨place.toNat, by omega⟩
  subst epl
  have i48 : s.toNat < 48 := by have := fr.1; omega
  have ers : zt_r a s = zc_stt a s.toNat := zt_r_p fr.1.1
  have lS := zt_r_l la fr.1
  have s1 : 1 ≤ s ∧ s ≤ 47 := by
    have := fr.1
    refine ⟨?_, by omega⟩
    by_cases z : s = 0
    · exact absurd W.1.2.1.1.2 (by
        have := fr.2.2
        rw [z] at this
        exact this)
    · omega
  have nPS : zt_r a (c 0) ≠ zt_r a s := fun q => by
    have e := zt_r_inj la hs0.1 fr.1 q
    exact fr.2.2 (by rw [← e]; exact hs0.2)
  have ne : ∀ {r r' : Nat} {p p' : Nat × Nat}, zv_lay r = p → zv_lay r' = p' → p ≠ p' → r ≠ r' := fun e1 e2 hne q => hne (by rw [← e1, ← e2, q])
  have h9 := zc_lh la
  have l5a : zv_lay (a + 5) = (2, 604) := by rcases h9 with e | e <;> rw [e] <;> rfl
  have lS5 := zc_l5 lS
  have lP5 := zc_l5 lP
  have l17 := (zt_vis_l la).1
  have l18 := (zt_vis_l la).2.1
  have l19 := (zt_vis_l la).2.2.1
  have ap : zt_ap a (zt_r a s) (zt_r a (c 0)) := ⟨la, lS, ne lS5.2 l5a (by decide), ne lS l5a (by decide), nPS, ne lP l5a (by decide), ne lP5.2 lS (by decide), ne lP5.2 l5a (by decide), ne lP lS5.2 (by decide)⟩
  obtain ⟨⟨q1, g1⟩, e1, eq1, G⟩ := zt_grow (d := d + 1) (x := 0) (y := (pl : Int)) (z := (m : Int)) gL U h0 fr
  dsimp only at eq1 G
  subst eq1
  have L1 := zt_gw_L G
  have eh := zt_U_he U
  have P1 : ∀ k, k ≠ 11 → zv_I g1 (zt_r a (c 0)) k = zv_I h (zt_r a (c 0)) k := fun k hk => zt_gw_oI G _ k (by rw [← ers]; exact nPS) (fun q => hk q.2) (fun q => ne lP la (by decide) q.1) (fun q => ne lP l17 (by decide) q.1) (ne lP l18 (by decide)) (ne lP l19 (by decide))
  have P2 : ∀ k, zv_I g1 (zt_r a (c 0) + 2) k = zv_I h (zt_r a (c 0) + 2) k := fun k => zt_gw_oI G _ k (by rw [← ers]; exact ne lP5.2 lS (by decide)) (fun q => ne lP5.2 lP (by decide) (q.1.trans eh)) (fun q => ne lP5.2 la (by decide) q.1) (fun q => ne lP5.2 l17 (by decide) q.1) (ne lP5.2 l18 (by decide)) (ne lP5.2 l19 (by decide))
  have src1 : zt_src (zt_r a (c 0)) E g1 := ⟨lP, by rw [P1 12 (by decide)]; exact en, n120, fun k x hx => by rw [P2]; exact zt_S_dc S0 l hl k x (by rw [hE]; exact hx)⟩
  rw [zm_e (zl_gR gL la 10), eh, zm_e (zl_gI gL (zt_wd_l7 w) 1), zt_wd_sz w, zm_e e1]
  dsimp only
  rw [if_neg (zc_nz lS)]
  -- the anchor
  have hanc : ∃ (v15 : Int) (v17 : Int64), C5_idAt (d + 3) (zt_r a (c 0)) (zv_w ((pl : Int) - 1)) g1 = some (v15, g1) ∧ (∀ g, C0_baseOf (d + 3) v15 g = some (v17, g)) ∧ v15 = zt_an E pl ∧ v17 = zt_ab E pl := by
    by_cases z : pl = 0
    · refine ⟨-1, Int64.ofNat 0, ?_, fun g => zt_C0_baseOf1, by unfold zt_an; rw [if_pos z], by unfold zt_ab; rw [if_pos z]⟩
      have b := zt_src_n src1
      rw [z, zm_w (by omega), zt_C5_idAt L1 lP (by omega), if_neg (by omega)]
    · obtain ⟨x, hx⟩ : ∃ x, E[pl - 1]? = some x := ⟨_, List.getElem?_eq_getElem (by omega)⟩
      have hxm : x ∈ zm_row c (c 0 :: l) := by
        have := List.mem_of_getElem? hx
        rw [← hE] at this
        exact (List.mem_filter.mp this).1
      refine ⟨zt_id x, zt_bo x.1, ?_, fun g => zt_C0_baseOf (zt_row_ok ok.2.2.1 g0 x hxm), ?_, ?_⟩
      · rw [zm_w (by omega), show (pl : Int) - 1 = ((pl - 1 : Nat) : Int) by omega]
        exact zt_src_at L1 src1 hx
      · unfold zt_an
        rw [if_neg z, hx]
      · unfold zt_ab
        rw [if_neg z, hx]
  obtain ⟨v15, v17, ea, eb, ev15, ev17⟩ := hanc
  rw [zm_e ea]
  dsimp only
  rw [zm_e (zl_pI L1 lS 15 _), zm_e (zl_gI (g := zv_sI g1 (zt_r a s) 15 v15) L1 lS 15), zy_I, zm_e (eb _)]
  dsimp only
  rw [zm_e (zl_pJ (g := zv_sI g1 (zt_r a s) 15 v15) L1 lS 17 _)]
  have L0 : zt_L (zv_sJ (zv_sI g1 (zt_r a s) 15 v15) (zt_r a s) 17 v17) := L1
  have I0 : ∀ r k, r ≠ zt_r a s → zv_I (zv_sJ (zv_sI g1 (zt_r a s) 15 v15) (zt_r a s) 17 v17) r k = zv_I g1 r k := fun r k hn => zy_In _ _ (fun q => hn q.1)
  have IS : ∀ k, k ≠ 15 → zv_I (zv_sJ (zv_sI g1 (zt_r a s) 15 v15) (zt_r a s) 17 v17) (zt_r a s) k = zv_I g1 (zt_r a s) k := fun k hk => zy_In _ _ (fun q => hk q.2)
  have src0 : zt_src (zt_r a (c 0)) E (zv_sJ (zv_sI g1 (zt_r a s) 15 v15) (zt_r a s) 17 v17) := ⟨lP, by rw [I0 _ _ nPS]; exact zt_src_n src1, n120, fun k x hx => by rw [I0 _ _ (ne lP5.2 lS (by decide))]; exact zt_src_d src1 k x hx⟩
  have l7 := zt_wd_l7 w
  have l40 := zt_wd_la w
  have nr18 : r + 1 ≠ a + 18 ∧ r + 1 ≠ a + 19 := by rcases hr with e | e | e <;> omega
  have wd0 : zt_wd r m wd (zv_sJ (zv_sI g1 (zt_r a s) 15 v15) (zt_r a s) 17 v17) := by
    refine ⟨l7, l40, zt_wd_m12 w, ?_, fun k hk => ?_⟩
    · rw [I0 _ _ (ne l7 lS (by decide)), zt_gw_oI G r 1 (by rw [← ers]; exact ne l7 lS (by decide)) (fun q => absurd q.2 (by decide)) (fun q => absurd q.2 (by decide)) (fun q => absurd q.2 (by decide)) (ne l7 l18 (by decide)) (ne l7 l19 (by decide))]
      exact zt_wd_sz w
    · rw [I0 _ _ (ne l40 lS (by decide)), zt_gw_oI G (r + 1) k (by rw [← ers]; exact ne l40 lS (by decide)) (fun q => ne l40 lP (by decide) (q.1.trans eh)) (fun q => ne l40 la (by decide) q.1) (fun q => ne l40 l17 (by decide) q.1) nr18.1 nr18.2]
      exact zt_wd_lt w k hk
  have e5 : ∀ k, zv_I (zv_sJ (zv_sI g1 (zt_r a s) 15 v15) (zt_r a s) 17 v17) (a + 5) k = zv_I h (a + 5) k := fun k => by
    rw [I0 _ _ (ne l5a lS (by decide))]
    exact zt_gw_oI G _ k (by rw [← ers]; exact ne l5a lS (by decide)) (fun q => ne l5a lP (by decide) (q.1.trans eh)) (by omega) (by omega) (by omega) (by omega)
  have A0 : zt_ad a (zv_sJ (zv_sI g1 (zt_r a s) 15 v15) (zt_r a s) 17 v17) (zt_r a s) [] (fun k => zv_I h (a + 5) k) (zv_sJ (zv_sI g1 (zt_r a s) 15 v15) (zt_r a s) 17 v17) := ⟨rfl, rfl, fun _ _ _ _ _ => rfl, by rw [IS 12 (by decide), ers]; exact zt_gw_sc G, fun k x hx => (by cases hx), e5⟩
  have nums : zv_I (zv_sJ (zv_sI g1 (zt_r a s) 15 v15) (zt_r a s) 17 v17) (zt_r a s) 0 = s := by
    rw [IS 0 (by decide), ers, zt_gw_s0 G]
    omega
  refine zt_put109 (d := d + 2) L0 ap src0 (by omega) (Or.inl (by omega)) (fun gA A => ?_) pl 0 _ (Nat.zero_add _) A0
  refine zt_put135 (d := d + 2) (s := s) (D := E.take pl) (pl : Int) L0 ap s1 nums wd0 hm ⟨ne l7 lS (by decide), ne l7 lS5.2 (by decide), ne l7 l5a (by decide), ne l40 lS (by decide), ne l40 l5a (by decide)⟩ (by rw [List.length_take]; omega) (fun gB B => ?_) m 0 gA (Nat.zero_add _) (by rw [List.take_zero, List.append_nil]; exact A)
  refine zt_put184 (d := d + 2) (pl := pl) (D := E.take pl ++ zm_rs s m) L0 ap src0 (by omega) (by rw [List.length_append, List.length_take, zm_rs_len]; omega) (fun gC C => ?_) (E.length - pl) pl gB (by omega) (Nat.le_refl _) (by rw [Nat.sub_self, List.take_zero, List.append_nil]; exact B)
  have LC := zt_ad_L C L0
  have ers2 : zc_stt a s.toNat = zt_r a s := ers.symm
  have C' := C
  rw [ers] at C'
  -- what stands in gC
  have IC : ∀ r k, ¬ (r = zt_r a s ∧ (k = 12 ∨ k = 15)) → r ≠ zt_r a s + 2 → r ≠ a + 5 → zv_I gC r k = zv_I g1 r k := fun r k c1 c2 c3 => by
    rw [zt_ad_i C r k (fun q => c1 ⟨q.1, Or.inl q.2⟩) c2 c3]
    exact zy_In _ _ (fun q => c1 ⟨q.1, Or.inr q.2⟩)
  have RC : ∀ r k, zv_R gC r k = zv_R g1 r k := fun r k => by
    show gC.2.2.2.1 r k = _
    rw [zt_ad_f2 C]
    rfl
  have oldI : ∀ t, zm_st c t → ∀ k, k ≠ 11 → zv_I gC (zt_r a t) k = zv_I h (zt_r a t) k := fun t ht k hk => by
    have lt := zt_r_l la ht.1
    have nt : zt_r a t ≠ zt_r a s := fun q => by
      have e := zt_r_inj la ht.1 fr.1 q
      exact fr.2.2 (by rw [← e]; exact ht.2)
    rw [IC _ k (fun q => nt q.1) (ne lt lS5.2 (by decide)) (ne lt l5a (by decide))]
    exact zt_gw_oI G _ k (by rw [ers2]; exact nt) (fun q => hk q.2) (fun q => ne lt la (by decide) q.1) (fun q => ne lt l17 (by decide) q.1) (ne lt l18 (by decide)) (ne lt l19 (by decide))
  have newI : ∀ k, k ≠ 12 → k ≠ 15 → zv_I gC (zt_r a s) k = zv_I g1 (zc_stt a s.toNat) k := fun k k1 k2 => by
    rw [IC _ k (fun q => by rcases q.2 with e | e; exact k1 e; exact k2 e) (by omega) (ne lS l5a (by decide)), ers]
  have hnn : ∀ n, n ≠ 1 → n ≤ 27 → a + n ≠ zt_r a s ∧ a + n ≠ zv_R h a 10 := fun n h1 h2 => ⟨fun q => zt_hn la ⟨h1, h2⟩ (by rw [q]; exact lS), fun q => zt_hn la ⟨h1, h2⟩ (by rw [q, eh]; exact lP)⟩
  have jl := zt_jn_l la
  have JC : zt_J a c gC := zt_J_cg J (fun r k r1 r2 => by
    obtain ⟨n, rfl⟩ : ∃ n, r = a + n := ⟨r - a, by omega⟩
    have n3 : n = 22 ∨ n = 23 ∨ n = 24 := by omega
    have n2' : a + n ≠ zt_r a s + 2 := by
      rcases n3 with e | e | e
      · subst e; exact ne jl.1 lS5.2 (by decide)
      · subst e; exact ne jl.2.1 lS5.2 (by decide)
      · subst e; exact ne jl.2.2.1 lS5.2 (by decide)
    rw [IC _ k (fun q => (hnn n (by omega) (by omega)).1 q.1) n2' (by omega)]
    exact zt_gw_oI G _ k (by rw [ers2]; exact (hnn n (by omega) (by omega)).1) (fun q => (hnn n (by omega) (by omega)).2 q.1) (by omega) (by omega) (by omega) (by omega))
  have pq : zt_pq c gC (zt_r a s) (zt_r a (c 0)) 0 (pl : Int) (m : Int) := ⟨lS, lP, (newI 6 (by decide) (by decide)).trans (zt_gw_s6 G), (newI 7 (by decide) (by decide)).trans ((zt_gw_s7 G).trans (zt_U_nw U)), (newI 8 (by decide) (by decide)).trans (zt_gw_s8 G), (newI 9 (by decide) (by decide)).trans (zt_gw_s9 G), (oldI _ hs0 6 (by decide)).trans (zt_S_ac S0), (oldI _ hs0 7 (by decide)).trans (zt_S_ti S0), (oldI _ hs0 8 (by decide)).trans (zt_S_pl S0), (oldI _ hs0 9 (by decide)).trans (zt_S_sz S0)⟩
  have hd : zm_ed c (c 0) → zv_R gC (zt_r a (c 0)) 5 = zt_r a (zm_o c (c 0) 6) ∧ zv_lay (zt_r a (zm_o c (c 0) 6)) = (1, 5) ∧ zv_I gC (zt_r a (c 0)) 10 = n1 ∧ zv_I gC (zt_r a (zm_o c (c 0) 6)) 10 = n2 := fun he => by
    have c00 : c 0 ≠ 0 := fun q => by
      have := W.1.2.1.2.2.1
      rw [q] at he
      rcases he with z | z <;> omega
    have fst := (zm_fp W.1 hs0 c00).1
    obtain ⟨l1', a1, a2⟩ := d1
    obtain ⟨l2', b1, b2⟩ := d2 he
    refine ⟨?_, zt_r_l la fst.1, ?_, ?_⟩
    · rw [RC, zt_gw_oR G _ 5 (by rw [ers2]; exact nPS) (fun q => ne lP la (by decide) q.1)]
      exact zt_S_fi S0
    · rw [oldI _ hs0 10 (by decide), a2]
      exact zt_S_de S0 l1' a1
    · rw [oldI _ fst 10 (by decide), b2]
      exact zt_S_de (zt_U_st U _ fst) l2' b1
  obtain ⟨g', eg, gD, oD, eD⟩ := zt_joinGroup (d := d + 1) LC la JC pq hd
  have N : zt_nn a c h s 0 (pl : Int) (m : Int) s gD := zt_nn_of U fr rfl G C' oD
  have l25 := jl.2.2.2
  have iD : ∀ r k, r ≠ a + 25 → zv_I gD r k = zv_I gC r k := fun r k hn => zt_o_i oD (zt_c1 hn) k
  have f2D : gD.2.2 = (zv_sJ (zv_sI g1 (zt_r a s) 15 v15) (zt_r a s) 17 v17).2.2 := oD.2.1.trans (zt_ad_f2 C)
  have PN : ∀ g'' : zv_H, g''.2.1 = gD.2.1 → g''.2.2.1 = gD.2.2.1 → zt_pn a c h s E pl m wd g'' := fun g'' x1 x2 => by
    have xi : ∀ r k, zv_I g'' r k = zv_I gD r k := fun r k => by
      show g''.2.1 r k = _
      rw [x1]; rfl
    have xj : ∀ r k, zv_J g'' r k = zv_J gD r k := fun r k => by
      show g''.2.2.1 r k = _
      rw [x2]; rfl
    have jD : ∀ r k, zv_J gD r k = zv_J (zv_sJ (zv_sI g1 (zt_r a s) 15 v15) (zt_r a s) 17 v17) r k := fun r k => by
      show gD.2.2.1 r k = _
      rw [f2D]; rfl
    refine ⟨?_, ?_, ?_, ?_, fun k x hx => ?_, fun k => ?_⟩
    · rw [xi, iD _ _ (ne lS l25 (by decide)), zt_ad_i C _ 15 (fun q => absurd q.2 (by decide)) (by omega) (ne lS l5a (by decide)), ← ev15]
      exact zy_I _ _ _ _
    · rw [xj, jD, ← ev17]
      exact zy_J _ _ _ _
    · have jg := zt_gw_jg G
      rw [xj, jD, zy_Jn _ _ (fun q => absurd q.2 (by decide)), ers]
      exact jg
    · rw [xi, iD _ _ (ne lS l25 (by decide))]
      exact zt_ad_n C
    · rw [xi, iD _ _ (ne lS5.2 l25 (by decide))]
      exact zt_ad_d C k x hx
    · rw [xi, iD _ _ (by omega)]
      exact zt_ad_g C k
  have fin : ∀ fi, zt_nn a c h s 0 (pl : Int) (m : Int) fi g' → zt_pn a c h s E pl m wd g' → fi = (if zt_jn c n1 n2 0 (pl : Int) (m : Int) = true then zm_o c (c 0) 6 else s) → zv_I g' (zt_r a s) 0 = s → zm_R ((C0_joinGroup (d + 3) a (zt_r a s) (zt_r a (c 0)) gC).bind fun g4 => (zv_gI g4 (zt_r a s) 5 0).bind fun v5 => (some (some (zv_i v5), g4) : zv_O)) (zm_I fun v g => (v < 0 ∧ g = h ∧ ¬ zt_pk c E.length m (pl : Int)) ∨ (zt_pk c E.length m (pl : Int) ∧ ∃ s, zt_free c s ∧ v = s ∧ zt_nn a c h s 0 (pl : Int) m (if zt_jn c n1 n2 0 (pl : Int) m = true then zm_o c (c 0) 6 else s) g ∧ zt_pn a c h s E ((pl : Int)).toNat m wd g)) := by
    intro fi N' P' ef es
    rw [zm_e eg, zm_e (zl_gI (zt_nn_L N') lS 0), es]
    exact zm_iI (Or.inr ⟨okp, s, fr, rfl, by rw [← ef]; exact N', P'⟩)
  have n0 : zv_I gD (zt_r a s) 0 = s := by
    rw [iD _ _ (ne lS l25 (by decide)), newI 0 (by decide) (by decide), zt_gw_s0 G]
    have := fr.1
    omega
  by_cases hj : zt_jn c n1 n2 0 (pl : Int) (m : Int) = true
  · rw [if_pos hj] at eD
    refine fin (zm_o c (c 0) 6) ?_ ?_ (by rw [if_pos hj]) ?_
    · rw [eD]; exact zt_nn_join U fr N
    · rw [eD]; exact PN _ rfl rfl
    · rw [eD]; exact n0
  · rw [if_neg hj] at eD
    refine fin s ?_ ?_ (by rw [if_neg hj]) ?_
    · rw [eD]; exact N
    · rw [eD]; exact PN _ rfl rfl
    · rw [eD]; exact n0
end
/-! A20.fl -/
section
/-! ===== the tie: the document behind a put ===== -/
theorem zt_rp_cnt {α : Type} (f : α → Bool) : ∀ (r : List α) (n : Nat), n < (r.filter f).length → ((r.take ((zm_rp f r n).toNat + 1)).filter f).length = n + 1
  | [], n, h => absurd h (Nat.not_lt_zero _)
  | x :: r, n, h => by
    have ex : zm_rp f (x :: r) (n : Int) = if f x = true then (if (n : Int) = 0 then 0 else zm_inc (zm_rp f r ((n : Int) - 1))) else zm_inc (zm_rp f r n) := rfl
    rw [ex, List.take_succ_cons]
    by_cases c1 : f x = true
    · rw [List.filter_cons_of_pos c1] at h
      rw [if_pos c1, List.filter_cons_of_pos c1, List.length_cons]
      by_cases c2 : (n : Int) = 0
      · have c3 : n = 0 := by omega
        rw [if_pos c2, c3]
        rfl
      · obtain ⟨m, rfl⟩ : ∃ m, n = m + 1 := ⟨n - 1, by omega⟩
        rw [List.length_cons] at h
        have ih := zt_rp_cnt f r m (by omega)
        have ge := (zm_rp_in f r m (by omega)).1
        have e : ((m + 1 : Nat) : Int) - 1 = m := by omega
        rw [if_neg c2, e]
        unfold zm_inc
        rw [if_neg (by omega), show (zm_rp f r m + 1).toNat = (zm_rp f r m).toNat + 1 by omega, ih]
    · rw [List.filter_cons_of_neg c1] at h
      have ih := zt_rp_cnt f r n h
      have ge := (zm_rp_in f r n h).1
      rw [if_neg c1, List.filter_cons_of_neg c1]
      unfold zm_inc
      rw [if_neg (by omega), show (zm_rp f r n + 1).toNat = (zm_rp f r n).toNat + 1 by omega, ih]
/-- what one sees of a row into which a word goes behind the place-th letter that one sees -/
theorem zt_ins_fl {row seg : List (Int × Int)} {f : Int × Int → Bool} (hd : row.Nodup) {pl : Nat} (hpl : pl ≤ (row.filter f).length) {p : Nat} (hp : (pl = 0 ∧ p = 0) ∨ (pl ≠ 0 ∧ ∃ x, (row.filter f)[pl - 1]? = some x ∧ (p : Int) = zm_at row x + 1)) (hs : ∀ x ∈ seg, f x = true) : (row.take p ++ (seg ++ row.drop p)).filter f = ((row.filter f).take pl ++ seg) ++ (row.filter f).drop pl := by
  have e : row.filter f = (row.take p).filter f ++ (row.drop p).filter f := by rw [← List.filter_append, List.take_append_drop]
  have hl : ((row.take p).filter f).length = pl := by
    rcases hp with q | q
    · rw [q.2, q.1, List.take_zero]
      rfl
    · obtain ⟨q1, x, hx, ep⟩ := q
      have hn : pl - 1 < (row.filter f).length := by omega
      have h1 := zm_rp_in f row (pl - 1) hn
      have h2 := h1.2.trans hx
      have hxm : x ∈ row := List.mem_of_getElem? h2
      have h3 := (zm_nd_at hd hxm h2).mpr rfl
      have h4 := zt_rp_cnt f row (pl - 1) hn
      have h5 := (zm_at_mem hxm).1
      rw [h3, show (zm_at row x).toNat + 1 = p by omega] at h4
      omega
  have et : (row.filter f).take pl = (row.take p).filter f := by
    rw [e]
    exact List.take_left' hl
  have ed : (row.filter f).drop pl = (row.drop p).filter f := by
    rw [e]
    exact List.drop_left' hl
  rw [List.filter_append, List.filter_append, zm_fl_all f hs, et, ed, List.append_assoc]
/-- the document of a put -/
theorem zt_dc_put {c c' : Nat → Int} {s : Int} {lh : List Int} (hne : lh ≠ []) (ha : ∀ t ∈ lh, zm_ag c c' t) (hns : ¬ s ∈ lh) (g : zm_G0 c lh) (gt : ∀ t ∈ lh, zm_o c t 2 = 1 → ∀ p ∈ zm_tk c t, p ∈ zm_row c lh) (hp : zm_o c' s 2 = 0) {pl : Nat} (hpl : pl ≤ (zt_dc c lh).length) (h0 : pl = 0 → zm_o c' s 8 = -1) (h1 : pl ≠ 0 → ∃ x : Int × Int, (zt_dc c lh)[pl - 1]? = some x ∧ zm_o c' s 8 = x.1 ∧ zm_o c' s 9 = x.2) (hx0 : ∀ p ∈ zm_row c lh, 0 ≤ p.1) : zt_dc c' (s :: lh) = ((zt_dc c lh).take pl ++ zm_rs s (zm_o c' s 5)) ++ (zt_dc c lh).drop pl := by
  obtain ⟨r1, r2, r3, _⟩ := zm_cnt_put hne ha hns g gt hp
  have ps := zm_ps_r c' s (zm_row c lh)
  have fe : ∀ {row : List (Int × Int)}, (∀ p ∈ row, p ∈ zm_row c lh) → row.filter (zm_sn c' (s :: lh)) = row.filter (zm_sn c lh) := fun h => zm_fl_cg (fun p hp => r2 p (h p hp))
  have key := zt_ins_fl (row := zm_row c lh) (seg := zm_rs s (zm_o c' s 5)) (f := zm_sn c' (s :: lh)) (zm_row_nd g.1) (pl := pl) (by rw [fe (fun p hp => hp)]; exact hpl) (p := (zm_ps c' s (zm_row c lh)).toNat) (by
    rw [fe (fun p hp => hp)]
    by_cases z : pl = 0
    · refine Or.inl ⟨z, ?_⟩
      have : zm_ps c' s (zm_row c lh) = 0 := if_pos (by rw [h0 z]; decide)
      rw [this]
      rfl
    · obtain ⟨x, x1, x2, x3⟩ := h1 z
      refine Or.inr ⟨z, x, x1, ?_⟩
      have hxm : x ∈ zm_row c lh := (List.mem_filter.mp (List.mem_of_getElem? x1)).1
      have n8 := hx0 x hxm
      have e8 : zm_ps c' s (zm_row c lh) = zm_at (zm_row c lh) (zm_o c' s 8, zm_o c' s 9) + 1 := if_neg (by rw [x2]; omega)
      have ex : (zm_o c' s 8, zm_o c' s 9) = x := Prod.ext x2 x3
      rw [ex] at e8
      omega) r3
  show (zm_row c' (s :: lh)).filter (zm_sn c' (s :: lh)) = _
  rw [r1, zm_ins_e, key, fe (fun p hp => hp)]
  rfl
end
