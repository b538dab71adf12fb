/-! ===== the tie: TEST, as the reference reckons it ===== -/
def zt_cm (how v n : Int) : Bool := if how = 0 then decide (v < n) else if how = 1 then decide (v = n) else !(decide (v ≤ n))
/-- codes over a heap of truths, the top first -/
def zt_ev (f : Int → Int) : List Int → List Bool → Bool
  | [], st => st.headD false
  | v :: r, st => if 0 ≤ v then zt_ev f r (zt_cm ((v.tdiv 6).tmod 3) (f (v.tmod 6)) (v.tdiv 18) :: st) else if v = -1 then (match st with | [] => false | b :: st => zt_ev f r ((!b) :: st)) else (match st with | [] => false | [_] => false | y :: x :: st => zt_ev f r ((if v = -2 then x && y else x || y) :: st))
theorem zt_ev_p {f : Int → Int} {v : Int} {r : List Int} {st : List Bool} (hv : 0 ≤ v) : zt_ev f (v :: r) st = zt_ev f r (zt_cm ((v.tdiv 6).tmod 3) (f (v.tmod 6)) (v.tdiv 18) :: st) := if_pos hv
theorem zt_ev_n {f : Int → Int} {r : List Int} {b : Bool} {st : List Bool} : zt_ev f (-1 :: r) (b :: st) = zt_ev f r ((!b) :: st) := rfl
theorem zt_ev_2 {f : Int → Int} {v : Int} {r : List Int} {x y : Bool} {st : List Bool} (h0 : ¬ 0 ≤ v) (h1 : v ≠ -1) : zt_ev f (v :: r) (y :: x :: st) = zt_ev f r ((if v = -2 then x && y else x || y) :: st) := by
  show (if 0 ≤ v then _ else if v = -1 then _ else _) = _
  rw [if_neg h0, if_neg h1]
theorem zt_compares (d : Nat) (a b n : Int) (h : zv_H) : C9_compares (d + 1) a b n h = some (zt_bi (zt_cm a b n), h) := by
  refine lC9_compares ?_
  rw [qE9_compares]
  unfold zt_cm
  by_cases c1 : a = 0
  · rw [if_pos c1, if_pos c1]
    by_cases c2 : b < n
    · rw [if_pos c2, decide_eq_true c2]; rfl
    · rw [if_neg c2, decide_eq_false c2]; rfl
  · rw [if_neg c1, if_neg c1]
    by_cases c2 : a = 1
    · rw [if_pos c2, if_pos c2]
      by_cases c3 : b = n
      · rw [if_pos c3, decide_eq_true c3]; rfl
      · rw [if_neg c3, decide_eq_false c3]; rfl
    · rw [if_neg c2, if_neg c2]
      by_cases c3 : b ≤ n
      · rw [if_pos c3, decide_eq_true c3]; rfl
      · rw [if_neg c3, decide_eq_false c3]; rfl
/-- the heap of truths in its cells, the top first -/
def zt_sk (h : zv_H) (st : List Bool) : Prop := ∀ (k : Nat) (b : Bool), st[k]? = some b → zv_I h 359 (st.length - 1 - k) = zt_bi b
theorem zt_sk_push {h : zv_H} {st : List Bool} (s : zt_sk h st) (b : Bool) : zt_sk (zv_sI h 359 st.length (zt_bi b)) (b :: st) := by
  intro k x hx
  cases k with
  | zero =>
    have e : b = x := Option.some.inj hx
    rw [← e]
    exact zy_I _ _ _ _
  | succ k =>
    have hx' : st[k]? = some x := hx
    have hk := zm_lt_of_get hx'
    rw [List.length_cons, show st.length + 1 - 1 - (k + 1) = st.length - 1 - k by omega, zy_In _ _ (by omega)]
    exact s k x hx'
theorem zt_sk_pop {h : zv_H} {b : Bool} {st : List Bool} (s : zt_sk h (b :: st)) : zt_sk h st := by
  intro k x hx
  have hk := zm_lt_of_get hx
  have := s (k + 1) x hx
  rw [List.length_cons, show st.length + 1 - 1 - (k + 1) = st.length - 1 - k by omega] at this
  exact this
theorem zt_sk_top {h : zv_H} {b : Bool} {st : List Bool} (s : zt_sk h (b :: st)) : zv_I h 359 st.length = zt_bi b := by
  have := s 0 b rfl
  rw [List.length_cons, show st.length + 1 - 1 - 0 = st.length by omega] at this
  exact this
theorem zt_holds_l (d : Nat) : ∀ (r : List Int) (k : Nat) (st : List Bool) (h : zv_H), zm_M h → (∀ (j : Nat) (x : Int), r[j]? = some x → zv_I h 348 (8 + (k + j)) = x ∧ x < 100000) → zv_I h 348 4 = ((k + r.length : Nat) : Int) → k + r.length ≤ 392 → st.length ≤ k → zm_ph r st.length → zt_sk h st → ∃ h', L9_holds_60 (d + 1) 347 st.length k h = some (some (zv_i (zt_bi (zt_ev (fun i => zv_I h 358 i.toNat) r st))), h') ∧ zm_F [359] [] h h'
  | [], k, st, h, hM, _, h4, hn, t1, hp, hs => by
    have e1 : (st.length : Int) = 1 := hp
    rw [List.length_nil] at h4
    obtain ⟨b, rfl⟩ : ∃ b, st = [b] := by
      cases st with
      | nil => cases e1
      | cons b st =>
        cases st with
        | nil => exact ⟨b, rfl⟩
        | cons x st => rw [List.length_cons, List.length_cons] at e1; omega
    have h0 : zv_I h 359 (Int.toNat 0) = zt_bi b := zt_sk_top hs
    rw [qL9_holds_60, zm_e (zm_f0 hM), zm_e (zm_aI hM zm_l348 rfl (by decide) (by decide)), show zv_I h 348 (Int.toNat 4) = _ from h4, if_neg (by omega), zm_e (zm_f16 hM), zm_e (zm_aB hM zm_l359 (Or.inl rfl) rfl (by decide) (by decide)), h0, if_pos (zt_bi01 b)]
    exact ⟨_, rfl, zm_F_r _ _ h⟩
  | v :: r, k, st, h, hM, hr, h4, hn, t1, hp, hs => by
    rw [List.length_cons] at h4 hn
    have hv : zv_I h 348 (8 + k) = v := (hr 0 v rfl).1
    have hv2 : v < 100000 := (hr 0 v rfl).2
    have w1 : zv_w ((k : Int) + 1) = ((k + 1 : Nat) : Int) := by
      rw [zm_w (by omega)]
      rfl
    have go : ∀ (b : Bool) (st' : List Bool) (t : Int), zt_sk h st' → t = ((st'.length + 1 : Nat) : Int) → st'.length ≤ k → zm_ph r t → ∃ h', ((zv_wB h 359 (st'.length : Int) (zt_bi b)).bind fun g => L9_holds_60 (d + 1) 347 t ((k + 1 : Nat) : Int) g) = some (some (zv_i (zt_bi (zt_ev (fun i => zv_I h 358 i.toNat) r (b :: st')))), h') ∧ zm_F [359] [] h h' := by
      intro b st' t sk et lk hph
      have nz : zv_nz (zt_bi b) = zt_bi b := by cases b <;> rfl
      rw [zm_e (zm_wB hM zm_l359 rfl (by omega) (by omega) _), nz, show ((st'.length : Int)).toNat = st'.length by omega, et]
      obtain ⟨h', e1, e2⟩ := zt_holds_l d r (k + 1) (b :: st') (zv_sI h 359 st'.length (zt_bi b)) hM (fun j x hx => by
        rw [zm_so h _ _, show k + 1 + j = k + (j + 1) by omega]
        exact hr (j + 1) x hx) (by rw [zm_so h _ _, h4]; omega) (by omega) (by rw [List.length_cons]; omega) (by rw [List.length_cons, ← et]; exact hph) (zt_sk_push sk b)
      have ef : (fun i : Int => zv_I (zv_sI h 359 st'.length (zt_bi b)) 358 i.toNat) = fun i : Int => zv_I h 358 i.toNat := by
        funext i
        rw [zm_so h _ _]
      rw [ef] at e1
      exact ⟨h', e1, zm_F_t (zm_F_I (zm_F_r _ _ h) rfl _ _) e2⟩
    have rd : ∀ i : Int, 0 ≤ i → i < 400 → zv_aB h 359 i = some (zv_I h 359 i.toNat) := fun i i0 i1 => zm_aB hM zm_l359 (Or.inl rfl) rfl i0 (by omega)
    have hp2 : if 0 ≤ v then zm_ph r ((st.length : Int) + 1) else if v = -1 then 1 ≤ (st.length : Int) ∧ zm_ph r st.length else 2 ≤ (st.length : Int) ∧ zm_ph r ((st.length : Int) - 1) := hp
    rw [qL9_holds_60, zm_e (zm_f0 hM), zm_e (zm_aI hM zm_l348 rfl (by decide) (by decide)), show zv_I h 348 (Int.toNat 4) = _ from h4, if_pos (by omega), zm_e (zm_f0 hM), zm_w (x := 8 + (k : Int)) (by omega), zm_e (zm_aI hM zm_l348 rfl (by omega) (by omega)), show (8 + (k : Int)).toNat = 8 + k by omega, hv, w1]
    by_cases c1 : 0 ≤ v
    · rw [if_pos c1] at hp2
      have hm := zm_tmod (n := 6) c1 (by decide)
      have d6 : zv_w (v.tdiv 6) = v.tdiv 6 := zm_w (by rw [Int.tdiv_eq_ediv_of_nonneg c1]; omega)
      have d18 : zv_w (v.tdiv 18) = v.tdiv 18 := zm_w (by rw [Int.tdiv_eq_ediv_of_nonneg c1]; omega)
      rw [if_neg (by omega), zm_e (zm_f16 hM), zm_e (zm_f15 hM), zm_e (zm_aI hM zm_l358 rfl hm.1 (by omega)), zm_e (zt_compares d _ _ _ h), zm_w (x := (st.length : Int) + 1) (by omega), d6, d18, zt_ev_p c1]
      exact go _ st _ hs (by omega) t1 hp2
    · rw [if_neg c1] at hp2
      rw [if_pos (by omega)]
      by_cases c2 : v = -1
      · rw [if_pos c2] at hp2
        obtain ⟨p1, p2⟩ := hp2
        cases st with
        | nil => exact absurd p1 (by decide)
        | cons b st =>
          have top := zt_sk_top hs
          rw [List.length_cons] at p2 t1 ⊢
          have e1 : ((st.length + 1 : Nat) : Int) - 1 = (st.length : Int) := by omega
          rw [if_pos c2, zm_e (zm_f16 hM), zm_e (zm_f16 hM), zm_w (by omega), e1, zm_e (rd _ (by omega) (by omega)), show ((st.length : Int)).toNat = st.length by omega, top, c2, zt_ev_n]
          cases b with
          | false =>
            rw [if_pos (show zt_bi false = 0 from rfl)]
            exact go true st _ (zt_sk_pop hs) rfl (by omega) p2
          | true =>
            rw [if_neg (show ¬ zt_bi true = 0 by decide)]
            exact go false st _ (zt_sk_pop hs) rfl (by omega) p2
      · rw [if_neg c2] at hp2
        obtain ⟨p1, p2⟩ := hp2
        cases st with
        | nil => exact absurd p1 (by decide)
        | cons y st =>
          cases st with
          | nil =>
            rw [List.length_cons, List.length_nil] at p1
            omega
          | cons x st =>
            have ty := zt_sk_top hs
            have tx := zt_sk_top (zt_sk_pop hs)
            rw [List.length_cons] at ty
            rw [List.length_cons, List.length_cons] at p2 t1 ⊢
            have e1 : zv_w (((st.length + 1 + 1 : Nat) : Int) + -1) = ((st.length + 1 : Nat) : Int) := by
              rw [zm_w (by omega)]
              omega
            have e2 : zv_w (((st.length + 1 : Nat) : Int) - 1) = (st.length : Int) := by
              rw [zm_w (by omega)]
              omega
            have e3 : ((st.length + 1 + 1 : Nat) : Int) - 1 = ((st.length + 1 : Nat) : Int) := by omega
            rw [e3] at p2
            have rx : zv_aB h 359 (st.length : Int) = some (zt_bi x) := by
              rw [rd _ (by omega) (by omega), show ((st.length : Int)).toNat = st.length by omega, tx]
            have ry : zv_aB h 359 ((st.length + 1 : Nat) : Int) = some (zt_bi y) := by
              rw [rd _ (by omega) (by omega), show ((st.length + 1 : Nat) : Int).toNat = st.length + 1 by omega, ty]
            have G := fun b => go b st _ (zt_sk_pop (zt_sk_pop hs)) rfl (by omega) p2
            rw [if_neg c2, zm_e (zm_f16 hM), e1, e2, zt_ev_2 c1 c2]
            by_cases c3 : v = -2
            · rw [if_pos c3, zm_e (zm_f16 hM), zm_e rx, if_pos c3]
              cases x with
              | false =>
                rw [if_pos (show zt_bi false = 0 from rfl)]
                exact G false
              | true =>
                rw [if_neg (show ¬ zt_bi true = 0 by decide), zm_e (zm_f16 hM), zm_e ry]
                cases y with
                | false =>
                  rw [if_pos (show zt_bi false = 0 from rfl)]
                  exact G false
                | true =>
                  rw [if_neg (show ¬ zt_bi true = 0 by decide)]
                  exact G true
            · rw [if_neg c3, zm_e (zm_f16 hM), zm_e rx, if_neg c3]
              cases x with
              | false =>
                rw [if_pos (show zt_bi false = 0 from rfl), zm_e (zm_f16 hM), zm_e ry]
                cases y with
                | false =>
                  rw [if_pos (show zt_bi false = 0 from rfl)]
                  exact G false
                | true =>
                  rw [if_neg (show ¬ zt_bi true = 0 by decide)]
                  exact G true
              | true =>
                rw [if_neg (show ¬ zt_bi true = 0 by decide)]
                exact G true
/-- whether a TEST holds -/
def zt_hd (c : Nat → Int) (f : Int → Int) : Bool := if c 4 = 0 then decide (f 0 < 3) && (decide (f 3 = 1) && (decide (f 4 = 1) && decide (f 1 < 8))) else zt_ev f (zm_cd c) []
/-- codes as they come -/
def zt_ck (c : Nat → Int) : Prop := ∀ x ∈ zm_cd c, x < 100000
theorem zt_holds {h : zv_H} {c : Nat → Int} (hM : zm_M h) (hc : zv_I h 348 = c) (w : zm_Wh c) (ck : zt_ck c) (d : Nat) : zm_R (C9_holds (d + 2) 347 h) (fun q => q.1 = zt_bi (zt_hd c (fun i => zv_I h 358 i.toNat)) ∧ zm_F [359] [] h q.2) := by
  refine zm_cI (P := fun v h' => v = zt_bi (zt_hd c (fun i => zv_I h 358 i.toNat)) ∧ zm_F [359] [] h h') (lC9_holds (zm_ob hM)) ?_
  have rf : ∀ i : Int, 0 ≤ i → i < 6 → zv_aI h 358 i = some (zv_I h 358 i.toNat) := fun i i0 i1 => zm_aI hM zm_l358 rfl i0 (by omega)
  rw [qE9_holds, zm_e (zm_f0 hM), zm_e (zm_aI hM zm_l348 rfl (by decide) (by decide)), hc]
  by_cases c1 : c (Int.toNat 4) = 0
  · have z : ∀ b : Bool, zt_hd c (fun i => zv_I h 358 i.toNat) = b → zm_R (some (some (zv_i (zt_bi b)), h)) (zm_I fun v h' => v = zt_bi (zt_hd c (fun i => zv_I h 358 i.toNat)) ∧ zm_F [359] [] h h') := fun b e => zm_iI ⟨by rw [e], zm_F_r _ _ h⟩
    have eh : zt_hd c (fun i => zv_I h 358 i.toNat) = (decide (zv_I h 358 (Int.toNat 0) < 3) && (decide (zv_I h 358 (Int.toNat 3) = 1) && (decide (zv_I h 358 (Int.toNat 4) = 1) && decide (zv_I h 358 (Int.toNat 1) < 8)))) := if_pos c1
    rw [if_pos c1, zm_e (zm_f15 hM), zm_e (rf 0 (by decide) (by decide))]
    refine zm_if (fun q0 => ?_) (fun q0 => z false (by rw [eh, decide_eq_false q0]; rfl))
    rw [zm_e (zm_f15 hM), zm_e (rf 3 (by decide) (by decide))]
    refine zm_if (fun q3 => ?_) (fun q3 => z false (by rw [eh, decide_eq_true q0, decide_eq_false q3]; rfl))
    rw [zm_e (zm_f15 hM), zm_e (rf 4 (by decide) (by decide))]
    refine zm_if (fun q4 => ?_) (fun q4 => z false (by rw [eh, decide_eq_true q0, decide_eq_true q3, decide_eq_false q4]; rfl))
    rw [zm_e (zm_f15 hM), zm_e (rf 1 (by decide) (by decide))]
    exact zm_if (fun q1 => z true (by rw [eh, decide_eq_true q0, decide_eq_true q3, decide_eq_true q4, decide_eq_true q1]; rfl)) (fun q1 => z false (by rw [eh, decide_eq_true q0, decide_eq_true q3, decide_eq_true q4, decide_eq_false q1]; rfl))
  · rw [if_neg c1]
    obtain ⟨_, w2, w3, _⟩ := w
    have hph : zm_ph (zm_cd c) 0 := by
      rcases w3 with q | q
      · exact absurd q c1
      · exact q
    have hlen : (zm_cd c).length = (c 4).toNat := by
      unfold zm_cd
      rw [List.length_map, List.length_range]
    obtain ⟨h', e1, e3⟩ := zt_holds_l d (zm_cd c) 0 [] h hM (fun j x hx => by
      refine ⟨?_, ck x (List.mem_of_getElem? hx)⟩
      have hj := zm_lt_of_get hx
      rw [hlen] at hj
      unfold zm_cd at hx
      rw [List.getElem?_map, List.getElem?_range hj] at hx
      rw [hc, Nat.zero_add]
      exact Option.some.inj hx) (by rw [hc, hlen]; omega) (by omega) (Nat.le_refl _) hph (fun k b hb => by cases hb)
    have eh : zt_hd c (fun i => zv_I h 358 i.toNat) = zt_ev (fun i => zv_I h 358 i.toNat) (zm_cd c) [] := if_neg c1
    rw [show L9_holds_60 (d + 1) 347 0 0 h = _ from e1, ← eh]
    exact zm_iI ⟨rfl, e3⟩
/-- near, as numbers -/
def zt_nr (c : Nat → Int) (p a b n : Int) : Bool := if a = 0 then (if zm_o c p 2 = 0 then decide (b = zv_w (zm_o c p 4 + zm_o c p 5)) else decide (b = zm_o c p 4)) else (if zm_o c p 2 = 0 then decide (zv_w (b + n) = zv_w (zm_o c p 4 + zm_o c p 5)) else (decide (b = zm_o c p 4) || decide (zv_w (b + n) = zm_o c p 4)))
theorem zt_dd {p : Prop} [Decidable p] {h : zv_H} : (if p then (some (some (zv_i (1 : Int)), h) : zv_O) else some (some (zv_i (0 : Int)), h)) = some (some (zv_i (zt_bi (decide p))), h) := by
  by_cases q : p
  · rw [if_pos q, decide_eq_true q]; rfl
  · rw [if_neg q, decide_eq_false q]; rfl
theorem zt_isNear {h : zv_H} (hM : zm_M h) (d : Nat) (a b n : Int) {p : Int} (hp : 0 ≤ p ∧ p ≤ 48) : C9_isNear (d + 2) 347 a b n p h = some (zt_bi (zt_nr (zv_I h 348) p a b n), h) := by
  refine lC9_isNear (zm_ob hM) ?_
  rw [qE9_isNear, zm_e (zm_of hM d hp (by decide))]
  dsimp only
  unfold zt_nr
  by_cases c1 : zm_o (zv_I h 348) p 2 = 0
  · rw [if_pos c1, qL9_isNear_15, zm_e (zm_of hM d hp (by decide)), zm_e (zm_of hM d hp (by decide))]
    dsimp only
    by_cases c2 : a = 0
    · rw [if_pos c2, if_neg (by decide), if_pos c2, if_pos c1, zt_dd]
    · rw [if_neg c2, if_neg (by decide), if_neg c2, if_pos c1, zt_dd]
  · rw [if_neg c1, qL9_isNear_15, zm_e (zm_of hM d hp (by decide)), zm_e (zm_of hM d hp (by decide))]
    dsimp only
    by_cases c2 : a = 0
    · rw [if_pos c2, if_pos rfl, if_pos c2, if_neg c1, zt_dd]
    · rw [if_neg c2, if_pos rfl, if_neg c2, if_neg c1, zt_dd]
      by_cases c3 : b = zm_o (zv_I h 348) p 4
      · rw [if_pos c3, decide_eq_true c3, Bool.true_or]; rfl
      · rw [if_neg c3, decide_eq_false c3, Bool.false_or]
/-- how deep a state lies -/
def zt_dp (c : Nat → Int) (s n : Int) : Prop := ∃ l, zm_Ln c (s :: l) s ∧ n = l.length
/-- what is asked of a new act behind here -/
def zt_fa (c : Nat → Int) (n1 n2 a b n : Int) (i : Int) : Int := if i = 0 then zv_w (c 1 - zm_o c (c 0) 3) else if i = 1 then zv_w (zv_w (n1 - n2) + 1) else if i = 2 then a else if i = 3 then (if zm_o c (c 0) 2 = a then 1 else 0) else if i = 4 then zt_bi (zt_nr c (c 0) a b n) else n
def zt_jn (c : Nat → Int) (n1 n2 a b n : Int) : Bool := decide (zm_ed c (c 0)) && zt_hd c (zt_fa c n1 n2 a b n)
theorem zt_ev_cg {f g : Int → Int} (hfg : ∀ i : Int, 0 ≤ i → i < 6 → f i = g i) : ∀ (r : List Int) (st : List Bool), zt_ev f r st = zt_ev g r st
  | [], st => rfl
  | v :: r, st => by
    by_cases c1 : 0 ≤ v
    · have hm := zm_tmod (n := 6) c1 (by decide)
      rw [zt_ev_p c1, zt_ev_p c1, hfg _ hm.1 hm.2, zt_ev_cg hfg r]
    · by_cases c2 : v = -1
      · subst c2
        cases st with
        | nil => rfl
        | cons b st => rw [zt_ev_n, zt_ev_n, zt_ev_cg hfg r]
      · cases st with
        | nil =>
          show (if 0 ≤ v then _ else if v = -1 then _ else _) = (if 0 ≤ v then _ else if v = -1 then _ else _)
          simp only [if_neg c1, if_neg c2]
        | cons y st =>
          cases st with
          | nil =>
            show (if 0 ≤ v then _ else if v = -1 then _ else _) = (if 0 ≤ v then _ else if v = -1 then _ else _)
            simp only [if_neg c1, if_neg c2]
          | cons x st => rw [zt_ev_2 c1 c2, zt_ev_2 c1 c2, zt_ev_cg hfg r]
theorem zt_hd_cg {c : Nat → Int} {f g : Int → Int} (hfg : ∀ i : Int, 0 ≤ i → i < 6 → f i = g i) : zt_hd c f = zt_hd c g := by
  unfold zt_hd
  rw [zt_ev_cg hfg, hfg 0 (by decide) (by decide), hfg 1 (by decide) (by decide), hfg 3 (by decide) (by decide), hfg 4 (by decide) (by decide)]
theorem zt_joins {h : zv_H} {c : Nat → Int} (hM : zm_M h) (hc : zv_I h 348 = c) (w : zm_W c) (ck : zt_ck c) (d : Nat) (a b n : Int) : zm_R (C9_joins (d + 3) 347 a b n h) (fun q => (∃ n1 n2, zt_dp c (c 0) n1 ∧ (zm_ed c (c 0) → zt_dp c (zm_o c (c 0) 6) n2) ∧ q.1 = zt_bi (zt_jn c n1 n2 a b n)) ∧ zm_F [358, 359] [] h q.2) := by
  refine zm_cI (P := fun v h' => (∃ n1 n2, zt_dp c (c 0) n1 ∧ (zm_ed c (c 0) → zt_dp c (zm_o c (c 0) 6) n2) ∧ v = zt_bi (zt_jn c n1 n2 a b n)) ∧ zm_F [358, 359] [] h h') (lC9_joins (zm_ob hM)) ?_
  obtain ⟨w1, w2, w3⟩ := w
  obtain ⟨l, l1, l2, l3, l4⟩ := zm_W_l w1 w2
  have hp := w2.1
  rw [qE9_joins, zm_e (zm_here hM _), hc]
  dsimp only
  rw [zm_e (zm_isEdit hM _ (by omega)), hc]
  dsimp only
  by_cases c1 : zm_ed c (c 0)
  · have h0 : c 0 ≠ 0 := by
      intro q
      rw [q] at c1
      have := w1.2.1.2.2.1
      rcases c1 with q2 | q2
      · rw [this] at q2
        cases q2
      · rw [this] at q2
        cases q2
    have hf := l1.2.2.1 h0
    obtain ⟨fa, fb, fe, fl⟩ := zm_Ln_s l1.1 _ hf.1
    have flen := congrArg List.length fe
    rw [List.length_cons, List.length_append, List.length_cons] at flen
    rw [if_pos c1, if_neg (by decide), zm_e (zm_f15 hM), zm_e (zm_f0 hM), zm_e (zm_aI hM zm_l348 rfl (by decide) (by decide)), zm_e (zm_of hM _ (by omega) (by decide)), hc]
    dsimp only
    rw [zm_e (zm_wI hM zm_l358 rfl (by decide) (by decide) _)]
    generalize ev0 : zv_w (c (Int.toNat 1) - zm_o c (c 0) 3) = v0
    have f1 : zm_F [358, 359] [] h (zv_sI h 358 (Int.toNat 0) v0) := zm_F_I (zm_F_r _ _ h) rfl _ _
    have k1 : zv_I (zv_sI h 358 (Int.toNat 0) v0) 358 = zm_u (zv_I h 358) 0 v0 := zm_ss _ _ _ _
    generalize zv_sI h 358 (Int.toNat 0) v0 = h1 at f1 k1
    have hM1 := zm_F_M f1 hM
    have e1 : zv_I h1 348 = c := (zm_F_a f1 348).trans hc
    have hl1 : zm_Ln (zv_I h1 348) (c 0 :: l) (c 0) := by
      rw [e1]
      exact l1.1
    have hl2 : zm_Ln (zv_I h1 348) (zm_o c (c 0) 6 :: fb) (zm_o c (c 0) 6) := by
      rw [e1]
      exact fl
    rw [zm_e (zm_f15 hM1), zm_e (zm_depthOf hM1 (d + 0) hl1 (by omega))]
    dsimp only
    rw [zm_e (zm_of hM1 _ (by omega) (by decide)), e1]
    dsimp only
    rw [zm_e (zm_depthOf hM1 (d + 0) hl2 (by omega))]
    dsimp only
    rw [zm_e (zm_wI hM1 zm_l358 rfl (by decide) (by decide) _)]
    generalize ev1 : zv_w (zv_w ((l.length : Int) - (fb.length : Int)) + 1) = v1
    have f2 : zm_F [358, 359] [] h (zv_sI h1 358 (Int.toNat 1) v1) := zm_F_I f1 rfl _ _
    have k2 : zv_I (zv_sI h1 358 (Int.toNat 1) v1) 358 = zm_u (zv_I h1 358) 1 v1 := zm_ss _ _ _ _
    generalize zv_sI h1 358 (Int.toNat 1) v1 = h2 at f2 k2
    have hM2 := zm_F_M f2 hM
    rw [zm_e (zm_f15 hM2), zm_e (zm_wI hM2 zm_l358 rfl (by decide) (by decide) _)]
    have f3 : zm_F [358, 359] [] h (zv_sI h2 358 (Int.toNat 2) a) := zm_F_I f2 rfl _ _
    have k3 : zv_I (zv_sI h2 358 (Int.toNat 2) a) 358 = zm_u (zv_I h2 358) 2 a := zm_ss _ _ _ _
    generalize zv_sI h2 358 (Int.toNat 2) a = h3 at f3 k3
    have hM3 := zm_F_M f3 hM
    have e3 : zv_I h3 348 = c := (zm_F_a f3 348).trans hc
    rw [zm_e (zm_f15 hM3), zm_e (zm_of hM3 _ (by omega) (by decide)), e3]
    dsimp only
    have l92 : ∀ v : Int, v = (if zm_o c (c 0) 2 = a then 1 else 0) → zm_R (L9_joins_92 (d + 2) 347 a b n (c 0) 358 3 v h3) (zm_I fun v h' => (∃ n1 n2, zt_dp c (c 0) n1 ∧ (zm_ed c (c 0) → zt_dp c (zm_o c (c 0) 6) n2) ∧ v = zt_bi (zt_jn c n1 n2 a b n)) ∧ zm_F [358, 359] [] h h') := by
      intro v3 ev3
      have f4 : zm_F [358, 359] [] h (zv_sI h3 358 (Int.toNat 3) v3) := zm_F_I f3 rfl _ _
      have k4 : zv_I (zv_sI h3 358 (Int.toNat 3) v3) 358 = zm_u (zv_I h3 358) 3 v3 := zm_ss _ _ _ _
      rw [qL9_joins_92, zm_e (zm_wI hM3 zm_l358 rfl (by decide) (by decide) _)]
      generalize zv_sI h3 358 (Int.toNat 3) v3 = h4 at f4 k4
      have hM4 := zm_F_M f4 hM
      have e4 : zv_I h4 348 = c := (zm_F_a f4 348).trans hc
      rw [zm_e (zm_f15 hM4), zm_e (zt_isNear hM4 d a b n (p := c 0) (by omega)), e4]
      dsimp only
      have l115 : ∀ v : Int, v = zt_bi (zt_nr c (c 0) a b n) → zm_R (L9_joins_115 (d + 2) 347 n 358 4 v h4) (zm_I fun v h' => (∃ n1 n2, zt_dp c (c 0) n1 ∧ (zm_ed c (c 0) → zt_dp c (zm_o c (c 0) 6) n2) ∧ v = zt_bi (zt_jn c n1 n2 a b n)) ∧ zm_F [358, 359] [] h h') := by
        intro v4 ev4
        have f5 : zm_F [358, 359] [] h (zv_sI h4 358 (Int.toNat 4) v4) := zm_F_I f4 rfl _ _
        have k5 : zv_I (zv_sI h4 358 (Int.toNat 4) v4) 358 = zm_u (zv_I h4 358) 4 v4 := zm_ss _ _ _ _
        rw [qL9_joins_115, zm_e (zm_wI hM4 zm_l358 rfl (by decide) (by decide) _)]
        generalize zv_sI h4 358 (Int.toNat 4) v4 = h5 at f5 k5
        have hM5 := zm_F_M f5 hM
        have f6 : zm_F [358, 359] [] h (zv_sI h5 358 (Int.toNat 5) n) := zm_F_I f5 rfl _ _
        have k6 : zv_I (zv_sI h5 358 (Int.toNat 5) n) 358 = zm_u (zv_I h5 358) 5 n := zm_ss _ _ _ _
        rw [zm_e (zm_f15 hM5), zm_e (zm_wI hM5 zm_l358 rfl (by decide) (by decide) _)]
        generalize zv_sI h5 358 (Int.toNat 5) n = h6 at f6 k6
        have hM6 := zm_F_M f6 hM
        obtain ⟨⟨b7, h7⟩, e7, q7, f7⟩ := zt_holds hM6 ((zm_F_a f6 348).trans hc) w3 ck d
        rw [zm_e e7]
        dsimp only at q7 f7 ⊢
        have ef : zt_hd c (fun i => zv_I h6 358 i.toNat) = zt_hd c (zt_fa c l.length fb.length a b n) := zt_hd_cg (fun i i0 i1 => by
          rw [k6, k5, k4, k3, k2, k1]
          unfold zm_u zt_fa
          by_cases z5 : i = 5
          · subst z5; rfl
          · by_cases z4 : i = 4
            · subst z4; exact ev4
            · by_cases z3 : i = 3
              · subst z3; exact ev3
              · by_cases z2 : i = 2
                · subst z2; rfl
                · by_cases z1 : i = 1
                  · subst z1; exact ev1.symm
                  · have z0 : i = 0 := by omega
                    subst z0
                    exact ev0.symm)
        rw [ef] at q7
        rw [if_pos (by rw [q7]; exact zt_bi01 _)]
        refine zm_iI ⟨⟨l.length, fb.length, ⟨l, l1.1, rfl⟩, fun _ => ⟨fb, fl, rfl⟩, ?_⟩, zm_F_t f6 (zm_F_s f7 rfl rfl)⟩
        rw [q7]
        unfold zt_jn
        rw [decide_eq_true c1, Bool.true_and]
      refine zm_if (fun q => l115 0 q.symm) (fun q => l115 1 ?_)
      rcases zt_bi01 (zt_nr c (c 0) a b n) with z | z
      · exact absurd z q
      · exact z.symm
    exact zm_if (fun q => l92 1 (by rw [if_pos q])) (fun q => l92 0 (by rw [if_neg q]))
  · rw [if_neg c1, if_pos rfl]
    refine zm_iI ⟨⟨l.length, 0, ⟨l, l1.1, rfl⟩, fun q => absurd q c1, ?_⟩, zm_F_r _ _ h⟩
    unfold zt_jn
    rw [decide_eq_false c1, Bool.false_and]
    rfl
