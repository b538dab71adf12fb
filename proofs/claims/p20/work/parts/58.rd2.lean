/-! ===== the reference: what is read off a reckoned row ===== -/
def zm_SA : List Nat := [351, 352, 353, 354, 355]
def zm_SB : List Nat := [10, 11, 12]
theorem zm_sees_st {h : zv_H} {c : Nat → Int} (hM : zm_M h) (hc : zv_I h 348 = c) (d : Nat) {s : Int} {l : List Int} (h1 : zm_W1 c s l) (h2 : l.length ≤ 47) (h3 : zm_G0 c (s :: l)) (h4 : ∀ t ∈ s :: l, zm_o c t 2 = 1 → ∀ p ∈ zm_tk c t, p ∈ zm_row c (s :: l)) : zm_R (C9_sees (d + 4) 347 s h) (fun h' => zm_F [351, 352, 353, 354, 355] [10, 11, 12] h h' ∧ zm_Sn h' c (s :: l)) :=
  zm_sees hM hc d h1.1.1.2.1 h1.1 (by rw [List.length_cons]; omega) h3 h4
theorem zm_Sn_F {A B : List Nat} {h h' : zv_H} {c : Nat → Int} {l : List Int} (s : zm_Sn h c l) (f : zm_F A B h h') (a1 : A.contains 351 = false := by rfl) (a2 : A.contains 352 = false := by rfl) (a3 : A.contains 353 = false := by rfl) (a4 : A.contains 354 = false := by rfl) (a5 : A.contains 355 = false := by rfl) (b1 : B.contains 10 = false := by rfl) (b2 : B.contains 11 = false := by rfl) (b3 : B.contains 12 = false := by rfl) : zm_Sn h' c l := by
  obtain ⟨⟨s1, s2⟩, s3, s4, s5, s6⟩ := s
  refine ⟨⟨(zm_F_g f 10 b1).trans s1, fun k x hx => ?_⟩, zm_rw_of s3 (zm_F_g f 11 b2) (zm_F_a f 352 a2) (zm_F_a f 353 a3), fun x hx => ?_, fun k x hx => ?_, (zm_F_g f 12 b3).trans s6⟩
  · rw [zm_F_a f 351 a1]
    exact s2 k x hx
  · rw [zm_F_a f 354 a4]
    exact s4 x hx
  · rw [zm_F_a f 355 a5]
    exact s5 k x hx
def zm_inc (q : Int) : Int := if q < 0 then -1 else q + 1
/-- where the n-th stands of those that one sees -/
def zm_rp {α : Type} (f : α → Bool) : List α → Int → Int
  | [], _ => -1
  | x :: r, n => if f x = true then (if n = 0 then 0 else zm_inc (zm_rp f r (n - 1))) else zm_inc (zm_rp f r n)
theorem zm_rp_ge {α : Type} (f : α → Bool) : ∀ (r : List α) (n : Int), -1 ≤ zm_rp f r n ∧ zm_rp f r n < r.length
  | [], n => by
    show -1 ≤ (-1 : Int) ∧ (-1 : Int) < ((0 : Nat) : Int)
    omega
  | x :: r, n => by
    have h1 := zm_rp_ge f r n
    have h2 := zm_rp_ge f r (n - 1)
    unfold zm_rp zm_inc
    rw [List.length_cons]
    split
    · split
      · omega
      · split
        · omega
        · omega
    · split
      · omega
      · omega
theorem zm_rp_in {α : Type} (f : α → Bool) : ∀ (r : List α) (n : Nat), n < (r.filter f).length → 0 ≤ zm_rp f r n ∧ r[(zm_rp f r n).toNat]? = (r.filter f)[n]?
  | [], n, h => by
    exact absurd h (Nat.not_lt_zero _)
  | x :: r, n, h => by
    have ex : zm_rp f (x :: r) (n : Int) = if f x = true then (if (n : Int) = 0 then 0 else zm_inc (zm_rp f r ((n : Int) - 1))) else zm_inc (zm_rp f r n) := rfl
    rw [ex]
    by_cases c1 : f x = true
    · rw [List.filter_cons_of_pos c1] at h ⊢
      rw [if_pos c1]
      by_cases c2 : (n : Int) = 0
      · have c3 : n = 0 := by omega
        rw [if_pos c2, c3]
        exact ⟨Int.le_refl _, rfl⟩
      · obtain ⟨m, rfl⟩ : ∃ m, n = m + 1 := ⟨n - 1, by omega⟩
        rw [List.length_cons] at h
        have ih := zm_rp_in f r m (by omega)
        have e : ((m + 1 : Nat) : Int) - 1 = m := by omega
        rw [if_neg c2, e]
        unfold zm_inc
        rw [if_neg (by omega), List.getElem?_cons_succ, show (zm_rp f r m + 1).toNat = (zm_rp f r m).toNat + 1 by omega, List.getElem?_cons_succ]
        exact ⟨by omega, ih.2⟩
    · rw [List.filter_cons_of_neg c1] at h ⊢
      have ih := zm_rp_in f r n h
      rw [if_neg c1]
      unfold zm_inc
      rw [if_neg (by omega), show (zm_rp f r n + 1).toNat = (zm_rp f r n).toNat + 1 by omega, List.getElem?_cons_succ]
      exact ⟨by omega, ih.2⟩
theorem zm_rowPlace_l {h : zv_H} {row : List (Int × Int)} (hM : zm_M h) (hn : row.length ≤ 640) (d : Nat) (f : Int × Int → Bool) (h11 : zv_I h 347 11 = row.length) (hs : ∀ (k : Nat) (x : Int × Int), row[k]? = some x → zv_I h 355 k = if f x = true then 1 else 0) : ∀ (b a : List (Int × Int)), a ++ b = row → ∀ n : Int, -1000 ≤ n + (a.length : Int) → n < 2000000000 → L9_rowPlace_4 d 347 n a.length h = some (some (zv_i (if zm_rp f b n < 0 then -1 else a.length + zm_rp f b n)), h)
  | [], a, e, n, _, _ => by
    rw [List.append_nil] at e
    rw [qL9_rowPlace_4, zm_e (zm_gI hM 11), h11, e, if_neg (by omega)]
    rw [show zm_rp f [] n = -1 from rfl, if_pos (by decide)]
  | x :: b, a, e, n, n1, n2 => by
    have hlen : row.length = a.length + (b.length + 1) := by rw [← e, List.length_append, List.length_cons]
    have hx : row[a.length]? = some x := by
      rw [← e, List.getElem?_append_right (Nat.le_refl _), Nat.sub_self]
      rfl
    have e' : (a ++ [x]) ++ b = row := by
      rw [List.append_assoc]
      exact e
    have el : (((a ++ [x]).length : Nat) : Int) = (a.length : Int) + 1 := by
      rw [List.length_append]
      rfl
    have w1 : zv_w ((a.length : Int) + 1) = (((a ++ [x]).length : Nat) : Int) := by
      rw [zm_w (by omega), el]
    have ex : zm_rp f (x :: b) n = if f x = true then (if n = 0 then 0 else zm_inc (zm_rp f b (n - 1))) else zm_inc (zm_rp f b n) := rfl
    have fin : ∀ m : Int, (if zm_rp f b m < 0 then (-1 : Int) else ((a ++ [x]).length : Int) + zm_rp f b m) = if zm_inc (zm_rp f b m) < 0 then -1 else (a.length : Int) + zm_inc (zm_rp f b m) := by
      intro m
      unfold zm_inc
      by_cases q : zm_rp f b m < 0
      · rw [if_pos q, if_pos q, if_pos (by decide)]
      · rw [if_neg q, if_neg q, if_neg (by omega), el]
        omega
    rw [qL9_rowPlace_4, zm_e (zm_gI hM 11), h11, if_pos (by omega), zm_e (zm_f9 hM), zm_e (zm_aB hM zm_l355 (Or.inl rfl) rfl (by omega) (by omega))]
    rw [show ((a.length : Int)).toNat = a.length by omega, hs _ x hx, w1, ex]
    by_cases c1 : f x = true
    · rw [if_pos c1, if_neg (by decide), if_pos c1]
      by_cases c2 : n = 0
      · rw [if_pos c2, if_pos c2, if_neg (by decide), Int.add_zero]
      · rw [if_neg c2, if_neg c2, zm_w (by omega), show n + -1 = n - 1 by omega, zm_rowPlace_l hM hn d f h11 hs b (a ++ [x]) e' (n - 1) (by rw [el]; omega) (by omega), fin]
    · rw [if_neg c1, if_pos rfl, if_neg c1, zm_rowPlace_l hM hn d f h11 hs b (a ++ [x]) e' n (by rw [el]; omega) (by omega), fin]
theorem zm_rowPlace {h : zv_H} {c : Nat → Int} {l : List Int} (hM : zm_M h) (d : Nat) (hs : zm_Sn h c l) (hn : (zm_row c l).length ≤ 640) {n : Int} (n1 : 0 ≤ n) (n2 : n < 1000000) : C9_rowPlace (d + 1) 347 n h = some (zm_rp (zm_sn c l) (zm_row c l) n, h) := by
  refine lC9_rowPlace (zm_ob hM) ?_
  have h2 := zm_rp_ge (zm_sn c l) (zm_row c l) n
  rw [qE9_rowPlace, show L9_rowPlace_4 d 347 n 0 h = _ from zm_rowPlace_l hM hn d (zm_sn c l) hs.2.1.1 hs.2.2.2.1 (zm_row c l) [] rfl n (by show -1000 ≤ n + (0 : Int); omega) (by omega)]
  by_cases q : zm_rp (zm_sn c l) (zm_row c l) n < 0
  · rw [if_pos q, show zm_rp (zm_sn c l) (zm_row c l) n = -1 by omega]
  · rw [if_neg q, show ((([] : List (Int × Int)).length : Nat) : Int) = 0 from rfl, Int.zero_add]
/-- the letter itself -/
def zm_lt (c : Nat → Int) (x : Int × Int) : Int := zm_o c x.1 (12 + x.2)
theorem zm_letterIn {h : zv_H} {c : Nat → Int} {row : List (Int × Int)} (hM : zm_M h) (hc : zv_I h 348 = c) (d : Nat) (hr : zm_rw h row) (hn : row.length ≤ 640) {k : Nat} {x : Int × Int} (hx : row[k]? = some x) (h1 : 0 ≤ x.1 ∧ x.1 ≤ 48) (h2 : 0 ≤ x.2 ∧ x.2 < 64) : C9_letterIn (d + 2) 347 k h = some (zm_lt c x, h) := by
  refine lC9_letterIn (zm_ob hM) ?_
  have hk := zm_lt_of_get hx
  have h3 := hr.2 k x hx
  rw [qE9_letterIn, zm_e (zm_f6 hM), zm_e (zm_aI hM zm_l352 rfl (by omega) (by omega)), zm_e (zm_f7 hM), zm_e (zm_aI hM zm_l353 rfl (by omega) (by omega))]
  rw [show ((k : Int)).toNat = k by omega, h3.1, h3.2, zm_w (by omega), zm_e (zm_of hM d h1 (by omega)), hc]
  rfl
/-- of the letters of a row that is as it must be -/
theorem zm_row_ok {c : Nat → Int} {l : List Int} (hl : ∀ t ∈ l, 0 ≤ t ∧ t ≤ 48) (g : zm_G0 c l) : ∀ p ∈ zm_row c l, (0 ≤ p.1 ∧ p.1 ≤ 48) ∧ 0 ≤ p.2 ∧ p.2 < 40 := by
  intro p hp
  refine ⟨hl _ (zm_row_mem hp).1, ?_⟩
  revert hp
  have key : ∀ {l : List Int}, zm_G0 c l → p ∈ zm_row c l → 0 ≤ p.2 ∧ p.2 < 40 := by
    intro l
    induction l with
    | nil => exact fun _ h => by cases h
    | cons t b ih =>
      intro g hp
      by_cases hb : b = []
      · subst hb
        have e : t = 0 := Option.some.inj g.2.1
        rw [zm_row_1, zm_rs_mem, e] at hp
        have := g.2.2.1
        omega
      · rw [zm_row_c c t hb] at hp
        obtain ⟨g1, g2, _⟩ := zm_G0_t hb g
        by_cases c1 : zm_o c t 2 = 0
        · rw [if_pos c1, zm_ins_mem] at hp
          rcases hp with hp | hp
          · exact ih g1 hp
          · rw [zm_rs_mem] at hp
            have := g.2.2.2.2 t List.mem_cons_self g2 (Or.inl c1)
            omega
        · rw [if_neg c1] at hp
          exact ih g1 hp
  exact key g
theorem zm_lettersOf {h : zv_H} {c : Nat → Int} (hM : zm_M h) (d : Nat) {s : Int} {l : List Int} (hs : zm_R (C9_sees (d + 4) 347 s h) (fun h' => zm_F [351, 352, 353, 354, 355] [10, 11, 12] h h' ∧ zm_Sn h' c l)) : zm_R (C9_lettersOf (d + 5) 347 s h) (fun q => q.1 = ((zm_row c l).filter (zm_sn c l)).length ∧ zm_F [351, 352, 353, 354, 355] [10, 11, 12] h q.2 ∧ zm_Sn q.2 c l) := by
  refine zm_cI (P := fun v h' => v = ((zm_row c l).filter (zm_sn c l)).length ∧ zm_F [351, 352, 353, 354, 355] [10, 11, 12] h h' ∧ zm_Sn h' c l) (lC9_lettersOf (zm_ob hM)) ?_
  obtain ⟨h', e, f, n⟩ := hs
  rw [qE9_lettersOf, zm_e e, zm_e (zm_gI (zm_F_M f hM) 12)]
  exact zm_iI ⟨n.2.2.2.2, f, n⟩
/-- letters go into cells -/
theorem zm_copies_l (d : Nat) {c : Nat → Int} {row : List (Int × Int)} (hn : row.length ≤ 640) (f : Int × Int → Bool) (hok : ∀ p ∈ row, (0 ≤ p.1 ∧ p.1 ≤ 48) ∧ 0 ≤ p.2 ∧ p.2 < 40) {r : Nat} (hr : r = 356 ∨ r = 357) : ∀ (b a : List (Int × Int)), a ++ b = row → ∀ h : zv_H, zm_M h → zv_I h 348 = c → zm_rw h row → (∀ (k : Nat) (x : Int × Int), row[k]? = some x → zv_I h 355 k = if f x = true then 1 else 0) → (∀ (k : Nat) (x : Int × Int), (a.filter f)[k]? = some x → zv_I h r k = zm_lt c x) → ∃ h', L9_copies_10 (d + 2) 347 r ((a.filter f).length : Int) a.length h = L9_copies_10 (d + 2) 347 r ((row.filter f).length : Int) row.length h' ∧ zm_F [r] [] h h' ∧ (∀ (k : Nat) (x : Int × Int), (row.filter f)[k]? = some x → zv_I h' r k = zm_lt c x)
  | [], a, e, h, _, _, _, _, ha => by
    rw [List.append_nil] at e
    subst e
    exact ⟨h, rfl, zm_F_r _ _ h, ha⟩
  | x :: b, a, e, h, hM, hc, hrw, hs, ha => by
    have hlen : row.length = a.length + (b.length + 1) := by rw [← e, List.length_append, List.length_cons]
    have hx : row[a.length]? = some x := by
      rw [← e, List.getElem?_append_right (Nat.le_refl _), Nat.sub_self]
      rfl
    have hxm := hok x (List.mem_of_getElem? hx)
    have e' : (a ++ [x]) ++ b = row := by
      rw [List.append_assoc]
      exact e
    have hle : (a.filter f).length ≤ a.length := List.length_filter_le f a
    have w1 : zv_w ((a.length : Int) + 1) = (((a ++ [x]).length : Nat) : Int) := by
      rw [zm_w (by omega), List.length_append]
      rfl
    rw [qL9_copies_10, zm_e (zm_gI hM 11), hrw.1, if_pos (by omega), zm_e (zm_f9 hM), zm_e (zm_aB hM zm_l355 (Or.inl rfl) rfl (by omega) (by omega))]
    rw [show ((a.length : Int)).toNat = a.length by omega, hs _ x hx, w1]
    by_cases c1 : f x = true
    · rw [if_pos c1, if_neg (by decide), zm_e (zm_letterIn hM hc d hrw hn hx hxm.1 (by omega))]
      dsimp only
      have hl : zv_lay r = (2, 640) := by
        rcases hr with q | q
        · rw [q]
          exact zm_l356
        · rw [q]
          exact zm_l357
      have hb : Nat.ble r 372 = true := by
        rcases hr with q | q
        · rw [q]
          rfl
        · rw [q]
          rfl
      have e347 : Nat.beq r 347 = false := by
        rcases hr with q | q
        · rw [q]
          rfl
        · rw [q]
          rfl
      have o : ∀ r', (r' = 348 ∨ r' = 352 ∨ r' = 353 ∨ r' = 355 ∨ r' = 347) → Nat.beq r' r = false := by
        intro r' h'
        rcases hr with q | q
        · rw [q]
          rcases h' with q | q | q | q | q
          all_goals rw [q]; rfl
        · rw [q]
          rcases h' with q | q | q | q | q
          all_goals rw [q]; rfl
      have w2 : zv_w (((a.filter f).length : Int) + 1) = ((((a ++ [x]).filter f).length : Nat) : Int) := by
        rw [zm_w (by omega), List.filter_append, List.length_append, List.filter_cons_of_pos c1]
        rfl
      rw [zm_e (zm_wI hM hl hb (by omega) (by omega) _), w2]
      obtain ⟨h', i1, i2, i3⟩ := zm_copies_l d hn f hok hr b (a ++ [x]) e' (zv_sI h r (((a.filter f).length : Int)).toNat (zm_lt c x)) hM ((zm_so h _ _ (o _ (Or.inl rfl))).trans hc) (zm_rw_of hrw (by rw [zm_so h _ _ (o _ (Or.inr (Or.inr (Or.inr (Or.inr rfl)))))]) (zm_so h _ _ (o _ (Or.inr (Or.inl rfl)))) (zm_so h _ _ (o _ (Or.inr (Or.inr (Or.inl rfl)))))) (fun k y hy => by rw [zm_so h _ _ (o _ (Or.inr (Or.inr (Or.inr (Or.inl rfl)))))]; exact hs k y hy) (fun k y hy => by
        rw [List.filter_append, List.filter_cons_of_pos c1] at hy
        rw [zm_ss]
        by_cases q : k < (a.filter f).length
        · rw [List.getElem?_append_left q] at hy
          rw [zm_u_o _ _ (by omega)]
          exact ha k y hy
        · rw [List.getElem?_append_right (by omega)] at hy
          have h9 := zm_lt_of_get hy
          have h8 : k = (a.filter f).length := by
            have h9' : k - (a.filter f).length < 1 := h9
            omega
          rw [h8, Nat.sub_self] at hy
          have ey : x = y := Option.some.inj hy
          rw [h8, show (((a.filter f).length : Int)).toNat = (a.filter f).length by omega, zm_u_s, ey])
      refine ⟨h', i1, zm_F_t (zm_F_I (zm_F_r _ _ h) ?_ _ _ e347) i2, i3⟩
      rw [List.contains_iff_mem]
      exact List.mem_singleton.mpr rfl
    · have w2 : ((a.filter f).length : Int) = ((((a ++ [x]).filter f).length : Nat) : Int) := by
        rw [List.filter_append, List.length_append, List.filter_cons_of_neg c1]
        rfl
      rw [if_neg c1, if_pos rfl, w2]
      exact zm_copies_l d hn f hok hr b (a ++ [x]) e' h hM hc hrw hs (fun k y hy => by
        rw [List.filter_append, List.filter_cons_of_neg c1, List.filter_nil, List.append_nil] at hy
        exact ha k y hy)
theorem zm_copies {h : zv_H} {c : Nat → Int} (hM : zm_M h) (hc : zv_I h 348 = c) (d : Nat) {s : Int} {l : List Int} (hl : ∀ t ∈ l, 0 ≤ t ∧ t ≤ 48) (g : zm_G0 c l) (hn : l.length ≤ 49) (hs : zm_R (C9_sees (d + 4) 347 s h) (fun h' => zm_F [351, 352, 353, 354, 355] [10, 11, 12] h h' ∧ zm_Sn h' c l)) {r : Nat} (hr : r = 356 ∨ r = 357) : zm_R (C9_copies (d + 5) 347 s r h) (fun q => q.1 = ((zm_row c l).filter (zm_sn c l)).length ∧ zm_F [r, 351, 352, 353, 354, 355] [10, 11, 12] h q.2 ∧ zm_Sn q.2 c l ∧ ∀ (k : Nat) (x : Int × Int), ((zm_row c l).filter (zm_sn c l))[k]? = some x → zv_I q.2 r k = zm_lt c x) := by
  refine zm_cI (P := fun v h' => v = ((zm_row c l).filter (zm_sn c l)).length ∧ zm_F [r, 351, 352, 353, 354, 355] [10, 11, 12] h h' ∧ zm_Sn h' c l ∧ ∀ (k : Nat) (x : Int × Int), ((zm_row c l).filter (zm_sn c l))[k]? = some x → zv_I h' r k = zm_lt c x) (lC9_copies (zm_ob hM)) ?_
  obtain ⟨h1, e, f, n⟩ := hs
  have hM1 := zm_F_M f hM
  have hle := zm_row_le g
  obtain ⟨h', i1, i2, i3⟩ := zm_copies_l (d + 2) (c := c) (row := zm_row c l) (by omega) (zm_sn c l) (zm_row_ok hl g) hr (zm_row c l) [] rfl h1 hM1 ((zm_F_a f 348).trans hc) n.2.1 n.2.2.2.1 (fun k x hx => by
    have := zm_lt_of_get hx
    exact absurd this (Nat.not_lt_zero _))
  have n2 : zm_Sn h' c l := by
    rcases hr with q | q
    · rw [q] at i2
      exact zm_Sn_F n i2
    · rw [q] at i2
      exact zm_Sn_F n i2
  rw [qE9_copies, zm_e e, show L9_copies_10 (d + 4) 347 r 0 0 h1 = _ from i1, qL9_copies_10, zm_e (zm_gI (zm_F_M i2 hM1) 11), n2.2.1.1, if_neg (by omega)]
  refine zm_iI ⟨rfl, ?_, n2, i3⟩
  rcases hr with q | q
  · subst q
    exact zm_F_t (zm_F_s f rfl rfl) (zm_F_s i2 rfl rfl)
  · subst q
    exact zm_F_t (zm_F_s f rfl rfl) (zm_F_s i2 rfl rfl)
