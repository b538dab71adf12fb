/-! 64.cut -/
section
/-- what putting answers: refused, nothing changed; or a new state -/
theorem zm_putNow {h : zv_H} {c : Nat → Int} (hM : zm_M h) (hc : zv_I h 348 = c) (w : zm_W c) (d : Nat) {m : Nat} (hm : m ≤ 12) (h19 : zv_I h 347 19 = m) (place : Int) : zm_R (C9_putNow (d + 6) 347 place h) (fun q => zm_F [348, 351, 352, 353, 354, 355, 358, 359] [3, 10, 11, 12] h q.2 ∧ zm_W (zv_I q.2 348) ∧ ((q.1 = -1 ∧ zv_I q.2 348 = c) ∨ ((0 ≤ q.1 ∧ q.1 ≤ 47) ∧ zm_o c q.1 0 ≠ 1 ∧ zm_Nw c (zv_I q.2 348) q.1 ∧ ∃ l, zm_W1 c (c 0) l ∧ zm_Pt c (zv_I q.2 348) (c 0 :: l) q.1 place m (zv_I h 360)))) := by
  refine zm_cI (P := fun v h' => zm_F [348, 351, 352, 353, 354, 355, 358, 359] [3, 10, 11, 12] h h' ∧ zm_W (zv_I h' 348) ∧ ((v = -1 ∧ zv_I h' 348 = c) ∨ ((0 ≤ v ∧ v ≤ 47) ∧ zm_o c v 0 ≠ 1 ∧ zm_Nw c (zv_I h' 348) v ∧ ∃ l, zm_W1 c (c 0) l ∧ zm_Pt c (zv_I h' 348) (c 0 :: l) v place m (zv_I h 360)))) (lC9_putNow (zm_ob hM)) ?_
  obtain ⟨l, hl, hl2, g, gt⟩ := zm_W_l w.1 w.2.1
  obtain ⟨⟨n, h1⟩, e1, en, f1, hSn⟩ := zm_lettersOf hM d (zm_sees_st hM hc d hl hl2 g gt)
  dsimp only at en f1 hSn
  have hM1 := zm_F_M f1 hM
  have c1 : zv_I h1 348 = c := (zm_F_a f1 348).trans hc
  have hrl := zm_row_le g
  rw [List.length_cons] at hrl
  have hfl := List.length_filter_le (zm_sn c (c 0 :: l)) (zm_row c (c 0 :: l))
  have h19' : zv_I h1 347 19 = m := (zm_F_g f1 19).trans h19
  have refu : ∀ v : Int, zm_R ((C9_refuse (d + 5) 347 v h1).bind fun q => (some (some (zv_i q.1), q.2) : zv_O)) (zm_I fun v h' => zm_F [348, 351, 352, 353, 354, 355, 358, 359] [3, 10, 11, 12] h h' ∧ zm_W (zv_I h' 348) ∧ ((v = -1 ∧ zv_I h' 348 = c) ∨ ((0 ≤ v ∧ v ≤ 47) ∧ zm_o c v 0 ≠ 1 ∧ zm_Nw c (zv_I h' 348) v ∧ ∃ l, zm_W1 c (c 0) l ∧ zm_Pt c (zv_I h' 348) (c 0 :: l) v place m (zv_I h 360)))) := by
    intro v
    rw [zm_e (zm_refuse hM1 _ v)]
    have e : zv_I (zv_sI h1 347 3 v) 348 = c := (zm_so h1 _ _).trans c1
    exact zm_iI ⟨zm_F_f (zm_F_s f1 rfl rfl) rfl _, by rw [e]; exact w, Or.inl ⟨rfl, e⟩⟩
  rw [qE9_putNow, zm_e (zm_here hM _), hc]
  dsimp only
  rw [zm_e e1]
  dsimp only
  refine zm_gb (zm_isIn _ place 0 n) (fun _ => ?_) (fun hp => ?_)
  · rw [qL9_putNow_25]
    exact refu 1
  · dsimp only
    rw [zm_e (zm_gI hM1 19), h19']
    refine zm_if (fun _ => ?_) (fun hm0 => ?_)
    · rw [qL9_putNow_25]
      exact refu 1
    · rw [zm_e (zm_states hM1 _ (by rw [c1]; exact w.1.1)), c1]
      dsimp only
      refine zm_if (fun _ => refu 3) (fun hns => ?_)
      rw [zm_e (zm_gI hM1 19), h19', zm_w (by omega)]
      refine zm_if (fun hcn => ?_) (fun _ => refu 6)
      obtain ⟨s, es, s1, _, s3⟩ := zm_free hM1 (d + 3) (by rw [c1]; exact hns)
      rw [c1] at s3
      rw [zm_e es]
      dsimp only
      have go : ∀ row : Int, ((place = 0 ∧ row = -1) ∨ (place ≠ 0 ∧ row = zm_rp (zm_sn c (c 0 :: l)) (zm_row c (c 0 :: l)) (place - 1))) → zm_R (L9_putNow_84 (d + 5) 347 place s row h1) (zm_I fun v h' => zm_F [348, 351, 352, 353, 354, 355, 358, 359] [3, 10, 11, 12] h h' ∧ zm_W (zv_I h' 348) ∧ ((v = -1 ∧ zv_I h' 348 = c) ∨ ((0 ≤ v ∧ v ≤ 47) ∧ zm_o c v 0 ≠ 1 ∧ zm_Nw c (zv_I h' 348) v ∧ ∃ l, zm_W1 c (c 0) l ∧ zm_Pt c (zv_I h' 348) (c 0 :: l) v place m (zv_I h 360)))) := by
        intro row hrow
        refine zm_mono (zm_put84 hM1 c1 w (d + 1) hl g gt hSn s1 s3 hm h19' (by omega) (by omega) hrow) ?_
        rintro ⟨ov, h'⟩ ⟨v, ev, f2, w2, e2, n2, p2⟩
        refine ⟨v, ev, zm_F_t (zm_F_s f1 rfl rfl) f2, w2, Or.inr ⟨by rw [e2]; exact s1, by rw [e2]; exact s3, by rw [e2]; exact n2, l, hl, ?_⟩⟩
        rw [e2, ← zm_F_a f1 360]
        exact p2
      refine zm_if (fun hp0 => go (-1) (Or.inl ⟨hp0, rfl⟩)) (fun hp0 => ?_)
      rw [zm_w (by omega), zm_e (zm_rowPlace hM1 _ hSn (by omega) (by omega) (by omega))]
      exact go _ (Or.inr ⟨hp0, rfl⟩)
/-- a cut's cells -/
def zm_Ct (c c' : Nat → Int) (l : List Int) (s place m : Int) : Prop := zm_o c' s 2 = 1 ∧ zm_o c' s 3 = c 1 ∧ zm_o c' s 4 = place ∧ zm_o c' s 5 = m ∧ (zm_o c' s 6 = s ∨ (zm_o c' s 6 = zm_o c (c 0) 6 ∧ c 0 ≠ 0)) ∧ zm_o c' s 8 = -1 ∧ ∀ k : Nat, (k : Int) < m → ∃ x : Int × Int, ((zm_row c l).filter (zm_sn c l))[place.toNat + k]? = some x ∧ zm_o c' s (52 + 2 * (k : Int)) = x.1 ∧ zm_o c' s (52 + 2 * (k : Int) + 1) = x.2
theorem zm_cut78 (d : Nat) {s : Int} (hs : 0 ≤ s ∧ s ≤ 48) (place : Int) (h0 : 0 ≤ place) (g : Nat → Int) (m : Nat) (hm : m ≤ 12) {c : Nat → Int} {l : List Int} (hn : (zm_row c l).length ≤ 640) (hp : place + m ≤ ((zm_row c l).filter (zm_sn c l)).length) : ∀ (n i : Nat) (h : zv_H), i + n = m → zm_M h → zm_Sn h c l → (∀ w : Int, 0 ≤ w → w < 52 → zm_o (zv_I h 348) s w = zm_o g s w) → (∀ k : Nat, k < i → ∃ x : Int × Int, ((zm_row c l).filter (zm_sn c l))[place.toNat + k]? = some x ∧ zm_o (zv_I h 348) s (52 + 2 * (k : Int)) = x.1 ∧ zm_o (zv_I h 348) s (52 + 2 * (k : Int) + 1) = x.2) → (∀ k : Nat, ¬ (432 + 76 * s.toNat ≤ k ∧ k < 432 + 76 * s.toNat + 76) → zv_I h 348 k = g k) → ∃ h', L9_cutNow_78 (d + 1) 347 place m s i h = L9_cutNow_78 (d + 1) 347 place m s m h' ∧ zm_F [348] [] h h' ∧ (∀ w : Int, 0 ≤ w → w < 52 → zm_o (zv_I h' 348) s w = zm_o g s w) ∧ (∀ k : Nat, k < m → ∃ x : Int × Int, ((zm_row c l).filter (zm_sn c l))[place.toNat + k]? = some x ∧ zm_o (zv_I h' 348) s (52 + 2 * (k : Int)) = x.1 ∧ zm_o (zv_I h' 348) s (52 + 2 * (k : Int) + 1) = x.2) ∧ (∀ k : Nat, ¬ (432 + 76 * s.toNat ≤ k ∧ k < 432 + 76 * s.toNat + 76) → zv_I h' 348 k = g k)
  | 0, i, h, hi, _, _, h1, h2, h3 => by
    have e : i = m := by omega
    subst e
    exact ⟨h, rfl, zm_F_r _ _ h, h1, h2, h3⟩
  | n + 1, i, h, hi, hM, hS, h1, h2, h3 => by
    obtain ⟨x, hx⟩ : ∃ x, ((zm_row c l).filter (zm_sn c l))[place.toNat + i]? = some x := ⟨_, List.getElem?_eq_getElem (by omega)⟩
    have hrp := zm_rp_in (zm_sn c l) (zm_row c l) (place.toNat + i) (by omega)
    have hrp2 := zm_rp_ge (zm_sn c l) (zm_row c l) ((place.toNat + i : Nat) : Int)
    have hx2 := hrp.2.trans hx
    have hxx := hS.2.1.2 _ x hx2
    have ep : place + (i : Int) = ((place.toNat + i : Nat) : Int) := by omega
    have hfl := List.length_filter_le (zm_sn c l) (zm_row c l)
    rw [qL9_cutNow_78, if_pos (by omega), zm_w (x := place + (i : Int)) (by omega), ep, zm_e (zm_rowPlace hM d hS hn (by omega) (by omega))]
    dsimp only
    have w1 : zv_w (52 + zv_w (2 * (i : Int))) = 52 + 2 * (i : Int) := by
      rw [zm_w (x := 2 * (i : Int)) (by omega), zm_w (by omega)]
    rw [zm_e (zm_f6 hM), zm_e (zm_aI hM zm_l352 rfl (by omega) (by omega)), hxx.1, w1, zm_e (zm_sets hM d hs (by omega) _)]
    have f1 : zm_F [348] [] h (zv_sI h 348 (432 + 76 * s.toNat + (52 + 2 * (i : Int)).toNat) x.1) := zm_F_I (zm_F_r _ _ h) rfl _ _
    have S1 : zv_I (zv_sI h 348 (432 + 76 * s.toNat + (52 + 2 * (i : Int)).toNat) x.1) 348 = zm_os (zv_I h 348) s (52 + 2 * (i : Int)) x.1 := zm_ss _ _ _ _
    have y1 : zv_I (zv_sI h 348 (432 + 76 * s.toNat + (52 + 2 * (i : Int)).toNat) x.1) 353 = zv_I h 353 := zm_so _ _ _
    generalize zv_sI h 348 (432 + 76 * s.toNat + (52 + 2 * (i : Int)).toNat) x.1 = h1' at f1 S1 y1
    have hM1 := zm_F_M f1 hM
    rw [zm_e (zm_f7 hM1), zm_e (zm_aI hM1 zm_l353 rfl (by omega) (by omega)), y1, hxx.2, zm_w (x := 52 + 2 * (i : Int) + 1) (by omega), zm_e (zm_sets hM1 d hs (by omega) _), zm_w (by omega)]
    have f2 : zm_F [348] [] h (zv_sI h1' 348 (432 + 76 * s.toNat + (52 + 2 * (i : Int) + 1).toNat) x.2) := zm_F_I f1 rfl _ _
    have S2 : zv_I (zv_sI h1' 348 (432 + 76 * s.toNat + (52 + 2 * (i : Int) + 1).toNat) x.2) 348 = zm_os (zm_os (zv_I h 348) s (52 + 2 * (i : Int)) x.1) s (52 + 2 * (i : Int) + 1) x.2 := by
      rw [← S1]
      exact zm_ss _ _ _ _
    generalize zv_sI h1' 348 (432 + 76 * s.toNat + (52 + 2 * (i : Int) + 1).toNat) x.2 = h2' at f2 S2
    have O : ∀ w : Int, 0 ≤ w → w < 76 → w ≠ 52 + 2 * (i : Int) → w ≠ 52 + 2 * (i : Int) + 1 → zm_o (zv_I h2' 348) s w = zm_o (zv_I h 348) s w := by
      intro w w0 w1 wa wb
      rw [S2, zm_os_o _ _ hs.1 (by omega) hs.1 ⟨w0, w1⟩ (fun q => wb q.2), zm_os_o _ _ hs.1 (by omega) hs.1 ⟨w0, w1⟩ (fun q => wa q.2)]
    obtain ⟨h', i1, i2, i3⟩ := zm_cut78 d hs place h0 g m hm hn hp n (i + 1) h2' (by omega) (zm_F_M f2 hM) (zm_Sn_F hS f2) (fun w w0 w1 => by
      rw [O w w0 (by omega) (by omega) (by omega)]
      exact h1 w w0 w1) (fun k hk => by
      by_cases q : k = i
      · subst q
        refine ⟨x, hx, ?_, ?_⟩
        · rw [S2, zm_os_o _ _ hs.1 (by omega) hs.1 (by omega) (fun q => by omega), zm_os_s]
        · rw [S2, zm_os_s]
      · obtain ⟨y, y1, y2, y3⟩ := h2 k (by omega)
        exact ⟨y, y1, by rw [O _ (by omega) (by omega) (by omega) (by omega)]; exact y2, by rw [O _ (by omega) (by omega) (by omega) (by omega)]; exact y3⟩) (fun k hk => by
      rw [S2, zm_os_k _ _ (by omega) hk, zm_os_k _ _ (by omega) hk]
      exact h3 k hk)
    exact ⟨h', i1, zm_F_t f2 i2, i3⟩
theorem zm_cutNow {h : zv_H} {c : Nat → Int} (hM : zm_M h) (hc : zv_I h 348 = c) (w : zm_W c) (d : Nat) (place many : Int) (hpl : place < 2147483648) : zm_R (C9_cutNow (d + 6) 347 place many h) (fun q => zm_F [348, 351, 352, 353, 354, 355, 358, 359] [3, 10, 11, 12] h q.2 ∧ zm_W (zv_I q.2 348) ∧ ((q.1 = -1 ∧ zv_I q.2 348 = c) ∨ ((0 ≤ q.1 ∧ q.1 ≤ 47) ∧ zm_o c q.1 0 ≠ 1 ∧ zm_Nw c (zv_I q.2 348) q.1 ∧ ∃ l, zm_W1 c (c 0) l ∧ zm_Ct c (zv_I q.2 348) (c 0 :: l) q.1 place many))) := by
  refine zm_cI (P := fun v h' => zm_F [348, 351, 352, 353, 354, 355, 358, 359] [3, 10, 11, 12] h h' ∧ zm_W (zv_I h' 348) ∧ ((v = -1 ∧ zv_I h' 348 = c) ∨ ((0 ≤ v ∧ v ≤ 47) ∧ zm_o c v 0 ≠ 1 ∧ zm_Nw c (zv_I h' 348) v ∧ ∃ l, zm_W1 c (c 0) l ∧ zm_Ct c (zv_I h' 348) (c 0 :: l) v place many))) (lC9_cutNow (zm_ob hM)) ?_
  obtain ⟨l, hl, hl2, g, gt⟩ := zm_W_l w.1 w.2.1
  have hrl := zm_row_le g
  rw [List.length_cons] at hrl
  have hfl := List.length_filter_le (zm_sn c (c 0 :: l)) (zm_row c (c 0 :: l))
  have refu : ∀ (v : Int) (h1 : zv_H), zm_F [351, 352, 353, 354, 355] [10, 11, 12] h h1 → zm_R ((C9_refuse (d + 5) 347 v h1).bind fun q => (some (some (zv_i q.1), q.2) : zv_O)) (zm_I fun v h' => zm_F [348, 351, 352, 353, 354, 355, 358, 359] [3, 10, 11, 12] h h' ∧ zm_W (zv_I h' 348) ∧ ((v = -1 ∧ zv_I h' 348 = c) ∨ ((0 ≤ v ∧ v ≤ 47) ∧ zm_o c v 0 ≠ 1 ∧ zm_Nw c (zv_I h' 348) v ∧ ∃ l, zm_W1 c (c 0) l ∧ zm_Ct c (zv_I h' 348) (c 0 :: l) v place many))) := by
    intro v h1 f1
    rw [zm_e (zm_refuse (zm_F_M f1 hM) _ v)]
    have e : zv_I (zv_sI h1 347 3 v) 348 = c := (zm_so h1 _ _).trans ((zm_F_a f1 348).trans hc)
    exact zm_iI ⟨zm_F_f (zm_F_s f1 rfl rfl) rfl _, by rw [e]; exact w, Or.inl ⟨rfl, e⟩⟩
  rw [qE9_cutNow]
  refine zm_gb (zm_isIn _ many 1 12) (fun _ => ?_) (fun hmn => ?_)
  · rw [qL9_cutNow_14]
    exact refu 1 h (zm_F_r _ _ h)
  dsimp only
  refine zm_if (fun _ => ?_) (fun hp0 => ?_)
  · rw [qL9_cutNow_14]
    exact refu 1 h (zm_F_r _ _ h)
  obtain ⟨⟨n, h1⟩, e1, en, f1, hSn⟩ := zm_lettersOf hM d (zm_sees_st hM hc d hl hl2 g gt)
  dsimp only at en f1 hSn
  have hM1 := zm_F_M f1 hM
  have c1 : zv_I h1 348 = c := (zm_F_a f1 348).trans hc
  rw [zm_e (zm_here hM _), hc]
  dsimp only
  rw [zm_e e1]
  dsimp only
  rw [zm_w (by omega)]
  refine zm_if (fun hfit => ?_) (fun _ => refu 5 h1 f1)
  rw [zm_e (zm_states hM1 _ (by rw [c1]; exact w.1.1)), c1]
  dsimp only
  refine zm_if (fun _ => refu 3 h1 f1) (fun hns => ?_)
  obtain ⟨s, es, hs, _, hd⟩ := zm_free hM1 (d + 3) (by rw [c1]; exact hns)
  rw [c1] at hd
  rw [zm_e es]
  dsimp only
  have h0 : 0 ≤ c 0 ∧ c 0 ≤ 47 := w.2.1.1
  have hnst : ¬ zm_st c s := fun q => hd q.2
  have hne : s ≠ c 0 := fun e => hnst (by rw [e]; exact w.2.1)
  obtain ⟨⟨j, h2⟩, e2, q2, f2⟩ := zm_joins hM1 c1 w (d + 2) 1 place many
  dsimp only at q2 f2
  have hM2 := zm_F_M f2 hM1
  have c2 : zv_I h2 348 = c := (zm_F_a f2 348).trans c1
  rw [zm_e e2]
  dsimp only
  obtain ⟨h3, e3, f3, b3⟩ := zm_begins hM2 c2 (d + 3) (s := s) (by omega) h0 hne 1 place many j
  have hM3 := zm_F_M f3 hM2
  obtain ⟨⟨b30, b31, b32, b33, b34, b35, b36⟩, b38, b39, b3k⟩ := b3
  rw [zm_e e3]
  obtain ⟨m, em⟩ : ∃ m : Nat, many = m := ⟨many.toNat, by omega⟩
  subst em
  obtain ⟨h4, i1, i2, i3, i4, i5⟩ := zm_cut78 (d + 4) (s := s) (by omega) place (by omega) (zv_I h3 348) m (by omega) (c := c) (l := c 0 :: l) (by omega) (by omega) m 0 h3 (by omega) hM3 (zm_Sn_F (zm_Sn_F hSn f2) f3) (fun _ _ _ => rfl) (fun k hk => by omega) (fun _ _ => rfl)
  have hM4 := zm_F_M i2 hM3
  have f4 : zm_F [348, 351, 352, 353, 354, 355, 358, 359] [3, 10, 11, 12] h h4 := zm_F_t (zm_F_s f1 rfl rfl) (zm_F_t (zm_F_s f2 rfl rfl) (zm_F_t (zm_F_s f3 rfl rfl) (zm_F_s i2 rfl rfl)))
  rw [show L9_cutNow_78 (d + 5) 347 place m s 0 h3 = _ from i1, qL9_cutNow_78, if_neg (by omega)]
  have k4 : ∀ k : Nat, ¬ (432 + 76 * s.toNat ≤ k ∧ k < 432 + 76 * s.toNat + 76) → zv_I h4 348 k = c k := fun k hk => (i5 k hk).trans ((b3k k hk).trans (by rfl))
  have o4 : ∀ w : Int, 0 ≤ w → w < 52 → zm_o (zv_I h4 348) s w = zm_o (zv_I h3 348) s w := i3
  obtain ⟨h6, e6, f6, c6⟩ := zm_visits hM4 rfl (d + 3) hs
  have c40 : zv_I h4 348 0 = c 0 := k4 0 (by omega)
  rw [if_neg (by rw [c40]; exact hne)] at c6
  obtain ⟨nw, rw6⟩ := zm_Nw_of hs k4 (by rw [o4 0 (by decide) (by decide)]; exact b30) (by rw [o4 1 (by decide) (by decide), b31])
  rw [zm_e e6]
  rw [← c6] at nw rw6
  have a2 : zm_o (zv_I h6 348) s 2 = 1 := by rw [rw6 2 (by decide) (by decide) (by decide), o4 2 (by decide) (by decide), b32]
  have a5 : zm_o (zv_I h6 348) s 5 = m := by rw [rw6 5 (by decide) (by decide) (by decide), o4 5 (by decide) (by decide), b35]
  have a6 : zm_o (zv_I h6 348) s 6 = s ∨ (zm_o (zv_I h6 348) s 6 = zm_o c (c 0) 6 ∧ c 0 ≠ 0) := by
    rw [rw6 6 (by decide) (by decide) (by decide), o4 6 (by decide) (by decide), b36]
    rcases q2 with q | q
    · rw [if_pos q]
      exact Or.inl rfl
    · rw [if_neg (by rw [q.1]; decide)]
      exact Or.inr ⟨rfl, q.2⟩
  have a8 : zm_o (zv_I h6 348) s 8 = -1 := by rw [rw6 8 (by decide) (by decide) (by decide), o4 8 (by decide) (by decide), b38]
  have atk : ∀ k : Nat, (k : Int) < m → ∃ x : Int × Int, ((zm_row c (c 0 :: l)).filter (zm_sn c (c 0 :: l)))[place.toNat + k]? = some x ∧ zm_o (zv_I h6 348) s (52 + 2 * (k : Int)) = x.1 ∧ zm_o (zv_I h6 348) s (52 + 2 * (k : Int) + 1) = x.2 := by
    intro k hk
    obtain ⟨x, x1, x2, x3⟩ := i4 k (by omega)
    exact ⟨x, x1, by rw [rw6 _ (by omega) (by omega) (by omega)]; exact x2, by rw [rw6 _ (by omega) (by omega) (by omega)]; exact x3⟩
  have hagl : ∀ t ∈ c 0 :: l, zm_ag c (zv_I h6 348) t := fun t ht => by
    have hst := hl.2.1.2.2 t ht
    exact zm_Nw_ag nw hst.1.1 (by omega) (fun e => hnst (by rw [← e]; exact hst))
  have hnl : ¬ s ∈ c 0 :: l := fun q => hnst (hl.2.1.2.2 s q)
  obtain ⟨_, _, cnt⟩ := zm_cnt_cut (List.cons_ne_nil _ _) hagl hnl g a2
  have hold := hl.2.2.2.2.2.2
  obtain ⟨W6, _⟩ := zm_W_new w hs hd nw hl a6 (fun _ => by omega) (fun _ p hp => by
    unfold zm_tk at hp
    obtain ⟨k, hk, ek⟩ := List.mem_map.mp hp
    have hk2 := List.mem_range.mp hk
    rw [a5] at hk2
    obtain ⟨x, x1, x2, x3⟩ := atk k (by omega)
    have ex : p = x := by
      rw [← ek, x2, x3]
    rw [ex]
    exact (List.mem_filter.mp (List.mem_of_getElem? x1)).1) (by omega) (by omega)
  refine zm_iI ⟨zm_F_t f4 (zm_F_s f6 rfl rfl), W6, Or.inr ⟨hs, hd, nw, l, hl, a2, ?_, ?_, a5, a6, a8, atk⟩⟩
  · rw [rw6 3 (by decide) (by decide) (by decide), o4 3 (by decide) (by decide), b33]
  · rw [rw6 4 (by decide) (by decide) (by decide), o4 4 (by decide) (by decide), b34]
end
/-! 65.carry -/
section
/-! ===== the reference: carrying, merging ===== -/
def zm_ex (c c' : Nat → Int) : Prop := ∀ t, zm_st c t → zm_st c' t ∧ zm_ag c c' t
theorem zm_ex_r (c : Nat → Int) : zm_ex c c := fun _ q => ⟨q, fun _ _ _ _ => rfl⟩
theorem zm_ex_t {a b c : Nat → Int} (f : zm_ex a b) (g : zm_ex b c) : zm_ex a c := fun t q => ⟨(g t (f t q).1).1, fun w w0 w1 w7 => ((g t (f t q).1).2 w w0 w1 w7).trans ((f t q).2 w w0 w1 w7)⟩
theorem zm_ex_n {c c' : Nat → Int} {s : Int} (hs : 0 ≤ s ∧ s ≤ 47) (hd : zm_o c s 0 ≠ 1) (n : zm_Nw c c' s) : zm_ex c c' := by
  intro t q
  have e : t ≠ s := fun e => hd (by rw [← e]; exact q.2)
  exact ⟨(zm_Nw_st hs n).mpr (Or.inr ⟨e, q⟩), zm_Nw_ag n q.1.1 (by omega) e⟩
/-- what a call that may make one new state leaves -/
def zm_Dn (c : Nat → Int) (v : Int) (c' : Nat → Int) : Prop := zm_W c' ∧ ((v = -1 ∧ c' = c) ∨ ((0 ≤ v ∧ v ≤ 47) ∧ zm_o c v 0 ≠ 1 ∧ zm_Nw c c' v))
theorem zm_Dn_ex {c c' : Nat → Int} {v : Int} (h : zm_Dn c v c') : zm_ex c c' := by
  rcases h.2 with q | q
  · rw [q.2]
    exact zm_ex_r c
  · exact zm_ex_n q.1 q.2.1 q.2.2
theorem zm_plain_l (d : Nat) : ∀ (n i : Nat) (h : zv_H), i + n = 48 → zm_M h → (∀ k : Nat, k < i → zv_I h 362 k = k) → ∃ h', L9_plain_2 d 347 i h = L9_plain_2 d 347 48 h' ∧ zm_F [362] [] h h' ∧ ∀ k : Nat, k < 48 → zv_I h' 362 k = k
  | 0, i, h, hi, _, hk => by
    have e : i = 48 := by omega
    subst e
    exact ⟨h, rfl, zm_F_r _ _ h, hk⟩
  | n + 1, i, h, hi, hM, hk => by
    rw [qL9_plain_2, if_pos (by omega), zm_e (zm_f21 hM), zm_e (zm_wI hM zm_l362 rfl (by omega) (by omega) _), zm_w (by omega)]
    obtain ⟨h', i1, i2, i3⟩ := zm_plain_l d n (i + 1) (zv_sI h 362 ((i : Int)).toNat i) (by omega) hM (fun k hk2 => by
      rw [zm_ss]
      by_cases q : k = i
      · rw [q, show ((i : Int)).toNat = i by omega, zm_u_s]
      · rw [zm_u_o _ _ (by omega)]
        exact hk k (by omega))
    exact ⟨h', i1, zm_F_t (zm_F_I (zm_F_r _ _ h) rfl _ _) i2, i3⟩
theorem zm_plain {h : zv_H} (hM : zm_M h) (d : Nat) : zm_R (C9_plain (d + 1) 347 h) (fun h' => zm_F [362] [] h h' ∧ ∀ k : Nat, k < 48 → zv_I h' 362 k = k) := by
  refine zm_cV (lC9_plain (zm_ob hM)) ?_
  obtain ⟨h', i1, i2, i3⟩ := zm_plain_l d 48 0 h rfl hM (fun k hk => by omega)
  rw [qE9_plain, show L9_plain_2 d 347 0 h = _ from i1, qL9_plain_2, if_neg (by decide)]
  exact zm_iV ⟨i2, i3⟩
/-- whose letters one took live -/
theorem zm_tk_st {c : Nat → Int} (w : zm_Wt c) {s : Int} (hs : zm_st c s) (hk : zm_o c s 2 = 1) {i : Nat} (hi : (i : Int) < zm_o c s 5) : zm_st c (zm_o c s (52 + 2 * (i : Int))) := by
  obtain ⟨l, hl, _⟩ := zm_W_l w hs
  have hp := hl.2.2.2.2.1 hk _ (List.mem_of_getElem? (zm_tk_get c s (i := i) (by omega)))
  have := (zm_row_mem hp).1
  exact hl.2.1.2.2 _ (List.mem_cons_of_mem _ this)
theorem zm_isTaken_l {h : zv_H} {c : Nat → Int} (hM : zm_M h) (hc : zv_I h 348 = c) (w : zm_Wt c) (d : Nat) {s : Int} (hs : zm_st c s) (hk : zm_o c s 2 = 1) (hm : 0 ≤ zm_o c s 5 ∧ zm_o c s 5 ≤ 12) {r : Int} (hr : 0 ≤ r ∧ r < 640) : ∀ n i : Nat, (i : Int) + n = zm_o c s 5 → ∃ v : Int, L9_isTaken_2 (d + 1) 347 s r i h = some (some (zv_i v), h) ∧ (v = 0 ∨ v = 1)
  | 0, i, hi => by
    have h48 := hs.1
    rw [qL9_isTaken_2, zm_e (zm_of hM d (by omega) (by decide)), hc]
    dsimp only
    rw [if_neg (by omega)]
    exact ⟨0, rfl, Or.inl rfl⟩
  | n + 1, i, hi => by
    have h48 := hs.1
    have h49 : (∀ v : Int, v = zm_o c s (52 + 2 * (i : Int)) → 0 ≤ v) ∧ ∀ v : Int, v = zm_o c s (52 + 2 * (i : Int)) → v < 48 := ⟨fun v hv => by rw [hv]; exact (zm_tk_st w hs hk (i := i) (by omega)).1.1, fun v hv => by rw [hv]; exact Int.lt_of_le_of_lt (zm_tk_st w hs hk (i := i) (by omega)).1.2 (by decide)⟩
    have w1 : zv_w (52 + zv_w (2 * (i : Int))) = 52 + 2 * (i : Int) := by
      rw [zm_w (x := 2 * (i : Int)) (by omega), zm_w (by omega)]
    obtain ⟨v, ev, qv⟩ := zm_isTaken_l hM hc w d hs hk hm hr n (i + 1) (by omega)
    have w2 : zv_w ((i : Int) + 1) = ((i + 1 : Nat) : Int) := by
      rw [zm_w (by omega)]
      rfl
    rw [qL9_isTaken_2, zm_e (zm_of hM d (by omega) (by decide)), hc]
    dsimp only
    rw [if_pos (by omega), zm_e (zm_f21 hM), w1, zm_e (zm_of hM d (by omega) (by omega)), hc]
    dsimp only
    rw [zm_e (zm_aI hM zm_l362 rfl (h49.1 _ rfl) (h49.2 _ rfl)), zm_e (zm_f6 hM), zm_e (zm_aI hM zm_l352 rfl hr.1 (by omega)), w2, ev]
    by_cases c1 : zv_I h 362 (zm_o c s (52 + 2 * (i : Int))).toNat = zv_I h 352 r.toNat
    · rw [if_pos c1, zm_w (x := 52 + 2 * (i : Int) + 1) (by omega), zm_e (zm_of hM d (by omega) (by omega)), hc]
      dsimp only
      rw [zm_e (zm_f7 hM), zm_e (zm_aI hM zm_l353 rfl hr.1 (by omega)), ev]
      by_cases c2 : zm_o c s (52 + 2 * (i : Int) + 1) = zv_I h 353 r.toNat
      · rw [if_pos c2]
        exact ⟨1, rfl, Or.inr rfl⟩
      · rw [if_neg c2]
        exact ⟨v, rfl, qv⟩
    · rw [if_neg c1]
      exact ⟨v, rfl, qv⟩
theorem zm_isTaken {h : zv_H} {c : Nat → Int} (hM : zm_M h) (hc : zv_I h 348 = c) (w : zm_Wt c) (d : Nat) {s : Int} (hs : zm_st c s) (hk : zm_o c s 2 = 1) (hm : 0 ≤ zm_o c s 5 ∧ zm_o c s 5 ≤ 12) {r : Int} (hr : 0 ≤ r ∧ r < 640) : ∃ v : Int, C9_isTaken (d + 2) 347 s r h = some (v, h) ∧ (v = 0 ∨ v = 1) := by
  obtain ⟨v, e, q⟩ := zm_isTaken_l hM hc w d hs hk hm hr (zm_o c s 5).toNat 0 (by omega)
  refine ⟨v, lC9_isTaken (zm_ob hM) ?_, q⟩
  rw [qE9_isTaken]
  exact e
/-- of a put or a cut -/
theorem zm_ed_m {c : Nat → Int} (w : zm_Wt c) {s : Int} (hs : zm_st c s) (he : zm_ed c s) : 0 ≤ zm_o c s 5 ∧ zm_o c s 5 ≤ 12 := by
  obtain ⟨l, hl, _⟩ := zm_W_l w hs
  refine hl.2.2.2.1 (fun e => ?_) he
  have := w.2.1.2.2.1
  rw [e] at he
  rcases he with q | q
  · rw [this] at q
    cases q
  · rw [this] at q
    cases q
end
/-! 65b.carry -/
section
theorem zm_carriesCut_l (d : Nat) {c : Nat → Int} (w : zm_W c) {s : Int} (hs : zm_st c s) (hk : zm_o c s 2 = 1) {l : List Int} (hn : (zm_row c l).length ≤ 640) {h : zv_H} (hM : zm_M h) (hc : zv_I h 348 = c) (hS : zm_Sn h c l) : ∀ (n i : Nat) (a b e : Int), i + n = (zm_row c l).length → -1 ≤ a → a ≤ 1000 → 0 ≤ b → b ≤ i → 0 ≤ e → e ≤ i → zm_R (L9_carriesCut_18 (d + 6) 347 s a b e i h) (zm_I fun v h' => zm_F [348, 351, 352, 353, 354, 355, 358, 359] [3, 10, 11, 12] h h' ∧ zm_Dn c v (zv_I h' 348))
  | 0, i, a, b, e, hi, a0, a1, b0, b1, e0, e1 => by
    rw [qL9_carriesCut_18, zm_e (zm_gI hM 11), hS.2.1.1, if_neg (by omega)]
    refine zm_if (fun _ => ?_) (fun _ => ?_)
    · rw [zm_e (zm_refuse hM _ 10)]
      have e : zv_I (zv_sI h 347 3 10) 348 = c := (zm_so h _ _).trans hc
      exact zm_iI ⟨zm_F_f (zm_F_r _ _ h) rfl _, by rw [e]; exact ⟨w, Or.inl ⟨rfl, rfl⟩⟩⟩
    · obtain ⟨⟨v, h1⟩, ev, f1, W1, q1⟩ := zm_cutNow hM hc w d a b (by omega)
      rw [zm_e ev]
      refine zm_iI ⟨f1, W1, ?_⟩
      rcases q1 with q | q
      · exact Or.inl q
      · exact Or.inr ⟨q.1, q.2.1, q.2.2.1⟩
  | n + 1, i, a, b, e, hi, a0, a1, b0, b1, e0, e1 => by
    have j0 : (0 : Int) ≤ (i : Int) := by omega
    have j1 : (i : Int) < ((640 : Nat) : Int) := by omega
    have j2 : (0 : Int) ≤ (i : Int) ∧ (i : Int) < 640 := by omega
    have w1 : zv_w ((i : Int) + 1) = ((i + 1 : Nat) : Int) := by
      rw [zm_w (by omega)]
      rfl
    rw [qL9_carriesCut_18, zm_e (zm_gI hM 11), hS.2.1.1, if_pos (by omega), zm_e (zm_f9 hM), zm_e (zm_aB hM zm_l355 (Or.inl rfl) rfl j0 j1), w1]
    refine zm_if (fun _ => ?_) (fun _ => ?_)
    · exact zm_carriesCut_l d w hs hk hn hM hc hS n (i + 1) a b e (by omega) a0 a1 b0 (by omega) e0 (by omega)
    · obtain ⟨v, ev, qv⟩ := zm_isTaken hM hc w.1 (d + 4) hs hk (zm_ed_m w.1 hs (Or.inr hk)) (r := i) j2
      rw [zm_e ev, zm_w (x := e + 1) (by omega)]
      dsimp only
      have l69 : zm_R (L9_carriesCut_69 (d + 6) 347 s a b e i h) (zm_I fun v h' => zm_F [348, 351, 352, 353, 354, 355, 358, 359] [3, 10, 11, 12] h h' ∧ zm_Dn c v (zv_I h' 348)) := by
        rw [qL9_carriesCut_69, w1, zm_w (x := e + 1) (by omega), zm_w (x := b + 1) (by omega)]
        refine zm_if (fun _ => ?_) (fun _ => ?_)
        · exact zm_carriesCut_l d w hs hk hn hM hc hS n (i + 1) e (b + 1) (e + 1) (by omega) (by omega) (by omega) (by omega) (by omega) (by omega) (by omega)
        · exact zm_carriesCut_l d w hs hk hn hM hc hS n (i + 1) a (b + 1) (e + 1) (by omega) a0 a1 (by omega) (by omega) (by omega) (by omega)
      refine zm_if (fun _ => ?_) (fun _ => ?_)
      · exact zm_carriesCut_l d w hs hk hn hM hc hS n (i + 1) a b (e + 1) (by omega) a0 a1 b0 (by omega) (by omega) (by omega)
      · refine zm_if (fun _ => l69) (fun _ => zm_if (fun _ => l69) (fun _ => ?_))
        rw [zm_e (zm_refuse hM _ 10)]
        have e : zv_I (zv_sI h 347 3 10) 348 = c := (zm_so h _ _).trans hc
        exact zm_iI ⟨zm_F_f (zm_F_r _ _ h) rfl _, by rw [e]; exact ⟨w, Or.inl ⟨rfl, rfl⟩⟩⟩
theorem zm_carriesCut {h : zv_H} {c : Nat → Int} (hM : zm_M h) (hc : zv_I h 348 = c) (w : zm_W c) (d : Nat) {s : Int} (hs : zm_st c s) (hk : zm_o c s 2 = 1) : zm_R (C9_carriesCut (d + 7) 347 s h) (fun q => zm_F [348, 351, 352, 353, 354, 355, 358, 359] [3, 10, 11, 12] h q.2 ∧ zm_Dn c q.1 (zv_I q.2 348)) := by
  refine zm_cI (P := fun v h' => zm_F [348, 351, 352, 353, 354, 355, 358, 359] [3, 10, 11, 12] h h' ∧ zm_Dn c v (zv_I h' 348)) (lC9_carriesCut (zm_ob hM)) ?_
  obtain ⟨l, hl, hl2, g, gt⟩ := zm_W_l w.1 w.2.1
  obtain ⟨h1, e1, f1, hSn⟩ := zm_sees_st hM hc (d + 2) hl hl2 g gt
  have hrl := zm_row_le g
  rw [List.length_cons] at hrl
  rw [qE9_carriesCut, zm_e (zm_here hM _), hc]
  dsimp only
  rw [zm_e e1]
  refine zm_mono (zm_carriesCut_l d w hs hk (by omega) (zm_F_M f1 hM) ((zm_F_a f1 348).trans hc) hSn _ 0 (-1) 0 0 (Nat.zero_add _) (by decide) (by decide) (by decide) (by decide) (by decide) (by decide)) ?_
  rintro ⟨ov, h'⟩ ⟨v, ev, f2, q2⟩
  exact ⟨v, ev, zm_F_t (zm_F_s f1 rfl rfl) f2, q2⟩
end
/-! 65c.carry -/
section
theorem zm_bh {c : Nat → Int} (w : zm_Wt c) {s : Int} (hs : zm_st c s) (h0 : ¬ zm_o c s 8 < 0) : 0 ≤ zm_o c s 8 ∧ zm_o c s 8 < ((48 : Nat) : Int) := by
  obtain ⟨l, hl, _⟩ := zm_W_l w hs
  have hb := hl.2.2.2.2.2.1
  clear hl hs w
  omega
theorem zm_ed_n {c : Nat → Int} (w : zm_Wt c) {s : Int} (hs : zm_st c s) (he : zm_ed c s) : ∃ m : Nat, m ≤ 12 ∧ ∀ x : Int, x = zm_o c s 5 → x = m := by
  have hm := zm_ed_m w hs he
  clear hs w he
  exact ⟨(zm_o c s 5).toNat, by omega, fun x hx => by rw [hx]; omega⟩
theorem zm_carries116 (d : Nat) {c : Nat → Int} (w : zm_W c) {s : Int} (hs : zm_st c s) (place : Int) (m : Nat) (hm : m ≤ 12) : ∀ (n i : Nat) (h : zv_H), i + n = m → zm_M h → zv_I h 348 = c → zv_I h 347 19 = m → zm_R (L9_carries_116 (d + 6) 347 s place i h) (zm_I fun v h' => zm_F [348, 351, 352, 353, 354, 355, 358, 359, 360] [3, 10, 11, 12] h h' ∧ zm_Dn c v (zv_I h' 348))
  | 0, i, h, hi, hM, hc, h19 => by
    rw [qL9_carries_116, zm_e (zm_gI hM 19), h19, if_neg (by omega)]
    obtain ⟨⟨v, h1⟩, ev, f1, W1, q1⟩ := zm_putNow hM hc w d hm h19 place
    rw [zm_e ev]
    refine zm_iI ⟨zm_F_s f1 rfl rfl, W1, ?_⟩
    rcases q1 with q | q
    · exact Or.inl q
    · exact Or.inr ⟨q.1, q.2.1, q.2.2.1⟩
  | n + 1, i, h, hi, hM, hc, h19 => by
    have h48 := hs.1
    have w1 : zv_w ((i : Int) + 1) = ((i + 1 : Nat) : Int) := by
      rw [zm_w (by omega)]
      rfl
    rw [qL9_carries_116, zm_e (zm_gI hM 19), h19, if_pos (by omega), zm_e (zm_f17 hM), zm_w (x := 12 + (i : Int)) (by omega), zm_e (zm_of hM _ (by omega) (by omega)), w1]
    dsimp only
    rw [zm_e (zm_wI hM zm_l360 rfl (by omega) (by omega) _)]
    generalize zm_o (zv_I h 348) s (12 + (i : Int)) = v0
    have f0 : zm_F [348, 351, 352, 353, 354, 355, 358, 359, 360] [3, 10, 11, 12] h (zv_sI h 360 ((i : Int)).toNat v0) := zm_F_I (zm_F_r _ _ h) rfl _ _
    refine zm_mono (zm_carries116 d w hs place m hm n (i + 1) (zv_sI h 360 ((i : Int)).toNat v0) (by omega) hM ((zm_so h _ _).trans hc) h19) ?_
    rintro ⟨ov, h'⟩ ⟨v, ev, f2, q2⟩
    exact ⟨v, ev, zm_F_t f0 f2, q2⟩
theorem zm_carries {h : zv_H} {c : Nat → Int} (hM : zm_M h) (hc : zv_I h 348 = c) (w : zm_W c) (d : Nat) {s : Int} (hs : zm_st c s) (he : zm_ed c s) : zm_R (C9_carries (d + 8) 347 s h) (fun q => zm_F [348, 351, 352, 353, 354, 355, 358, 359, 360] [3, 10, 11, 12, 19] h q.2 ∧ zm_Dn c q.1 (zv_I q.2 348)) := by
  refine zm_cI (P := fun v h' => zm_F [348, 351, 352, 353, 354, 355, 358, 359, 360] [3, 10, 11, 12, 19] h h' ∧ zm_Dn c v (zv_I h' 348)) (lC9_carries (zm_ob hM)) ?_
  have h48 : 0 ≤ s ∧ s ≤ 48 := by
    have := hs.1
    omega
  obtain ⟨m, hm, em⟩ := zm_ed_n w.1 hs he
  have hbs := zm_bh w.1 hs
  rw [qE9_carries, zm_e (zm_of hM _ h48 (by decide)), hc]
  dsimp only
  refine zm_if (fun hk => ?_) (fun _ => ?_)
  · obtain ⟨⟨v, h1⟩, ev, f1, q1⟩ := zm_carriesCut hM hc w d hs hk
    rw [zm_e ev]
    exact zm_iI ⟨zm_F_s f1 rfl rfl, q1⟩
  · obtain ⟨l, hl, hl2, g, gt⟩ := zm_W_l w.1 w.2.1
    obtain ⟨h1, e1, f1, hSn⟩ := zm_sees_st hM hc (d + 3) hl hl2 g gt
    have hM1 := zm_F_M f1 hM
    have c1 : zv_I h1 348 = c := (zm_F_a f1 348).trans hc
    have hrl := zm_row_le g
    rw [List.length_cons] at hrl
    rw [zm_e (zm_here hM _), hc]
    dsimp only
    rw [zm_e e1, zm_e (zm_of hM1 _ h48 (by decide)), c1]
    dsimp only
    have l104 : ∀ place : Int, zm_R (L9_carries_104 (d + 7) 347 s place h1) (zm_I fun v h' => zm_F [348, 351, 352, 353, 354, 355, 358, 359, 360] [3, 10, 11, 12, 19] h h' ∧ zm_Dn c v (zv_I h' 348)) := by
      intro place
      rw [qL9_carries_104, zm_e (zm_of hM1 _ h48 (by decide)), c1]
      dsimp only
      rw [em _ rfl, zm_e (zm_pI hM1 19 _)]
      have f2 : zm_F [348, 351, 352, 353, 354, 355, 358, 359, 360] [3, 10, 11, 12, 19] h1 (zv_sI h1 347 19 (m : Int)) := zm_F_f (zm_F_r _ _ h1) rfl _
      refine zm_mono (zm_carries116 (d + 1) w hs place m hm m 0 (zv_sI h1 347 19 (m : Int)) (Nat.zero_add _) hM1 ((zm_so h1 _ _).trans c1) (by rw [zm_ss, zm_u_s])) ?_
      rintro ⟨ov, h'⟩ ⟨v, ev, f3, q3⟩
      exact ⟨v, ev, zm_F_t (zm_F_s f1 rfl rfl) (zm_F_t f2 (zm_F_s f3 rfl rfl)), q3⟩
    have hrl2 : (zm_row c (c 0 :: l)).length ≤ 640 := by omega
    refine zm_if (fun _ => l104 0) (fun hb0 => ?_)
    rw [zm_e (zm_f21 hM1), zm_e (zm_of hM1 _ h48 (by decide)), c1]
    dsimp only
    rw [zm_e (zm_aI hM1 zm_l362 rfl (hbs hb0).1 (hbs hb0).2), zm_e (zm_of hM1 _ h48 (by decide))]
    dsimp only
    rw [zm_e (zm_rowOf hM1 _ _ _ hSn.2.1 hrl2)]
    dsimp only
    generalize hat : zm_at (zm_row c (c 0 :: l)) (zv_I h1 362 (zm_o c s 8).toNat, zm_o (zv_I h1 348) s 9) = r
    have hr := zm_at_ge (zv_I h1 362 (zm_o c s 8).toNat, zm_o (zv_I h1 348) s 9) (zm_row c (c 0 :: l))
    rw [hat] at hr
    clear hbs em hb0 he hs
    refine zm_if (fun _ => ?_) (fun hr0 => ?_)
    · rw [zm_e (zm_refuse hM1 _ 10)]
      have e : zv_I (zv_sI h1 347 3 10) 348 = c := (zm_so h1 _ _).trans c1
      exact zm_iI ⟨zm_F_f (zm_F_s f1 rfl rfl) rfl _, by rw [e]; exact ⟨w, Or.inl ⟨rfl, rfl⟩⟩⟩
    · have l74 : ∀ (n i : Nat) (p : Int), (i : Int) + n = r + 1 → 0 ≤ p → p ≤ i → zm_R (L9_carries_74 (d + 7) 347 s p r i h1) (zm_I fun v h' => zm_F [348, 351, 352, 353, 354, 355, 358, 359, 360] [3, 10, 11, 12, 19] h h' ∧ zm_Dn c v (zv_I h' 348)) := by
        intro n
        induction n with
        | zero =>
          intro i p hi p0 p1
          rw [qL9_carries_74, if_neg (by omega)]
          exact l104 p
        | succ n ih =>
          intro i p hi p0 p1
          have w1 : zv_w ((i : Int) + 1) = ((i + 1 : Nat) : Int) := by
            rw [zm_w (by omega)]
            rfl
          rw [qL9_carries_74, if_pos (by omega), zm_e (zm_f9 hM1), zm_e (zm_aB hM1 zm_l355 (Or.inl rfl) rfl (by omega) (by omega)), w1, zm_w (x := p + 0) (by omega), zm_w (x := p + 1) (by omega)]
          exact zm_if (fun _ => ih (i + 1) (p + 0) (by omega) (by omega) (by omega)) (fun _ => ih (i + 1) (p + 1) (by omega) (by omega) (by omega))
      exact l74 (r + 1).toNat 0 0 (by omega) (by decide) (by decide)
end
/-! 66.merge -/
section
theorem zm_st48 {c : Nat → Int} {s : Int} (hs : zm_st c s) : 0 ≤ s ∧ s ≤ 48 := by
  have h := hs.1
  clear hs
  omega
theorem zm_carryNow {h : zv_H} {c : Nat → Int} (hM : zm_M h) (hc : zv_I h 348 = c) (w : zm_W c) (d : Nat) (s : Int) : zm_R (C9_carryNow (d + 9) 347 s h) (fun q => zm_F [348, 351, 352, 353, 354, 355, 358, 359, 360, 362] [3, 10, 11, 12, 19] h q.2 ∧ zm_Dn c q.1 (zv_I q.2 348)) := by
  refine zm_cI (P := fun v h' => zm_F [348, 351, 352, 353, 354, 355, 358, 359, 360, 362] [3, 10, 11, 12, 19] h h' ∧ zm_Dn c v (zv_I h' 348)) (lC9_carryNow (zm_ob hM)) ?_
  have refu : ∀ v : Int, zm_R ((C9_refuse (d + 8) 347 v h).bind fun q => (some (some (zv_i q.1), q.2) : zv_O)) (zm_I fun v h' => zm_F [348, 351, 352, 353, 354, 355, 358, 359, 360, 362] [3, 10, 11, 12, 19] h h' ∧ zm_Dn c v (zv_I h' 348)) := by
    intro v
    rw [zm_e (zm_refuse hM _ v)]
    have e : zv_I (zv_sI h 347 3 v) 348 = c := (zm_so h _ _).trans hc
    exact zm_iI ⟨zm_F_f (zm_F_r _ _ h) rfl _, by rw [e]; exact ⟨w, Or.inl ⟨rfl, rfl⟩⟩⟩
  obtain ⟨l, hl, hl2, g, gt⟩ := zm_W_l w.1 w.2.1
  have hl' : zm_Ln (zv_I h 348) (c 0 :: l) (c 0) := by
    rw [hc]
    exact hl.1
  rw [qE9_carryNow]
  refine zm_gb (zm_isState hM _ s) (fun _ => refu 2) (fun hs => ?_)
  rw [hc] at hs
  dsimp only
  rw [zm_e (zm_here hM _), hc]
  dsimp only
  refine zm_gb (zm_isOfLine hM _ s hl') (fun _ => ?_) (fun _ => ?_)
  · dsimp only
    refine zm_gb (zm_isEdit hM _ (zm_st48 hs)) (fun _ => ?_) (fun he => ?_)
    · rw [qL9_carryNow_34]
      exact refu 7
    · rw [hc] at he
      obtain ⟨h1, e1, f1, _⟩ := zm_plain hM (d + 7)
      dsimp only
      rw [zm_e e1]
      obtain ⟨⟨v, h2⟩, e2, f2, q2⟩ := zm_carries (zm_F_M f1 hM) ((zm_F_a f1 348).trans hc) w d hs he
      rw [zm_e e2]
      exact zm_iI ⟨zm_F_t (zm_F_s f1 rfl rfl) (zm_F_s f2 rfl rfl), q2⟩
  · rw [qL9_carryNow_34]
    exact refu 7
/-- those to be carried, and which of them are -/
theorem zm_merge44 (d : Nat) {c : Nat → Int} (w : zm_W c) {l : List Int} (hl : ∀ t ∈ l, zm_st c t) (hn : l.length ≤ 48) : ∀ (b a : List Int), a ++ b = l.reverse → ∀ h : zv_H, zm_M h → zv_I h 348 = c → (∀ (k : Nat) (x : Int), l.reverse[k]? = some x → zv_I h 351 k = x) → (∀ x ∈ l, zv_I h 354 x.toNat = zm_fc c l x) → (∀ (k : Nat) (x : Int), k < a.length → l.reverse[k]? = some x → zv_I h 363 k = x ∧ (zv_I h 364 k ≠ 0 → zm_ed c x)) → ∃ h', L9_mergeNow_44 (d + 3) 347 l.length a.length h = L9_mergeNow_44 (d + 3) 347 l.length l.length h' ∧ zm_F [363, 364] [] h h' ∧ (∀ (k : Nat) (x : Int), l.reverse[k]? = some x → zv_I h' 363 k = x ∧ (zv_I h' 364 k ≠ 0 → zm_ed c x))
  | [], a, e, h, _, _, _, _, hk => by
    rw [List.append_nil] at e
    have el : a.length = l.length := by rw [e, List.length_reverse]
    exact ⟨h, by rw [el], zm_F_r _ _ h, fun k x hx => hk k x (by rw [e]; exact zm_lt_of_get hx) hx⟩
  | t :: b, a, e, h, hM, hc, h351, h354, hk => by
    have hlen : l.length = a.length + (b.length + 1) := by rw [← List.length_reverse (as := l), ← e, List.length_append, List.length_cons]
    have htl : t ∈ l := by
      rw [← List.mem_reverse, ← e]
      exact List.mem_append_right _ List.mem_cons_self
    have hst := hl t htl
    have h48 := zm_st48 hst
    have hx : l.reverse[a.length]? = some t := by
      rw [← e, List.getElem?_append_right (Nat.le_refl _), Nat.sub_self]
      rfl
    have e' : (a ++ [t]) ++ b = l.reverse := by
      rw [List.append_assoc]
      exact e
    have w1 : zv_w ((a.length : Int) + 1) = (((a ++ [t]).length : Nat) : Int) := by
      clear hst
      rw [zm_w (by omega), List.length_append]
      rfl
    have j0 : (0 : Int) ≤ (a.length : Int) := by omega
    have j1 : (a.length : Int) < ((49 : Nat) : Int) := by
      clear hst
      omega
    have j2 : ((a.length : Int)).toNat = a.length := by omega
    have j3 : (a.length : Int) < (l.length : Int) := by
      clear hst
      omega
    have t49 : t < ((49 : Nat) : Int) := by
      clear hst
      omega
    have a1 : ∀ g : zv_H, zm_M g → zv_I g 351 = zv_I h 351 → zv_aI g 351 (a.length : Int) = some t := by
      intro g hg eg
      rw [zm_aI hg zm_l351 rfl j0 j1, j2, eg, h351 _ _ hx]
    have go : ∀ (g : zv_H) (v : Int), zm_F [363, 364] [] h g → zm_M g → zv_I g 363 = zm_u (zv_I h 363) a.length t → zv_I g 364 = zv_I h 364 → (v ≠ 0 → zm_ed c t) → (v = 0 ∨ v = 1) → ∃ h', ((zv_wB g 364 (a.length : Int) v).bind fun g => L9_mergeNow_44 (d + 3) 347 l.length (((a ++ [t]).length : Nat) : Int) g) = L9_mergeNow_44 (d + 3) 347 l.length l.length h' ∧ zm_F [363, 364] [] h h' ∧ (∀ (k : Nat) (x : Int), l.reverse[k]? = some x → zv_I h' 363 k = x ∧ (zv_I h' 364 k ≠ 0 → zm_ed c x)) := by
      intro g v fg hg e363 e364 hv hv01
      have nv : zv_nz v = v := by
        unfold zv_nz
        clear hst
        omega
      rw [zm_e (zm_wB hg zm_l364 rfl j0 j1 v), nv, j2]
      obtain ⟨h', i1, i2, i3⟩ := zm_merge44 d w hl hn b (a ++ [t]) e' (zv_sI g 364 a.length v) hg ((zm_so g _ _).trans ((zm_F_a fg 348).trans hc)) (fun k x hx => by rw [zm_so g _ _, zm_F_a fg 351]; exact h351 k x hx) (fun x hx => by rw [zm_so g _ _, zm_F_a fg 354]; exact h354 x hx) (fun k x hk2 hx2 => by
        rw [zm_so g _ _, zm_ss, e363, e364]
        rw [List.length_append, List.length_singleton] at hk2
        by_cases q : k = a.length
        · rw [q, zm_u_s, zm_u_s]
          rw [q, hx] at hx2
          rw [← Option.some.inj hx2]
          exact ⟨rfl, hv⟩
        · rw [zm_u_o _ _ q, zm_u_o _ _ q]
          clear hst
          exact hk k x (by omega) hx2)
      exact ⟨h', i1, zm_F_t (zm_F_I fg rfl _ _) i2, i3⟩
    rw [qL9_mergeNow_44, if_pos j3, zm_e (zm_f22 hM), zm_e (zm_f5 hM), zm_e (a1 h hM rfl), zm_e (zm_wI hM zm_l363 rfl j0 j1 _), j2, w1]
    have f1 : zm_F [363, 364] [] h (zv_sI h 363 a.length t) := zm_F_I (zm_F_r _ _ h) rfl _ _
    have e363 : zv_I (zv_sI h 363 a.length t) 363 = zm_u (zv_I h 363) a.length t := zm_ss _ _ _ _
    have e364 : zv_I (zv_sI h 363 a.length t) 364 = zv_I h 364 := zm_so _ _ _
    generalize zv_sI h 363 a.length t = h1 at f1 e363 e364
    have hM1 := zm_F_M f1 hM
    have c1 : zv_I h1 348 = c := (zm_F_a f1 348).trans hc
    rw [zm_e (zm_f23 hM1), zm_e (zm_f5 hM1), zm_e (a1 h1 hM1 (zm_F_a f1 351)), zm_e (zm_isEdit hM1 _ h48), c1]
    dsimp only
    by_cases q1 : zm_ed c t
    · rw [if_pos q1, if_neg (by decide), zm_e (zm_f8 hM1), zm_e (zm_f5 hM1), zm_e (a1 h1 hM1 (zm_F_a f1 351)), zm_e (zm_aB hM1 zm_l354 (Or.inl rfl) rfl h48.1 t49)]
      by_cases q2 : zv_I h1 354 t.toNat = 0
      · rw [if_pos q2]
        exact go h1 0 f1 hM1 e363 e364 (fun z => absurd rfl z) (Or.inl rfl)
      · obtain ⟨lh, hlh, _⟩ := zm_W_l w.1 w.2.1
        have hl' : zm_Ln (zv_I h1 348) (c 0 :: lh) (c 0) := by
          rw [c1]
          exact hlh.1
        rw [if_neg q2, zm_e (zm_f5 hM1), zm_e (a1 h1 hM1 (zm_F_a f1 351)), zm_e (zm_here hM1 _), c1]
        dsimp only
        rw [zm_e (zm_isOfLine hM1 _ t hl')]
        dsimp only
        by_cases q3 : t ∈ c 0 :: lh
        · rw [if_pos q3, if_neg (by decide)]
          exact go h1 0 f1 hM1 e363 e364 (fun z => absurd rfl z) (Or.inl rfl)
        · rw [if_neg q3, if_pos rfl]
          exact go h1 1 f1 hM1 e363 e364 (fun _ => q1) (Or.inr rfl)
    · rw [if_neg q1, if_pos rfl]
      exact go h1 0 f1 hM1 e363 e364 (fun z => absurd rfl z) (Or.inl rfl)
theorem zm_merge136 (d : Nat) {c : Nat → Int} {l : List Int} (hl : ∀ t ∈ l, zm_st c t) (hn : l.length ≤ 48) : ∀ (m i : Nat) (n : Int) (h : zv_H), i + m = l.length → zm_M h → zm_W (zv_I h 348) → zm_ex c (zv_I h 348) → (∀ (k : Nat) (x : Int), l.reverse[k]? = some x → zv_I h 363 k = x ∧ (zv_I h 364 k ≠ 0 → zm_ed c x)) → 0 ≤ n → n ≤ i → zm_R (L9_mergeNow_136 (d + 8) 347 l.length n i h) (zm_I fun v h' => zm_F [348, 351, 352, 353, 354, 355, 358, 359, 360, 362] [3, 10, 11, 12, 19, 24] h h' ∧ zm_W (zv_I h' 348) ∧ 0 ≤ v ∧ v ≤ 48)
  | 0, i, n, h, hi, hM, w, _, _, n0, n1 => by
    rw [qL9_mergeNow_136, if_neg (by omega), zm_e (zm_pI hM 3 0)]
    refine zm_iI ⟨zm_F_f (zm_F_r _ _ h) rfl _, ?_, n0, by omega⟩
    rw [zm_so h _ _]
    exact w
  | m + 1, i, n, h, hi, hM, w, ex, hk, n0, n1 => by
    have j0 : (0 : Int) ≤ (i : Int) := by omega
    have j1 : (i : Int) < ((49 : Nat) : Int) := by omega
    have j2 : ((i : Int)).toNat = i := by omega
    have w1 : zv_w ((i : Int) + 1) = ((i + 1 : Nat) : Int) := by
      rw [zm_w (by omega)]
      rfl
    have j3 : (i : Int) < (l.length : Int) := by omega
    have n2 : n ≤ ((i + 1 : Nat) : Int) := by omega
    have n3 : n + 1 ≤ ((i + 1 : Nat) : Int) := by omega
    have wn0 : zv_w (n + 0) = n := by
      rw [zm_w (by omega)]
      omega
    have wn1 : zv_w (n + 1) = n + 1 := zm_w (by omega)
    have n4 : 0 ≤ n + 1 := by omega
    have hi' : (i + 1) + m = l.length := by omega
    obtain ⟨x, hx⟩ : ∃ x, l.reverse[i]? = some x := ⟨_, List.getElem?_eq_getElem (by rw [List.length_reverse]; omega)⟩
    have hxk := hk i x hx
    have hxst : zm_st c x := hl x (List.mem_reverse.mp (List.mem_of_getElem? hx))
    rw [qL9_mergeNow_136, if_pos j3, zm_e (zm_f23 hM), zm_e (zm_aB hM zm_l364 (Or.inl rfl) rfl j0 j1), j2, w1]
    refine zm_if (fun _ => zm_merge136 d hl hn m (i + 1) n h hi' hM w ex hk n0 n2) (fun q0 => ?_)
    have hed : zm_ed (zv_I h 348) x := (zm_ed_cg (ex x hxst).2).mpr (hxk.2 q0)
    obtain ⟨⟨v, h1⟩, e1, f1, q1⟩ := zm_carries hM rfl w d (ex x hxst).1 hed
    dsimp only at f1 q1
    have hM1 := zm_F_M f1 hM
    have v47 : ¬ v < 0 → (0 ≤ x ∧ x < ((48 : Nat) : Int)) := fun _ => by
      have := hxst.1
      clear hxst
      omega
    rw [zm_e (zm_f22 hM), zm_e (zm_aI hM zm_l363 rfl j0 j1), j2, hxk.1, zm_e e1]
    dsimp only
    have l187 : ∀ h2 : zv_H, zm_F [348, 351, 352, 353, 354, 355, 358, 359, 360, 362] [3, 10, 11, 12, 19, 24] h h2 → zv_I h2 348 = zv_I h1 348 → zm_R (L9_mergeNow_187 (d + 8) 347 l.length n i v h2) (zm_I fun v h' => zm_F [348, 351, 352, 353, 354, 355, 358, 359, 360, 362] [3, 10, 11, 12, 19, 24] h h' ∧ zm_W (zv_I h' 348) ∧ 0 ≤ v ∧ v ≤ 48) := by
      intro h2 f2 e2
      have hM2 := zm_F_M f2 hM
      have l198 : ∀ z y : Int, zv_w (n + z) = y → 0 ≤ y → y ≤ ((i + 1 : Nat) : Int) → zm_R (L9_mergeNow_198 (d + 8) 347 l.length i v n z h2) (zm_I fun v h' => zm_F [348, 351, 352, 353, 354, 355, 358, 359, 360, 362] [3, 10, 11, 12, 19, 24] h h' ∧ zm_W (zv_I h' 348) ∧ 0 ≤ v ∧ v ≤ 48) := by
        intro z y ey y0 y1
        have nx : ∀ u : Int, zm_R (L9_mergeNow_136 (d + 8) 347 l.length y (((i + 1 : Nat)) : Int) (zv_sI h2 347 24 u)) (zm_I fun v h' => zm_F [348, 351, 352, 353, 354, 355, 358, 359, 360, 362] [3, 10, 11, 12, 19, 24] h h' ∧ zm_W (zv_I h' 348) ∧ 0 ≤ v ∧ v ≤ 48) := by
          intro u
          have f3 : zm_F [348, 351, 352, 353, 354, 355, 358, 359, 360, 362] [3, 10, 11, 12, 19, 24] h (zv_sI h2 347 24 u) := zm_F_f f2 rfl _
          have e3 : zv_I (zv_sI h2 347 24 u) 348 = zv_I h1 348 := (zm_so h2 _ _).trans e2
          refine zm_mono (zm_merge136 d hl hn m (i + 1) y (zv_sI h2 347 24 u) hi' (zm_F_M f3 hM) (by rw [e3]; exact q1.1) (by rw [e3]; exact zm_ex_t ex (zm_Dn_ex q1)) (fun k x hx => by rw [zm_F_a f3 363, zm_F_a f3 364]; exact hk k x hx) y0 y1) ?_
          rintro ⟨ov, h'⟩ ⟨v', ev, f4, q4⟩
          exact ⟨v', ev, zm_F_t f3 f4, q4⟩
        rw [qL9_mergeNow_198, zm_e (zm_gI hM2 24), ey, w1]
        refine zm_if (fun _ => ?_) (fun _ => ?_)
        · rw [zm_e (zm_pI hM2 24 _)]
          exact nx _
        · rw [zm_e (zm_pI hM2 24 _)]
          exact nx _
      rw [qL9_mergeNow_187]
      exact zm_if (fun _ => l198 0 n wn0 n0 n2) (fun _ => l198 1 (n + 1) wn1 n4 n3)
    refine zm_if (fun _ => l187 h1 (zm_F_s f1 rfl rfl) rfl) (fun qv => ?_)
    have e363 : zv_aI h1 363 (i : Int) = some x := by
      rw [zm_aI hM1 zm_l363 rfl j0 j1, j2, zm_F_a f1 363, hxk.1]
    rw [zm_e (zm_f21 hM1), zm_e (zm_f22 hM1), zm_e e363, zm_e (zm_wI hM1 zm_l362 rfl (v47 qv).1 (v47 qv).2 _)]
    exact l187 _ (zm_F_I (zm_F_s f1 rfl rfl) rfl _ _) (zm_so h1 _ _)
theorem zm_mergeNow {h : zv_H} {c : Nat → Int} (hM : zm_M h) (hc : zv_I h 348 = c) (w : zm_W c) (d : Nat) (s : Int) : zm_R (C9_mergeNow (d + 9) 347 s h) (fun q => zm_F [348, 351, 352, 353, 354, 355, 358, 359, 360, 362, 363, 364] [3, 10, 11, 12, 19, 24] h q.2 ∧ zm_W (zv_I q.2 348) ∧ ((q.1 = -1 ∧ zv_I q.2 348 = c) ∨ (0 ≤ q.1 ∧ q.1 ≤ 48))) := by
  refine zm_cI (P := fun v h' => zm_F [348, 351, 352, 353, 354, 355, 358, 359, 360, 362, 363, 364] [3, 10, 11, 12, 19, 24] h h' ∧ zm_W (zv_I h' 348) ∧ ((v = -1 ∧ zv_I h' 348 = c) ∨ (0 ≤ v ∧ v ≤ 48))) (lC9_mergeNow (zm_ob hM)) ?_
  have refu : ∀ v : Int, zm_R ((C9_refuse (d + 8) 347 v h).bind fun q => (some (some (zv_i q.1), q.2) : zv_O)) (zm_I fun v h' => zm_F [348, 351, 352, 353, 354, 355, 358, 359, 360, 362, 363, 364] [3, 10, 11, 12, 19, 24] h h' ∧ zm_W (zv_I h' 348) ∧ ((v = -1 ∧ zv_I h' 348 = c) ∨ (0 ≤ v ∧ v ≤ 48))) := by
    intro v
    rw [zm_e (zm_refuse hM _ v)]
    have e : zv_I (zv_sI h 347 3 v) 348 = c := (zm_so h _ _).trans hc
    exact zm_iI ⟨zm_F_f (zm_F_r _ _ h) rfl _, by rw [e]; exact w, Or.inl ⟨rfl, e⟩⟩
  obtain ⟨lh, hlh, _⟩ := zm_W_l w.1 w.2.1
  have hl' : zm_Ln (zv_I h 348) (c 0 :: lh) (c 0) := by
    rw [hc]
    exact hlh.1
  rw [qE9_mergeNow]
  refine zm_gb (zm_isState hM _ s) (fun _ => refu 2) (fun hs => ?_)
  rw [hc] at hs
  dsimp only
  rw [zm_e (zm_here hM _), hc]
  dsimp only
  refine zm_gb (zm_isOfLine hM _ s hl') (fun _ => ?_) (fun _ => refu 4)
  obtain ⟨l, hl, hl2, g, gt⟩ := zm_W_l w.1 hs
  have hln : (s :: l).length ≤ 48 := by
    rw [List.length_cons]
    clear hs
    omega
  obtain ⟨h1, e1, f1, hSn⟩ := zm_sees_st hM hc (d + 4) hl hl2 g gt
  have hM1 := zm_F_M f1 hM
  have c1 : zv_I h1 348 = c := (zm_F_a f1 348).trans hc
  dsimp only
  rw [zm_e e1, zm_e (zm_gI hM1 10), hSn.1.1]
  obtain ⟨h2, i1, f2, k2⟩ := zm_merge44 (d + 5) w hl.2.1.2.2 hln (s :: l).reverse [] rfl h1 hM1 c1 hSn.1.2 hSn.2.2.1 (fun k x hk => absurd hk (Nat.not_lt_zero _))
  have hM2 := zm_F_M f2 hM1
  have c2 : zv_I h2 348 = c := (zm_F_a f2 348).trans c1
  rw [show L9_mergeNow_44 (d + 8) 347 _ 0 h1 = _ from i1, qL9_mergeNow_44, if_neg (Int.lt_irrefl _)]
  obtain ⟨h3, e3, f3, _⟩ := zm_plain hM2 (d + 7)
  have hM3 := zm_F_M f3 hM2
  rw [zm_e e3, zm_e (zm_pI hM3 24 _)]
  have f4 : zm_F [348, 351, 352, 353, 354, 355, 358, 359, 360, 362, 363, 364] [3, 10, 11, 12, 19, 24] h (zv_sI h3 347 24 0) := zm_F_f (zm_F_t (zm_F_s f1 rfl rfl) (zm_F_t (zm_F_s f2 rfl rfl) (zm_F_s f3 rfl rfl))) rfl _
  have c4 : zv_I (zv_sI h3 347 24 0) 348 = c := (zm_so h3 _ _).trans ((zm_F_a f3 348).trans c2)
  have l1 : 1 + l.length = (s :: l).length := by
    rw [List.length_cons, Nat.add_comm]
  refine zm_mono (zm_merge136 d hl.2.1.2.2 hln l.length 1 0 (zv_sI h3 347 24 0) l1 hM3 (by rw [c4]; exact w) (by rw [c4]; exact zm_ex_r c) (fun k x hx => by rw [zm_so h3 _ _, zm_so h3 _ _, zm_F_a f3 363, zm_F_a f3 364]; exact k2 k x hx) (by decide) (by decide)) ?_
  rintro ⟨ov, h'⟩ ⟨v, ev, f5, w5, v0, v1⟩
  exact ⟨v, ev, zm_F_t f4 (zm_F_s f5 rfl rfl), w5, Or.inr ⟨v0, v1⟩⟩
end
/-! 67.acts -/
section
/-! ===== the reference: names, undo, redo, go ===== -/
theorem zm_packed_l {h : zv_H} (hM : zm_M h) (d : Nat) {r : Nat} {L : Nat} (hl : zv_lay r = (2, L)) (hr : Nat.ble r 372 = true) {m : Nat} (hm : m ≤ L) (hL : L ≤ 1000) : ∀ (n i : Nat) (v : Int), i + n = m → ∃ u : Int, L9_packed_4 d r m v i h = some (some (zv_i u), h)
  | 0, i, v, hi => ⟨v, by rw [qL9_packed_4, if_neg (by omega)]⟩
  | n + 1, i, v, hi => by
    have w1 : zv_w ((i : Int) + 1) = ((i + 1 : Nat) : Int) := by
      rw [zm_w (by omega)]
      rfl
    rw [qL9_packed_4, if_pos (by omega), zm_e (zm_aI hM hl hr (by omega) (by omega)), w1]
    exact zm_packed_l hM d hl hr hm hL n (i + 1) _ (by omega)
theorem zm_packed {h : zv_H} (hM : zm_M h) (d : Nat) {r : Nat} {L : Nat} (hl : zv_lay r = (2, L)) (hr : Nat.ble r 372 = true) {m : Int} (h0 : 0 ≤ m) (hm : m ≤ L) (hL : L ≤ 1000) : ∃ u : Int, C9_packed (d + 1) r m h = some (u, h) := by
  obtain ⟨n, rfl⟩ : ∃ n : Nat, m = n := ⟨m.toNat, by omega⟩
  obtain ⟨u, e⟩ := zm_packed_l hM d hl hr (m := n) (by omega) hL n 0 0 (by omega)
  refine ⟨u, lC9_packed ?_⟩
  rw [qE9_packed]
  exact e
theorem zm_nameAt_l {h : zv_H} (hM : zm_M h) (d : Nat) (v : Int) {m : Nat} (hm : m ≤ 12) (h3 : zv_I h 348 3 = m) : ∀ (n i : Nat), i + n = m → ∃ u : Int, L9_nameAt_2 d 347 v i h = some (some (zv_i u), h) ∧ -1 ≤ u ∧ u < m
  | 0, i, hi => ⟨-1, by rw [qL9_nameAt_2, zm_e (zm_f0 hM), zm_e (zm_aI hM zm_l348 rfl (by decide) (by decide)), show zv_I h 348 (Int.toNat 3) = _ from h3, if_neg (by omega)], by omega, by omega⟩
  | n + 1, i, hi => by
    have w1 : zv_w ((i : Int) + 1) = ((i + 1 : Nat) : Int) := by
      rw [zm_w (by omega)]
      rfl
    have w2 : zv_w (408 + zv_w (2 * (i : Int))) = 408 + 2 * (i : Int) := by
      rw [zm_w (x := 2 * (i : Int)) (by omega), zm_w (by omega)]
    rw [qL9_nameAt_2, zm_e (zm_f0 hM), zm_e (zm_aI hM zm_l348 rfl (by decide) (by decide)), show zv_I h 348 (Int.toNat 3) = _ from h3, if_pos (by omega), zm_e (zm_f0 hM), w2, zm_e (zm_aI hM zm_l348 rfl (by omega) (by omega)), w1]
    by_cases c1 : zv_I h 348 (408 + 2 * (i : Int)).toNat = v
    · rw [if_pos c1]
      exact ⟨i, rfl, by omega, by omega⟩
    · rw [if_neg c1]
      exact zm_nameAt_l hM d v hm h3 n (i + 1) (by omega)
theorem zm_nameAt {h : zv_H} (hM : zm_M h) (d : Nat) (v : Int) (h3 : 0 ≤ zv_I h 348 3 ∧ zv_I h 348 3 ≤ 12) : ∃ u : Int, C9_nameAt (d + 1) 347 v h = some (u, h) ∧ -1 ≤ u ∧ u < zv_I h 348 3 := by
  obtain ⟨m, em⟩ : ∃ m : Nat, zv_I h 348 3 = m := ⟨(zv_I h 348 3).toNat, by omega⟩
  obtain ⟨u, e, q⟩ := zm_nameAt_l hM d v (m := m) (by omega) em m 0 (by omega)
  refine ⟨u, lC9_nameAt (zm_ob hM) ?_, by rw [em]; exact q⟩
  rw [qE9_nameAt]
  exact e
theorem zm_namesOf_l {h : zv_H} (hM : zm_M h) (d : Nat) (s : Int) {m : Nat} (hm : m ≤ 12) (h3 : zv_I h 348 3 = m) : ∀ (n i : Nat) (a : Int), i + n = m → 0 ≤ a → a ≤ i → ∃ u : Int, L9_namesOf_4 d 347 s a i h = some (some (zv_i u), h) ∧ 0 ≤ u ∧ u ≤ 12
  | 0, i, a, hi, a0, a1 => ⟨a, by rw [qL9_namesOf_4, zm_e (zm_f0 hM), zm_e (zm_aI hM zm_l348 rfl (by decide) (by decide)), show zv_I h 348 (Int.toNat 3) = _ from h3, if_neg (by omega)], a0, by omega⟩
  | n + 1, i, a, hi, a0, a1 => by
    have w1 : zv_w ((i : Int) + 1) = ((i + 1 : Nat) : Int) := by
      rw [zm_w (by omega)]
      rfl
    have w2 : zv_w (zv_w (408 + zv_w (2 * (i : Int))) + 1) = 408 + 2 * (i : Int) + 1 := by
      rw [zm_w (x := 2 * (i : Int)) (by omega), zm_w (x := 408 + 2 * (i : Int)) (by omega), zm_w (by omega)]
    rw [qL9_namesOf_4, zm_e (zm_f0 hM), zm_e (zm_aI hM zm_l348 rfl (by decide) (by decide)), show zv_I h 348 (Int.toNat 3) = _ from h3, if_pos (by omega), zm_e (zm_f0 hM), w2, zm_e (zm_aI hM zm_l348 rfl (by omega) (by omega)), w1, zm_w (x := a + 1) (by omega), zm_w (x := a + 0) (by omega)]
    by_cases c1 : zv_I h 348 (408 + 2 * (i : Int) + 1).toNat = s
    · rw [if_pos c1]
      exact zm_namesOf_l hM d s hm h3 n (i + 1) _ (by omega) (by omega) (by omega)
    · rw [if_neg c1]
      exact zm_namesOf_l hM d s hm h3 n (i + 1) _ (by omega) (by omega) (by omega)
theorem zm_namesOf {h : zv_H} (hM : zm_M h) (d : Nat) (s : Int) (h3 : 0 ≤ zv_I h 348 3 ∧ zv_I h 348 3 ≤ 12) : ∃ u : Int, C9_namesOf (d + 1) 347 s h = some (u, h) ∧ 0 ≤ u ∧ u ≤ 12 := by
  obtain ⟨m, em⟩ : ∃ m : Nat, zv_I h 348 3 = m := ⟨(zv_I h 348 3).toNat, by omega⟩
  obtain ⟨u, e, q⟩ := zm_namesOf_l hM d s (m := m) (by omega) em m 0 0 (by omega) (by omega) (by omega)
  refine ⟨u, lC9_namesOf (zm_ob hM) ?_, q⟩
  rw [qE9_namesOf]
  exact e
/-- what keeps all, but for the head -/
theorem zm_W_alt {c c' : Nat → Int} (w : zm_W c) (r : ∀ k : Nat, 432 ≤ k → k < 4080 → c' k = c k) (h0 : zm_st c (c' 0)) (h3 : 0 ≤ c' 3 ∧ c' 3 ≤ 12) (h4 : c' 4 = c 4) (h8 : ∀ k : Nat, 8 ≤ k → k < 408 → c' k = c k) (h5 : 0 ≤ c' 5 ∧ c' 5 ≤ 40) : zm_W c' := by
  have o : ∀ t w : Int, 0 ≤ t → t ≤ 47 → 0 ≤ w → w < 76 → zm_o c' t w = zm_o c t w := fun t w t0 t1 w0 w1 => r _ (by omega) (by omega)
  refine ⟨zm_Wt_cg w.1 (fun t t0 t1 => ⟨o t 0 t0 t1 (by decide) (by decide), fun w w0 w1 _ => o t w t0 t1 (by omega) w1⟩), ⟨h0.1, by rw [o _ 0 h0.1.1 h0.1.2 (by decide) (by decide)]; exact h0.2⟩, h3, by rw [h4]; exact w.2.2.2.1, ?_, h5⟩
  have e : zm_cd c' = zm_cd c := by
    unfold zm_cd
    rw [h4]
    refine List.map_congr_left ?_
    intro k hk
    have h1 := List.mem_range.mp hk
    have h2 := w.2.2.2.1
    exact h8 _ (by omega) (by omega)
  rw [h4, e]
  exact w.2.2.2.2.1
theorem zm_nameNow {h : zv_H} {c : Nat → Int} (hM : zm_M h) (hc : zv_I h 348 = c) (w : zm_W c) (d : Nat) : zm_R (C9_nameNow (d + 3) 347 h) (fun q => zm_F [348] [3] h q.2 ∧ zm_W (zv_I q.2 348)) := by
  refine zm_cI (P := fun _ h' => zm_F [348] [3] h h' ∧ zm_W (zv_I h' 348)) (lC9_nameNow (zm_ob hM)) ?_
  have h3 : 0 ≤ c 3 ∧ c 3 ≤ 12 := w.2.2.1
  have refu : ∀ v : Int, zm_R ((C9_refuse (d + 2) 347 v h).bind fun q => (some (some (zv_i q.1), q.2) : zv_O)) (zm_I fun _ h' => zm_F [348] [3] h h' ∧ zm_W (zv_I h' 348)) := by
    intro v
    rw [zm_e (zm_refuse hM _ v)]
    have e : zv_I (zv_sI h 347 3 v) 348 = c := (zm_so h _ _).trans hc
    exact zm_iI ⟨zm_F_f (zm_F_r _ _ h) rfl _, by rw [e]; exact w⟩
  rw [qE9_nameNow, zm_e (zm_gI hM 19)]
  refine zm_gb (zm_isIn _ _ 1 6) (fun _ => refu 1) (fun hin => ?_)
  dsimp only
  obtain ⟨u, eu⟩ := zm_packed hM (d + 1) zm_l360 rfl (m := zv_I h 347 19) (by omega) (by omega) (by decide)
  rw [zm_e (zm_f17 hM), zm_e (zm_gI hM 19), zm_e eu]
  dsimp only
  obtain ⟨k, ek, k0, k1⟩ := zm_nameAt hM (d + 1) u (by rw [hc]; exact h3)
  rw [hc] at k1
  rw [zm_e ek]
  dsimp only
  -- the pair is written
  have l110 : ∀ (j : Int) (g : zv_H), zm_F [348] [3] h g → 0 ≤ j → j < 12 → (∀ n : Nat, n ≠ 3 → zv_I g 348 n = c n) → (0 ≤ zv_I g 348 3 ∧ zv_I g 348 3 ≤ 12) → zm_R (L9_nameNow_110 (d + 2) 347 u j g) (zm_I fun _ h' => zm_F [348] [3] h h' ∧ zm_W (zv_I h' 348)) := by
    intro j g f j0 j1 hg g3
    have hMg := zm_F_M f hM
    have w1 : zv_w (408 + zv_w (2 * j)) = 408 + 2 * j := by
      rw [zm_w (x := 2 * j) (by omega), zm_w (by omega)]
    have w2 : zv_w (408 + 2 * j + 1) = 408 + 2 * j + 1 := zm_w (by omega)
    rw [qL9_nameNow_110, zm_e (zm_f0 hMg), w1, w2, zm_e (zm_wI hMg zm_l348 rfl (by omega) (by omega) _)]
    have f1 : zm_F [348] [3] h (zv_sI g 348 (408 + 2 * j).toNat u) := zm_F_I f rfl _ _
    have e1 : zv_I (zv_sI g 348 (408 + 2 * j).toNat u) 348 = zm_u (zv_I g 348) (408 + 2 * j).toNat u := zm_ss _ _ _ _
    generalize zv_sI g 348 (408 + 2 * j).toNat u = g1 at f1 e1
    have hM1 := zm_F_M f1 hM
    rw [zm_e (zm_f0 hM1), zm_e (zm_here hM1 _)]
    dsimp only
    rw [zm_e (zm_wI hM1 zm_l348 rfl (by omega) (by omega) _)]
    have f2 : zm_F [348] [3] h (zv_sI g1 348 (408 + 2 * j + 1).toNat (zv_I g1 348 0)) := zm_F_I f1 rfl _ _
    have e2 : zv_I (zv_sI g1 348 (408 + 2 * j + 1).toNat (zv_I g1 348 0)) 348 = zm_u (zv_I g1 348) (408 + 2 * j + 1).toNat (zv_I g1 348 0) := zm_ss _ _ _ _
    generalize zv_sI g1 348 (408 + 2 * j + 1).toNat (zv_I g1 348 0) = g2 at f2 e2
    have hM2 := zm_F_M f2 hM
    rw [zm_e (zm_f0 hM2), zm_e (zm_aI hM2 zm_l348 rfl (by decide) (by decide))]
    have o2 : ∀ n : Nat, (n < 408 ∨ 432 ≤ n) → zv_I g2 348 n = zv_I g 348 n := by
      intro n hn
      rw [e2, zm_u_o _ _ (by omega), e1, zm_u_o _ _ (by omega)]
    refine zm_iI ⟨f2, zm_W_alt w (fun n n0 n1 => ?_) ?_ ?_ ?_ (fun n n0 n1 => ?_) ?_⟩
    · rw [o2 n (Or.inr n0), hg n (by omega)]
    · rw [o2 0 (Or.inl (by decide)), hg 0 (by decide)]
      exact w.2.1
    · rw [o2 3 (Or.inl (by decide))]
      exact g3
    · rw [o2 4 (Or.inl (by decide)), hg 4 (by decide)]
    · rw [o2 n (Or.inl n1), hg n (by omega)]
    · rw [o2 5 (Or.inl (by decide)), hg 5 (by decide)]
      exact w.2.2.2.2.2
  have l89 : (k < 0 → c 3 ≠ 12) → zm_R (L9_nameNow_89 (d + 2) 347 u k h) (zm_I fun _ h' => zm_F [348] [3] h h' ∧ zm_W (zv_I h' 348)) := by
    intro hk
    have r3 : zv_I h 348 (Int.toNat 3) = c 3 := by rw [hc]; rfl
    rw [qL9_nameNow_89]
    refine zm_if (fun hk0 => ?_) (fun hk0 => l110 k h (zm_F_r _ _ h) (by omega) (by omega) (fun n _ => by rw [hc]) (by rw [hc]; exact h3))
    have hk2 := hk hk0
    rw [zm_e (zm_f0 hM), zm_e (zm_aI hM zm_l348 rfl (by decide) (by decide)), zm_e (zm_f0 hM), zm_e (zm_aI hM zm_l348 rfl (by decide) (by decide)), r3, zm_e (zm_wI hM zm_l348 rfl (by decide) (by decide) _), zm_w (by omega)]
    have e1 : zv_I (zv_sI h 348 (Int.toNat 3) (c 3 + 1)) 348 = zm_u c 3 (c 3 + 1) := by
      rw [zm_ss, hc]
      rfl
    exact l110 (c 3) _ (zm_F_I (zm_F_r _ _ h) rfl _ _) (by omega) (by omega) (fun n hn => by rw [e1, zm_u_o _ _ hn]) (by rw [e1, zm_u_s]; omega)
  have l58 : (k < 0 → c 3 ≠ 12) → zm_R (L9_nameNow_58 (d + 2) 347 u k h) (zm_I fun _ h' => zm_F [348] [3] h h' ∧ zm_W (zv_I h' 348)) := by
    intro hk
    rw [qL9_nameNow_58]
    refine zm_if (fun _ => l89 hk) (fun hk0 => ?_)
    have w1 : zv_w (zv_w (408 + zv_w (2 * k)) + 1) = 408 + 2 * k + 1 := by
      rw [zm_w (x := 2 * k) (by omega), zm_w (x := 408 + 2 * k) (by omega), zm_w (by omega)]
    rw [zm_e (zm_f0 hM), w1, zm_e (zm_aI hM zm_l348 rfl (by omega) (by omega)), zm_e (zm_here hM _)]
    dsimp only
    exact zm_if (fun _ => refu 4) (fun _ => l89 hk)
  refine zm_if (fun hk0 => ?_) (fun hk0 => l58 (fun q => absurd q hk0))
  rw [zm_e (zm_f0 hM), zm_e (zm_aI hM zm_l348 rfl (by decide) (by decide))]
  have r3 : zv_I h 348 (Int.toNat 3) = c 3 := by rw [hc]; rfl
  rw [r3]
  exact zm_if (fun _ => refu 3) (fun q => l58 (fun _ => q))
/-- of a state that is not the start: the parent of the first of its group lives -/
theorem zm_fp {c : Nat → Int} (w : zm_Wt c) {s : Int} (hs : zm_st c s) (h0 : s ≠ 0) : zm_st c (zm_o c s 6) ∧ zm_st c (zm_o c (zm_o c s 6) 1) := by
  obtain ⟨l, hl, _⟩ := zm_W_l w hs
  have hf := hl.2.2.1 h0
  have h1 := hl.2.1.2.2 _ hf.1
  obtain ⟨l', hl', _⟩ := zm_W_l w h1
  refine ⟨h1, ?_⟩
  have hne := zm_Lw_ne hl'.2.1 hf.2
  cases hl2 : l' with
  | nil => exact absurd hl2 hne
  | cons t b =>
    have h2 := hl'.1.2
    rw [hl2] at h2
    rw [h2.1.1]
    exact hl'.2.1.2.2 t (by rw [hl2]; exact List.mem_cons_of_mem _ List.mem_cons_self)
theorem zm_undoNow {h : zv_H} {c : Nat → Int} (hM : zm_M h) (hc : zv_I h 348 = c) (w : zm_W c) (d : Nat) : zm_R (C9_undoNow (d + 3) 347 h) (fun q => zm_F [348] [3] h q.2 ∧ zm_W (zv_I q.2 348)) := by
  refine zm_cI (P := fun _ h' => zm_F [348] [3] h h' ∧ zm_W (zv_I h' 348)) (lC9_undoNow (zm_ob hM)) ?_
  rw [qE9_undoNow, zm_e (zm_here hM _), hc]
  dsimp only
  refine zm_if (fun _ => ?_) (fun h0 => ?_)
  · rw [zm_e (zm_refuse hM _ 5)]
    have e : zv_I (zv_sI h 347 3 5) 348 = c := (zm_so h _ _).trans hc
    exact zm_iI ⟨zm_F_f (zm_F_r _ _ h) rfl _, by rw [e]; exact w⟩
  · obtain ⟨p1, p2⟩ := zm_fp w.1 w.2.1 h0
    rw [zm_e (zm_here hM _), hc]
    dsimp only
    rw [zm_e (zm_of hM _ (zm_st48 w.2.1) (by decide)), hc]
    dsimp only
    rw [zm_e (zm_of hM _ (zm_st48 p1) (by decide)), hc]
    dsimp only
    obtain ⟨h1, e1, f1, c1⟩ := zm_visits hM hc d p2.1
    rw [zm_e e1, zm_e (zm_here (zm_F_M f1 hM) _)]
    exact zm_iI ⟨zm_F_s f1 rfl rfl, by rw [c1]; exact zm_W_vc w p2⟩
theorem zm_redo35 {h : zv_H} {c : Nat → Int} (hM : zm_M h) (hc : zv_I h 348 = c) (w : zm_W c) (d : Nat) (f : Int) : ∀ (n : Nat) (s x : Int) (l : List Int), zm_W1 c s l → 48 ≤ n + l.length → zm_st c s → (x = -1 ∨ (zm_st c x ∧ zm_o c x 1 = s)) → zm_R (L9_redoNow_35 (d + 4) 347 s f x h) (zm_I fun _ h' => zm_F [348] [3] h h' ∧ zm_W (zv_I h' 348)) := by
  have l62 : ∀ s : Int, zm_st c s → zm_R (L9_redoNow_62 (d + 4) 347 s h) (zm_I fun _ h' => zm_F [348] [3] h h' ∧ zm_W (zv_I h' 348)) := by
    intro s hs
    obtain ⟨h1, e1, f1, c1⟩ := zm_visits hM hc (d + 2) hs.1
    rw [qL9_redoNow_62, zm_e e1]
    exact zm_iI ⟨zm_F_s f1 rfl rfl, by rw [c1]; exact zm_W_vc w hs⟩
  intro n
  induction n with
  | zero =>
    intro s x l hl hn
    have hlen : (s :: l).length ≤ 48 := zm_nd_le (n := 48) hl.2.1.1 (fun t ht => by have := (hl.2.1.2.2 t ht).1; omega)
    rw [List.length_cons] at hlen
    omega
  | succ n ih =>
    intro s x l hl hn hs hx
    rw [qL9_redoNow_35]
    refine zm_if (fun _ => l62 s hs) (fun hx0 => ?_)
    rcases hx with q | ⟨q1, q2⟩
    · rw [q] at hx0
      exact absurd (by decide) hx0
    · rw [zm_e (zm_of hM _ (zm_st48 q1) (by decide))]
      dsimp only
      refine zm_if (fun _ => ?_) (fun _ => l62 s hs)
      obtain ⟨r, er, qr⟩ := zm_childOf hM (by rw [hc]; exact zm_WL_of w.1) d x 0
      rw [hc] at qr
      rw [zm_e er]
      dsimp only
      obtain ⟨lx, hlx, _⟩ := zm_W_l w.1 q1
      have e : lx = s :: l := by
        have h2 := hlx.1.2
        rw [q2] at h2
        exact zm_Ln_u h2 hl.1
      exact ih x r lx hlx (by rw [e, List.length_cons]; omega) q1 qr
theorem zm_redoNow {h : zv_H} {c : Nat → Int} (hM : zm_M h) (hc : zv_I h 348 = c) (w : zm_W c) (d : Nat) : zm_R (C9_redoNow (d + 5) 347 h) (fun q => zm_F [348] [3] h q.2 ∧ zm_W (zv_I q.2 348)) := by
  refine zm_cI (P := fun _ h' => zm_F [348] [3] h h' ∧ zm_W (zv_I h' 348)) (lC9_redoNow (zm_ob hM)) ?_
  obtain ⟨r, er, qr⟩ := zm_childOf hM (by rw [hc]; exact zm_WL_of w.1) d (c 0) 0
  rw [hc] at qr
  rw [qE9_redoNow, zm_e (zm_here hM _), hc]
  dsimp only
  rw [zm_e er]
  dsimp only
  refine zm_if (fun _ => ?_) (fun hx0 => ?_)
  · rw [zm_e (zm_refuse hM _ 5)]
    have e : zv_I (zv_sI h 347 3 5) 348 = c := (zm_so h _ _).trans hc
    exact zm_iI ⟨zm_F_f (zm_F_r _ _ h) rfl _, by rw [e]; exact w⟩
  · rcases qr with q | ⟨q1, q2⟩
    · rw [q] at hx0
      exact absurd (by decide) hx0
    · obtain ⟨r2, er2, qr2⟩ := zm_childOf hM (by rw [hc]; exact zm_WL_of w.1) d r 0
      rw [hc] at qr2
      rw [zm_e (zm_of hM _ (zm_st48 q1) (by decide))]
      dsimp only
      rw [zm_e er2]
      dsimp only
      obtain ⟨lr, hlr, _⟩ := zm_W_l w.1 q1
      exact zm_redo35 hM hc w d _ 48 r r2 lr hlr (by omega) q1 qr2
theorem zm_goNow {h : zv_H} {c : Nat → Int} (hM : zm_M h) (hc : zv_I h 348 = c) (w : zm_W c) (d : Nat) (s : Int) : zm_R (C9_goNow (d + 5) 347 s h) (fun q => zm_F [348] [3] h q.2 ∧ zm_W (zv_I q.2 348)) := by
  refine zm_cI (P := fun _ h' => zm_F [348] [3] h h' ∧ zm_W (zv_I h' 348)) (lC9_goNow (zm_ob hM)) ?_
  have refu : ∀ v : Int, zm_R ((C9_refuse (d + 4) 347 v h).bind fun q => (some (some (zv_i q.1), q.2) : zv_O)) (zm_I fun _ h' => zm_F [348] [3] h h' ∧ zm_W (zv_I h' 348)) := by
    intro v
    rw [zm_e (zm_refuse hM _ v)]
    have e : zv_I (zv_sI h 347 3 v) 348 = c := (zm_so h _ _).trans hc
    exact zm_iI ⟨zm_F_f (zm_F_r _ _ h) rfl _, by rw [e]; exact w⟩
  rw [qE9_goNow]
  refine zm_gb (zm_isState hM _ s) (fun _ => refu 2) (fun hs => ?_)
  dsimp only
  rw [zm_e (zm_here hM _)]
  dsimp only
  refine zm_if (fun _ => refu 4) (fun _ => ?_)
  rw [zm_e (zm_here hM _)]
  dsimp only
  obtain ⟨r, er, _⟩ := zm_wayMany hM (by rw [hc]; exact w.1) d (s := zv_I h 348 0) (by rw [hc]; exact w.2.1) hs
  rw [zm_e er]
  dsimp only
  rw [hc] at hs
  obtain ⟨h1, e1, f1, c1⟩ := zm_visits hM hc (d + 2) hs.1
  rw [zm_e e1]
  exact zm_iI ⟨zm_F_s f1 rfl rfl, by rw [c1]; exact zm_W_vc w hs⟩
end
/-! 68.turn -/
section
/-! ===== the reference: withdrawing, giving back ===== -/
theorem zm_leansOn_l {h : zv_H} (hM : zm_M h) (d : Nat) {t : Int} (ht : 0 ≤ t ∧ t ≤ 48) (s : Int) {m : Nat} (hm : m ≤ 12) (h5 : ∀ x : Int, x = zm_o (zv_I h 348) t 5 → x = m) : ∀ (n i : Nat), i + n = m → ∃ v : Int, L9_leansOn_28 (d + 1) 347 t s i h = some (some (zv_i v), h) ∧ (v = 0 ∨ v = 1)
  | 0, i, hi => by
    rw [qL9_leansOn_28, zm_e (zm_of hM d ht (by decide))]
    dsimp only
    rw [h5 _ rfl, if_neg (by omega)]
    exact ⟨0, rfl, Or.inl rfl⟩
  | n + 1, i, hi => by
    have w1 : zv_w (52 + zv_w (2 * (i : Int))) = 52 + 2 * (i : Int) := by
      rw [zm_w (x := 2 * (i : Int)) (by omega), zm_w (by omega)]
    have w2 : zv_w ((i : Int) + 1) = ((i + 1 : Nat) : Int) := by
      rw [zm_w (by omega)]
      rfl
    have hw : 0 ≤ 52 + 2 * (i : Int) ∧ 52 + 2 * (i : Int) < 76 := by omega
    rw [qL9_leansOn_28, zm_e (zm_of hM d ht (by decide))]
    dsimp only
    rw [h5 _ rfl, if_pos (by omega), w1, zm_e (zm_of hM d ht hw), w2]
    dsimp only
    by_cases c1 : zm_o (zv_I h 348) t (52 + 2 * (i : Int)) = s
    · rw [if_pos c1]
      exact ⟨1, rfl, Or.inr rfl⟩
    · rw [if_neg c1]
      exact zm_leansOn_l hM d ht s hm h5 n (i + 1) (by omega)
theorem zm_leansOn {h : zv_H} (hM : zm_M h) (d : Nat) (w : zm_Wt (zv_I h 348)) {t : Int} (ht : zm_st (zv_I h 348) t) (he : zm_ed (zv_I h 348) t) (s : Int) : ∃ v : Int, C9_leansOn (d + 2) 347 t s h = some (v, h) ∧ (v = 0 ∨ v = 1) := by
  obtain ⟨m, hm, em⟩ := zm_ed_n w ht he
  have main : ∃ v : Int, E9_leansOn (d + 1) 347 t s h = some (some (zv_i v), h) ∧ (v = 0 ∨ v = 1) := by
    rw [qE9_leansOn, zm_e (zm_of hM d (zm_st48 ht) (by decide))]
    dsimp only
    by_cases c1 : zm_o (zv_I h 348) t 2 = 0
    · rw [if_pos c1, zm_e (zm_of hM d (zm_st48 ht) (by decide))]
      dsimp only
      by_cases c2 : zm_o (zv_I h 348) t 8 = s
      · rw [if_pos c2]
        exact ⟨1, rfl, Or.inr rfl⟩
      · rw [if_neg c2]
        exact ⟨0, rfl, Or.inl rfl⟩
    · rw [if_neg c1]
      exact zm_leansOn_l hM d (zm_st48 ht) s hm em m 0 (Nat.zero_add _)
  obtain ⟨v, e, q⟩ := main
  exact ⟨v, lC9_leansOn (zm_ob hM) e, q⟩
theorem zm_marks10 (d : Nat) (s back : Int) : ∀ (n i : Nat) (h : zv_H), i + n = 48 → zm_M h → ∃ h', L9_marks_10 d 347 s back i h = L9_marks_10 d 347 s back 48 h' ∧ zm_F [365] [] h h'
  | 0, i, h, hi, _ => by
    have e : i = 48 := by omega
    subst e
    exact ⟨h, rfl, zm_F_r _ _ h⟩
  | n + 1, i, h, hi, hM => by
    have w1 : zv_w ((i : Int) + 1) = ((i + 1 : Nat) : Int) := by
      rw [zm_w (by omega)]
      rfl
    have go : ∀ v : Int, ∃ h', ((zv_wB h 365 (i : Int) v).bind fun g => L9_marks_10 d 347 s back ((i + 1 : Nat) : Int) g) = L9_marks_10 d 347 s back 48 h' ∧ zm_F [365] [] h h' := by
      intro v
      rw [zm_e (zm_wB hM zm_l365 rfl (by omega) (by omega) v)]
      obtain ⟨h', i1, i2⟩ := zm_marks10 d s back n (i + 1) (zv_sI h 365 ((i : Int)).toNat (zv_nz v)) (by omega) hM
      exact ⟨h', i1, zm_F_t (zm_F_I (zm_F_r _ _ h) rfl _ _) i2⟩
    rw [qL9_marks_10, if_pos (by omega), zm_e (zm_f25 hM), w1]
    by_cases c1 : (i : Int) = s
    · rw [if_pos c1]
      have g1 := go 1
      exact g1
    · rw [if_neg c1]
      exact go 0
/-- the line of here lies in its cells -/
def zm_lh (c : Nat → Int) (l : List Int) (h : zv_H) : Prop := zm_M h ∧ zv_I h 348 = c ∧ zv_I h 347 10 = l.length ∧ ∀ (k : Nat) (x : Int), l.reverse[k]? = some x → zv_I h 351 k = x
theorem zm_lh_F {A B : List Nat} {h h' : zv_H} {c : Nat → Int} {l : List Int} (i : zm_lh c l h) (f : zm_F A B h h') (h1 : A.contains 348 = false := by rfl) (h2 : A.contains 351 = false := by rfl) (h3 : B.contains 10 = false := by rfl) : zm_lh c l h' := zm_li_F i f h1 h2 h3
theorem zm_lh_g {c : Nat → Int} {l : List Int} {h : zv_H} (i : zm_lh c l h) (hn : l.length ≤ 48) {j : Int} (j0 : 0 ≤ j) (j1 : j < l.length) : ∃ x, x ∈ l ∧ zv_aI h 351 j = some x := by
  obtain ⟨hM, hc, h10, h351⟩ := i
  obtain ⟨x, hx⟩ : ∃ x, l.reverse[j.toNat]? = some x := ⟨_, List.getElem?_eq_getElem (by rw [List.length_reverse]; omega)⟩
  refine ⟨x, List.mem_reverse.mp (List.mem_of_getElem? hx), ?_⟩
  rw [zm_aI hM zm_l351 rfl j0 (by omega), h351 _ _ hx]
theorem zm_marks72 (d : Nat) {c : Nat → Int} (w : zm_Wt c) {l : List Int} (hl : ∀ t ∈ l, zm_st c t) (hn : l.length ≤ 48) (back k t : Int) (ht : t ∈ l) : ∀ (n i : Nat) (h : zv_H), i + n = l.length → zm_lh c l h → ∃ h', L9_marks_72 (d + 2) 347 back k t i h = L9_marks_40 (d + 2) 347 back (zv_w (k + 1)) h' ∧ zm_F [365] [] h h'
  | 0, i, h, hi, hh => by
    obtain ⟨hM, hc, h10, h351⟩ := hh
    refine ⟨h, ?_, zm_F_r _ _ h⟩
    rw [qL9_marks_72, zm_e (zm_gI hM 10), h10, if_neg (by omega)]
  | n + 1, i, h, hi, hh => by
    obtain ⟨hM, hc, h10, h351⟩ := id hh
    have hst := hl t ht
    have t48 := zm_st48 hst
    have w1 : zv_w ((i : Int) + 1) = ((i + 1 : Nat) : Int) := by
      clear hst
      rw [zm_w (by omega)]
      rfl
    have j0 : (0 : Int) ≤ (i : Int) := by omega
    have j1 : (i : Int) < (l.length : Int) := by
      clear hst
      omega
    have t49 : t < ((49 : Nat) : Int) := by
      clear hst
      omega
    have hi' : (i + 1) + n = l.length := by omega
    have nx := zm_marks72 d w hl hn back k t ht n (i + 1)
    have wr : ∃ h', ((zv_wB h 365 t 1).bind fun g => L9_marks_72 (d + 2) 347 back k t ((i + 1 : Nat) : Int) g) = L9_marks_40 (d + 2) 347 back (zv_w (k + 1)) h' ∧ zm_F [365] [] h h' := by
      rw [zm_e (zm_wB hM zm_l365 rfl t48.1 t49 1)]
      have f : zm_F [365] [] h (zv_sI h 365 t.toNat (zv_nz 1)) := zm_F_I (zm_F_r _ _ h) rfl _ _
      obtain ⟨h', i1, i2⟩ := nx (zv_sI h 365 t.toNat (zv_nz 1)) hi' (zm_lh_F hh f)
      exact ⟨h', i1, zm_F_t f i2⟩
    have nx0 := nx h hi' hh
    obtain ⟨o, ho, eo⟩ := zm_lh_g hh hn j0 j1
    have host := hl o ho
    have o48 := zm_st48 host
    have o49 : o < ((49 : Nat) : Int) := by
      clear hst host
      omega
    rw [qL9_marks_72, zm_e (zm_gI hM 10), h10, if_pos j1, zm_e (zm_isEdit hM d t48), w1]
    dsimp only
    by_cases c1 : zm_ed (zv_I h 348) t
    · rw [if_pos c1, if_neg (by decide), zm_e (zm_f25 hM), zm_e (zm_aB hM zm_l365 (Or.inl rfl) rfl t48.1 t49)]
      by_cases c2 : zv_I h 365 t.toNat = 0
      · rw [if_pos c2, zm_e (zm_f5 hM), zm_e eo, zm_e (zm_f25 hM), zm_e (zm_aB hM zm_l365 (Or.inl rfl) rfl o48.1 o49)]
        by_cases c3 : zv_I h 365 o.toNat = 0
        · rw [if_pos c3]
          exact nx0
        · rw [if_neg c3, zm_e (zm_isEdit hM d o48)]
          dsimp only
          by_cases c4 : zm_ed (zv_I h 348) o
          · rw [if_pos c4, if_neg (by decide)]
            have hst' : zm_st (zv_I h 348) t := by rw [hc]; exact hst
            have host' : zm_st (zv_I h 348) o := by rw [hc]; exact host
            have w' : zm_Wt (zv_I h 348) := by rw [hc]; exact w
            by_cases c5 : back = 0
            · obtain ⟨lt, hlt⟩ := zm_WL_of w' t hst'
              rw [if_pos c5, zm_e (zm_isOfLine hM d o hlt)]
              dsimp only
              by_cases c6 : o ∈ lt
              · obtain ⟨v, ev, qv⟩ := zm_leansOn hM d w' hst' c1 o
                rw [if_pos c6, if_neg (by decide), zm_e ev]
                dsimp only
                by_cases c7 : v = 0
                · rw [if_pos c7]
                  exact nx0
                · rw [if_neg c7, zm_e (zm_f25 hM)]
                  exact wr
              · rw [if_neg c6, if_pos rfl]
                exact nx0
            · obtain ⟨lo, hlo⟩ := zm_WL_of w' o host'
              rw [if_neg c5, zm_e (zm_isOfLine hM d t hlo)]
              dsimp only
              by_cases c6 : t ∈ lo
              · obtain ⟨v, ev, qv⟩ := zm_leansOn hM d w' host' c4 t
                rw [if_pos c6, if_neg (by decide), zm_e ev]
                dsimp only
                by_cases c7 : v = 0
                · rw [if_pos c7]
                  exact nx0
                · rw [if_neg c7, zm_e (zm_f25 hM)]
                  exact wr
              · rw [if_neg c6, if_pos rfl]
                exact nx0
          · rw [if_neg c4, if_pos rfl]
            exact nx0
      · rw [if_neg c2]
        exact ⟨h, rfl, zm_F_r _ _ h⟩
    · rw [if_neg c1, if_pos rfl]
      exact ⟨h, rfl, zm_F_r _ _ h⟩
theorem zm_marks40 (d : Nat) {c : Nat → Int} (w : zm_Wt c) {l : List Int} (hl : ∀ t ∈ l, zm_st c t) (hn : l.length ≤ 48) (back : Int) : ∀ (n i : Nat) (h : zv_H), i + n = l.length → 1 ≤ i → zm_lh c l h → ∃ h', L9_marks_40 (d + 2) 347 back i h = some (none, h') ∧ zm_F [365] [] h h'
  | 0, i, h, hi, h1, hh => by
    obtain ⟨hM, hc, h10, h351⟩ := hh
    refine ⟨h, ?_, zm_F_r _ _ h⟩
    rw [qL9_marks_40, zm_e (zm_gI hM 10), h10, if_neg (by omega)]
  | n + 1, i, h, hi, h1, hh => by
    obtain ⟨hM, hc, h10, h351⟩ := id hh
    have w1 : zv_w ((i : Int) + 1) = ((i + 1 : Nat) : Int) := by
      rw [zm_w (by omega)]
      rfl
    have w2 : zv_w ((l.length : Int) - (i : Int)) = (l.length : Int) - (i : Int) := zm_w (by omega)
    have go : ∀ t, t ∈ l → ∃ h', L9_marks_72 (d + 2) 347 back i t 1 h = some (none, h') ∧ zm_F [365] [] h h' := by
      intro t ht
      obtain ⟨h2, i1, i2⟩ := zm_marks72 d w hl hn back i t ht (l.length - 1) 1 h (by omega) hh
      obtain ⟨h3, k1, k2⟩ := zm_marks40 d w hl hn back n (i + 1) h2 (by omega) (by omega) (zm_lh_F hh i2)
      refine ⟨h3, ?_, zm_F_t i2 k2⟩
      rw [show L9_marks_72 (d + 2) 347 back i t 1 h = _ from i1, w1, k1]
    rw [qL9_marks_40, zm_e (zm_gI hM 10), h10, if_pos (by omega), zm_e (zm_f5 hM)]
    by_cases c1 : back = 0
    · obtain ⟨t, ht, et⟩ := zm_lh_g hh hn (j := i) (by omega) (by omega)
      rw [if_pos c1, zm_e et]
      exact go t ht
    · obtain ⟨t, ht, et⟩ := zm_lh_g hh hn (j := (l.length : Int) - (i : Int)) (by omega) (by omega)
      rw [if_neg c1, zm_e (zm_gI hM 10), h10, w2, zm_e et]
      exact go t ht
theorem zm_marks {h : zv_H} {c : Nat → Int} (hM : zm_M h) (hc : zv_I h 348 = c) (w : zm_W c) (d : Nat) (s back : Int) : zm_R (C9_marks (d + 5) 347 s back h) (fun h' => zm_F [351, 352, 353, 354, 355, 365] [10, 11, 12] h h') := by
  refine zm_cV (lC9_marks (zm_ob hM)) ?_
  obtain ⟨l, hl, hl2, g, gt⟩ := zm_W_l w.1 w.2.1
  obtain ⟨h1, e1, f1, hSn⟩ := zm_sees_st hM hc d hl hl2 g gt
  have hM1 := zm_F_M f1 hM
  have c1 : zv_I h1 348 = c := (zm_F_a f1 348).trans hc
  have hh : zm_lh c (c 0 :: l) h1 := ⟨hM1, c1, hSn.1.1, hSn.1.2⟩
  obtain ⟨h2, i1, f2⟩ := zm_marks10 (d + 4) s back 48 0 h1 rfl hM1
  have hh2 := zm_lh_F hh f2
  have ln : (c 0 :: l).length ≤ 48 := by
    rw [List.length_cons]
    omega
  have l1 : 1 + l.length = (c 0 :: l).length := by
    rw [List.length_cons, Nat.add_comm]
  obtain ⟨h3, k1, f3⟩ := zm_marks40 (d + 2) w.1 hl.2.1.2.2 ln back l.length 1 h2 l1 (Nat.le_refl _) hh2
  rw [qE9_marks, zm_e (zm_here hM _), hc]
  dsimp only
  rw [zm_e e1, show L9_marks_10 (d + 4) 347 s back 0 h1 = _ from i1, qL9_marks_10, if_neg (by decide), show L9_marks_40 (d + 4) 347 back 1 h2 = _ from k1]
  exact zm_iV (zm_F_t (zm_F_s f1 rfl rfl) (zm_F_t (zm_F_s f2 rfl rfl) (zm_F_s f3 rfl rfl)))
/-! names go into the cells of what is tried -/
theorem zm_namesToo {h : zv_H} (hM : zm_M h) (d : Nat) {s : Int} (hs : 0 ≤ s ∧ s ≤ 48) (t : Int) : ∃ (w v : Int), (w = 10 ∨ w = 11) ∧ C9_namesToo (d + 2) 347 s t h = some (zv_sI h 348 (432 + 76 * s.toNat + w.toNat) v) := by
  by_cases c1 : t < 24
  · refine ⟨10, zv_or (zm_o (zv_I h 348) s 10) (zv_shl 1 (t.tmod 24)), Or.inl rfl, lC9_namesToo (zm_ob hM) ?_⟩
    rw [qE9_namesToo, if_pos c1, qL9_namesToo_15, if_pos c1, qL9_namesToo_30, zm_e (zm_of hM d hs (by decide))]
    dsimp only
    rw [zm_e (zm_sets hM d hs (by decide) _)]
  · refine ⟨11, zv_or (zm_o (zv_I h 348) s 11) (zv_shl 1 (t.tmod 24)), Or.inr rfl, lC9_namesToo (zm_ob hM) ?_⟩
    rw [qE9_namesToo, if_neg c1, qL9_namesToo_15, if_neg c1, qL9_namesToo_30, zm_e (zm_of hM d hs (by decide))]
    dsimp only
    rw [zm_e (zm_sets hM d hs (by decide) _)]
/-- all is as it was but the cells of what is tried; of these all but the names are new -/
def zm_Tr (c c' : Nat → Int) (act : Int) : Prop := (∀ k : Nat, ¬ (4080 ≤ k ∧ k < 4156) → c' k = c k) ∧ zm_o c' 48 1 = c 0 ∧ zm_o c' 48 2 = act ∧ zm_o c' 48 5 = 0 ∧ zm_o c' 48 8 = -1
theorem zm_Tr_s {c c' : Nat → Int} {act : Int} (t : zm_Tr c c' act) {w : Int} (hw : w = 10 ∨ w = 11) (v : Int) : zm_Tr c (zm_os c' 48 w v) act := by
  obtain ⟨t1, t2, t3, t4, t5⟩ := t
  have hw2 : 0 ≤ w ∧ w < 76 := by omega
  refine ⟨fun k hk => ?_, ?_, ?_, ?_, ?_⟩
  · rw [zm_os_k _ _ hw2 (by simp only [show (48 : Int).toNat = 48 from rfl]; omega)]
    exact t1 k hk
  · rw [zm_os_o _ _ (by decide) hw2 (by decide) (by decide) (fun q => by omega)]
    exact t2
  · rw [zm_os_o _ _ (by decide) hw2 (by decide) (by decide) (fun q => by omega)]
    exact t3
  · rw [zm_os_o _ _ (by decide) hw2 (by decide) (by decide) (fun q => by omega)]
    exact t4
  · rw [zm_os_o _ _ (by decide) hw2 (by decide) (by decide) (fun q => by omega)]
    exact t5
theorem zm_tries22 (d : Nat) {c : Nat → Int} {l : List Int} (hl : ∀ t ∈ l, zm_st c t) (hn : l.length ≤ 48) (act : Int) : ∀ (n i : Nat) (a : Int) (h : zv_H), i + n = l.length → 0 ≤ a → a ≤ i → zm_lh (zv_I h 348) l h → zm_Tr c (zv_I h 348) act → zm_R (L9_triesNames_22 (d + 2) 347 act a i h) (zm_I fun v h' => zm_F [348] [] h h' ∧ zm_Tr c (zv_I h' 348) act ∧ 0 ≤ v ∧ v ≤ 48)
  | 0, i, a, h, hi, a0, a1, hh, ht => by
    obtain ⟨hM, hc, h10, h351⟩ := hh
    rw [qL9_triesNames_22, zm_e (zm_gI hM 10), h10, if_neg (by omega)]
    exact zm_iI ⟨zm_F_r _ _ h, ht, a0, by omega⟩
  | n + 1, i, a, h, hi, a0, a1, hh, ht => by
    obtain ⟨hM, hc, h10, h351⟩ := id hh
    have w1 : zv_w ((i : Int) + 1) = ((i + 1 : Nat) : Int) := by
      rw [zm_w (by omega)]
      rfl
    have wa : zv_w (a + 1) = a + 1 := zm_w (by omega)
    have j0 : (0 : Int) ≤ (i : Int) := by omega
    have j1 : (i : Int) < (l.length : Int) := by omega
    have hi' : (i + 1) + n = l.length := by omega
    have a2 : a ≤ ((i + 1 : Nat) : Int) := by omega
    have a3 : a + 1 ≤ ((i + 1 : Nat) : Int) := by omega
    have a4 : 0 ≤ a + 1 := by omega
    obtain ⟨t, htl, et⟩ := zm_lh_g hh hn j0 j1
    have tst := hl t htl
    have t48 := zm_st48 tst
    have t49 : t < ((49 : Nat) : Int) := by
      clear tst
      omega
    have sk := zm_tries22 d hl hn act n (i + 1) a h hi' a0 a2 hh ht
    rw [qL9_triesNames_22, zm_e (zm_gI hM 10), h10, if_pos j1, zm_e (zm_f25 hM), zm_e (zm_f5 hM), zm_e et, zm_e (zm_aB hM zm_l365 (Or.inl rfl) rfl t48.1 t49), w1]
    refine zm_if (fun _ => sk) (fun _ => ?_)
    rw [zm_e (zm_f8 hM), zm_e (zm_f5 hM), zm_e et, zm_e (zm_aB hM zm_l354 (Or.inl rfl) rfl t48.1 t49)]
    have l65 : ∀ y z : Int, zm_R (L9_triesNames_65 (d + 2) 347 act a i y z h) (zm_I fun v h' => zm_F [348] [] h h' ∧ zm_Tr c (zv_I h' 348) act ∧ 0 ≤ v ∧ v ≤ 48) := by
      intro y z
      rw [qL9_triesNames_65, w1, wa]
      refine zm_if (fun _ => ?_) (fun _ => sk)
      obtain ⟨w, v, hw, ew⟩ := zm_namesToo hM d (s := 48) (by decide) t
      rw [zm_e (zm_f5 hM), zm_e et, zm_e ew]
      have f : zm_F [348] [] h (zv_sI h 348 (432 + 76 * (48 : Int).toNat + w.toNat) v) := zm_F_I (zm_F_r _ _ h) rfl _ _
      have e1 : zv_I (zv_sI h 348 (432 + 76 * (48 : Int).toNat + w.toNat) v) 348 = zm_os (zv_I h 348) 48 w v := zm_ss _ _ _ _
      have e10 : zv_I (zv_sI h 348 (432 + 76 * (48 : Int).toNat + w.toNat) v) 347 10 = l.length := (zm_F_g f 10).trans h10
      have e351 : zv_I (zv_sI h 348 (432 + 76 * (48 : Int).toNat + w.toNat) v) 351 = zv_I h 351 := zm_so _ _ _
      generalize zv_sI h 348 (432 + 76 * (48 : Int).toNat + w.toNat) v = h1 at f e1 e10 e351
      refine zm_mono (zm_tries22 d hl hn act n (i + 1) (a + 1) h1 hi' a4 a3 ⟨zm_F_M f hM, rfl, e10, fun k x hx => by rw [e351]; exact h351 k x hx⟩ (by rw [e1]; exact zm_Tr_s ht hw v)) ?_
      rintro ⟨ov, h'⟩ ⟨v', ev, f2, q2⟩
      exact ⟨v', ev, zm_F_t f f2, q2⟩
    exact zm_if (fun _ => l65 _ 1) (fun _ => l65 _ 0)
theorem zm_triesNames {h : zv_H} {c : Nat → Int} (hM : zm_M h) (hc : zv_I h 348 = c) (w : zm_W c) (d : Nat) (act : Int) : zm_R (C9_triesNames (d + 5) 347 act h) (fun q => zm_F [348, 351, 352, 353, 354, 355] [10, 11, 12] h q.2 ∧ zm_Tr c (zv_I q.2 348) act ∧ 0 ≤ q.1 ∧ q.1 ≤ 48) := by
  refine zm_cI (P := fun v h' => zm_F [348, 351, 352, 353, 354, 355] [10, 11, 12] h h' ∧ zm_Tr c (zv_I h' 348) act ∧ 0 ≤ v ∧ v ≤ 48) (lC9_triesNames (zm_ob hM)) ?_
  obtain ⟨l, hl, hl2, g, gt⟩ := zm_W_l w.1 w.2.1
  obtain ⟨h1, e1, f1, hSn⟩ := zm_sees_st hM hc d hl hl2 g gt
  have hM1 := zm_F_M f1 hM
  have c1 : zv_I h1 348 = c := (zm_F_a f1 348).trans hc
  have c047 : 0 ≤ c 0 ∧ c 0 ≤ 47 := w.2.1.1
  obtain ⟨h2, e2, f2, b2⟩ := zm_begins hM1 c1 (d + 2) (s := 48) (by decide) c047 (by omega) act (-1) 0 0
  obtain ⟨⟨b20, b21, b22, b23, b24, b25, b26⟩, b28, b29, b2k⟩ := b2
  rw [qE9_triesNames, zm_e (zm_here hM _), hc]
  dsimp only
  rw [zm_e e1, zm_e e2]
  have ln : (c 0 :: l).length ≤ 48 := by
    rw [List.length_cons]
    omega
  have l1 : 1 + l.length = (c 0 :: l).length := by
    rw [List.length_cons, Nat.add_comm]
  have hlh : zm_lh (zv_I h2 348) (c 0 :: l) h2 := ⟨zm_F_M f2 hM1, rfl, (zm_F_g f2 10).trans hSn.1.1, fun k x hx => by rw [zm_F_a f2 351]; exact hSn.1.2 k x hx⟩
  refine zm_mono (zm_tries22 (d + 2) hl.2.1.2.2 ln act l.length 1 0 h2 l1 (by decide) (by decide) hlh ⟨fun k hk => b2k k hk, b21, b22, b25, b28⟩) ?_
  rintro ⟨ov, h'⟩ ⟨v', ev, f3, q3⟩
  exact ⟨v', ev, zm_F_t (zm_F_s f1 rfl rfl) (zm_F_t (zm_F_s f2 rfl rfl) (zm_F_s f3 rfl rfl)), q3⟩
end
