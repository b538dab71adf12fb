/-- what putting answers: refused, nothing changed; or a new state -/
theorem zm_putNow {h : zv_H} {c : Nat → Int} (hM : zm_M h) (hc : zv_I h 348 = c) (w : zm_W c) (d : Nat) {m : Nat} (hm : m ≤ 12) (h19 : zv_I h 347 19 = m) (place : Int) : zm_R (C9_putNow (d + 6) 347 place h) (fun q => zm_F [348, 351, 352, 353, 354, 355, 358, 359] [3, 10, 11, 12] h q.2 ∧ zm_W (zv_I q.2 348) ∧ ((q.1 = -1 ∧ zv_I q.2 348 = c) ∨ ((0 ≤ q.1 ∧ q.1 ≤ 47) ∧ zm_o c q.1 0 ≠ 1 ∧ zm_Nw c (zv_I q.2 348) q.1 ∧ ∃ l, zm_W1 c (c 0) l ∧ zm_Pt c (zv_I q.2 348) (c 0 :: l) q.1 place m (zv_I h 360)))) := by
  refine zm_cI (P := fun v h' => zm_F [348, 351, 352, 353, 354, 355, 358, 359] [3, 10, 11, 12] h h' ∧ zm_W (zv_I h' 348) ∧ ((v = -1 ∧ zv_I h' 348 = c) ∨ ((0 ≤ v ∧ v ≤ 47) ∧ zm_o c v 0 ≠ 1 ∧ zm_Nw c (zv_I h' 348) v ∧ ∃ l, zm_W1 c (c 0) l ∧ zm_Pt c (zv_I h' 348) (c 0 :: l) v place m (zv_I h 360)))) (lC9_putNow (zm_ob hM)) ?_
  obtain ⟨l, hl, hl2, g, gt⟩ := zm_W_l w.1 w.2.1
  obtain ⟨⟨n, h1⟩, e1, en, f1, hSn⟩ := zm_lettersOf hM d (zm_sees_st hM hc d hl hl2 g gt)
  dsimp only at en f1 hSn
  have hM1 := zm_F_M f1 hM
  have c1 : zv_I h1 348 = c := (zm_F_a f1 348).trans hc
  have hrl := zm_row_le g
  rw [List.length_cons] at hrl
  have hfl := List.length_filter_le (zm_sn c (c 0 :: l)) (zm_row c (c 0 :: l))
  have h19' : zv_I h1 347 19 = m := (zm_F_g f1 19).trans h19
  have refu : ∀ v : Int, zm_R ((C9_refuse (d + 5) 347 v h1).bind fun q => (some (some (zv_i q.1), q.2) : zv_O)) (zm_I fun v h' => zm_F [348, 351, 352, 353, 354, 355, 358, 359] [3, 10, 11, 12] h h' ∧ zm_W (zv_I h' 348) ∧ ((v = -1 ∧ zv_I h' 348 = c) ∨ ((0 ≤ v ∧ v ≤ 47) ∧ zm_o c v 0 ≠ 1 ∧ zm_Nw c (zv_I h' 348) v ∧ ∃ l, zm_W1 c (c 0) l ∧ zm_Pt c (zv_I h' 348) (c 0 :: l) v place m (zv_I h 360)))) := by
    intro v
    rw [zm_e (zm_refuse hM1 _ v)]
    have e : zv_I (zv_sI h1 347 3 v) 348 = c := (zm_so h1 _ _).trans c1
    exact zm_iI ⟨zm_F_f (zm_F_s f1 rfl rfl) rfl _, by rw [e]; exact w, Or.inl ⟨rfl, e⟩⟩
  rw [qE9_putNow, zm_e (zm_here hM _), hc]
  dsimp only
  rw [zm_e e1]
  dsimp only
  refine zm_gb (zm_isIn _ place 0 n) (fun _ => ?_) (fun hp => ?_)
  · rw [qL9_putNow_25]
    exact refu 1
  · dsimp only
    rw [zm_e (zm_gI hM1 19), h19']
    refine zm_if (fun _ => ?_) (fun hm0 => ?_)
    · rw [qL9_putNow_25]
      exact refu 1
    · rw [zm_e (zm_states hM1 _ (by rw [c1]; exact w.1.1)), c1]
      dsimp only
      refine zm_if (fun _ => refu 3) (fun hns => ?_)
      rw [zm_e (zm_gI hM1 19), h19', zm_w (by omega)]
      refine zm_if (fun hcn => ?_) (fun _ => refu 6)
      obtain ⟨s, es, s1, _, s3⟩ := zm_free hM1 (d + 3) (by rw [c1]; exact hns)
      rw [c1] at s3
      rw [zm_e es]
      dsimp only
      have go : ∀ row : Int, ((place = 0 ∧ row = -1) ∨ (place ≠ 0 ∧ row = zm_rp (zm_sn c (c 0 :: l)) (zm_row c (c 0 :: l)) (place - 1))) → zm_R (L9_putNow_84 (d + 5) 347 place s row h1) (zm_I fun v h' => zm_F [348, 351, 352, 353, 354, 355, 358, 359] [3, 10, 11, 12] h h' ∧ zm_W (zv_I h' 348) ∧ ((v = -1 ∧ zv_I h' 348 = c) ∨ ((0 ≤ v ∧ v ≤ 47) ∧ zm_o c v 0 ≠ 1 ∧ zm_Nw c (zv_I h' 348) v ∧ ∃ l, zm_W1 c (c 0) l ∧ zm_Pt c (zv_I h' 348) (c 0 :: l) v place m (zv_I h 360)))) := by
        intro row hrow
        refine zm_mono (zm_put84 hM1 c1 w (d + 1) hl g gt hSn s1 s3 hm h19' (by omega) (by omega) hrow) ?_
        rintro ⟨ov, h'⟩ ⟨v, ev, f2, w2, e2, n2, p2⟩
        refine ⟨v, ev, zm_F_t (zm_F_s f1 rfl rfl) f2, w2, Or.inr ⟨by rw [e2]; exact s1, by rw [e2]; exact s3, by rw [e2]; exact n2, l, hl, ?_⟩⟩
        rw [e2, ← zm_F_a f1 360]
        exact p2
      refine zm_if (fun hp0 => go (-1) (Or.inl ⟨hp0, rfl⟩)) (fun hp0 => ?_)
      rw [zm_w (by omega), zm_e (zm_rowPlace hM1 _ hSn (by omega) (by omega) (by omega))]
      exact go _ (Or.inr ⟨hp0, rfl⟩)
/-- a cut's cells -/
def zm_Ct (c c' : Nat → Int) (l : List Int) (s place m : Int) : Prop := zm_o c' s 2 = 1 ∧ zm_o c' s 3 = c 1 ∧ zm_o c' s 4 = place ∧ zm_o c' s 5 = m ∧ (zm_o c' s 6 = s ∨ (zm_o c' s 6 = zm_o c (c 0) 6 ∧ c 0 ≠ 0)) ∧ zm_o c' s 8 = -1 ∧ ∀ k : Nat, (k : Int) < m → ∃ x : Int × Int, ((zm_row c l).filter (zm_sn c l))[place.toNat + k]? = some x ∧ zm_o c' s (52 + 2 * (k : Int)) = x.1 ∧ zm_o c' s (52 + 2 * (k : Int) + 1) = x.2
theorem zm_cut78 (d : Nat) {s : Int} (hs : 0 ≤ s ∧ s ≤ 48) (place : Int) (h0 : 0 ≤ place) (g : Nat → Int) (m : Nat) (hm : m ≤ 12) {c : Nat → Int} {l : List Int} (hn : (zm_row c l).length ≤ 640) (hp : place + m ≤ ((zm_row c l).filter (zm_sn c l)).length) : ∀ (n i : Nat) (h : zv_H), i + n = m → zm_M h → zm_Sn h c l → (∀ w : Int, 0 ≤ w → w < 52 → zm_o (zv_I h 348) s w = zm_o g s w) → (∀ k : Nat, k < i → ∃ x : Int × Int, ((zm_row c l).filter (zm_sn c l))[place.toNat + k]? = some x ∧ zm_o (zv_I h 348) s (52 + 2 * (k : Int)) = x.1 ∧ zm_o (zv_I h 348) s (52 + 2 * (k : Int) + 1) = x.2) → (∀ k : Nat, ¬ (432 + 76 * s.toNat ≤ k ∧ k < 432 + 76 * s.toNat + 76) → zv_I h 348 k = g k) → ∃ h', L9_cutNow_78 (d + 1) 347 place m s i h = L9_cutNow_78 (d + 1) 347 place m s m h' ∧ zm_F [348] [] h h' ∧ (∀ w : Int, 0 ≤ w → w < 52 → zm_o (zv_I h' 348) s w = zm_o g s w) ∧ (∀ k : Nat, k < m → ∃ x : Int × Int, ((zm_row c l).filter (zm_sn c l))[place.toNat + k]? = some x ∧ zm_o (zv_I h' 348) s (52 + 2 * (k : Int)) = x.1 ∧ zm_o (zv_I h' 348) s (52 + 2 * (k : Int) + 1) = x.2) ∧ (∀ k : Nat, ¬ (432 + 76 * s.toNat ≤ k ∧ k < 432 + 76 * s.toNat + 76) → zv_I h' 348 k = g k)
  | 0, i, h, hi, _, _, h1, h2, h3 => by
    have e : i = m := by omega
    subst e
    exact ⟨h, rfl, zm_F_r _ _ h, h1, h2, h3⟩
  | n + 1, i, h, hi, hM, hS, h1, h2, h3 => by
    obtain ⟨x, hx⟩ : ∃ x, ((zm_row c l).filter (zm_sn c l))[place.toNat + i]? = some x := ⟨_, List.getElem?_eq_getElem (by omega)⟩
    have hrp := zm_rp_in (zm_sn c l) (zm_row c l) (place.toNat + i) (by omega)
    have hrp2 := zm_rp_ge (zm_sn c l) (zm_row c l) ((place.toNat + i : Nat) : Int)
    have hx2 := hrp.2.trans hx
    have hxx := hS.2.1.2 _ x hx2
    have ep : place + (i : Int) = ((place.toNat + i : Nat) : Int) := by omega
    have hfl := List.length_filter_le (zm_sn c l) (zm_row c l)
    rw [qL9_cutNow_78, if_pos (by omega), zm_w (x := place + (i : Int)) (by omega), ep, zm_e (zm_rowPlace hM d hS hn (by omega) (by omega))]
    dsimp only
    have w1 : zv_w (52 + zv_w (2 * (i : Int))) = 52 + 2 * (i : Int) := by
      rw [zm_w (x := 2 * (i : Int)) (by omega), zm_w (by omega)]
    rw [zm_e (zm_f6 hM), zm_e (zm_aI hM zm_l352 rfl (by omega) (by omega)), hxx.1, w1, zm_e (zm_sets hM d hs (by omega) _)]
    have f1 : zm_F [348] [] h (zv_sI h 348 (432 + 76 * s.toNat + (52 + 2 * (i : Int)).toNat) x.1) := zm_F_I (zm_F_r _ _ h) rfl _ _
    have S1 : zv_I (zv_sI h 348 (432 + 76 * s.toNat + (52 + 2 * (i : Int)).toNat) x.1) 348 = zm_os (zv_I h 348) s (52 + 2 * (i : Int)) x.1 := zm_ss _ _ _ _
    have y1 : zv_I (zv_sI h 348 (432 + 76 * s.toNat + (52 + 2 * (i : Int)).toNat) x.1) 353 = zv_I h 353 := zm_so _ _ _
    generalize zv_sI h 348 (432 + 76 * s.toNat + (52 + 2 * (i : Int)).toNat) x.1 = h1' at f1 S1 y1
    have hM1 := zm_F_M f1 hM
    rw [zm_e (zm_f7 hM1), zm_e (zm_aI hM1 zm_l353 rfl (by omega) (by omega)), y1, hxx.2, zm_w (x := 52 + 2 * (i : Int) + 1) (by omega), zm_e (zm_sets hM1 d hs (by omega) _), zm_w (by omega)]
    have f2 : zm_F [348] [] h (zv_sI h1' 348 (432 + 76 * s.toNat + (52 + 2 * (i : Int) + 1).toNat) x.2) := zm_F_I f1 rfl _ _
    have S2 : zv_I (zv_sI h1' 348 (432 + 76 * s.toNat + (52 + 2 * (i : Int) + 1).toNat) x.2) 348 = zm_os (zm_os (zv_I h 348) s (52 + 2 * (i : Int)) x.1) s (52 + 2 * (i : Int) + 1) x.2 := by
      rw [← S1]
      exact zm_ss _ _ _ _
    generalize zv_sI h1' 348 (432 + 76 * s.toNat + (52 + 2 * (i : Int) + 1).toNat) x.2 = h2' at f2 S2
    have O : ∀ w : Int, 0 ≤ w → w < 76 → w ≠ 52 + 2 * (i : Int) → w ≠ 52 + 2 * (i : Int) + 1 → zm_o (zv_I h2' 348) s w = zm_o (zv_I h 348) s w := by
      intro w w0 w1 wa wb
      rw [S2, zm_os_o _ _ hs.1 (by omega) hs.1 ⟨w0, w1⟩ (fun q => wb q.2), zm_os_o _ _ hs.1 (by omega) hs.1 ⟨w0, w1⟩ (fun q => wa q.2)]
    obtain ⟨h', i1, i2, i3⟩ := zm_cut78 d hs place h0 g m hm hn hp n (i + 1) h2' (by omega) (zm_F_M f2 hM) (zm_Sn_F hS f2) (fun w w0 w1 => by
      rw [O w w0 (by omega) (by omega) (by omega)]
      exact h1 w w0 w1) (fun k hk => by
      by_cases q : k = i
      · subst q
        refine ⟨x, hx, ?_, ?_⟩
        · rw [S2, zm_os_o _ _ hs.1 (by omega) hs.1 (by omega) (fun q => by omega), zm_os_s]
        · rw [S2, zm_os_s]
      · obtain ⟨y, y1, y2, y3⟩ := h2 k (by omega)
        exact ⟨y, y1, by rw [O _ (by omega) (by omega) (by omega) (by omega)]; exact y2, by rw [O _ (by omega) (by omega) (by omega) (by omega)]; exact y3⟩) (fun k hk => by
      rw [S2, zm_os_k _ _ (by omega) hk, zm_os_k _ _ (by omega) hk]
      exact h3 k hk)
    exact ⟨h', i1, zm_F_t f2 i2, i3⟩
theorem zm_cutNow {h : zv_H} {c : Nat → Int} (hM : zm_M h) (hc : zv_I h 348 = c) (w : zm_W c) (d : Nat) (place many : Int) (hpl : place < 2147483648) : zm_R (C9_cutNow (d + 6) 347 place many h) (fun q => zm_F [348, 351, 352, 353, 354, 355, 358, 359] [3, 10, 11, 12] h q.2 ∧ zm_W (zv_I q.2 348) ∧ ((q.1 = -1 ∧ zv_I q.2 348 = c) ∨ ((0 ≤ q.1 ∧ q.1 ≤ 47) ∧ zm_o c q.1 0 ≠ 1 ∧ zm_Nw c (zv_I q.2 348) q.1 ∧ ∃ l, zm_W1 c (c 0) l ∧ zm_Ct c (zv_I q.2 348) (c 0 :: l) q.1 place many))) := by
  refine zm_cI (P := fun v h' => zm_F [348, 351, 352, 353, 354, 355, 358, 359] [3, 10, 11, 12] h h' ∧ zm_W (zv_I h' 348) ∧ ((v = -1 ∧ zv_I h' 348 = c) ∨ ((0 ≤ v ∧ v ≤ 47) ∧ zm_o c v 0 ≠ 1 ∧ zm_Nw c (zv_I h' 348) v ∧ ∃ l, zm_W1 c (c 0) l ∧ zm_Ct c (zv_I h' 348) (c 0 :: l) v place many))) (lC9_cutNow (zm_ob hM)) ?_
  obtain ⟨l, hl, hl2, g, gt⟩ := zm_W_l w.1 w.2.1
  have hrl := zm_row_le g
  rw [List.length_cons] at hrl
  have hfl := List.length_filter_le (zm_sn c (c 0 :: l)) (zm_row c (c 0 :: l))
  have refu : ∀ (v : Int) (h1 : zv_H), zm_F [351, 352, 353, 354, 355] [10, 11, 12] h h1 → zm_R ((C9_refuse (d + 5) 347 v h1).bind fun q => (some (some (zv_i q.1), q.2) : zv_O)) (zm_I fun v h' => zm_F [348, 351, 352, 353, 354, 355, 358, 359] [3, 10, 11, 12] h h' ∧ zm_W (zv_I h' 348) ∧ ((v = -1 ∧ zv_I h' 348 = c) ∨ ((0 ≤ v ∧ v ≤ 47) ∧ zm_o c v 0 ≠ 1 ∧ zm_Nw c (zv_I h' 348) v ∧ ∃ l, zm_W1 c (c 0) l ∧ zm_Ct c (zv_I h' 348) (c 0 :: l) v place many))) := by
    intro v h1 f1
    rw [zm_e (zm_refuse (zm_F_M f1 hM) _ v)]
    have e : zv_I (zv_sI h1 347 3 v) 348 = c := (zm_so h1 _ _).trans ((zm_F_a f1 348).trans hc)
    exact zm_iI ⟨zm_F_f (zm_F_s f1 rfl rfl) rfl _, by rw [e]; exact w, Or.inl ⟨rfl, e⟩⟩
  rw [qE9_cutNow]
  refine zm_gb (zm_isIn _ many 1 12) (fun _ => ?_) (fun hmn => ?_)
  · rw [qL9_cutNow_14]
    exact refu 1 h (zm_F_r _ _ h)
  dsimp only
  refine zm_if (fun _ => ?_) (fun hp0 => ?_)
  · rw [qL9_cutNow_14]
    exact refu 1 h (zm_F_r _ _ h)
  obtain ⟨⟨n, h1⟩, e1, en, f1, hSn⟩ := zm_lettersOf hM d (zm_sees_st hM hc d hl hl2 g gt)
  dsimp only at en f1 hSn
  have hM1 := zm_F_M f1 hM
  have c1 : zv_I h1 348 = c := (zm_F_a f1 348).trans hc
  rw [zm_e (zm_here hM _), hc]
  dsimp only
  rw [zm_e e1]
  dsimp only
  rw [zm_w (by omega)]
  refine zm_if (fun hfit => ?_) (fun _ => refu 5 h1 f1)
  rw [zm_e (zm_states hM1 _ (by rw [c1]; exact w.1.1)), c1]
  dsimp only
  refine zm_if (fun _ => refu 3 h1 f1) (fun hns => ?_)
  obtain ⟨s, es, hs, _, hd⟩ := zm_free hM1 (d + 3) (by rw [c1]; exact hns)
  rw [c1] at hd
  rw [zm_e es]
  dsimp only
  have h0 : 0 ≤ c 0 ∧ c 0 ≤ 47 := w.2.1.1
  have hnst : ¬ zm_st c s := fun q => hd q.2
  have hne : s ≠ c 0 := fun e => hnst (by rw [e]; exact w.2.1)
  obtain ⟨⟨j, h2⟩, e2, q2, f2⟩ := zm_joins hM1 c1 w (d + 2) 1 place many
  dsimp only at q2 f2
  have hM2 := zm_F_M f2 hM1
  have c2 : zv_I h2 348 = c := (zm_F_a f2 348).trans c1
  rw [zm_e e2]
  dsimp only
  obtain ⟨h3, e3, f3, b3⟩ := zm_begins hM2 c2 (d + 3) (s := s) (by omega) h0 hne 1 place many j
  have hM3 := zm_F_M f3 hM2
  obtain ⟨⟨b30, b31, b32, b33, b34, b35, b36⟩, b38, b39, b3k⟩ := b3
  rw [zm_e e3]
  obtain ⟨m, em⟩ : ∃ m : Nat, many = m := ⟨many.toNat, by omega⟩
  subst em
  obtain ⟨h4, i1, i2, i3, i4, i5⟩ := zm_cut78 (d + 4) (s := s) (by omega) place (by omega) (zv_I h3 348) m (by omega) (c := c) (l := c 0 :: l) (by omega) (by omega) m 0 h3 (by omega) hM3 (zm_Sn_F (zm_Sn_F hSn f2) f3) (fun _ _ _ => rfl) (fun k hk => by omega) (fun _ _ => rfl)
  have hM4 := zm_F_M i2 hM3
  have f4 : zm_F [348, 351, 352, 353, 354, 355, 358, 359] [3, 10, 11, 12] h h4 := zm_F_t (zm_F_s f1 rfl rfl) (zm_F_t (zm_F_s f2 rfl rfl) (zm_F_t (zm_F_s f3 rfl rfl) (zm_F_s i2 rfl rfl)))
  rw [show L9_cutNow_78 (d + 5) 347 place m s 0 h3 = _ from i1, qL9_cutNow_78, if_neg (by omega)]
  have k4 : ∀ k : Nat, ¬ (432 + 76 * s.toNat ≤ k ∧ k < 432 + 76 * s.toNat + 76) → zv_I h4 348 k = c k := fun k hk => (i5 k hk).trans ((b3k k hk).trans (by rfl))
  have o4 : ∀ w : Int, 0 ≤ w → w < 52 → zm_o (zv_I h4 348) s w = zm_o (zv_I h3 348) s w := i3
  obtain ⟨h6, e6, f6, c6⟩ := zm_visits hM4 rfl (d + 3) hs
  have c40 : zv_I h4 348 0 = c 0 := k4 0 (by omega)
  rw [if_neg (by rw [c40]; exact hne)] at c6
  obtain ⟨nw, rw6⟩ := zm_Nw_of hs k4 (by rw [o4 0 (by decide) (by decide)]; exact b30) (by rw [o4 1 (by decide) (by decide), b31])
  rw [zm_e e6]
  rw [← c6] at nw rw6
  have a2 : zm_o (zv_I h6 348) s 2 = 1 := by rw [rw6 2 (by decide) (by decide) (by decide), o4 2 (by decide) (by decide), b32]
  have a5 : zm_o (zv_I h6 348) s 5 = m := by rw [rw6 5 (by decide) (by decide) (by decide), o4 5 (by decide) (by decide), b35]
  have a6 : zm_o (zv_I h6 348) s 6 = s ∨ (zm_o (zv_I h6 348) s 6 = zm_o c (c 0) 6 ∧ c 0 ≠ 0) := by
    rw [rw6 6 (by decide) (by decide) (by decide), o4 6 (by decide) (by decide), b36]
    rcases q2 with q | q
    · rw [if_pos q]
      exact Or.inl rfl
    · rw [if_neg (by rw [q.1]; decide)]
      exact Or.inr ⟨rfl, q.2⟩
  have a8 : zm_o (zv_I h6 348) s 8 = -1 := by rw [rw6 8 (by decide) (by decide) (by decide), o4 8 (by decide) (by decide), b38]
  have atk : ∀ k : Nat, (k : Int) < m → ∃ x : Int × Int, ((zm_row c (c 0 :: l)).filter (zm_sn c (c 0 :: l)))[place.toNat + k]? = some x ∧ zm_o (zv_I h6 348) s (52 + 2 * (k : Int)) = x.1 ∧ zm_o (zv_I h6 348) s (52 + 2 * (k : Int) + 1) = x.2 := by
    intro k hk
    obtain ⟨x, x1, x2, x3⟩ := i4 k (by omega)
    exact ⟨x, x1, by rw [rw6 _ (by omega) (by omega) (by omega)]; exact x2, by rw [rw6 _ (by omega) (by omega) (by omega)]; exact x3⟩
  have hagl : ∀ t ∈ c 0 :: l, zm_ag c (zv_I h6 348) t := fun t ht => by
    have hst := hl.2.1.2.2 t ht
    exact zm_Nw_ag nw hst.1.1 (by omega) (fun e => hnst (by rw [← e]; exact hst))
  have hnl : ¬ s ∈ c 0 :: l := fun q => hnst (hl.2.1.2.2 s q)
  obtain ⟨_, _, cnt⟩ := zm_cnt_cut (List.cons_ne_nil _ _) hagl hnl g a2
  have hold := hl.2.2.2.2.2.2
  obtain ⟨W6, _⟩ := zm_W_new w hs hd nw hl a6 (fun _ => by omega) (fun _ p hp => by
    unfold zm_tk at hp
    obtain ⟨k, hk, ek⟩ := List.mem_map.mp hp
    have hk2 := List.mem_range.mp hk
    rw [a5] at hk2
    obtain ⟨x, x1, x2, x3⟩ := atk k (by omega)
    have ex : p = x := by
      rw [← ek, x2, x3]
    rw [ex]
    exact (List.mem_filter.mp (List.mem_of_getElem? x1)).1) (by omega) (by omega)
  refine zm_iI ⟨zm_F_t f4 (zm_F_s f6 rfl rfl), W6, Or.inr ⟨hs, hd, nw, l, hl, a2, ?_, ?_, a5, a6, a8, atk⟩⟩
  · rw [rw6 3 (by decide) (by decide) (by decide), o4 3 (by decide) (by decide), b33]
  · rw [rw6 4 (by decide) (by decide) (by decide), o4 4 (by decide) (by decide), b34]
