/-! ===== the reference: put and cut ===== -/
theorem zm_vc_cg {c c4 : Nat → Int} {s : Int} (hs : 0 ≤ s ∧ s ≤ 47) (hk : ∀ k : Nat, ¬ (432 + 76 * s.toNat ≤ k ∧ k < 432 + 76 * s.toNat + 76) → c4 k = c k) {k : Nat} (h1 : k < 432 ∨ 4156 ≤ k) (h2 : k < 4236) : zm_vc c4 s k = zm_vc c s k := by
  unfold zm_vc
  rw [hk 5 (by omega), hk 1 (by omega), hk 2 (by omega), hk k (by omega)]
  by_cases q : 4158 ≤ k ∧ k < 4236
  · rw [hk (k - 2) (by omega)]
  · rw [if_neg q, if_neg q]
theorem zm_Nw_of {c c4 : Nat → Int} {s : Int} (hs : 0 ≤ s ∧ s ≤ 47) (hk : ∀ k : Nat, ¬ (432 + 76 * s.toNat ≤ k ∧ k < 432 + 76 * s.toNat + 76) → c4 k = c k) (e0 : zm_o c4 s 0 = 1) (e1 : zm_o c4 s 1 = c 0) : zm_Nw c (zm_vc c4 s) s ∧ ∀ w : Int, 0 ≤ w → w < 76 → w ≠ 7 → zm_o (zm_vc c4 s) s w = zm_o c4 s w := by
  have r : ∀ w : Int, 0 ≤ w → w < 76 → w ≠ 7 → zm_o (zm_vc c4 s) s w = zm_o c4 s w := fun w w0 w1 w7 => zm_vc_o hs (by omega) ⟨w0, w1⟩ (fun q => w7 q.2)
  refine ⟨⟨fun k h1 h2 => zm_vc_cg hs hk h1 h2, fun t w t0 t1 ht w0 w1 => ?_, ?_, ?_⟩, r⟩
  · rw [zm_vc_o hs ⟨t0, t1⟩ ⟨w0, w1⟩ (fun q => ht q.1)]
    unfold zm_o
    exact hk _ (by omega)
  · rw [r 0 (by decide) (by decide) (by decide)]
    exact e0
  · rw [r 1 (by decide) (by decide) (by decide)]
    exact e1
/-- a put's cells -/
def zm_Pt (c c' : Nat → Int) (l : List Int) (s place m : Int) (wd : Nat → Int) : Prop := zm_o c' s 2 = 0 ∧ zm_o c' s 3 = c 1 ∧ zm_o c' s 4 = place ∧ zm_o c' s 5 = m ∧ (zm_o c' s 6 = s ∨ (zm_o c' s 6 = zm_o c (c 0) 6 ∧ c 0 ≠ 0)) ∧ (∀ k : Nat, (k : Int) < m → zm_o c' s (12 + k) = wd k) ∧ (place = 0 → zm_o c' s 8 = -1) ∧ (place ≠ 0 → ∃ x : Int × Int, ((zm_row c l).filter (zm_sn c l))[(place - 1).toNat]? = some x ∧ zm_o c' s 8 = x.1 ∧ zm_o c' s 9 = x.2)
theorem zm_put110 (d : Nat) {s : Int} (hs : 0 ≤ s ∧ s ≤ 48) (row : Int) (g : Nat → Int) (wd : Nat → Int) (m : Nat) (hm : m ≤ 12) : ∀ (n i : Nat) (h : zv_H), i + n = m → zm_M h → zv_I h 347 19 = m → zv_I h 360 = wd → (∀ w : Int, 0 ≤ w → w < 76 → ¬ (12 ≤ w ∧ w < 12 + m) → zm_o (zv_I h 348) s w = zm_o g s w) → (∀ k : Nat, k < i → zm_o (zv_I h 348) s (12 + k) = wd k) → (∀ k : Nat, ¬ (432 + 76 * s.toNat ≤ k ∧ k < 432 + 76 * s.toNat + 76) → zv_I h 348 k = g k) → ∃ h', L9_putNow_110 (d + 1) 347 s row i h = L9_putNow_110 (d + 1) 347 s row m h' ∧ zm_F [348] [] h h' ∧ (∀ w : Int, 0 ≤ w → w < 76 → ¬ (12 ≤ w ∧ w < 12 + m) → zm_o (zv_I h' 348) s w = zm_o g s w) ∧ (∀ k : Nat, k < m → zm_o (zv_I h' 348) s (12 + k) = wd k) ∧ (∀ k : Nat, ¬ (432 + 76 * s.toNat ≤ k ∧ k < 432 + 76 * s.toNat + 76) → zv_I h' 348 k = g k)
  | 0, i, h, hi, _, _, _, h1, h2, h3 => by
    have e : i = m := by omega
    subst e
    exact ⟨h, rfl, zm_F_r _ _ h, h1, h2, h3⟩
  | n + 1, i, h, hi, hM, h19, hw, h1, h2, h3 => by
    have S : zv_I (zv_sI h 348 (432 + 76 * s.toNat + (12 + (i : Int)).toNat) (wd i)) 348 = zm_os (zv_I h 348) s (12 + (i : Int)) (wd i) := zm_ss _ _ _ _
    rw [qL9_putNow_110, zm_e (zm_gI hM 19), h19, if_pos (by omega), zm_e (zm_f17 hM), zm_e (zm_aI hM zm_l360 rfl (by omega) (by omega)), show ((i : Int)).toNat = i by omega, hw, zm_w (x := 12 + (i : Int)) (by omega), zm_e (zm_sets hM d hs (by omega) _), zm_w (by omega)]
    obtain ⟨h', i1, i2, i3⟩ := zm_put110 d hs row g wd m hm n (i + 1) (zv_sI h 348 (432 + 76 * s.toNat + (12 + (i : Int)).toNat) (wd i)) (by omega) hM h19 (by rw [zm_so h _ _]; exact hw) (fun w w0 w1 wn => by
      rw [S, zm_os_o _ _ hs.1 (by omega) hs.1 ⟨w0, w1⟩ (fun q => by omega)]
      exact h1 w w0 w1 wn) (fun k hk => by
      rw [S]
      by_cases q : k = i
      · rw [q, zm_os_s]
      · rw [zm_os_o _ _ hs.1 (by omega) hs.1 (by omega) (fun z => by omega)]
        exact h2 k (by omega)) (fun k hk => by
      rw [S, zm_os_k _ _ (by omega) hk]
      exact h3 k hk)
    exact ⟨h', i1, zm_F_t (zm_F_I (zm_F_r _ _ h) rfl _ _) i2, i3⟩
def zm_PA : List Nat := [348, 351, 352, 353, 354, 355, 358, 359]
def zm_PB : List Nat := [3, 10, 11, 12]
/-- what putting does, where it does -/
theorem zm_put84 {h : zv_H} {c : Nat → Int} {l : List Int} (hM : zm_M h) (hc : zv_I h 348 = c) (w : zm_W c) (d : Nat) (hl : zm_W1 c (c 0) l) (g : zm_G0 c (c 0 :: l)) (gt : ∀ t ∈ c 0 :: l, zm_o c t 2 = 1 → ∀ p ∈ zm_tk c t, p ∈ zm_row c (c 0 :: l)) (hSn : zm_Sn h c (c 0 :: l)) {s place row : Int} (hs : 0 ≤ s ∧ s ≤ 47) (hd : zm_o c s 0 ≠ 1) {m : Nat} (hm : m ≤ 12) (h19 : zv_I h 347 19 = m) (hp : 0 ≤ place ∧ place ≤ ((zm_row c (c 0 :: l)).filter (zm_sn c (c 0 :: l))).length) (hcnt : ((zm_row c (c 0 :: l)).filter (zm_sn c (c 0 :: l))).length + m ≤ 120) (hrow : (place = 0 ∧ row = -1) ∨ (place ≠ 0 ∧ row = zm_rp (zm_sn c (c 0 :: l)) (zm_row c (c 0 :: l)) (place - 1))) :
    zm_R (L9_putNow_84 (d + 4) 347 place s row h) (zm_I fun v h' => zm_F [348, 351, 352, 353, 354, 355, 358, 359] [3, 10, 11, 12] h h' ∧ zm_W (zv_I h' 348) ∧ v = s ∧ zm_Nw c (zv_I h' 348) s ∧ zm_Pt c (zv_I h' 348) (c 0 :: l) s place m (zv_I h 360)) := by
  have h0 : 0 ≤ c 0 ∧ c 0 ≤ 47 := w.2.1.1
  have hns : ¬ zm_st c s := fun q => hd q.2
  have hne : s ≠ c 0 := fun e => hns (by rw [e]; exact w.2.1)
  rw [qL9_putNow_84, zm_e (zm_gI hM 19), zm_e (zm_gI hM 19), h19]
  obtain ⟨⟨j, h2⟩, e2, q2, f2⟩ := zm_joins hM hc w (d + 1) 0 place m
  dsimp only at q2 f2
  have hM2 := zm_F_M f2 hM
  have c2 : zv_I h2 348 = c := (zm_F_a f2 348).trans hc
  rw [zm_e e2]
  dsimp only
  obtain ⟨h3, e3, f3, b3⟩ := zm_begins hM2 c2 (d + 2) (s := s) (by omega) h0 hne 0 place m j
  have hM3 := zm_F_M f3 hM2
  obtain ⟨⟨b30, b31, b32, b33, b34, b35, b36⟩, b38, b39, b3k⟩ := b3
  rw [zm_e e3]
  have w3 : zv_I h3 360 = zv_I h 360 := (zm_F_a f3 360).trans (zm_F_a f2 360)
  have n3 : zv_I h3 347 19 = m := (zm_F_g f3 19).trans ((zm_F_g f2 19).trans h19)
  obtain ⟨h4, i1, i2, i3, i4, i5⟩ := zm_put110 (d + 3) (s := s) (by omega) row (zv_I h3 348) (zv_I h 360) m hm m 0 h3 (by omega) hM3 n3 w3 (fun _ _ _ _ => rfl) (fun k hk => by omega) (fun _ _ => rfl)
  have hM4 := zm_F_M i2 hM3
  have f4 : zm_F [348, 351, 352, 353, 354, 355, 358, 359] [3, 10, 11, 12] h h4 := zm_F_t (zm_F_s f2 rfl rfl) (zm_F_t (zm_F_s f3 rfl rfl) (zm_F_s i2 rfl rfl))
  rw [show L9_putNow_110 (d + 4) 347 s row 0 h3 = _ from i1, qL9_putNow_110, zm_e (zm_gI hM4 19), show zv_I h4 347 19 = (m : Int) from (zm_F_g i2 19).trans n3, if_neg (by omega)]
  have k4 : ∀ k : Nat, ¬ (432 + 76 * s.toNat ≤ k ∧ k < 432 + 76 * s.toNat + 76) → zv_I h4 348 k = c k := fun k hk => (i5 k hk).trans (b3k k hk)
  have o4 : ∀ w : Int, 0 ≤ w → w < 12 → zm_o (zv_I h4 348) s w = zm_o (zv_I h3 348) s w := fun w w0 w1 => i3 w w0 (by omega) (by omega)
  -- the visit and what then stands
  have fin : ∀ h5 : zv_H, zm_F [348, 351, 352, 353, 354, 355, 358, 359] [3, 10, 11, 12] h h5 → (∀ k : Nat, ¬ (432 + 76 * s.toNat ≤ k ∧ k < 432 + 76 * s.toNat + 76) → zv_I h5 348 k = c k) → (∀ w : Int, 0 ≤ w → w < 8 → zm_o (zv_I h5 348) s w = zm_o (zv_I h3 348) s w) → (∀ k : Nat, k < m → zm_o (zv_I h5 348) s (12 + k) = zv_I h 360 k) → (-1 ≤ zm_o (zv_I h5 348) s 8 ∧ zm_o (zv_I h5 348) s 8 ≤ 47) → (place = 0 → zm_o (zv_I h5 348) s 8 = -1) → (place ≠ 0 → ∃ x : Int × Int, ((zm_row c (c 0 :: l)).filter (zm_sn c (c 0 :: l)))[(place - 1).toNat]? = some x ∧ zm_o (zv_I h5 348) s 8 = x.1 ∧ zm_o (zv_I h5 348) s 9 = x.2) → zm_R (L9_putNow_175 (d + 4) 347 s h5) (zm_I fun v h' => zm_F [348, 351, 352, 353, 354, 355, 358, 359] [3, 10, 11, 12] h h' ∧ zm_W (zv_I h' 348) ∧ v = s ∧ zm_Nw c (zv_I h' 348) s ∧ zm_Pt c (zv_I h' 348) (c 0 :: l) s place m (zv_I h 360)) := by
    intro h5 f5 k5 o5 l5 b5 p0 p1
    have hM5 := zm_F_M f5 hM
    obtain ⟨h6, e6, f6, c6⟩ := zm_visits hM5 rfl (d + 2) hs
    have c50 : zv_I h5 348 0 = c 0 := k5 0 (by omega)
    rw [if_neg (by rw [c50]; exact hne)] at c6
    obtain ⟨nw, rw6⟩ := zm_Nw_of hs k5 (by rw [o5 0 (by decide) (by decide)]; exact b30) (by rw [o5 1 (by decide) (by decide), b31])
    rw [qL9_putNow_175, zm_e e6]
    rw [← c6] at nw rw6
    have a2 : zm_o (zv_I h6 348) s 2 = 0 := by rw [rw6 2 (by decide) (by decide) (by decide), o5 2 (by decide) (by decide), b32]
    have a5 : zm_o (zv_I h6 348) s 5 = m := by rw [rw6 5 (by decide) (by decide) (by decide), o5 5 (by decide) (by decide), b35]
    have a6 : zm_o (zv_I h6 348) s 6 = s ∨ (zm_o (zv_I h6 348) s 6 = zm_o c (c 0) 6 ∧ c 0 ≠ 0) := by
      rw [rw6 6 (by decide) (by decide) (by decide), o5 6 (by decide) (by decide), b36]
      rcases q2 with q | q
      · rw [if_pos q]
        exact Or.inl rfl
      · rw [if_neg (by rw [q.1]; decide)]
        exact Or.inr ⟨rfl, q.2⟩
    have a8 : zm_o (zv_I h6 348) s 8 = zm_o (zv_I h5 348) s 8 := rw6 8 (by decide) (by decide) (by decide)
    have hagl : ∀ t ∈ c 0 :: l, zm_ag c (zv_I h6 348) t := fun t ht => by
      have hst := hl.2.1.2.2 t ht
      exact zm_Nw_ag nw hst.1.1 (by omega) (fun e => hns (by rw [← e]; exact hst))
    have hnl : ¬ s ∈ c 0 :: l := fun q => hns (hl.2.1.2.2 s q)
    obtain ⟨_, _, _, cnt⟩ := zm_cnt_put (List.cons_ne_nil _ _) hagl hnl g gt a2
    obtain ⟨W6, _⟩ := zm_W_new w hs hd nw hl a6 (fun _ => by omega) (fun q => by rw [a2] at q; cases q) (by rw [a8]; exact b5) (by rw [cnt]; omega)
    refine zm_iI ⟨zm_F_t f5 (zm_F_s f6 rfl rfl), W6, rfl, nw, a2, ?_, ?_, a5, a6, fun k hk => ?_, fun q => ?_, fun q => ?_⟩
    · rw [rw6 3 (by decide) (by decide) (by decide), o5 3 (by decide) (by decide), b33]
    · rw [rw6 4 (by decide) (by decide) (by decide), o5 4 (by decide) (by decide), b34]
    · rw [rw6 _ (by omega) (by omega) (by omega)]
      exact l5 k (by omega)
    · rw [a8]
      exact p0 q
    · obtain ⟨x, x1, x2, x3⟩ := p1 q
      exact ⟨x, x1, by rw [a8]; exact x2, by rw [rw6 9 (by decide) (by decide) (by decide)]; exact x3⟩
  have b48 : zm_o (zv_I h4 348) s 8 = -1 := by rw [o4 8 (by decide) (by decide), b38]
  rcases hrow with ⟨r1, r2⟩ | ⟨r1, r2⟩
  · rw [if_pos (by omega)]
    exact fin h4 f4 k4 (fun w w0 w1 => o4 w w0 (by omega)) i4 (by omega) (fun _ => b48) (fun q => absurd r1 q)
  · obtain ⟨p, ep⟩ : ∃ p : Nat, place - 1 = p := ⟨(place - 1).toNat, by omega⟩
    have hrp := zm_rp_in (zm_sn c (c 0 :: l)) (zm_row c (c 0 :: l)) p (by omega)
    have hrp2 := zm_rp_ge (zm_sn c (c 0 :: l)) (zm_row c (c 0 :: l)) p
    rw [ep] at r2
    obtain ⟨x, hx⟩ : ∃ x, ((zm_row c (c 0 :: l)).filter (zm_sn c (c 0 :: l)))[p]? = some x := ⟨_, List.getElem?_eq_getElem (by omega)⟩
    have hx2 := hrp.2.trans hx
    have hrl := zm_row_le g
    have hll : (c 0 :: l).length ≤ 48 := zm_nd_le (n := 48) hl.2.1.1 (fun t ht => by have := (hl.2.1.2.2 t ht).1; omega)
    have Sn4 : zm_rw h4 (zm_row c (c 0 :: l)) := by
      have := zm_Sn_F (zm_Sn_F (zm_Sn_F hSn f2) f3) i2
      exact this.2.1
    have hxx := Sn4.2 _ x hx2
    have hxst : zm_st c x.1 := hl.2.1.2.2 _ (zm_row_mem (List.mem_of_getElem? hx2)).1
    rw [← r2] at hxx
    rw [if_neg (by omega), zm_e (zm_f6 hM4), zm_e (zm_aI hM4 zm_l352 rfl (by omega) (by omega)), hxx.1, zm_e (zm_sets hM4 _ (by omega) (by decide) _)]
    have f5 : zm_F [348, 351, 352, 353, 354, 355, 358, 359] [3, 10, 11, 12] h (zv_sI h4 348 (432 + 76 * s.toNat + Int.toNat 8) x.1) := zm_F_I f4 rfl _ _
    have c5 : zv_I (zv_sI h4 348 (432 + 76 * s.toNat + Int.toNat 8) x.1) 348 = zm_os (zv_I h4 348) s 8 x.1 := zm_ss _ _ _ _
    have y5 : zv_I (zv_sI h4 348 (432 + 76 * s.toNat + Int.toNat 8) x.1) 353 = zv_I h4 353 := zm_so _ _ _
    generalize zv_sI h4 348 (432 + 76 * s.toNat + Int.toNat 8) x.1 = h5 at f5 c5 y5
    have hM5 := zm_F_M f5 hM
    rw [zm_e (zm_f7 hM5), zm_e (zm_aI hM5 zm_l353 rfl (by omega) (by omega)), y5, hxx.2, zm_e (zm_sets hM5 _ (by omega) (by decide) _)]
    have c6 : zv_I (zv_sI h5 348 (432 + 76 * s.toNat + Int.toNat 9) x.2) 348 = zm_os (zm_os (zv_I h4 348) s 8 x.1) s 9 x.2 := by
      rw [← c5]
      exact zm_ss _ _ _ _
    have O : ∀ w : Int, 0 ≤ w → w < 76 → w ≠ 8 → w ≠ 9 → zm_o (zm_os (zm_os (zv_I h4 348) s 8 x.1) s 9 x.2) s w = zm_o (zv_I h4 348) s w := by
      intro w w0 w1 w8 w9
      rw [zm_os_o _ _ hs.1 (by decide) hs.1 ⟨w0, w1⟩ (fun q => w9 q.2), zm_os_o _ _ hs.1 (by decide) hs.1 ⟨w0, w1⟩ (fun q => w8 q.2)]
    have v8 : zm_o (zm_os (zm_os (zv_I h4 348) s 8 x.1) s 9 x.2) s 8 = x.1 := by
      rw [zm_os_o _ _ hs.1 (by decide) hs.1 (by decide) (fun q => by cases q.2), zm_os_s]
    refine fin _ (zm_F_I f5 rfl _ _) (fun k hk => ?_) (fun w w0 w1 => ?_) (fun k hk => ?_) ?_ (fun q => absurd q r1) (fun _ => ⟨x, ?_, ?_, ?_⟩)
    · rw [c6, zm_os_k _ _ (by decide) hk, zm_os_k _ _ (by decide) hk]
      exact k4 k hk
    · rw [c6, O w w0 (by omega) (by omega) (by omega)]
      exact o4 w w0 (by omega)
    · rw [c6, O _ (by omega) (by omega) (by omega) (by omega)]
      exact i4 k hk
    · rw [c6, v8]
      have := hxst.1
      omega
    · rw [show (place - 1).toNat = p by omega]
      exact hx
    · rw [c6, v8]
    · rw [c6, zm_os_s]
