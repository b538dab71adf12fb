/-! ===== the tie: put and cut of the reference, exactly ===== -/
/-- the first number that is free -/
def zt_free (c : Nat → Int) (s : Int) : Prop := (0 ≤ s ∧ s ≤ 47) ∧ (∀ j : Int, 0 ≤ j → j < s → zm_o c j 0 = 1) ∧ zm_o c s 0 ≠ 1
/-- which group a new one is of -/
def zt_gp (c c' : Nat → Int) (s a b n : Int) : Prop := ∃ n1 n2, zt_dp c (c 0) n1 ∧ (zm_ed c (c 0) → zt_dp c (zm_o c (c 0) 6) n2) ∧ (zm_o c' s 6 = if zt_jn c n1 n2 a b n = true then zm_o c (c 0) 6 else s) ∧ zm_o c' s 7 = zv_w (c 2 + 1) ∧ zm_o c' s 10 = 0 ∧ zm_o c' s 11 = 0
theorem zt_vc7 (c : Nat → Int) {s : Int} (hs : 0 ≤ s ∧ s ≤ 47) : zm_o (zm_vc c s) s 7 = zv_w (c 2 + 1) := by
  unfold zm_o zm_vc
  rw [if_neg (by omega), if_neg (by omega), if_neg (by omega), if_neg (by omega), if_pos (show 432 + 76 * s.toNat + Int.toNat 7 = 432 + 76 * s.toNat + 7 from rfl)]
theorem zt_put84 {h : zv_H} {c : Nat → Int} {l : List Int} (hM : zm_M h) (hc : zv_I h 348 = c) (w : zm_W c) (ck : zt_ck c) (d : Nat) (hl : zm_W1 c (c 0) l) (g : zm_G0 c (c 0 :: l)) (hSn : zm_Sn h c (c 0 :: l)) {s place row : Int} (hs : 0 ≤ s ∧ s ≤ 47) (hd : zm_o c s 0 ≠ 1) {m : Nat} (hm : m ≤ 12) (h19 : zv_I h 347 19 = m) (hp : 0 ≤ place ∧ place ≤ ((zm_row c (c 0 :: l)).filter (zm_sn c (c 0 :: l))).length) (hcnt : ((zm_row c (c 0 :: l)).filter (zm_sn c (c 0 :: l))).length + m ≤ 120) (hrow : (place = 0 ∧ row = -1) ∨ (place ≠ 0 ∧ row = zm_rp (zm_sn c (c 0 :: l)) (zm_row c (c 0 :: l)) (place - 1))) :
    zm_R (L9_putNow_84 (d + 4) 347 place s row h) (zm_I fun v h' => v = s ∧ zt_gp c (zv_I h' 348) s 0 place m) := by
  have h0 : 0 ≤ c 0 ∧ c 0 ≤ 47 := w.2.1.1
  have hns : ¬ zm_st c s := fun q => hd q.2
  have hne : s ≠ c 0 := fun e => hns (by rw [e]; exact w.2.1)
  rw [qL9_putNow_84, zm_e (zm_gI hM 19), zm_e (zm_gI hM 19), h19]
  obtain ⟨⟨j, h2⟩, e2, ⟨n1, n2, dp1, dp2, qj⟩, f2⟩ := zt_joins hM hc w ck (d + 1) 0 place m
  dsimp only at qj f2
  have hM2 := zm_F_M f2 hM
  have c2 : zv_I h2 348 = c := (zm_F_a f2 348).trans hc
  rw [zm_e e2]
  dsimp only
  obtain ⟨h3, e3, f3, b3⟩ := zm_begins hM2 c2 (d + 2) (s := s) (by omega) h0 hne 0 place m j
  have hM3 := zm_F_M f3 hM2
  obtain ⟨⟨b30, b31, b32, b33, b34, b35, b36⟩, b38, b39, b3k⟩ := b3
  rw [zm_e e3]
  have w3 : zv_I h3 360 = zv_I h 360 := (zm_F_a f3 360).trans (zm_F_a f2 360)
  have n3 : zv_I h3 347 19 = m := (zm_F_g f3 19).trans ((zm_F_g f2 19).trans h19)
  obtain ⟨h4, i1, i2, i3, i4, i5⟩ := zm_put110 (d + 3) (s := s) (by omega) row (zv_I h3 348) (zv_I h 360) m hm m 0 h3 (by omega) hM3 n3 w3 (fun _ _ _ _ => rfl) (fun k hk => by omega) (fun _ _ => rfl)
  have hM4 := zm_F_M i2 hM3
  rw [show L9_putNow_110 (d + 4) 347 s row 0 h3 = _ from i1, qL9_putNow_110, zm_e (zm_gI hM4 19), show zv_I h4 347 19 = (m : Int) from (zm_F_g i2 19).trans n3, if_neg (by omega)]
  have o4 : zm_o (zv_I h4 348) s 6 = zm_o (zv_I h3 348) s 6 := i3 6 (by decide) (by decide) (by omega)
  have o10 : zm_o (zv_I h4 348) s 10 = 0 := (i3 10 (by decide) (by decide) (by omega)).trans (b39 10 (by decide) (by decide))
  have o11 : zm_o (zv_I h4 348) s 11 = 0 := (i3 11 (by decide) (by decide) (by omega)).trans (b39 11 (by decide) (by decide))
  have c40 : zv_I h4 348 0 = c 0 := (i5 0 (by omega)).trans (b3k 0 (by omega))
  have c42 : zv_I h4 348 2 = c 2 := (i5 2 (by omega)).trans (b3k 2 (by omega))
  have fin : ∀ h5 : zv_H, zm_M h5 → zv_I h5 348 0 = c 0 → zv_I h5 348 2 = c 2 → zm_o (zv_I h5 348) s 6 = zm_o (zv_I h3 348) s 6 → zm_o (zv_I h5 348) s 10 = 0 → zm_o (zv_I h5 348) s 11 = 0 → zm_R (L9_putNow_175 (d + 4) 347 s h5) (zm_I fun v h' => v = s ∧ zt_gp c (zv_I h' 348) s 0 place m) := by
    intro h5 hM5 c50 c52 o5 p10 p11
    obtain ⟨h6, e6, f6, c6⟩ := zm_visits hM5 rfl (d + 2) hs
    rw [if_neg (by rw [c50]; exact hne)] at c6
    rw [qL9_putNow_175, zm_e e6]
    refine zm_iI ⟨rfl, n1, n2, dp1, dp2, ?_, by rw [c6, zt_vc7 _ hs, c52], by rw [c6, zm_vc_o hs (by omega) (by decide) (by omega)]; exact p10, by rw [c6, zm_vc_o hs (by omega) (by decide) (by omega)]; exact p11⟩
    rw [c6, zm_vc_o hs (by omega) (by decide) (by omega), o5, b36, qj]
    by_cases q : zt_jn c n1 n2 0 place m = true
    · rw [if_pos q, q, if_neg (by decide)]
    · have q' : zt_jn c n1 n2 0 place m = false := by
        cases z : zt_jn c n1 n2 0 place m with
        | false => rfl
        | true => exact absurd z q
      rw [if_neg q, q', if_pos (show zt_bi false = 0 from rfl)]
  rcases hrow with ⟨r1, r2⟩ | ⟨r1, r2⟩
  · rw [if_pos (by omega)]
    exact fin h4 hM4 c40 c42 o4 o10 o11
  · obtain ⟨p, ep⟩ : ∃ p : Nat, place - 1 = p := ⟨(place - 1).toNat, by omega⟩
    have hrp := zm_rp_in (zm_sn c (c 0 :: l)) (zm_row c (c 0 :: l)) p (by omega)
    have hrp2 := zm_rp_ge (zm_sn c (c 0 :: l)) (zm_row c (c 0 :: l)) p
    rw [ep] at r2
    have hrl := zm_row_le g
    have hll : (c 0 :: l).length ≤ 48 := zm_nd_le (n := 48) hl.2.1.1 (fun t ht => by have := (hl.2.1.2.2 t ht).1; omega)
    rw [if_neg (by omega), zm_e (zm_f6 hM4), zm_e (zm_aI hM4 zm_l352 rfl (by omega) (by omega)), zm_e (zm_sets hM4 _ (by omega) (by decide) _)]
    generalize zv_I h4 352 row.toNat = x1
    have c5 : zv_I (zv_sI h4 348 (432 + 76 * s.toNat + Int.toNat 8) x1) 348 = zm_os (zv_I h4 348) s 8 x1 := zm_ss _ _ _ _
    have hM5 : zm_M (zv_sI h4 348 (432 + 76 * s.toNat + Int.toNat 8) x1) := hM4
    generalize zv_sI h4 348 (432 + 76 * s.toNat + Int.toNat 8) x1 = h5 at hM5 c5
    rw [zm_e (zm_f7 hM5), zm_e (zm_aI hM5 zm_l353 rfl (by omega) (by omega)), zm_e (zm_sets hM5 _ (by omega) (by decide) _)]
    generalize zv_I h5 353 row.toNat = x2
    have c6 : zv_I (zv_sI h5 348 (432 + 76 * s.toNat + Int.toNat 9) x2) 348 = zm_os (zm_os (zv_I h4 348) s 8 x1) s 9 x2 := by
      rw [← c5]
      exact zm_ss _ _ _ _
    refine fin _ hM5 ?_ ?_ ?_ ?_ ?_
    · rw [c6, zm_os_k _ _ (by decide) (by omega), zm_os_k _ _ (by decide) (by omega)]
      exact c40
    · rw [c6, zm_os_k _ _ (by decide) (by omega), zm_os_k _ _ (by decide) (by omega)]
      exact c42
    · rw [c6, zm_os_o _ _ hs.1 (by decide) hs.1 (by decide) (fun q => by cases q.2), zm_os_o _ _ hs.1 (by decide) hs.1 (by decide) (fun q => by cases q.2)]
      exact o4
    · rw [c6, zm_os_o _ _ hs.1 (by decide) hs.1 (by decide) (fun q => by cases q.2), zm_os_o _ _ hs.1 (by decide) hs.1 (by decide) (fun q => by cases q.2)]
      exact o10
    · rw [c6, zm_os_o _ _ hs.1 (by decide) hs.1 (by decide) (fun q => by cases q.2), zm_os_o _ _ hs.1 (by decide) hs.1 (by decide) (fun q => by cases q.2)]
      exact o11
/-- what a put wants -/
def zt_pk (c : Nat → Int) (n m place : Int) : Prop := (0 ≤ place ∧ place ≤ n) ∧ m ≠ 0 ∧ zm_nst c ≠ 48 ∧ n + m ≤ 120
theorem zt_freeS {h : zv_H} (hM : zm_M h) (d : Nat) (hn : zm_nst (zv_I h 348) ≠ 48) : ∃ v : Int, C9_freeState (d + 2) 347 h = some (v, h) ∧ zt_free (zv_I h 348) v := by
  obtain ⟨v, e, r1, r2, r3⟩ := zm_free hM d hn
  exact ⟨v, e, r1, r2, r3⟩
theorem zt_putNow {h : zv_H} {c : Nat → Int} (hM : zm_M h) (hc : zv_I h 348 = c) (w : zm_W c) (ck : zt_ck c) (d : Nat) {m : Nat} (hm : m ≤ 12) (h19 : zv_I h 347 19 = m) {l : List Int} (hl : zm_Ln c (c 0 :: l) (c 0)) (place : Int) : zm_R (C9_putNow (d + 6) 347 place h) (fun q => (q.1 = -1 ∧ ¬ zt_pk c (zt_dc c (c 0 :: l)).length m place) ∨ (zt_pk c (zt_dc c (c 0 :: l)).length m place ∧ zt_free c q.1 ∧ zt_gp c (zv_I q.2 348) q.1 0 place m)) := by
  refine zm_cI (P := fun v h' => (v = -1 ∧ ¬ zt_pk c (zt_dc c (c 0 :: l)).length m place) ∨ (zt_pk c (zt_dc c (c 0 :: l)).length m place ∧ zt_free c v ∧ zt_gp c (zv_I h' 348) v 0 place m)) (lC9_putNow (zm_ob hM)) ?_
  obtain ⟨l', hl', hl2, g, gt⟩ := zm_W_l w.1 w.2.1
  have el : l' = l := (List.cons.inj (zm_Ln_u hl'.1 hl)).2
  subst el
  obtain ⟨⟨n, h1⟩, e1, en, f1, hSn⟩ := zm_lettersOf hM d (zm_sees_st hM hc d hl' hl2 g gt)
  dsimp only at en f1 hSn
  have hM1 := zm_F_M f1 hM
  have c1 : zv_I h1 348 = c := (zm_F_a f1 348).trans hc
  have hrl := zm_row_le g
  rw [List.length_cons] at hrl
  have hfl := List.length_filter_le (zm_sn c (c 0 :: l')) (zm_row c (c 0 :: l'))
  have h19' : zv_I h1 347 19 = m := (zm_F_g f1 19).trans h19
  have en' : n = ((zt_dc c (c 0 :: l')).length : Int) := en
  have refu : ∀ v : Int, (¬ zt_pk c (zt_dc c (c 0 :: l')).length m place) → zm_R ((C9_refuse (d + 5) 347 v h1).bind fun q => (some (some (zv_i q.1), q.2) : zv_O)) (zm_I fun v h' => (v = -1 ∧ ¬ zt_pk c (zt_dc c (c 0 :: l')).length m place) ∨ (zt_pk c (zt_dc c (c 0 :: l')).length m place ∧ zt_free c v ∧ zt_gp c (zv_I h' 348) v 0 place m)) := by
    intro v hn
    rw [zm_e (zm_refuse hM1 _ v)]
    exact zm_iI (Or.inl ⟨rfl, hn⟩)
  rw [qE9_putNow, zm_e (zm_here hM _), hc]
  dsimp only
  rw [zm_e e1]
  dsimp only
  refine zm_gb (zm_isIn _ place 0 n) (fun hp => ?_) (fun hp => ?_)
  · rw [qL9_putNow_25]
    exact refu 1 (fun q => hp (by rw [en']; exact q.1))
  · dsimp only
    rw [zm_e (zm_gI hM1 19), h19']
    refine zm_if (fun hm0 => ?_) (fun hm0 => ?_)
    · rw [qL9_putNow_25]
      exact refu 1 (fun q => q.2.1 hm0)
    · rw [zm_e (zm_states hM1 _ (by rw [c1]; exact w.1.1)), c1]
      dsimp only
      refine zm_if (fun q48 => refu 3 (fun q => q.2.2.1 q48)) (fun hns => ?_)
      rw [zm_e (zm_gI hM1 19), h19', zm_w (by omega)]
      refine zm_if (fun hcn => ?_) (fun hcn => refu 6 (fun q => hcn (by rw [en']; exact q.2.2.2)))
      have ok : zt_pk c (zt_dc c (c 0 :: l')).length m place := ⟨by rw [← en']; exact hp, hm0, hns, by rw [← en']; exact hcn⟩
      obtain ⟨s, es, fr⟩ := zt_freeS hM1 (d + 3) (by rw [c1]; exact hns)
      rw [c1] at fr
      rw [zm_e es]
      dsimp only
      have go : ∀ row : Int, ((place = 0 ∧ row = -1) ∨ (place ≠ 0 ∧ row = zm_rp (zm_sn c (c 0 :: l')) (zm_row c (c 0 :: l')) (place - 1))) → zm_R (L9_putNow_84 (d + 5) 347 place s row h1) (zm_I fun v h' => (v = -1 ∧ ¬ zt_pk c (zt_dc c (c 0 :: l')).length m place) ∨ (zt_pk c (zt_dc c (c 0 :: l')).length m place ∧ zt_free c v ∧ zt_gp c (zv_I h' 348) v 0 place m)) := by
        intro row hrow
        refine zm_mono (zt_put84 hM1 c1 w ck (d + 1) hl' g hSn fr.1 fr.2.2 hm h19' (by omega) (by omega) hrow) ?_
        rintro ⟨ov, h'⟩ ⟨v, ev, e2, p2⟩
        exact ⟨v, ev, Or.inr ⟨ok, by rw [e2]; exact fr, by rw [e2]; exact p2⟩⟩
      refine zm_if (fun hp0 => go (-1) (Or.inl ⟨hp0, rfl⟩)) (fun hp0 => ?_)
      rw [zm_w (by omega), zm_e (zm_rowPlace hM1 _ hSn (by omega) (by omega) (by omega))]
      exact go _ (Or.inr ⟨hp0, rfl⟩)
/-- what a cut wants -/
def zt_uk (c : Nat → Int) (n place many : Int) : Prop := (1 ≤ many ∧ many ≤ 12) ∧ 0 ≤ place ∧ many ≤ n - place ∧ zm_nst c ≠ 48
theorem zt_cutNow {h : zv_H} {c : Nat → Int} (hM : zm_M h) (hc : zv_I h 348 = c) (w : zm_W c) (ck : zt_ck c) (d : Nat) (place many : Int) (hpl : place < 2147483648) {l : List Int} (hl : zm_Ln c (c 0 :: l) (c 0)) : zm_R (C9_cutNow (d + 6) 347 place many h) (fun q => (q.1 = -1 ∧ ¬ zt_uk c (zt_dc c (c 0 :: l)).length place many) ∨ (zt_uk c (zt_dc c (c 0 :: l)).length place many ∧ zt_free c q.1 ∧ zt_gp c (zv_I q.2 348) q.1 1 place many)) := by
  refine zm_cI (P := fun v h' => (v = -1 ∧ ¬ zt_uk c (zt_dc c (c 0 :: l)).length place many) ∨ (zt_uk c (zt_dc c (c 0 :: l)).length place many ∧ zt_free c v ∧ zt_gp c (zv_I h' 348) v 1 place many)) (lC9_cutNow (zm_ob hM)) ?_
  obtain ⟨l', hl', hl2, g, gt⟩ := zm_W_l w.1 w.2.1
  have el : l' = l := (List.cons.inj (zm_Ln_u hl'.1 hl)).2
  subst el
  have hrl := zm_row_le g
  rw [List.length_cons] at hrl
  have hfl := List.length_filter_le (zm_sn c (c 0 :: l')) (zm_row c (c 0 :: l'))
  have refu : ∀ (v : Int) (h1 : zv_H), zm_M h1 → (¬ zt_uk c (zt_dc c (c 0 :: l')).length place many) → zm_R ((C9_refuse (d + 5) 347 v h1).bind fun q => (some (some (zv_i q.1), q.2) : zv_O)) (zm_I fun v h' => (v = -1 ∧ ¬ zt_uk c (zt_dc c (c 0 :: l')).length place many) ∨ (zt_uk c (zt_dc c (c 0 :: l')).length place many ∧ zt_free c v ∧ zt_gp c (zv_I h' 348) v 1 place many)) := by
    intro v h1 hM1 hn
    rw [zm_e (zm_refuse hM1 _ v)]
    exact zm_iI (Or.inl ⟨rfl, hn⟩)
  rw [qE9_cutNow]
  refine zm_gb (zm_isIn _ many 1 12) (fun hmn => ?_) (fun hmn => ?_)
  · rw [qL9_cutNow_14]
    exact refu 1 h hM (fun q => hmn q.1)
  dsimp only
  refine zm_if (fun hp0 => ?_) (fun hp0 => ?_)
  · rw [qL9_cutNow_14]
    exact refu 1 h hM (fun q => by have := q.2.1; omega)
  obtain ⟨⟨n, h1⟩, e1, en, f1, hSn⟩ := zm_lettersOf hM d (zm_sees_st hM hc d hl' hl2 g gt)
  dsimp only at en f1 hSn
  have hM1 := zm_F_M f1 hM
  have c1 : zv_I h1 348 = c := (zm_F_a f1 348).trans hc
  have en' : n = ((zt_dc c (c 0 :: l')).length : Int) := en
  rw [zm_e (zm_here hM _), hc]
  dsimp only
  rw [zm_e e1]
  dsimp only
  rw [zm_w (by omega)]
  refine zm_if (fun hfit => ?_) (fun hfit => refu 5 h1 hM1 (fun q => hfit (by have := q.2.2.1; omega)))
  rw [zm_e (zm_states hM1 _ (by rw [c1]; exact w.1.1)), c1]
  dsimp only
  refine zm_if (fun q48 => refu 3 h1 hM1 (fun q => q.2.2.2 q48)) (fun hns => ?_)
  have ok : zt_uk c (zt_dc c (c 0 :: l')).length place many := ⟨hmn, by omega, by omega, hns⟩
  obtain ⟨s, es, fr⟩ := zt_freeS hM1 (d + 3) (by rw [c1]; exact hns)
  rw [c1] at fr
  have hs := fr.1
  have hd := fr.2.2
  rw [zm_e es]
  dsimp only
  have h0 : 0 ≤ c 0 ∧ c 0 ≤ 47 := w.2.1.1
  have hnst : ¬ zm_st c s := fun q => hd q.2
  have hne : s ≠ c 0 := fun e => hnst (by rw [e]; exact w.2.1)
  obtain ⟨⟨j, h2⟩, e2, ⟨n1, n2, dp1, dp2, qj⟩, f2⟩ := zt_joins hM1 c1 w ck (d + 2) 1 place many
  dsimp only at qj f2
  have hM2 := zm_F_M f2 hM1
  have c2 : zv_I h2 348 = c := (zm_F_a f2 348).trans c1
  rw [zm_e e2]
  dsimp only
  obtain ⟨h3, e3, f3, b3⟩ := zm_begins hM2 c2 (d + 3) (s := s) (by omega) h0 hne 1 place many j
  have hM3 := zm_F_M f3 hM2
  obtain ⟨⟨b30, b31, b32, b33, b34, b35, b36⟩, b38, b39, b3k⟩ := b3
  rw [zm_e e3]
  obtain ⟨m, em⟩ : ∃ m : Nat, many = m := ⟨many.toNat, by omega⟩
  subst em
  obtain ⟨h4, i1, i2, i3, i4, i5⟩ := zm_cut78 (d + 4) (s := s) (by omega) place (by omega) (zv_I h3 348) m (by omega) (c := c) (l := c 0 :: l') (by omega) (by omega) m 0 h3 (by omega) hM3 (zm_Sn_F (zm_Sn_F hSn f2) f3) (fun _ _ _ => rfl) (fun k hk => by omega) (fun _ _ => rfl)
  have hM4 := zm_F_M i2 hM3
  rw [show L9_cutNow_78 (d + 5) 347 place m s 0 h3 = _ from i1, qL9_cutNow_78, if_neg (by omega)]
  obtain ⟨h6, e6, f6, c6⟩ := zm_visits hM4 rfl (d + 3) hs
  have c40 : zv_I h4 348 0 = c 0 := (i5 0 (by omega)).trans (b3k 0 (by omega))
  rw [if_neg (by rw [c40]; exact hne)] at c6
  rw [zm_e e6]
  have c42 : zv_I h4 348 2 = c 2 := (i5 2 (by omega)).trans (b3k 2 (by omega))
  refine zm_iI (Or.inr ⟨ok, fr, n1, n2, dp1, dp2, ?_, by rw [c6, zt_vc7 _ hs, c42], by rw [c6, zm_vc_o hs (by omega) (by decide) (by omega), i3 10 (by decide) (by decide), b39 10 (by decide) (by decide)], by rw [c6, zm_vc_o hs (by omega) (by decide) (by omega), i3 11 (by decide) (by decide), b39 11 (by decide) (by decide)]⟩)
  rw [c6, zm_vc_o hs (by omega) (by decide) (by omega), i3 6 (by decide) (by decide), b36, qj]
  by_cases q : zt_jn c n1 n2 1 place m = true
  · rw [if_pos q, q, if_neg (by decide)]
  · have q' : zt_jn c n1 n2 1 place m = false := by
      cases z : zt_jn c n1 n2 1 place m with
      | false => rfl
      | true => exact absurd z q
    rw [if_neg q, q', if_pos (show zt_bi false = 0 from rfl)]
