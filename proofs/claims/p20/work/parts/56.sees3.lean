theorem zm_cb_c (c : Nat → Int) (l0 b : List Int) (t : Int) (p : Int × Int) : zm_cb c l0 (t :: b) p = ((decide (zm_o c t 2 = 1) && (decide (zm_fc c l0 t = 1) && (zm_tk c t).contains p)) || zm_cb c l0 b p) := rfl
theorem zm_cb_a (c : Nat → Int) (l0 a : List Int) (t : Int) (p : Int × Int) : zm_cb c l0 (a ++ [t]) p = (zm_cb c l0 a p || (decide (zm_o c t 2 = 1) && (decide (zm_fc c l0 t = 1) && (zm_tk c t).contains p))) := by
  unfold zm_cb
  rw [List.any_append, List.any_cons, List.any_nil, Bool.or_false]
theorem zm_cb_rev (c : Nat → Int) (l0 b : List Int) (p : Int × Int) : zm_cb c l0 b.reverse p = zm_cb c l0 b p := by
  unfold zm_cb
  exact List.any_reverse
theorem zm_sees194 (d : Nat) (c : Nat → Int) {l : List Int} (hl : ∀ t ∈ l, 0 ≤ t ∧ t ≤ 48) (hln : l.length ≤ 49) {row : List (Int × Int)} (hn : row.length ≤ 640) (hd : row.Nodup) (ht : ∀ t ∈ l, zm_o c t 2 = 1 → (0 ≤ zm_o c t 5 ∧ zm_o c t 5 ≤ 12) ∧ ∀ p ∈ zm_tk c t, p ∈ row) : ∀ (re pr : List Int), pr ++ re = l.reverse → ∀ h : zv_H, zm_li h c l → zm_rw h row → (∀ x ∈ l, zv_I h 354 x.toNat = zm_fc c l x) → (∀ (k : Nat) (x : Int × Int), row[k]? = some x → zv_I h 355 k = if (decide (zm_fc c l x.1 = 1) && !(zm_cb c l pr x)) = true then 1 else 0) → ∃ h', L9_sees_194 (d + 3) 347 pr.length h = L9_sees_194 (d + 3) 347 l.length h' ∧ zm_F [355] [] h h' ∧ ∀ (k : Nat) (x : Int × Int), row[k]? = some x → zv_I h' 355 k = if zm_sn c l x = true then 1 else 0
  | [], pr, e, h, _, _, _, hs => by
    rw [List.append_nil] at e
    refine ⟨h, by rw [e, List.length_reverse], zm_F_r _ _ h, fun k x hx => ?_⟩
    rw [hs k x hx, e, zm_cb_rev]
    rfl
  | t :: re, pr, e, h, hli, hr, hf, hs => by
    have hlen : l.length = pr.length + (re.length + 1) := by rw [← List.length_reverse (as := l), ← e, List.length_append, List.length_cons]
    have e' : (pr ++ [t]) ++ re = l.reverse := by
      rw [List.append_assoc]
      exact e
    have htl : t ∈ l := by
      rw [← List.mem_reverse, ← e]
      exact List.mem_append_right _ List.mem_cons_self
    have hx : l.reverse[pr.length]? = some t := by
      rw [← e, List.getElem?_append_right (Nat.le_refl _), Nat.sub_self]
      rfl
    have h01 := hl t htl
    obtain ⟨hM, hc, h10, h351⟩ := id hli
    have w1 : zv_w ((pr.length : Int) + 1) = (((pr ++ [t]).length : Nat) : Int) := by
      rw [zm_w (by omega), List.length_append]
      rfl
    rw [qL9_sees_194, zm_e (zm_gI hM 10), h10, if_pos (by omega), zm_e (zm_f5 hM), zm_e (zm_aI hM zm_l351 rfl (by omega) (by omega))]
    rw [show ((pr.length : Int)).toNat = pr.length by omega, h351 _ _ hx]
    by_cases c1 : zm_o c t 2 = 1
    · by_cases c2 : zm_fc c l t = 1
      · obtain ⟨m1, m2⟩ := ht t htl c1
        obtain ⟨h1, i1, i2, i3⟩ := zm_sees213 d c hn hd h01 c1 m1 m2 (pr.length : Int) (zm_o c t 5).toNat 0 (by omega) h hM hc hr (by rw [hf t htl, c2])
        rw [show L9_sees_213 (d + 3) 347 _ _ 0 _ = _ from i1, w1]
        obtain ⟨h', j1, j2, j3⟩ := zm_sees194 d c hl hln hn hd ht re (pr ++ [t]) e' h1 (zm_li_F hli i2) (zm_rw_of hr (zm_F_g i2 11) (zm_F_a i2 352) (zm_F_a i2 353)) (fun x hx => by rw [zm_F_a i2 354]; exact hf x hx) (fun k x hx => by
          rw [i3 k x hx, hs k x hx, List.drop_zero, zm_cb_a, decide_eq_true c1, decide_eq_true c2, Bool.true_and, Bool.true_and]
          by_cases c3 : x ∈ zm_tk c t
          · rw [if_pos c3, List.contains_iff_mem.mpr c3, Bool.or_true, Bool.not_true, Bool.and_false, if_neg (by decide)]
          · have c4 : (zm_tk c t).contains x = false := by
              cases c5 : (zm_tk c t).contains x with
              | false => rfl
              | true => exact absurd (List.contains_iff_mem.mp c5) c3
            rw [if_neg c3, c4, Bool.or_false])
        exact ⟨h', j1, zm_F_t i2 j2, j3⟩
      · have c3 : zm_fc c l t = 0 := by
          rcases zm_fc_01 c t l with q | q
          · exact q
          · exact absurd q c2
        rw [qL9_sees_213, zm_e (zm_of hM _ h01 (by decide)), hc]
        dsimp only
        rw [if_pos c1, zm_e (zm_f8 hM), zm_e (zm_aB hM zm_l354 (Or.inl rfl) rfl (by omega) (by omega)), hf t htl, c3, if_pos rfl, w1]
        exact zm_sees194 d c hl hln hn hd ht re (pr ++ [t]) e' h hli hr hf (fun k x hx => by
          rw [hs k x hx, zm_cb_a, decide_eq_false c2, Bool.false_and, Bool.and_false, Bool.or_false])
    · rw [qL9_sees_213, zm_e (zm_of hM _ h01 (by decide)), hc]
      dsimp only
      rw [if_neg c1, w1]
      exact zm_sees194 d c hl hln hn hd ht re (pr ++ [t]) e' h hli hr hf (fun k x hx => by
        rw [hs k x hx, zm_cb_a, decide_eq_false c1, Bool.false_and, Bool.or_false])
theorem zm_sees303 (d : Nat) {row : List (Int × Int)} (hn : row.length ≤ 640) (f : Int × Int → Bool) : ∀ (b a : List (Int × Int)), a ++ b = row → ∀ h : zv_H, zm_M h → zm_rw h row → zv_I h 347 12 = (a.filter f).length → (∀ (k : Nat) (x : Int × Int), row[k]? = some x → zv_I h 355 k = if f x = true then 1 else 0) → ∃ h', L9_sees_303 d 347 a.length h = L9_sees_303 d 347 row.length h' ∧ zm_F [] [12] h h' ∧ zv_I h' 347 12 = (row.filter f).length
  | [], a, e, h, _, _, h12, _ => by
    rw [List.append_nil] at e
    subst e
    exact ⟨h, rfl, zm_F_r _ _ h, h12⟩
  | x :: b, a, e, h, hM, hr, h12, hs => by
    have hlen : row.length = a.length + (b.length + 1) := by rw [← e, List.length_append, List.length_cons]
    have hx : row[a.length]? = some x := by
      rw [← e, List.getElem?_append_right (Nat.le_refl _), Nat.sub_self]
      rfl
    have e' : (a ++ [x]) ++ b = row := by
      rw [List.append_assoc]
      exact e
    have hle : (a.filter f).length ≤ a.length := List.length_filter_le f a
    have w1 : zv_w ((a.length : Int) + 1) = (((a ++ [x]).length : Nat) : Int) := by
      rw [zm_w (by omega), List.length_append]
      rfl
    rw [qL9_sees_303, zm_e (zm_gI hM 11), hr.1, if_pos (by omega), zm_e (zm_gI hM 12), zm_e (zm_f9 hM), zm_e (zm_aB hM zm_l355 (Or.inl rfl) rfl (by omega) (by omega))]
    rw [show ((a.length : Int)).toNat = a.length by omega, hs _ x hx, h12, w1]
    by_cases c1 : f x = true
    · rw [if_pos c1, if_neg (by decide), zm_e (zm_pI hM 12 _), zm_w (by omega)]
      obtain ⟨h', i1, i2, i3⟩ := zm_sees303 d hn f b (a ++ [x]) e' (zv_sI h 347 12 (((a.filter f).length : Int) + 1)) hM ⟨hr.1, fun k y hy => by rw [zm_so h _ _, zm_so h _ _]; exact hr.2 k y hy⟩ (by
        rw [zm_ss, zm_u_s, List.filter_append, List.length_append, List.filter_cons_of_pos c1]
        rfl) (fun k y hy => by rw [zm_so h _ _]; exact hs k y hy)
      exact ⟨h', i1, zm_F_t (zm_F_f (zm_F_r _ _ h) rfl _) i2, i3⟩
    · rw [if_neg c1, if_pos rfl, zm_e (zm_pI hM 12 _), zm_w (by omega)]
      obtain ⟨h', i1, i2, i3⟩ := zm_sees303 d hn f b (a ++ [x]) e' (zv_sI h 347 12 (((a.filter f).length : Int) + 0)) hM ⟨hr.1, fun k y hy => by rw [zm_so h _ _, zm_so h _ _]; exact hr.2 k y hy⟩ (by
        rw [zm_ss, zm_u_s, List.filter_append, List.length_append, List.filter_cons_of_neg c1]
        rfl) (fun k y hy => by rw [zm_so h _ _]; exact hs k y hy)
      exact ⟨h', i1, zm_F_t (zm_F_f (zm_F_r _ _ h) rfl _) i2, i3⟩
theorem zm_Ln_h {c : Nat → Int} {l : List Int} {s : Int} (hl : zm_Ln c l s) (hs : 0 ≤ s) : ∃ b, l = s :: b := by
  cases l with
  | nil =>
    have : s < 0 := hl
    omega
  | cons t b => exact ⟨b, by rw [hl.1.1]⟩
theorem zm_sees {h : zv_H} {c : Nat → Int} (hM : zm_M h) (hc : zv_I h 348 = c) (d : Nat) {l : List Int} {s : Int} (hs : 0 ≤ s) (hl : zm_Ln c l s) (hn : l.length ≤ 49) (g : zm_G0 c l) (gt : ∀ t ∈ l, zm_o c t 2 = 1 → ∀ p ∈ zm_tk c t, p ∈ zm_row c l) : zm_R (C9_sees (d + 4) 347 s h) (fun h' => zm_F [351, 352, 353, 354, 355] [10, 11, 12] h h' ∧ zm_Sn h' c l) := by
  refine zm_cV (lC9_sees (zm_ob hM)) ?_
  obtain ⟨b0, eb0⟩ := zm_Ln_h hl hs
  have hlr := zm_Ln_r hl
  have hl2 : zm_Ln (zv_I h 348) (s :: b0) s := by
    rw [hc, ← eb0]
    exact hl
  have elen : l.length = b0.length + 1 := by rw [eb0, List.length_cons]
  rw [qE9_sees, zm_e (zm_depthOf hM (d + 1) hl2 (by omega)), zm_e (zm_pI hM 10 _)]
  dsimp only
  rw [show zv_w ((b0.length : Int) + 1) = (l.length : Int) by rw [zm_w (by omega)]; omega]
  have f0 : zm_F [351, 352, 353, 354, 355] [10, 11, 12] h (zv_sI h 347 10 (l.length : Int)) := zm_F_f (zm_F_r _ _ h) rfl _
  have hM0 := zm_F_M f0 hM
  have e10 : zv_I (zv_sI h 347 10 (l.length : Int)) 347 10 = l.length := by rw [zm_ss, zm_u_s]
  rw [zm_e (zm_gI hM0 10), e10, zm_w (by omega)]
  obtain ⟨h1, s1, i1, i2, i3, i4, _⟩ := zm_sees20 (d + 2) c l s hl hn (zv_sI h 347 10 (l.length : Int)) hM0 ((zm_F_a f0 348).trans hc)
  have hM1 := zm_F_M i3 hM0
  have c1 : zv_I h1 348 = c := (zm_F_a i3 348).trans ((zm_F_a f0 348).trans hc)
  have li1 : zm_li h1 c l := ⟨hM1, c1, (zm_F_g i3 10).trans e10, i4⟩
  obtain ⟨n0, en0⟩ : ∃ n : Nat, zm_o c 0 5 = n := ⟨(zm_o c 0 5).toNat, by have := g.2.2.1; omega⟩
  have hn0 : n0 ≤ 40 := by
    have := g.2.2.1
    omega
  rw [i1, qL9_sees_20, if_pos i2, zm_e (zm_of hM1 _ (by decide) (by decide)), c1, en0]
  dsimp only
  rw [zm_e (zm_pI hM1 11 _)]
  have f2 : zm_F [] [11] h1 (zv_sI h1 347 11 (n0 : Int)) := zm_F_f (zm_F_r _ _ h1) rfl _
  obtain ⟨h3, j1, j2, j3⟩ := zm_sees56 (d + 3) n0 hn0 n0 0 (by omega) (zv_sI h1 347 11 (n0 : Int)) (zm_F_M f2 hM1) (by rw [zm_ss, zm_u_s]) (fun k hk => by omega)
  have hM3 := zm_F_M j2 (zm_F_M f2 hM1)
  have li3 := zm_li_F (zm_li_F li1 f2) j2
  have h311 : zv_I h3 347 11 = n0 := by rw [zm_F_g j2 11, zm_ss, zm_u_s]
  rw [show L9_sees_56 (d + 3) 347 0 _ = _ from j1, qL9_sees_56, zm_e (zm_gI hM3 11), h311, if_neg (by omega), zm_e (zm_f8 hM3), zm_e (zm_wB hM3 zm_l354 rfl (by decide) (by decide) _), show zv_nz 1 = 1 from rfl]
  have f4 : zm_F [354] [] h3 (zv_sI h3 354 (Int.toNat 0) 1) := zm_F_I (zm_F_r _ _ h3) rfl _ _
  have elast : l = l.reverse.tail.reverse ++ [0] := by
    have g2 := g.2.1
    have hne : l.reverse ≠ [] := by
      intro q
      rw [List.reverse_eq_nil_iff] at q
      rw [q] at eb0
      cases eb0
    have h9 : l.reverse.head? = some 0 := by rw [List.head?_reverse]; exact g2
    cases e8 : l.reverse with
    | nil => exact absurd e8 hne
    | cons y r =>
      rw [e8] at h9
      have ey : y = 0 := Option.some.inj h9
      rw [List.tail_cons]
      have := congrArg List.reverse e8
      rw [List.reverse_reverse, List.reverse_cons, ey] at this
      exact this
  have hrow0 : zm_rw (zv_sI h3 354 (Int.toNat 0) 1) (zm_row c [0]) := by
    refine ⟨?_, fun k x hx => ?_⟩
    · rw [zm_row_1, zm_rs_len, en0]
      show zv_I (zv_sI h3 354 (Int.toNat 0) 1) 347 11 = _
      rw [zm_F_g f4 11, h311]
      rfl
    · rw [zm_row_1, en0] at hx
      have hk := zm_lt_of_get hx
      rw [zm_rs_len] at hk
      rw [zm_rs_get _ _ hk] at hx
      rw [zm_so h3 _ _, zm_so h3 _ _, ← Option.some.inj hx]
      exact j3 k (by omega)
  obtain ⟨h5, k1, k2, k3, k4⟩ := zm_sees93 d c hlr hn g l.reverse.tail [0] elast.symm (List.cons_ne_nil _ _) _ (zm_li_F li3 f4) hrow0 (fun x hx => by
    have ex : x = 0 := List.mem_singleton.mp hx
    rw [ex, zm_ss]
    rfl)
  have hM5 := zm_F_M k2 (zm_F_M f4 hM3)
  have li5 := zm_li_F (zm_li_F li3 f4) k2
  rw [show L9_sees_93 (d + 3) 347 1 _ = _ from k1, qL9_sees_93, zm_e (zm_gI hM5 10), li5.2.2.1, if_neg (by omega)]
  have hrl := zm_row_le g
  have hrmem : ∀ p ∈ zm_row c l, (0 ≤ p.1 ∧ p.1 ≤ 48) ∧ (zm_fc c l p.1 = 0 ∨ zm_fc c l p.1 = 1) := fun p hp => ⟨hlr _ (zm_row_mem hp).1, zm_fc_01 c _ l⟩
  obtain ⟨h6, m1, m2, m3⟩ := zm_sees161 (d + 3) (row := zm_row c l) (by omega) (zm_fc c l) hrmem (zm_row c l).length 0 (by omega) h5 hM5 k3 (fun p hp => k4 _ (zm_row_mem hp).1) (fun k x hk => by omega)
  have hM6 := zm_F_M m2 hM5
  have r6 : zm_rw h6 (zm_row c l) := zm_rw_of k3 (zm_F_g m2 11) (zm_F_a m2 352) (zm_F_a m2 353)
  rw [show L9_sees_161 (d + 3) 347 0 _ = _ from m1, qL9_sees_161, zm_e (zm_gI hM6 11), r6.1, if_neg (by omega)]
  have c00 : ∀ p, zm_cb c l [0] p = false := by
    intro p
    rw [zm_cb_c, decide_eq_false (by rw [g.2.2.2.1]; decide), Bool.false_and, Bool.false_or]
    rfl
  have ehd : [0] ++ l.reverse.tail = l.reverse := by
    have := congrArg List.reverse elast
    rw [List.reverse_append, List.reverse_reverse] at this
    exact this.symm
  obtain ⟨h7, n1, n2, n3⟩ := zm_sees194 d c hlr hn (row := zm_row c l) (by omega) (zm_row_nd g.1) (fun t ht hk => ⟨g.2.2.2.2 t ht (fun q => by rw [q, g.2.2.2.1] at hk; cases hk) (Or.inr hk), gt t ht hk⟩) l.reverse.tail [0] ehd h6 (zm_li_F li5 m2) r6 (fun x hx => by rw [zm_F_a m2 354]; exact k4 x hx) (fun k x hx => by
    rw [m3 k x hx, c00, Bool.not_false, Bool.and_true]
    rcases zm_fc_01 c x.1 l with q | q
    · rw [q, if_neg (by decide)]
    · rw [q, if_pos (by decide)])
  have hM7 := zm_F_M n2 hM6
  have li7 := zm_li_F (zm_li_F li5 m2) n2
  have r7 : zm_rw h7 (zm_row c l) := zm_rw_of r6 (zm_F_g n2 11) (zm_F_a n2 352) (zm_F_a n2 353)
  rw [show L9_sees_194 (d + 3) 347 1 _ = _ from n1, qL9_sees_194, zm_e (zm_gI hM7 10), li7.2.2.1, if_neg (by omega), zm_e (zm_pI hM7 12 _)]
  have f8 : zm_F [] [12] h7 (zv_sI h7 347 12 0) := zm_F_f (zm_F_r _ _ h7) rfl _
  obtain ⟨h9, o1, o2, o3⟩ := zm_sees303 (d + 3) (row := zm_row c l) (by omega) (zm_sn c l) (zm_row c l) [] rfl _ (zm_F_M f8 hM7) (zm_rw_of r7 (zm_F_g f8 11) (zm_F_a f8 352) (zm_F_a f8 353)) (by rw [zm_ss, zm_u_s]; rfl) (fun k x hx => by rw [zm_so h7 _ _]; exact n3 k x hx)
  have hM9 := zm_F_M o2 (zm_F_M f8 hM7)
  have r9 : zm_rw h9 (zm_row c l) := zm_rw_of (zm_rw_of r7 (zm_F_g f8 11) (zm_F_a f8 352) (zm_F_a f8 353)) (zm_F_g o2 11) (zm_F_a o2 352) (zm_F_a o2 353)
  rw [show L9_sees_303 (d + 3) 347 0 _ = _ from o1, qL9_sees_303, zm_e (zm_gI hM9 11), r9.1, if_neg (by omega)]
  have li9 := zm_li_F (zm_li_F li7 f8) o2
  refine zm_iV ⟨?_, ⟨li9.2.2.1, li9.2.2.2⟩, r9, fun x hx => ?_, fun k x hx => ?_, o3⟩
  · refine zm_F_t f0 (zm_F_t (zm_F_s i3 rfl rfl) (zm_F_t (zm_F_s f2 rfl rfl) (zm_F_t (zm_F_s j2 rfl rfl) (zm_F_t (zm_F_s f4 rfl rfl) (zm_F_t (zm_F_s k2 rfl rfl) (zm_F_t (zm_F_s m2 rfl rfl) (zm_F_t (zm_F_s n2 rfl rfl) (zm_F_t (zm_F_s f8 rfl rfl) (zm_F_s o2 rfl rfl)))))))))
  · rw [zm_F_a o2 354, zm_F_a f8 354, zm_F_a n2 354, zm_F_a m2 354]
    exact k4 x hx
  · rw [zm_F_a o2 355, zm_F_a f8 355]
    exact n3 k x hx
