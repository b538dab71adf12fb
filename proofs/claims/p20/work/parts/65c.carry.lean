theorem zm_bh {c : Nat → Int} (w : zm_Wt c) {s : Int} (hs : zm_st c s) (h0 : ¬ zm_o c s 8 < 0) : 0 ≤ zm_o c s 8 ∧ zm_o c s 8 < ((48 : Nat) : Int) := by
  obtain ⟨l, hl, _⟩ := zm_W_l w hs
  have hb := hl.2.2.2.2.2.1
  clear hl hs w
  omega
theorem zm_ed_n {c : Nat → Int} (w : zm_Wt c) {s : Int} (hs : zm_st c s) (he : zm_ed c s) : ∃ m : Nat, m ≤ 12 ∧ ∀ x : Int, x = zm_o c s 5 → x = m := by
  have hm := zm_ed_m w hs he
  clear hs w he
  exact ⟨(zm_o c s 5).toNat, by omega, fun x hx => by rw [hx]; omega⟩
theorem zm_carries116 (d : Nat) {c : Nat → Int} (w : zm_W c) {s : Int} (hs : zm_st c s) (place : Int) (m : Nat) (hm : m ≤ 12) : ∀ (n i : Nat) (h : zv_H), i + n = m → zm_M h → zv_I h 348 = c → zv_I h 347 19 = m → zm_R (L9_carries_116 (d + 6) 347 s place i h) (zm_I fun v h' => zm_F [348, 351, 352, 353, 354, 355, 358, 359, 360] [3, 10, 11, 12] h h' ∧ zm_Dn c v (zv_I h' 348))
  | 0, i, h, hi, hM, hc, h19 => by
    rw [qL9_carries_116, zm_e (zm_gI hM 19), h19, if_neg (by omega)]
    obtain ⟨⟨v, h1⟩, ev, f1, W1, q1⟩ := zm_putNow hM hc w d hm h19 place
    rw [zm_e ev]
    refine zm_iI ⟨zm_F_s f1 rfl rfl, W1, ?_⟩
    rcases q1 with q | q
    · exact Or.inl q
    · exact Or.inr ⟨q.1, q.2.1, q.2.2.1⟩
  | n + 1, i, h, hi, hM, hc, h19 => by
    have h48 := hs.1
    have w1 : zv_w ((i : Int) + 1) = ((i + 1 : Nat) : Int) := by
      rw [zm_w (by omega)]
      rfl
    rw [qL9_carries_116, zm_e (zm_gI hM 19), h19, if_pos (by omega), zm_e (zm_f17 hM), zm_w (x := 12 + (i : Int)) (by omega), zm_e (zm_of hM _ (by omega) (by omega)), w1]
    dsimp only
    rw [zm_e (zm_wI hM zm_l360 rfl (by omega) (by omega) _)]
    generalize zm_o (zv_I h 348) s (12 + (i : Int)) = v0
    have f0 : zm_F [348, 351, 352, 353, 354, 355, 358, 359, 360] [3, 10, 11, 12] h (zv_sI h 360 ((i : Int)).toNat v0) := zm_F_I (zm_F_r _ _ h) rfl _ _
    refine zm_mono (zm_carries116 d w hs place m hm n (i + 1) (zv_sI h 360 ((i : Int)).toNat v0) (by omega) hM ((zm_so h _ _).trans hc) h19) ?_
    rintro ⟨ov, h'⟩ ⟨v, ev, f2, q2⟩
    exact ⟨v, ev, zm_F_t f0 f2, q2⟩
theorem zm_carries {h : zv_H} {c : Nat → Int} (hM : zm_M h) (hc : zv_I h 348 = c) (w : zm_W c) (d : Nat) {s : Int} (hs : zm_st c s) (he : zm_ed c s) : zm_R (C9_carries (d + 8) 347 s h) (fun q => zm_F [348, 351, 352, 353, 354, 355, 358, 359, 360] [3, 10, 11, 12, 19] h q.2 ∧ zm_Dn c q.1 (zv_I q.2 348)) := by
  refine zm_cI (P := fun v h' => zm_F [348, 351, 352, 353, 354, 355, 358, 359, 360] [3, 10, 11, 12, 19] h h' ∧ zm_Dn c v (zv_I h' 348)) (lC9_carries (zm_ob hM)) ?_
  have h48 : 0 ≤ s ∧ s ≤ 48 := by
    have := hs.1
    omega
  obtain ⟨m, hm, em⟩ := zm_ed_n w.1 hs he
  have hbs := zm_bh w.1 hs
  rw [qE9_carries, zm_e (zm_of hM _ h48 (by decide)), hc]
  dsimp only
  refine zm_if (fun hk => ?_) (fun _ => ?_)
  · obtain ⟨⟨v, h1⟩, ev, f1, q1⟩ := zm_carriesCut hM hc w d hs hk
    rw [zm_e ev]
    exact zm_iI ⟨zm_F_s f1 rfl rfl, q1⟩
  · obtain ⟨l, hl, hl2, g, gt⟩ := zm_W_l w.1 w.2.1
    obtain ⟨h1, e1, f1, hSn⟩ := zm_sees_st hM hc (d + 3) hl hl2 g gt
    have hM1 := zm_F_M f1 hM
    have c1 : zv_I h1 348 = c := (zm_F_a f1 348).trans hc
    have hrl := zm_row_le g
    rw [List.length_cons] at hrl
    rw [zm_e (zm_here hM _), hc]
    dsimp only
    rw [zm_e e1, zm_e (zm_of hM1 _ h48 (by decide)), c1]
    dsimp only
    have l104 : ∀ place : Int, zm_R (L9_carries_104 (d + 7) 347 s place h1) (zm_I fun v h' => zm_F [348, 351, 352, 353, 354, 355, 358, 359, 360] [3, 10, 11, 12, 19] h h' ∧ zm_Dn c v (zv_I h' 348)) := by
      intro place
      rw [qL9_carries_104, zm_e (zm_of hM1 _ h48 (by decide)), c1]
      dsimp only
      rw [em _ rfl, zm_e (zm_pI hM1 19 _)]
      have f2 : zm_F [348, 351, 352, 353, 354, 355, 358, 359, 360] [3, 10, 11, 12, 19] h1 (zv_sI h1 347 19 (m : Int)) := zm_F_f (zm_F_r _ _ h1) rfl _
      refine zm_mono (zm_carries116 (d + 1) w hs place m hm m 0 (zv_sI h1 347 19 (m : Int)) (Nat.zero_add _) hM1 ((zm_so h1 _ _).trans c1) (by rw [zm_ss, zm_u_s])) ?_
      rintro ⟨ov, h'⟩ ⟨v, ev, f3, q3⟩
      exact ⟨v, ev, zm_F_t (zm_F_s f1 rfl rfl) (zm_F_t f2 (zm_F_s f3 rfl rfl)), q3⟩
    have hrl2 : (zm_row c (c 0 :: l)).length ≤ 640 := by omega
    refine zm_if (fun _ => l104 0) (fun hb0 => ?_)
    rw [zm_e (zm_f21 hM1), zm_e (zm_of hM1 _ h48 (by decide)), c1]
    dsimp only
    rw [zm_e (zm_aI hM1 zm_l362 rfl (hbs hb0).1 (hbs hb0).2), zm_e (zm_of hM1 _ h48 (by decide))]
    dsimp only
    rw [zm_e (zm_rowOf hM1 _ _ _ hSn.2.1 hrl2)]
    dsimp only
    generalize hat : zm_at (zm_row c (c 0 :: l)) (zv_I h1 362 (zm_o c s 8).toNat, zm_o (zv_I h1 348) s 9) = r
    have hr := zm_at_ge (zv_I h1 362 (zm_o c s 8).toNat, zm_o (zv_I h1 348) s 9) (zm_row c (c 0 :: l))
    rw [hat] at hr
    clear hbs em hb0 he hs
    refine zm_if (fun _ => ?_) (fun hr0 => ?_)
    · rw [zm_e (zm_refuse hM1 _ 10)]
      have e : zv_I (zv_sI h1 347 3 10) 348 = c := (zm_so h1 _ _).trans c1
      exact zm_iI ⟨zm_F_f (zm_F_s f1 rfl rfl) rfl _, by rw [e]; exact ⟨w, Or.inl ⟨rfl, rfl⟩⟩⟩
    · have l74 : ∀ (n i : Nat) (p : Int), (i : Int) + n = r + 1 → 0 ≤ p → p ≤ i → zm_R (L9_carries_74 (d + 7) 347 s p r i h1) (zm_I fun v h' => zm_F [348, 351, 352, 353, 354, 355, 358, 359, 360] [3, 10, 11, 12, 19] h h' ∧ zm_Dn c v (zv_I h' 348)) := by
        intro n
        induction n with
        | zero =>
          intro i p hi p0 p1
          rw [qL9_carries_74, if_neg (by omega)]
          exact l104 p
        | succ n ih =>
          intro i p hi p0 p1
          have w1 : zv_w ((i : Int) + 1) = ((i + 1 : Nat) : Int) := by
            rw [zm_w (by omega)]
            rfl
          rw [qL9_carries_74, if_pos (by omega), zm_e (zm_f9 hM1), zm_e (zm_aB hM1 zm_l355 (Or.inl rfl) rfl (by omega) (by omega)), w1, zm_w (x := p + 0) (by omega), zm_w (x := p + 1) (by omega)]
          exact zm_if (fun _ => ih (i + 1) (p + 0) (by omega) (by omega) (by omega)) (fun _ => ih (i + 1) (p + 1) (by omega) (by omega) (by omega))
      exact l74 (r + 1).toNat 0 0 (by omega) (by decide) (by decide)
