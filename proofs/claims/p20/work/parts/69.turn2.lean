theorem zm_Tr_ag {c c' : Nat → Int} {act : Int} (t : zm_Tr c c' act) {s : Int} (h0 : 0 ≤ s) (h1 : s ≤ 47) : zm_ag c c' s := fun w w0 w1 _ => t.1 _ (by omega)
theorem zm_Tr_W {c c' : Nat → Int} {act : Int} (t : zm_Tr c c' act) (w : zm_W c) : zm_W c' := by
  have o : ∀ k : Nat, k < 4080 → c' k = c k := fun k hk => t.1 k (by omega)
  refine zm_W_alt w (fun k _ h1 => o k h1) (by rw [o 0 (by decide)]; exact w.2.1) (by rw [o 3 (by decide)]; exact w.2.2.1) (o 4 (by decide)) (fun k _ h1 => o k (by omega)) (by rw [o 5 (by decide)]; exact w.2.2.2.2.2)
theorem zm_turn101 {h : zv_H} {c : Nat → Int} (hM : zm_M h) (hc : zv_I h 348 = c) (w : zm_W c) (hn : zm_nst c ≠ 48) (d : Nat) {act : Int} (ha : act = 2 ∨ act = 3) (s back : Int) : zm_R (L9_turnNow_101 (d + 6) 347 act 347 s back h) (zm_I fun _ h' => zm_F [348, 351, 352, 353, 354, 355, 365] [3, 10, 11, 12] h h' ∧ zm_W (zv_I h' 348)) := by
  obtain ⟨h1, e1, f1⟩ := zm_marks hM hc w (d + 1) s back
  have hM1 := zm_F_M f1 hM
  have c1 : zv_I h1 348 = c := (zm_F_a f1 348).trans hc
  obtain ⟨⟨many, h2⟩, e2, f2, tr, m0, m1⟩ := zm_triesNames hM1 c1 w (d + 1) act
  dsimp only at f2 tr m0 m1
  have hM2 := zm_F_M f2 hM1
  have w2 := zm_Tr_W tr w
  generalize hc2 : zv_I h2 348 = c2 at tr w2
  have c20 : c2 0 = c 0 := tr.1 0 (by omega)
  obtain ⟨l, hl, hl2, g, gt⟩ := zm_W_l w.1 w.2.1
  have hagl : ∀ t ∈ c 0 :: l, zm_ag c c2 t := fun t ht => by
    have hst := hl.2.1.2.2 t ht
    exact zm_Tr_ag tr hst.1.1 hst.1.2
  have hst2 : ∀ t ∈ c 0 :: l, zm_st c2 t := fun t ht => by
    have hst := hl.2.1.2.2 t ht
    have h3 := hst.1
    have h4 : zm_o c2 t 0 = zm_o c t 0 := tr.1 _ (by clear hst; omega)
    exact ⟨hst.1, h4.trans hst.2⟩
  have hl48 : zm_W1 c2 (c 0) l := zm_W1_cg hl g hagl hst2
  have n48 : ¬ (48 : Int) ∈ c 0 :: l := fun q => by
    have := (hl.2.1.2.2 48 q).1
    omega
  have hLn : zm_Ln c2 (48 :: c 0 :: l) 48 := by
    refine ⟨by decide, ?_⟩
    rw [tr.2.1]
    exact hl48.1
  have ned : ¬ zm_ed c2 48 := by
    intro q
    have h3 := tr.2.2.1
    rcases q with q | q
    · rw [h3] at q
      omega
    · rw [h3] at q
      omega
  have g2 : zm_G0 c2 (c 0 :: l) := by
    obtain ⟨a1, a2, a3, a4, a5⟩ := g
    have a0 := hagl 0 (List.mem_of_getLast? a2)
    refine ⟨a1, a2, by rw [a0 5 (by decide) (by decide) (by decide)]; exact a3, by rw [a0 2 (by decide) (by decide) (by decide)]; exact a4, fun t ht h0 he => ?_⟩
    rw [hagl t ht 5 (by decide) (by decide) (by decide)]
    exact a5 t ht h0 ((zm_ed_cg (hagl t ht)).mp he)
  have g48 : zm_G0 c2 (48 :: c 0 :: l) := by
    refine ⟨List.nodup_cons.mpr ⟨n48, g2.1⟩, by rw [List.getLast?_cons_cons]; exact g2.2.1, g2.2.2.1, g2.2.2.2.1, fun t ht h0 he => ?_⟩
    rcases List.mem_cons.mp ht with q | q
    · rw [q] at he
      exact absurd he ned
    · exact g2.2.2.2.2 t q h0 he
  have r48 : zm_row c2 (48 :: c 0 :: l) = zm_row c (c 0 :: l) := by
    rw [zm_row_c c2 48 (List.cons_ne_nil _ _), if_neg (fun q => ned (Or.inl q)), zm_row_cg hagl]
  have gt48 : ∀ t ∈ 48 :: c 0 :: l, zm_o c2 t 2 = 1 → ∀ p ∈ zm_tk c2 t, p ∈ zm_row c2 (48 :: c 0 :: l) := by
    intro t ht hk p hp
    rcases List.mem_cons.mp ht with q | q
    · rw [q] at hk
      exact absurd (Or.inr hk) ned
    · rw [hagl t q 2 (by decide) (by decide) (by decide)] at hk
      rw [zm_tk_cg (hagl t q) (zm_cut12 g t q hk)] at hp
      rw [r48]
      exact gt t q hk p hp
  have ln : (48 :: c 0 :: l).length ≤ 49 := by
    rw [List.length_cons, List.length_cons]
    omega
  obtain ⟨⟨n, h3⟩, e3, en, f3, _⟩ := zm_lettersOf hM2 (d + 1) (zm_sees hM2 hc2 (d + 1) (by decide) hLn ln g48 gt48)
  dsimp only at en f3
  have hM3 := zm_F_M f3 hM2
  have c3 : zv_I h3 348 = c2 := (zm_F_a f3 348).trans hc2
  have f03 : zm_F [348, 351, 352, 353, 354, 355, 365] [3, 10, 11, 12] h h3 := zm_F_t (zm_F_s f1 rfl rfl) (zm_F_t (zm_F_s f2 rfl rfl) (zm_F_s f3 rfl rfl))
  rw [qL9_turnNow_101, zm_e e1, zm_e e2]
  dsimp only
  rw [zm_e e3]
  dsimp only
  have r6 : zm_R ((C9_refuse (d + 6) 347 6 h3).bind fun q => (some (some (zv_i q.1), q.2) : zv_O)) (zm_I fun _ h' => zm_F [348, 351, 352, 353, 354, 355, 365] [3, 10, 11, 12] h h' ∧ zm_W (zv_I h' 348)) := by
    rw [zm_e (zm_refuse hM3 _ 6)]
    have e : zv_I (zv_sI h3 347 3 6) 348 = c2 := (zm_so h3 _ _).trans c3
    exact zm_iI ⟨zm_F_f f03 rfl _, by rw [e]; exact w2⟩
  refine zm_if (fun hfit => ?_) (fun _ => r6)
  have hn2 : zm_nst c2 ≠ 48 := by
    have : zm_nst c2 = zm_nst c := zm_sum_cg 48 (fun k hk => tr.1 _ (by omega))
    rw [this]
    exact hn
  obtain ⟨t, et, ht, _, hd⟩ := zm_free hM3 (d + 4) (by rw [c3]; exact hn2)
  rw [c3] at hd
  have hnst : ¬ zm_st c2 t := fun q => hd q.2
  have hne : t ≠ c2 0 := fun e => hnst (by rw [e]; exact w2.2.1)
  obtain ⟨h4, e4, f4, b4⟩ := zm_begins hM3 c3 (d + 4) (s := t) (by omega) w2.2.1.1 hne act (-1) many 0
  obtain ⟨⟨b40, b41, b42, b43, b44, b45, b46⟩, b48, b49, b4k⟩ := b4
  have hM4 := zm_F_M f4 hM3
  have o48 : ∀ w : Int, 0 ≤ w → w < 76 → zm_o (zv_I h4 348) 48 w = zm_o c2 48 w := fun w w0 w1 => b4k _ (by omega)
  have t48 : 0 ≤ t ∧ t ≤ 48 := by omega
  rw [zm_e et]
  dsimp only
  rw [zm_e e4, zm_e (zm_of hM4 _ (by decide) (by decide)), o48 10 (by decide) (by decide)]
  dsimp only
  rw [zm_e (zm_sets hM4 _ t48 (by decide) _)]
  have f5 : zm_F [348] [] h4 (zv_sI h4 348 (432 + 76 * t.toNat + Int.toNat 10) (zm_o c2 48 10)) := zm_F_I (zm_F_r _ _ h4) rfl _ _
  have e5 : zv_I (zv_sI h4 348 (432 + 76 * t.toNat + Int.toNat 10) (zm_o c2 48 10)) 348 = zm_os (zv_I h4 348) t 10 (zm_o c2 48 10) := zm_ss _ _ _ _
  generalize zv_sI h4 348 (432 + 76 * t.toNat + Int.toNat 10) (zm_o c2 48 10) = h5 at f5 e5
  have hM5 := zm_F_M f5 hM4
  have tne : ¬ ((48 : Int) = t) := by omega
  rw [zm_e (zm_of hM5 _ (by decide) (by decide)), e5, zm_os_o _ _ t48.1 (by decide) (by decide) (by decide) (fun q => tne q.1), o48 11 (by decide) (by decide)]
  dsimp only
  rw [zm_e (zm_sets hM5 _ t48 (by decide) _)]
  have f6 : zm_F [348] [] h5 (zv_sI h5 348 (432 + 76 * t.toNat + Int.toNat 11) (zm_o c2 48 11)) := zm_F_I (zm_F_r _ _ h5) rfl _ _
  have e6 : zv_I (zv_sI h5 348 (432 + 76 * t.toNat + Int.toNat 11) (zm_o c2 48 11)) 348 = zm_os (zm_os (zv_I h4 348) t 10 (zm_o c2 48 10)) t 11 (zm_o c2 48 11) := by
    rw [← e5]
    exact zm_ss _ _ _ _
  generalize zv_sI h5 348 (432 + 76 * t.toNat + Int.toNat 11) (zm_o c2 48 11) = h6 at f6 e6
  have hM6 := zm_F_M f6 hM5
  have O : ∀ w : Int, 0 ≤ w → w < 76 → w ≠ 10 → w ≠ 11 → zm_o (zv_I h6 348) t w = zm_o (zv_I h4 348) t w := by
    intro w w0 w1 wa wb
    rw [e6, zm_os_o _ _ t48.1 (by decide) t48.1 ⟨w0, w1⟩ (fun q => wb q.2), zm_os_o _ _ t48.1 (by decide) t48.1 ⟨w0, w1⟩ (fun q => wa q.2)]
  have O10 : zm_o (zv_I h6 348) t 10 = zm_o c2 48 10 := by
    rw [e6, zm_os_o _ _ t48.1 (by decide) t48.1 (by decide) (fun q => by cases q.2), zm_os_s]
  have O11 : zm_o (zv_I h6 348) t 11 = zm_o c2 48 11 := by
    rw [e6, zm_os_s]
  have k6 : ∀ k : Nat, ¬ (432 + 76 * t.toNat ≤ k ∧ k < 432 + 76 * t.toNat + 76) → zv_I h6 348 k = c2 k := by
    intro k hk
    rw [e6, zm_os_k _ _ (by decide) hk, zm_os_k _ _ (by decide) hk]
    exact b4k k hk
  obtain ⟨h7, e7, f7, c7⟩ := zm_visits hM6 rfl (d + 4) ht
  have c60 : zv_I h6 348 0 = c2 0 := k6 0 (by omega)
  rw [if_neg (by rw [c60]; exact hne)] at c7
  obtain ⟨nw, rw7⟩ := zm_Nw_of ht k6 (by rw [O 0 (by decide) (by decide) (by decide) (by decide)]; exact b40) (by rw [O 1 (by decide) (by decide) (by decide) (by decide), b41])
  rw [zm_e e7]
  rw [← c7] at nw rw7
  have R : ∀ w : Int, 0 ≤ w → w < 76 → w ≠ 7 → w ≠ 10 → w ≠ 11 → zm_o (zv_I h7 348) t w = zm_o (zv_I h4 348) t w := fun w w0 w1 w7 wa wb => (rw7 w w0 w1 w7).trans (O w w0 w1 wa wb)
  have a2 : zm_o (zv_I h7 348) t 2 = act := by rw [R 2 (by decide) (by decide) (by decide) (by decide) (by decide), b42]
  have a6 : zm_o (zv_I h7 348) t 6 = t := by
    rw [R 6 (by decide) (by decide) (by decide) (by decide) (by decide), b46, if_pos rfl]
  have a8 : zm_o (zv_I h7 348) t 8 = -1 := by rw [R 8 (by decide) (by decide) (by decide) (by decide) (by decide), b48]
  have nedt : ¬ zm_ed (zv_I h7 348) t := by
    intro q
    rcases q with q | q
    · rw [a2] at q
      clear a8 a6
      omega
    · rw [a2] at q
      clear a8 a6
      omega
  have hl20 : zm_W1 c2 (c2 0) l := by
    rw [c20]
    exact hl48
  have hag7 : ∀ u ∈ c2 0 :: l, zm_ag c2 (zv_I h7 348) u := fun u hu => by
    have hst := hl20.2.1.2.2 u hu
    have h3 := hst.1
    exact zm_Nw_ag nw hst.1.1 (by clear hst; omega) (fun e => hnst (by rw [← e]; exact hst))
  have hnl : ¬ t ∈ c2 0 :: l := fun q => hnst (hl20.2.1.2.2 t q)
  have cnt := (zm_cnt_nam (c := c2) (c1 := c2) (c2 := zv_I h7 348) (s := 48) (u := t) (lh := c2 0 :: l) (List.cons_ne_nil _ _) (fun _ _ _ _ _ _ => rfl) hag7 (by rw [c20]; exact n48) hnl (by rw [c20]; exact g2) (by rw [tr.2.2.1]; exact ha) (by rw [a2, tr.2.2.1]) ((rw7 10 (by decide) (by decide) (by decide)).trans O10) ((rw7 11 (by decide) (by decide) (by decide)).trans O11)).2.2
  rw [c20] at cnt
  obtain ⟨W7, _⟩ := zm_W_new w2 ht hd nw hl20 (Or.inl a6) (fun q => absurd q nedt) (fun q => absurd (Or.inr q) nedt) (by rw [a8]; decide) (by
    rw [c20, ← cnt]
    rw [en] at hfit
    exact Int.ofNat_le.mp hfit)
  exact zm_iI ⟨zm_F_t f03 (zm_F_t (zm_F_s f4 rfl rfl) (zm_F_t (zm_F_s f5 rfl rfl) (zm_F_t (zm_F_s f6 rfl rfl) (zm_F_s f7 rfl rfl)))), W7⟩
theorem zm_turnNow {h : zv_H} {c : Nat → Int} (hM : zm_M h) (hc : zv_I h 348 = c) (w : zm_W c) (d : Nat) {act : Int} (ha : act = 2 ∨ act = 3) (s : Int) : zm_R (C9_turnNow (d + 7) 347 s act h) (fun q => zm_F [348, 351, 352, 353, 354, 355, 365] [3, 10, 11, 12] h q.2 ∧ zm_W (zv_I q.2 348)) := by
  refine zm_cI (P := fun _ h' => zm_F [348, 351, 352, 353, 354, 355, 365] [3, 10, 11, 12] h h' ∧ zm_W (zv_I h' 348)) (lC9_turnNow (zm_ob hM)) ?_
  have refu : ∀ (v : Int) (g : zv_H), zm_F [348, 351, 352, 353, 354, 355, 365] [3, 10, 11, 12] h g → zv_I g 348 = c → zm_R ((C9_refuse (d + 6) 347 v g).bind fun q => (some (some (zv_i q.1), q.2) : zv_O)) (zm_I fun _ h' => zm_F [348, 351, 352, 353, 354, 355, 365] [3, 10, 11, 12] h h' ∧ zm_W (zv_I h' 348)) := by
    intro v g f e0
    rw [zm_e (zm_refuse (zm_F_M f hM) _ v)]
    have e : zv_I (zv_sI g 347 3 v) 348 = c := (zm_so g _ _).trans e0
    exact zm_iI ⟨zm_F_f f rfl _, by rw [e]; exact w⟩
  obtain ⟨l, hl, hl2, g, gt⟩ := zm_W_l w.1 w.2.1
  have hl' : zm_Ln (zv_I h 348) (c 0 :: l) (c 0) := by
    rw [hc]
    exact hl.1
  rw [qE9_turnNow]
  refine zm_gb (zm_isState hM _ s) (fun _ => refu 2 h (zm_F_r _ _ h) hc) (fun hs => ?_)
  rw [hc] at hs
  dsimp only
  rw [zm_e (zm_here hM _), hc]
  dsimp only
  refine zm_gb (zm_isOfLine hM _ s hl') (fun _ => ?_) (fun hin => ?_)
  · rw [qL9_turnNow_34]
    exact refu 7 h (zm_F_r _ _ h) hc
  dsimp only
  refine zm_gb (zm_isEdit hM _ (zm_st48 hs)) (fun _ => ?_) (fun he => ?_)
  · rw [qL9_turnNow_34]
    exact refu 7 h (zm_F_r _ _ h) hc
  obtain ⟨h1, e1, f1, hSn⟩ := zm_sees_st hM hc (d + 2) hl hl2 g gt
  have hM1 := zm_F_M f1 hM
  have c1 : zv_I h1 348 = c := (zm_F_a f1 348).trans hc
  have f1' : zm_F [348, 351, 352, 353, 354, 355, 365] [3, 10, 11, 12] h h1 := zm_F_s f1 rfl rfl
  have s48 := zm_st48 hs
  have s49 : s < ((49 : Nat) : Int) := by
    clear hs he
    omega
  dsimp only
  rw [zm_e (zm_here hM _), hc]
  dsimp only
  rw [zm_e e1, zm_e (zm_f8 hM1), zm_e (zm_aB hM1 zm_l354 (Or.inl rfl) rfl s48.1 s49)]
  have l65 : ∀ y z : Int, zm_R (L9_turnNow_65 (d + 6) 347 s act y z h1) (zm_I fun _ h' => zm_F [348, 351, 352, 353, 354, 355, 365] [3, 10, 11, 12] h h' ∧ zm_W (zv_I h' 348)) := by
    intro y z
    rw [qL9_turnNow_65]
    refine zm_if (fun _ => ?_) (fun _ => refu 4 h1 f1' c1)
    rw [zm_e (zm_states hM1 _ (by rw [c1]; exact w.1.1)), c1]
    dsimp only
    refine zm_if (fun _ => refu 3 h1 f1' c1) (fun hns => ?_)
    have go : ∀ b : Int, zm_R (L9_turnNow_101 (d + 6) 347 act 347 s b h1) (zm_I fun _ h' => zm_F [348, 351, 352, 353, 354, 355, 365] [3, 10, 11, 12] h h' ∧ zm_W (zv_I h' 348)) := by
      intro b
      refine zm_mono (zm_turn101 hM1 c1 w hns d ha s b) ?_
      rintro ⟨ov, h'⟩ ⟨v', ev, f2, q2⟩
      exact ⟨v', ev, zm_F_t f1' f2, q2⟩
    exact zm_if (fun _ => go 1) (fun _ => go 0)
  exact zm_if (fun _ => l65 _ 1) (fun _ => l65 _ 0)
