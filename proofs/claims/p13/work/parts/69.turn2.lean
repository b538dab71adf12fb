/-! 69.turn2 -/
section
theorem zm_Tr_ag {c c' : Nat → Int} {act : Int} (t : zm_Tr c c' act) {s : Int} (h0 : 0 ≤ s) (h1 : s ≤ 47) : zm_ag c c' s := fun w w0 w1 _ => t.1 _ (by omega)
theorem zm_Tr_W {c c' : Nat → Int} {act : Int} (t : zm_Tr c c' act) (w : zm_W c) : zm_W c' := by
  have o : ∀ k : Nat, k < 4080 → c' k = c k := fun k hk => t.1 k (by omega)
  refine zm_W_alt w (fun k _ h1 => o k h1) (by rw [o 0 (by decide)]; exact w.2.1) (by rw [o 3 (by decide)]; exact w.2.2.1) (o 4 (by decide)) (fun k _ h1 => o k (by omega)) (by rw [o 5 (by decide)]; exact w.2.2.2.2.2)
theorem zm_turn101 {h : zv_H} {c : Nat → Int} (hM : zm_M h) (hc : zv_I h 348 = c) (w : zm_W c) (hn : zm_nst c ≠ 48) (d : Nat) {act : Int} (ha : act = 2 ∨ act = 3) (s back : Int) : zm_R (L9_turnNow_101 (d + 6) 347 act 347 s back h) (zm_I fun _ h' => zm_F [348, 351, 352, 353, 354, 355, 365] [3, 10, 11, 12] h h' ∧ zm_W (zv_I h' 348)) := by
  obtain ⟨h1, e1, f1⟩ := zm_marks hM hc w (d + 1) s back
  have hM1 := zm_F_M f1 hM
  have c1 : zv_I h1 348 = c := (zm_F_a f1 348).trans hc
  obtain ⟨⟨many, h2⟩, e2, f2, tr, m0, m1⟩ := zm_triesNames hM1 c1 w (d + 1) act
  dsimp only at f2 tr m0 m1
  have hM2 := zm_F_M f2 hM1
  have w2 := zm_Tr_W tr w
  generalize hc2 : zv_I h2 348 = c2 at tr w2
  have c20 : c2 0 = c 0 := tr.1 0 (by omega)
  obtain ⟨l, hl, hl2, g, gt⟩ := zm_W_l w.1 w.2.1
  have hagl : ∀ t ∈ c 0 :: l, zm_ag c c2 t := fun t ht => by
    have hst := hl.2.1.2.2 t ht
    exact zm_Tr_ag tr hst.1.1 hst.1.2
  have hst2 : ∀ t ∈ c 0 :: l, zm_st c2 t := fun t ht => by
    have hst := hl.2.1.2.2 t ht
    have h3 := hst.1
    have h4 : zm_o c2 t 0 = zm_o c t 0 := tr.1 _ (by clear hst; omega)
    exact ⟨hst.1, h4.trans hst.2⟩
  have hl48 : zm_W1 c2 (c 0) l := zm_W1_cg hl g hagl hst2
  have n48 : ¬ (48 : Int) ∈ c 0 :: l := fun q => by
    have := (hl.2.1.2.2 48 q).1
    omega
  have hLn : zm_Ln c2 (48 :: c 0 :: l) 48 := by
    refine ⟨by decide, ?_⟩
    rw [tr.2.1]
    exact hl48.1
  have ned : ¬ zm_ed c2 48 := by
    intro q
    have h3 := tr.2.2.1
    rcases q with q | q
    · rw [h3] at q
      omega
    · rw [h3] at q
      omega
  have g2 : zm_G0 c2 (c 0 :: l) := by
    obtain ⟨a1, a2, a3, a4, a5⟩ := g
    have a0 := hagl 0 (List.mem_of_getLast? a2)
    refine ⟨a1, a2, by rw [a0 5 (by decide) (by decide) (by decide)]; exact a3, by rw [a0 2 (by decide) (by decide) (by decide)]; exact a4, fun t ht h0 he => ?_⟩
    rw [hagl t ht 5 (by decide) (by decide) (by decide)]
    exact a5 t ht h0 ((zm_ed_cg (hagl t ht)).mp he)
  have g48 : zm_G0 c2 (48 :: c 0 :: l) := by
    refine ⟨List.nodup_cons.mpr ⟨n48, g2.1⟩, by rw [List.getLast?_cons_cons]; exact g2.2.1, g2.2.2.1, g2.2.2.2.1, fun t ht h0 he => ?_⟩
    rcases List.mem_cons.mp ht with q | q
    · rw [q] at he
      exact absurd he ned
    · exact g2.2.2.2.2 t q h0 he
  have r48 : zm_row c2 (48 :: c 0 :: l) = zm_row c (c 0 :: l) := by
    rw [zm_row_c c2 48 (List.cons_ne_nil _ _), if_neg (fun q => ned (Or.inl q)), zm_row_cg hagl]
  have gt48 : ∀ t ∈ 48 :: c 0 :: l, zm_o c2 t 2 = 1 → ∀ p ∈ zm_tk c2 t, p ∈ zm_row c2 (48 :: c 0 :: l) := by
    intro t ht hk p hp
    rcases List.mem_cons.mp ht with q | q
    · rw [q] at hk
      exact absurd (Or.inr hk) ned
    · rw [hagl t q 2 (by decide) (by decide) (by decide)] at hk
      rw [zm_tk_cg (hagl t q) (zm_cut12 g t q hk)] at hp
      rw [r48]
      exact gt t q hk p hp
  have ln : (48 :: c 0 :: l).length ≤ 49 := by
    rw [List.length_cons, List.length_cons]
    omega
  obtain ⟨⟨n, h3⟩, e3, en, f3, _⟩ := zm_lettersOf hM2 (d + 1) (zm_sees hM2 hc2 (d + 1) (by decide) hLn ln g48 gt48)
  dsimp only at en f3
  have hM3 := zm_F_M f3 hM2
  have c3 : zv_I h3 348 = c2 := (zm_F_a f3 348).trans hc2
  have f03 : zm_F [348, 351, 352, 353, 354, 355, 365] [3, 10, 11, 12] h h3 := zm_F_t (zm_F_s f1 rfl rfl) (zm_F_t (zm_F_s f2 rfl rfl) (zm_F_s f3 rfl rfl))
  rw [qL9_turnNow_101, zm_e e1, zm_e e2]
  dsimp only
  rw [zm_e e3]
  dsimp only
  have r6 : zm_R ((C9_refuse (d + 6) 347 6 h3).bind fun q => (some (some (zv_i q.1), q.2) : zv_O)) (zm_I fun _ h' => zm_F [348, 351, 352, 353, 354, 355, 365] [3, 10, 11, 12] h h' ∧ zm_W (zv_I h' 348)) := by
    rw [zm_e (zm_refuse hM3 _ 6)]
    have e : zv_I (zv_sI h3 347 3 6) 348 = c2 := (zm_so h3 _ _).trans c3
    exact zm_iI ⟨zm_F_f f03 rfl _, by rw [e]; exact w2⟩
  refine zm_if (fun hfit => ?_) (fun _ => r6)
  have hn2 : zm_nst c2 ≠ 48 := by
    have : zm_nst c2 = zm_nst c := zm_sum_cg 48 (fun k hk => tr.1 _ (by omega))
    rw [this]
    exact hn
  obtain ⟨t, et, ht, _, hd⟩ := zm_free hM3 (d + 4) (by rw [c3]; exact hn2)
  rw [c3] at hd
  have hnst : ¬ zm_st c2 t := fun q => hd q.2
  have hne : t ≠ c2 0 := fun e => hnst (by rw [e]; exact w2.2.1)
  obtain ⟨h4, e4, f4, b4⟩ := zm_begins hM3 c3 (d + 4) (s := t) (by omega) w2.2.1.1 hne act (-1) many 0
  obtain ⟨⟨b40, b41, b42, b43, b44, b45, b46⟩, b48, b49, b4k⟩ := b4
  have hM4 := zm_F_M f4 hM3
  have o48 : ∀ w : Int, 0 ≤ w → w < 76 → zm_o (zv_I h4 348) 48 w = zm_o c2 48 w := fun w w0 w1 => b4k _ (by omega)
  have t48 : 0 ≤ t ∧ t ≤ 48 := by omega
  rw [zm_e et]
  dsimp only
  rw [zm_e e4, zm_e (zm_of hM4 _ (by decide) (by decide)), o48 10 (by decide) (by decide)]
  dsimp only
  rw [zm_e (zm_sets hM4 _ t48 (by decide) _)]
  have f5 : zm_F [348] [] h4 (zv_sI h4 348 (432 + 76 * t.toNat + Int.toNat 10) (zm_o c2 48 10)) := zm_F_I (zm_F_r _ _ h4) rfl _ _
  have e5 : zv_I (zv_sI h4 348 (432 + 76 * t.toNat + Int.toNat 10) (zm_o c2 48 10)) 348 = zm_os (zv_I h4 348) t 10 (zm_o c2 48 10) := zm_ss _ _ _ _
  generalize zv_sI h4 348 (432 + 76 * t.toNat + Int.toNat 10) (zm_o c2 48 10) = h5 at f5 e5
  have hM5 := zm_F_M f5 hM4
  have tne : ¬ ((48 : Int) = t) := by omega
  rw [zm_e (zm_of hM5 _ (by decide) (by decide)), e5, zm_os_o _ _ t48.1 (by decide) (by decide) (by decide) (fun q => tne q.1), o48 11 (by decide) (by decide)]
  dsimp only
  rw [zm_e (zm_sets hM5 _ t48 (by decide) _)]
  have f6 : zm_F [348] [] h5 (zv_sI h5 348 (432 + 76 * t.toNat + Int.toNat 11) (zm_o c2 48 11)) := zm_F_I (zm_F_r _ _ h5) rfl _ _
  have e6 : zv_I (zv_sI h5 348 (432 + 76 * t.toNat + Int.toNat 11) (zm_o c2 48 11)) 348 = zm_os (zm_os (zv_I h4 348) t 10 (zm_o c2 48 10)) t 11 (zm_o c2 48 11) := by
    rw [← e5]
    exact zm_ss _ _ _ _
  generalize zv_sI h5 348 (432 + 76 * t.toNat + Int.toNat 11) (zm_o c2 48 11) = h6 at f6 e6
  have hM6 := zm_F_M f6 hM5
  have O : ∀ w : Int, 0 ≤ w → w < 76 → w ≠ 10 → w ≠ 11 → zm_o (zv_I h6 348) t w = zm_o (zv_I h4 348) t w := by
    intro w w0 w1 wa wb
    rw [e6, zm_os_o _ _ t48.1 (by decide) t48.1 ⟨w0, w1⟩ (fun q => wb q.2), zm_os_o _ _ t48.1 (by decide) t48.1 ⟨w0, w1⟩ (fun q => wa q.2)]
  have O10 : zm_o (zv_I h6 348) t 10 = zm_o c2 48 10 := by
    rw [e6, zm_os_o _ _ t48.1 (by decide) t48.1 (by decide) (fun q => by cases q.2), zm_os_s]
  have O11 : zm_o (zv_I h6 348) t 11 = zm_o c2 48 11 := by
    rw [e6, zm_os_s]
  have k6 : ∀ k : Nat, ¬ (432 + 76 * t.toNat ≤ k ∧ k < 432 + 76 * t.toNat + 76) → zv_I h6 348 k = c2 k := by
    intro k hk
    rw [e6, zm_os_k _ _ (by decide) hk, zm_os_k _ _ (by decide) hk]
    exact b4k k hk
  obtain ⟨h7, e7, f7, c7⟩ := zm_visits hM6 rfl (d + 4) ht
  have c60 : zv_I h6 348 0 = c2 0 := k6 0 (by omega)
  rw [if_neg (by rw [c60]; exact hne)] at c7
  obtain ⟨nw, rw7⟩ := zm_Nw_of ht k6 (by rw [O 0 (by decide) (by decide) (by decide) (by decide)]; exact b40) (by rw [O 1 (by decide) (by decide) (by decide) (by decide), b41])
  rw [zm_e e7]
  rw [← c7] at nw rw7
  have R : ∀ w : Int, 0 ≤ w → w < 76 → w ≠ 7 → w ≠ 10 → w ≠ 11 → zm_o (zv_I h7 348) t w = zm_o (zv_I h4 348) t w := fun w w0 w1 w7 wa wb => (rw7 w w0 w1 w7).trans (O w w0 w1 wa wb)
  have a2 : zm_o (zv_I h7 348) t 2 = act := by rw [R 2 (by decide) (by decide) (by decide) (by decide) (by decide), b42]
  have a6 : zm_o (zv_I h7 348) t 6 = t := by
    rw [R 6 (by decide) (by decide) (by decide) (by decide) (by decide), b46, if_pos rfl]
  have a8 : zm_o (zv_I h7 348) t 8 = -1 := by rw [R 8 (by decide) (by decide) (by decide) (by decide) (by decide), b48]
  have nedt : ¬ zm_ed (zv_I h7 348) t := by
    intro q
    rcases q with q | q
    · rw [a2] at q
      clear a8 a6
      omega
    · rw [a2] at q
      clear a8 a6
      omega
  have hl20 : zm_W1 c2 (c2 0) l := by
    rw [c20]
    exact hl48
  have hag7 : ∀ u ∈ c2 0 :: l, zm_ag c2 (zv_I h7 348) u := fun u hu => by
    have hst := hl20.2.1.2.2 u hu
    have h3 := hst.1
    exact zm_Nw_ag nw hst.1.1 (by clear hst; omega) (fun e => hnst (by rw [← e]; exact hst))
  have hnl : ¬ t ∈ c2 0 :: l := fun q => hnst (hl20.2.1.2.2 t q)
  have cnt := (zm_cnt_nam (c := c2) (c1 := c2) (c2 := zv_I h7 348) (s := 48) (u := t) (lh := c2 0 :: l) (List.cons_ne_nil _ _) (fun _ _ _ _ _ _ => rfl) hag7 (by rw [c20]; exact n48) hnl (by rw [c20]; exact g2) (by rw [tr.2.2.1]; exact ha) (by rw [a2, tr.2.2.1]) ((rw7 10 (by decide) (by decide) (by decide)).trans O10) ((rw7 11 (by decide) (by decide) (by decide)).trans O11)).2.2
  rw [c20] at cnt
  obtain ⟨W7, _⟩ := zm_W_new w2 ht hd nw hl20 (Or.inl a6) (fun q => absurd q nedt) (fun q => absurd (Or.inr q) nedt) (by rw [a8]; decide) (by
    rw [c20, ← cnt]
    rw [en] at hfit
    exact Int.ofNat_le.mp hfit)
  exact zm_iI ⟨zm_F_t f03 (zm_F_t (zm_F_s f4 rfl rfl) (zm_F_t (zm_F_s f5 rfl rfl) (zm_F_t (zm_F_s f6 rfl rfl) (zm_F_s f7 rfl rfl)))), W7⟩
theorem zm_turnNow {h : zv_H} {c : Nat → Int} (hM : zm_M h) (hc : zv_I h 348 = c) (w : zm_W c) (d : Nat) {act : Int} (ha : act = 2 ∨ act = 3) (s : Int) : zm_R (C9_turnNow (d + 7) 347 s act h) (fun q => zm_F [348, 351, 352, 353, 354, 355, 365] [3, 10, 11, 12] h q.2 ∧ zm_W (zv_I q.2 348)) := by
  refine zm_cI (P := fun _ h' => zm_F [348, 351, 352, 353, 354, 355, 365] [3, 10, 11, 12] h h' ∧ zm_W (zv_I h' 348)) (lC9_turnNow (zm_ob hM)) ?_
  have refu : ∀ (v : Int) (g : zv_H), zm_F [348, 351, 352, 353, 354, 355, 365] [3, 10, 11, 12] h g → zv_I g 348 = c → zm_R ((C9_refuse (d + 6) 347 v g).bind fun q => (some (some (zv_i q.1), q.2) : zv_O)) (zm_I fun _ h' => zm_F [348, 351, 352, 353, 354, 355, 365] [3, 10, 11, 12] h h' ∧ zm_W (zv_I h' 348)) := by
    intro v g f e0
    rw [zm_e (zm_refuse (zm_F_M f hM) _ v)]
    have e : zv_I (zv_sI g 347 3 v) 348 = c := (zm_so g _ _).trans e0
    exact zm_iI ⟨zm_F_f f rfl _, by rw [e]; exact w⟩
  obtain ⟨l, hl, hl2, g, gt⟩ := zm_W_l w.1 w.2.1
  have hl' : zm_Ln (zv_I h 348) (c 0 :: l) (c 0) := by
    rw [hc]
    exact hl.1
  rw [qE9_turnNow]
  refine zm_gb (zm_isState hM _ s) (fun _ => refu 2 h (zm_F_r _ _ h) hc) (fun hs => ?_)
  rw [hc] at hs
  dsimp only
  rw [zm_e (zm_here hM _), hc]
  dsimp only
  refine zm_gb (zm_isOfLine hM _ s hl') (fun _ => ?_) (fun hin => ?_)
  · rw [qL9_turnNow_34]
    exact refu 7 h (zm_F_r _ _ h) hc
  dsimp only
  refine zm_gb (zm_isEdit hM _ (zm_st48 hs)) (fun _ => ?_) (fun he => ?_)
  · rw [qL9_turnNow_34]
    exact refu 7 h (zm_F_r _ _ h) hc
  obtain ⟨h1, e1, f1, hSn⟩ := zm_sees_st hM hc (d + 2) hl hl2 g gt
  have hM1 := zm_F_M f1 hM
  have c1 : zv_I h1 348 = c := (zm_F_a f1 348).trans hc
  have f1' : zm_F [348, 351, 352, 353, 354, 355, 365] [3, 10, 11, 12] h h1 := zm_F_s f1 rfl rfl
  have s48 := zm_st48 hs
  have s49 : s < ((49 : Nat) : Int) := by
    clear hs he
    omega
  dsimp only
  rw [zm_e (zm_here hM _), hc]
  dsimp only
  rw [zm_e e1, zm_e (zm_f8 hM1), zm_e (zm_aB hM1 zm_l354 (Or.inl rfl) rfl s48.1 s49)]
  have l65 : ∀ y z : Int, zm_R (L9_turnNow_65 (d + 6) 347 s act y z h1) (zm_I fun _ h' => zm_F [348, 351, 352, 353, 354, 355, 365] [3, 10, 11, 12] h h' ∧ zm_W (zv_I h' 348)) := by
    intro y z
    rw [qL9_turnNow_65]
    refine zm_if (fun _ => ?_) (fun _ => refu 4 h1 f1' c1)
    rw [zm_e (zm_states hM1 _ (by rw [c1]; exact w.1.1)), c1]
    dsimp only
    refine zm_if (fun _ => refu 3 h1 f1' c1) (fun hns => ?_)
    have go : ∀ b : Int, zm_R (L9_turnNow_101 (d + 6) 347 act 347 s b h1) (zm_I fun _ h' => zm_F [348, 351, 352, 353, 354, 355, 365] [3, 10, 11, 12] h h' ∧ zm_W (zv_I h' 348)) := by
      intro b
      refine zm_mono (zm_turn101 hM1 c1 w hns d ha s b) ?_
      rintro ⟨ov, h'⟩ ⟨v', ev, f2, q2⟩
      exact ⟨v', ev, zm_F_t f1' f2, q2⟩
    exact zm_if (fun _ => go 1) (fun _ => go 0)
  exact zm_if (fun _ => l65 _ 1) (fun _ => l65 _ 0)
end
/-! 70.prune -/
section
/-! ===== the reference: pruning ===== -/
theorem zm_Ln_kid {c : Nat → Int} {s : Int} : ∀ {l : List Int} {t : Int}, zm_Ln c (t :: l) t → s ∈ l → ∃ u, u ∈ t :: l ∧ zm_o c u 1 = s
  | [], _, _, h => by cases h
  | v :: l, t, hl, h => by
    have h1 : zm_o c t 1 = v := hl.2.1.1
    rcases List.mem_cons.mp h with q | q
    · exact ⟨t, List.mem_cons_self, by rw [h1, q]⟩
    · have h2 := hl.2
      rw [h1] at h2
      obtain ⟨u, u1, u2⟩ := zm_Ln_kid h2 q
      exact ⟨u, List.mem_cons_of_mem _ u1, u2⟩
theorem zm_W_rm {c : Nat → Int} (w : zm_W c) {s : Int} (hs : zm_st c s) (h0 : s ≠ 0) (hh : s ≠ c 0) (hn : zm_nch c s ≤ 0) : zm_W (zm_os c s 0 0) := by
  have o : ∀ t v : Int, 0 ≤ t → 0 ≤ v → v < 76 → ¬ (t = s ∧ v = 0) → zm_o (zm_os c s 0 0) t v = zm_o c t v := fun t v t0 v0 v1 q => zm_os_o c 0 hs.1.1 (by decide) t0 ⟨v0, v1⟩ q
  have hd : ∀ k : Nat, k < 432 → zm_os c s 0 0 k = c k := fun k hk => zm_u_o _ _ (by omega)
  have hst : ∀ {t : Int}, zm_st (zm_os c s 0 0) t → zm_st c t ∧ t ≠ s := by
    intro t q
    by_cases e : t = s
    · have h1 := q.2
      rw [e, zm_os_s] at h1
      cases h1
    · exact ⟨⟨q.1, by rw [← o t 0 q.1.1 (by decide) (by decide) (fun z => e z.1)]; exact q.2⟩, e⟩
  have hst2 : ∀ {t : Int}, zm_st c t → t ≠ s → zm_st (zm_os c s 0 0) t := fun q e => ⟨q.1, by rw [o _ 0 q.1.1 (by decide) (by decide) (fun z => e z.1)]; exact q.2⟩
  have hag : ∀ t : Int, 0 ≤ t → zm_ag c (zm_os c s 0 0) t := fun t t0 v v0 v1 _ => o t v t0 (by omega) v1 (fun z => by omega)
  obtain ⟨⟨w1, ⟨w2, w3, w4, w5⟩, w6⟩, w7, w8⟩ := id w
  refine ⟨⟨fun t t0 t1 => ?_, ⟨hst2 w2 h0.symm, ?_, ?_, ?_⟩, fun t ht => ?_⟩, ?_, zm_Wh_hd w8 ⟨hd 3 (by decide), hd 4 (by decide), fun k _ h2 => hd k h2, fun q => by rw [hd 5 (by decide)]; exact q⟩⟩
  · by_cases e : t = s
    · rw [e, zm_os_s]
      exact Or.inl rfl
    · rw [o t 0 t0 (by decide) (by decide) (fun z => e z.1)]
      exact w1 t t0 t1
  · rw [hag 0 (by decide) 1 (by decide) (by decide) (by decide)]
    exact w3
  · rw [hag 0 (by decide) 2 (by decide) (by decide) (by decide)]
    exact w4
  · rw [hag 0 (by decide) 5 (by decide) (by decide) (by decide)]
    exact w5
  · obtain ⟨t1, t2⟩ := hst ht
    obtain ⟨l, l1, l2, l3, l4⟩ := zm_W_l w.1 t1
    refine ⟨l, zm_W1_cg l1 l3 (fun u hu => hag u (l1.2.1.2.2 u hu).1.1) (fun u hu => hst2 (l1.2.1.2.2 u hu) (fun e => ?_))⟩
    rw [e] at hu
    rcases List.mem_cons.mp hu with q | q
    · exact t2 q.symm
    · obtain ⟨v, v1, v2⟩ := zm_Ln_kid l1.1 q
      exact zm_nch_0 hn (l1.2.1.2.2 v v1) v2
  · rw [hd 0 (by decide)]
    exact hst2 w7 (fun e => hh e.symm)
theorem zm_sum_upd {f g : Nat → Int} {j : Nat} (hj : g j = f j - 1) (h : ∀ k, k ≠ j → g k = f k) : ∀ n : Nat, zm_sum g n = if j < n then zm_sum f n - 1 else zm_sum f n
  | 0 => rfl
  | n + 1 => by
    have ih := zm_sum_upd hj h n
    show zm_sum g n + g n = if j < n + 1 then zm_sum f n + f n - 1 else zm_sum f n + f n
    by_cases e : n = j
    · subst e
      rw [if_neg (Nat.lt_irrefl _)] at ih
      rw [if_pos (by omega), ih, hj]
      omega
    · rw [h n e]
      by_cases q : j < n
      · rw [if_pos q] at ih
        rw [if_pos (by omega), ih]
        omega
      · rw [if_neg q] at ih
        rw [if_neg (by omega), ih]
theorem zm_nst_rm {c : Nat → Int} {s : Int} (hs : zm_st c s) : zm_nst (zm_os c s 0 0) = zm_nst c - 1 := by
  have h1 := hs.1
  have e := zm_sum_upd (f := fun k => zm_o c k 0) (g := fun k => zm_o (zm_os c s 0 0) k 0) (j := s.toNat) (by
    show zm_o (zm_os c s 0 0) ((s.toNat : Nat) : Int) 0 = zm_o c ((s.toNat : Nat) : Int) 0 - 1
    rw [show ((s.toNat : Nat) : Int) = s by clear hs; omega, zm_os_s, hs.2]
    rfl) (fun k hk => zm_os_o _ _ h1.1 (by decide) (by omega) (by decide) (fun q => hk (by clear hs; omega))) 48
  have h2 : s.toNat < 48 := by
    clear hs e
    omega
  rw [if_pos h2] at e
  exact e
/-- one that may go -/
def zm_Go (c : Nat → Int) (v : Int) : Prop := v = -1 ∨ (zm_st c v ∧ v ≠ 0 ∧ v ≠ c 0 ∧ zm_nch c v ≤ 0)
theorem zm_firstOut_l {h : zv_H} {c : Nat → Int} (hM : zm_M h) (hc : zv_I h 348 = c) (h3 : 0 ≤ c 3 ∧ c 3 ≤ 12) (d : Nat) : ∀ (n i : Nat) (b : Int), 1 ≤ i → i + n = 48 → zm_Go c b → ∃ v : Int, L9_firstOut_4 (d + 3) 347 b i h = some (some (zv_i v), h) ∧ zm_Go c v
  | 0, i, b, h1, hi, hb => ⟨b, by rw [qL9_firstOut_4, if_neg (by omega)], hb⟩
  | n + 1, i, b, h1, hi, hb => by
    have w1 : zv_w ((i : Int) + 1) = ((i + 1 : Nat) : Int) := by
      rw [zm_w (by omega)]
      rfl
    have j1 : (i : Int) < 48 := by omega
    have j2 : 0 ≤ (i : Int) ∧ (i : Int) ≤ 48 := by omega
    have j3 : (i : Int) ≠ 0 := by omega
    have hi' : (i + 1) + n = 48 := by omega
    have sk := zm_firstOut_l hM hc h3 d n (i + 1) b (by omega) hi' hb
    rw [qL9_firstOut_4, if_pos j1, zm_e (zm_isState hM _ i), w1, hc]
    dsimp only
    by_cases c1 : zm_st c i
    · rw [if_pos c1, if_neg (by decide), zm_e (zm_here hM _), hc]
      dsimp only
      by_cases c2 : (i : Int) = c 0
      · rw [if_pos c2]
        exact sk
      · rw [if_neg c2, zm_e (zm_childrenOf hM d i), hc]
        dsimp only
        by_cases c3 : zm_nch c i ≤ 0
        · have ok : zm_Go c i := Or.inr ⟨c1, j3, c2, c3⟩
          have nx := zm_firstOut_l hM hc h3 d n (i + 1) i (by omega) hi' ok
          obtain ⟨u, eu, _⟩ := zm_namesOf hM (d + 2) i (by rw [hc]; exact h3)
          rw [if_pos c3, zm_e eu]
          dsimp only
          by_cases c4 : u ≤ 0
          · rw [if_pos c4]
            by_cases c5 : b < 0
            · rw [if_pos c5]
              exact nx
            · rw [if_neg c5, zm_e (zm_of hM _ j2 (by decide))]
              dsimp only
              rcases hb with q | q
              · rw [q] at c5
                exact absurd (by decide) c5
              · rw [zm_e (zm_of hM _ (zm_st48 q.1) (by decide))]
                dsimp only
                by_cases c6 : zm_o (zv_I h 348) i 7 < zm_o (zv_I h 348) b 7
                · rw [if_pos c6]
                  exact nx
                · rw [if_neg c6]
                  exact sk
          · rw [if_neg c4]
            exact sk
        · rw [if_neg c3]
          exact sk
    · rw [if_neg c1, if_pos rfl]
      exact sk
theorem zm_firstOut {h : zv_H} {c : Nat → Int} (hM : zm_M h) (hc : zv_I h 348 = c) (h3 : 0 ≤ c 3 ∧ c 3 ≤ 12) (d : Nat) : ∃ v : Int, C9_firstOut (d + 4) 347 h = some (v, h) ∧ zm_Go c v := by
  obtain ⟨v, e, q⟩ := zm_firstOut_l hM hc h3 d 47 1 (-1) (by decide) rfl (Or.inl rfl)
  refine ⟨v, lC9_firstOut (zm_ob hM) ?_, q⟩
  rw [qE9_firstOut]
  exact e
theorem zm_prune45 (d : Nat) (many a s : Int) {m : Nat} (hm : m ≤ 40) (g : Nat → Int) : ∀ (n i : Nat) (h : zv_H), i + n = m → zm_M h → zv_I h 348 5 = m → (∀ k : Nat, k < 4156 → zv_I h 348 k = g k) → ∃ h', L9_pruneNow_45 d 347 many a s i h = L9_pruneNow_45 d 347 many a s m h' ∧ zm_F [348] [] h h' ∧ (∀ k : Nat, k < 4156 → zv_I h' 348 k = g k)
  | 0, i, h, hi, _, _, hk => by
    have e : i = m := by omega
    subst e
    exact ⟨h, rfl, zm_F_r _ _ h, hk⟩
  | n + 1, i, h, hi, hM, h5, hk => by
    have w1 : zv_w ((i : Int) + 1) = ((i + 1 : Nat) : Int) := by
      rw [zm_w (by omega)]
      rfl
    have w2 : zv_w (4156 + zv_w (2 * (i : Int))) = 4156 + 2 * (i : Int) := by
      rw [zm_w (x := 2 * (i : Int)) (by omega), zm_w (by omega)]
    rw [qL9_pruneNow_45, zm_e (zm_f0 hM), zm_e (zm_aI hM zm_l348 rfl (by decide) (by decide)), show zv_I h 348 (Int.toNat 5) = _ from h5, if_pos (by omega), zm_e (zm_f0 hM), w2, zm_e (zm_aI hM zm_l348 rfl (by omega) (by omega)), w1]
    by_cases c1 : zv_I h 348 (4156 + 2 * (i : Int)).toNat = s
    · rw [if_pos c1, zm_e (zm_f0 hM), zm_e (zm_wI hM zm_l348 rfl (by omega) (by omega) _)]
      have e1 : zv_I (zv_sI h 348 (4156 + 2 * (i : Int)).toNat (-1)) 348 = zm_u (zv_I h 348) (4156 + 2 * (i : Int)).toNat (-1) := zm_ss _ _ _ _
      obtain ⟨h', i1, i2, i3⟩ := zm_prune45 d many a s hm g n (i + 1) (zv_sI h 348 (4156 + 2 * (i : Int)).toNat (-1)) (by omega) hM (by rw [e1, zm_u_o _ _ (by omega)]; exact h5) (fun k hk2 => by rw [e1, zm_u_o _ _ (by omega)]; exact hk k hk2)
      exact ⟨h', i1, zm_F_t (zm_F_I (zm_F_r _ _ h) rfl _ _) i2, i3⟩
    · rw [if_neg c1]
      exact zm_prune45 d many a s hm g n (i + 1) h (by omega) hM h5 hk
theorem zm_prune23 (d : Nat) {many : Int} (hm : 1 ≤ many) : ∀ (n : Nat) (a s : Int) (h : zv_H), zm_M h → zm_W (zv_I h 348) → zm_nst (zv_I h 348) ≤ n → zm_Go (zv_I h 348) s → zm_R (L9_pruneNow_23 (d + 4) 347 many a s h) (zm_I fun _ h' => zm_F [348] [] h h' ∧ zm_W (zv_I h' 348))
  | 0, a, s, h, hM, w, hn, hs => by
    rw [qL9_pruneNow_23]
    refine zm_if (fun _ => zm_iI ⟨zm_F_r _ _ h, w⟩) (fun _ => ?_)
    rw [zm_e (zm_states hM _ w.1.1)]
    dsimp only
    rw [if_pos (by omega)]
    exact zm_iI ⟨zm_F_r _ _ h, w⟩
  | n + 1, a, s, h, hM, w, hn, hs => by
    rw [qL9_pruneNow_23]
    refine zm_if (fun _ => zm_iI ⟨zm_F_r _ _ h, w⟩) (fun hs0 => ?_)
    rw [zm_e (zm_states hM _ w.1.1)]
    dsimp only
    refine zm_if (fun _ => zm_iI ⟨zm_F_r _ _ h, w⟩) (fun _ => ?_)
    rcases hs with q | ⟨q1, q2, q3, q4⟩
    · rw [q] at hs0
      exact absurd (by decide) hs0
    · have w1 := zm_W_rm w q1 q2 q3 q4
      have n1 := zm_nst_rm q1
      rw [zm_e (zm_sets hM _ (zm_st48 q1) (by decide) _)]
      have f1 : zm_F [348] [] h (zv_sI h 348 (432 + 76 * s.toNat + Int.toNat 0) 0) := zm_F_I (zm_F_r _ _ h) rfl _ _
      have e1 : zv_I (zv_sI h 348 (432 + 76 * s.toNat + Int.toNat 0) 0) 348 = zm_os (zv_I h 348) s 0 0 := zm_ss _ _ _ _
      generalize zv_sI h 348 (432 + 76 * s.toNat + Int.toNat 0) 0 = h1 at f1 e1
      have hM1 := zm_F_M f1 hM
      rw [← e1] at w1 n1
      have h5 := w1.2.2.2.2.2
      obtain ⟨m, em⟩ : ∃ m : Nat, zv_I h1 348 5 = m := ⟨(zv_I h1 348 5).toNat, by omega⟩
      obtain ⟨h2, i1, f2, k2⟩ := zm_prune45 (d + 4) many a s (m := m) (by omega) (zv_I h1 348) m 0 h1 (by omega) hM1 em (fun _ _ => rfl)
      have hM2 := zm_F_M f2 hM1
      have e25 : zv_I h2 348 5 = m := (k2 5 (by decide)).trans em
      have w2 : zm_W (zv_I h2 348) := zm_W_alt w1 (fun k _ h1 => k2 k (by omega)) (by rw [k2 0 (by decide)]; exact w1.2.1) (by rw [k2 3 (by decide)]; exact w1.2.2.1) (k2 4 (by decide)) (fun k _ h1 => k2 k (by omega)) (by rw [k2 5 (by decide)]; exact w1.2.2.2.2.2)
      have n2 : zm_nst (zv_I h2 348) = zm_nst (zv_I h1 348) := zm_sum_cg 48 (fun k hk => k2 _ (by omega))
      obtain ⟨v, ev, qv⟩ := zm_firstOut hM2 rfl w2.2.2.1 d
      rw [show L9_pruneNow_45 (d + 4) 347 many a s 0 h1 = _ from i1, qL9_pruneNow_45, zm_e (zm_f0 hM2), zm_e (zm_aI hM2 zm_l348 rfl (by decide) (by decide)), show zv_I h2 348 (Int.toNat 5) = _ from e25, if_neg (Int.lt_irrefl _), zm_e ev]
      dsimp only
      refine zm_mono (zm_prune23 d hm n (zv_w (a + 1)) v h2 hM2 w2 (by omega) qv) ?_
      rintro ⟨ov, h'⟩ ⟨v', ev, f3, q3⟩
      exact ⟨v', ev, zm_F_t f1 (zm_F_t f2 f3), q3⟩
theorem zm_pruneNow {h : zv_H} {c : Nat → Int} (hM : zm_M h) (hc : zv_I h 348 = c) (w : zm_W c) (d : Nat) (many : Int) : zm_R (C9_pruneNow (d + 5) 347 many h) (fun q => zm_F [348] [3] h q.2 ∧ zm_W (zv_I q.2 348)) := by
  refine zm_cI (P := fun _ h' => zm_F [348] [3] h h' ∧ zm_W (zv_I h' 348)) (lC9_pruneNow (zm_ob hM)) ?_
  rw [qE9_pruneNow]
  refine zm_gb (zm_isIn _ many 1 48) (fun _ => ?_) (fun hm => ?_)
  · dsimp only
    rw [zm_e (zm_refuse hM _ 1)]
    have e : zv_I (zv_sI h 347 3 1) 348 = c := (zm_so h _ _).trans hc
    exact zm_iI ⟨zm_F_f (zm_F_r _ _ h) rfl _, by rw [e]; exact w⟩
  · obtain ⟨v, ev, qv⟩ := zm_firstOut hM hc w.2.2.1 d
    dsimp only
    rw [zm_e ev]
    subst hc
    refine zm_mono (zm_prune23 d hm.1 (zm_nst (zv_I h 348)).toNat 0 v h hM w (by omega) qv) ?_
    rintro ⟨ov, h'⟩ ⟨v', ev, f3, q3⟩
    exact ⟨v', ev, zm_F_s f3 rfl rfl, q3⟩
end
/-! 71.text -/
section
/-! ===== texts ===== -/
theorem zm_tV {r : Nat} (hr : 1000000 ≤ r ∧ r < 1000024) : zv_tV r = some (r + 100) := if_pos hr
theorem zm_tC {r : Nat} (hr : 1000000 ≤ r ∧ r < 1000024) : zv_tC r = some 0 := if_pos hr
def zm_tx (r : Nat) : List Int := zv_txt.getD (r - 1000000) []
theorem zm_tx_all : (zv_txt.all fun l => Nat.ble l.length 12 && l.all fun x => decide (0 ≤ x ∧ x ≤ 127)) = true := by decide +kernel
theorem zm_tx_l {r : Nat} : (zm_tx r).length ≤ 12 ∧ ∀ x ∈ zm_tx r, 0 ≤ x ∧ x ≤ 127 := by
  unfold zm_tx
  rw [List.getD_eq_getElem?_getD]
  cases e : zv_txt[r - 1000000]? with
  | none => exact ⟨by decide, fun x hx => by cases hx⟩
  | some l =>
    have h1 := List.all_eq_true.mp zm_tx_all l (List.mem_of_getElem? e)
    rw [Bool.and_eq_true] at h1
    exact ⟨Nat.ble_eq.mp h1.1, fun x hx => of_decide_eq_true (List.all_eq_true.mp h1.2 x hx)⟩
theorem zm_tal {r : Nat} (h : zv_H) (hr : 1000000 ≤ r ∧ r < 1000024) : zv_al h (r + 100) = some ((zm_tx r).length : Int) := by
  unfold zv_al zm_tx
  rw [if_neg (by omega), if_pos (by omega), show r + 100 - 1000100 = r - 1000000 by omega]
theorem zm_taB {r : Nat} (h : zv_H) (hr : 1000000 ≤ r ∧ r < 1000024) {i : Int} (h0 : 0 ≤ i) (h1 : i < (zm_tx r).length) : zv_aB h (r + 100) i = some ((zm_tx r).getD i.toNat 0) := by
  have e : r + 100 - 1000100 = r - 1000000 := by omega
  unfold zm_tx at h1 ⊢
  unfold zv_aB
  rw [if_pos (by omega), e, if_pos ⟨h0, h1⟩]
theorem zm_coder {r : Nat} (h : zv_H) (d : Nat) (hr : 1000000 ≤ r ∧ r < 1000024) : C13_coder (d + 1) r h = some (0, h) := by
  refine lC13_coder hr ?_
  rw [qE13_coder, zm_e (zm_tC hr), if_pos (by decide)]
theorem zm_isLatin1 {r : Nat} (h : zv_H) (d : Nat) (hr : 1000000 ≤ r ∧ r < 1000024) : C13_isLatin1 (d + 1) r h = some (1, h) := by
  refine lC13_isLatin1 hr ?_
  rw [qE13_isLatin1, zm_e (zm_tC hr), if_pos rfl]
theorem zm_shr0 : ∀ n : Nat, n ≤ 12 → zv_shr (n : Int) 0 = n := by decide +kernel
theorem zm_slen {r : Nat} (h : zv_H) (d : Nat) (hr : 1000000 ≤ r ∧ r < 1000024) : C13_length (d + 2) r h = some (((zm_tx r).length : Int), h) := by
  refine lC13_length hr ?_
  rw [qE13_length, zm_e (zm_tV hr), zm_e (zm_tal h hr), zm_e (zm_coder h d hr)]
  dsimp only
  rw [zm_shr0 _ zm_tx_l.1]
theorem zm_i2c_b : ∀ n : Nat, n ≤ 127 → zv_i2c (zv_and (n : Int) 255) = n := by decide +kernel
theorem zm_ldd {l : List Int} (hl : ∀ x ∈ l, 0 ≤ x ∧ x ≤ 127) {i : Nat} (h : i < l.length) : ∃ n : Nat, n ≤ 127 ∧ l.getD i 0 = n := by
  have hx : 0 ≤ l.getD i 0 ∧ l.getD i 0 ≤ 127 := by
    rw [List.getD_eq_getElem?_getD, List.getElem?_eq_getElem h]
    exact hl _ (List.getElem_mem h)
  generalize l.getD i 0 = v at hx
  exact ⟨v.toNat, by omega, by omega⟩
theorem zm_txd {r : Nat} {i : Nat} (h : i < (zm_tx r).length) : ∃ n : Nat, n ≤ 127 ∧ (zm_tx r).getD i 0 = n := zm_ldd zm_tx_l.2 h
theorem zm_c64 (h : zv_H) {n : Nat} (hn : n ≤ 127) : (if 0 ≤ zv_i2c (zv_and (n : Int) 255) ∧ zv_i2c (zv_and (n : Int) 255) ≤ 65535 then (some (some (zv_i (zv_i2c (zv_and (n : Int) 255))), h) : zv_O) else none) = some (some (zv_i n), h) := by
  have e := zm_i2c_b n hn
  generalize zv_i2c (zv_and (n : Int) 255) = x at e
  rw [e]
  exact if_pos ⟨Int.natCast_nonneg n, by omega⟩
theorem zm_charAt14 {r : Nat} (h : zv_H) (d : Nat) (hr : 1000000 ≤ r ∧ r < 1000024) {i : Int} (h0 : 0 ≤ i) (h1 : i < (zm_tx r).length) : C14_charAt (d + 2) (r + 100) i h = some ((zm_tx r).getD i.toNat 0, h) := by
  obtain ⟨n, hn, en⟩ := zm_txd (r := r) (i := i.toNat) (by omega)
  refine lC14_charAt ?_
  rw [qE14_charAt, zm_e (zm_tal h hr), zm_e (lCJ_chk _ _ _ _ ⟨h0, h1⟩), zm_e (zm_taB h hr h0 h1), en]
  exact zm_c64 h hn
theorem zm_charAt {r : Nat} (h : zv_H) (d : Nat) (hr : 1000000 ≤ r ∧ r < 1000024) {i : Int} (h0 : 0 ≤ i) (h1 : i < (zm_tx r).length) : C13_charAt (d + 3) r i h = some ((zm_tx r).getD i.toNat 0, h) := by
  obtain ⟨n, hn, en⟩ := zm_txd (r := r) (i := i.toNat) (by omega)
  refine lC13_charAt hr ?_
  rw [qE13_charAt, zm_e (zm_isLatin1 h _ hr)]
  dsimp only
  rw [if_neg (by decide), zm_e (zm_tV hr), zm_e (zm_charAt14 h d hr h0 h1)]
  dsimp only
  rw [en]
  exact if_pos ⟨Int.natCast_nonneg n, by omega⟩
theorem zm_iox {r : Nat} (h : zv_H) (d : Nat) (hr : 1000000 ≤ r ∧ r < 1000024) {m : Nat} (hm : m ≤ (zm_tx r).length) (v : Int) : ∀ n i : Nat, i + n = m → ∃ u : Int, L14_indexOfChar_7 d (r + 100) m v i h = some (some (zv_i u), h)
  | 0, i, hi => ⟨-1, by rw [qL14_indexOfChar_7, if_neg (by omega)]⟩
  | n + 1, i, hi => by
    have h2 := (zm_tx_l (r := r)).1
    rw [qL14_indexOfChar_7, if_pos (by omega), zm_e (zm_taB h hr (by omega) (by omega))]
    by_cases c1 : (zm_tx r).getD ((i : Int)).toNat 0 = v
    · rw [if_pos c1]
      exact ⟨_, rfl⟩
    · rw [if_neg c1, zm_w (by omega)]
      exact zm_iox h d hr hm v n (i + 1) (by omega)
theorem zm_indexOf {r : Nat} (h : zv_H) (d : Nat) (hr : 1000000 ≤ r ∧ r < 1000024) (ch : Int) : ∃ u : Int, C13_indexOf (d + 4) r ch h = some (u, h) := by
  have h2 := (zm_tx_l (r := r)).1
  have e1 : ∃ u : Int, C14_indexOf (d + 2) (r + 100) ch 0 ((zm_tx r).length : Int) h = some (u, h) := by
    have main : ∃ u : Int, E14_indexOf (d + 1) (r + 100) ch 0 ((zm_tx r).length : Int) h = some (some (zv_i u), h) := by
      have can : ∃ b : Int, C14_canEncode (d + 1) ch h = some (b, h) := by
        have main : ∃ b : Int, E14_canEncode d ch h = some (some (zv_i b), h) := by
          rw [qE14_canEncode]
          by_cases c1 : ch < 0
          · rw [if_pos c1]
            exact ⟨_, rfl⟩
          · rw [if_neg c1]
            by_cases c2 : ch ≤ 255
            · rw [if_pos c2]
              exact ⟨_, rfl⟩
            · rw [if_neg c2]
              exact ⟨_, rfl⟩
        obtain ⟨b, e⟩ := main
        exact ⟨b, lC14_canEncode e⟩
      obtain ⟨b, eb⟩ := can
      rw [qE14_indexOf, zm_e eb]
      dsimp only
      by_cases c1 : b = 0
      · rw [if_pos c1]
        exact ⟨_, rfl⟩
      · rw [if_neg c1, zm_e (zm_tal h hr), Int.max_self, Int.min_self]
        by_cases c2 : (0 : Int) < (zm_tx r).length
        · obtain ⟨u, eu⟩ := zm_iox h d hr (m := (zm_tx r).length) (Nat.le_refl _) (zv_i2b ch) (zm_tx r).length 0 (Nat.zero_add _)
          have e3 : C14_indexOfChar (d + 1) (r + 100) ch 0 ((zm_tx r).length : Int) h = some (u, h) := by
            refine lC14_indexOfChar ?_
            rw [qE14_indexOfChar]
            exact eu
          rw [if_pos c2, zm_e e3]
          exact ⟨_, rfl⟩
        · rw [if_neg c2]
          exact ⟨_, rfl⟩
    obtain ⟨u, e⟩ := main
    exact ⟨u, lC14_indexOf e⟩
  obtain ⟨u, eu⟩ := e1
  refine ⟨u, lC13_indexOf hr ?_⟩
  have e2 : C13_indexOf2 (d + 3) r ch 0 h = some (u, h) := by
    refine lC13_indexOf2 hr ?_
    rw [qE13_indexOf2, zm_e (zm_isLatin1 h _ hr)]
    dsimp only
    rw [if_neg (by decide), zm_e (zm_tV hr), zm_e (zm_slen h d hr)]
    dsimp only
    rw [zm_e eu]
  rw [qE13_indexOf, zm_e e2]
end
/-! 72.reads -/
section
/-! ===== the reference: TOKENS ===== -/
theorem zm_sgI (h : zv_H) (k k' : Nat) (v : Int) : zv_I (zv_sI h 347 k v) 347 k' = if k' = k then v else zv_I h 347 k' := by
  rw [zm_ss]
  rfl
/-- the TOKEN that is looked at -/
def zm_RI (h : zv_H) : Prop := (0 ≤ zv_I h 347 36 ∧ zv_I h 347 36 ≤ 700) ∧ (0 ≤ zv_I h 347 32 ∧ zv_I h 347 32 < zv_I h 347 33 ∧ zv_I h 347 33 ≤ 701) ∧ (zv_I h 347 34 ≠ 0 → zv_I h 347 33 ≤ zv_I h 347 36) ∧ (0 ≤ zv_I h 347 35 ∧ zv_I h 347 35 ≤ 999) ∧ (zv_I h 347 34 = 1 → zv_I h 347 33 = zv_I h 347 32 + 1 → zv_J h 347 38 ≠ 423 ∧ zv_J h 347 38 ≠ 1111 ∧ zv_J h 347 38 ≠ 10631)
theorem zm_isOf {h : zv_H} (hM : zm_M h) (d : Nat) {k : Int} (hk : 0 ≤ k) (he : zv_I h 347 36 ≤ 700) (a b : Int) : C9_isOf (d + 2) 347 k a b h = some (if k < zv_I h 347 36 ∧ a ≤ zv_I h 366 k.toNat ∧ zv_I h 366 k.toNat ≤ b then 1 else 0, h) := by
  refine lC9_isOf (zm_ob hM) ?_
  rw [qE9_isOf, zm_e (zm_gI hM 36)]
  by_cases c1 : k < zv_I h 347 36
  · rw [if_pos c1, zm_e (zm_f26 hM), zm_e (zm_aB hM zm_l366 (Or.inr rfl) rfl hk (by omega)), zm_e (zm_isIn _ _ _ _)]
    dsimp only
    by_cases c2 : a ≤ zv_I h 366 k.toNat ∧ zv_I h 366 k.toNat ≤ b
    · rw [if_pos c2, if_neg (by decide), if_pos ⟨c1, c2⟩]
    · rw [if_neg c2, if_pos rfl, if_neg (fun q => c2 q.2)]
  · rw [if_neg c1, if_neg (fun q => c1 q.1)]
theorem zm_key1 : ∀ n : Nat, n ≤ 25 → ((27 : Int64) * Int64.ofNat 0 + zv_i2l (97 + (n : Int)) - 96 ≠ 423) ∧ ((27 : Int64) * Int64.ofNat 0 + zv_i2l (97 + (n : Int)) - 96 ≠ 1111) ∧ ((27 : Int64) * Int64.ofNat 0 + zv_i2l (97 + (n : Int)) - 96 ≠ 10631) := by decide +kernel
theorem zm_sJJ (h : zv_H) (v : Int64) : zv_J (zv_sJ h 347 38 v) 347 38 = v := by
  show zv_up h.2.2.1 347 38 v 347 38 = v
  unfold zv_up
  rw [if_pos ⟨rfl, rfl⟩]
/-- what reading a TOKEN changes -/
def zm_rF (h h' : zv_H) : Prop := zm_F [] [32, 33, 34, 35, 38] h h'
theorem zm_rF_t {a b c : zv_H} (f : zm_rF a b) (g : zm_rF b c) : zm_rF a c := zm_F_t f g
theorem zm_rF_f {h h1 : zv_H} (f : zm_rF h h1) {k : Nat} (hk : k = 32 ∨ k = 33 ∨ k = 34 ∨ k = 35) (v : Int) : zm_rF h (zv_sI h1 347 k v) := by
  rcases hk with q | q | q | q
  all_goals subst q; exact zm_F_f f rfl v
theorem zm_reads146 (d : Nat) {e a : Int} (he : 0 ≤ e ∧ e ≤ 700) (ha : 0 ≤ a) : ∀ (m : Nat) (h : zv_H) (x : Int), zm_M h → zv_I h 347 36 = e → zv_I h 347 32 = a → zv_I h 347 33 = x → e - x ≤ m → a ≤ x → x ≤ e → zv_I h 347 34 = 1 → (x = a → zv_J h 347 38 = Int64.ofNat 0 ∧ (a < e ∧ 97 ≤ zv_I h 366 a.toNat ∧ zv_I h 366 a.toNat ≤ 122)) → (x = a + 1 → zv_J h 347 38 ≠ 423 ∧ zv_J h 347 38 ≠ 1111 ∧ zv_J h 347 38 ≠ 10631) → (0 ≤ zv_I h 347 35 ∧ zv_I h 347 35 ≤ 999) → ∃ h', L9_reads_146 (d + 2) 347 h = some (none, h') ∧ zm_rF h h' ∧ zm_RI h' ∧ zv_I h' 347 32 = a ∧ zv_I h' 347 34 = 1
  | m, h, x, hM, e36, e32, e33, hm, hx0, hx1, e34, hk0, hk1, hn => by
    rw [qL9_reads_146, zm_e (zm_gI hM 33), e33, zm_e (zm_isOf hM d (by omega) (by rw [e36]; omega) 97 122), e36]
    dsimp only
    by_cases c1 : x < e ∧ 97 ≤ zv_I h 366 x.toNat ∧ zv_I h 366 x.toNat ≤ 122
    · rw [if_pos c1, if_neg (by decide), zm_e (zm_gI hM 33), e33, zm_e (zm_gI hM 32), e32]
      cases m with
      | zero => exact absurd hm (by omega)
      | succ m =>
        have nx : ∀ h1 : zv_H, zm_rF h h1 → zv_I h1 347 36 = e → zv_I h1 347 32 = a → zv_I h1 347 33 = x + 1 → zv_I h1 347 34 = 1 → (x + 1 = a + 1 → zv_J h1 347 38 ≠ 423 ∧ zv_J h1 347 38 ≠ 1111 ∧ zv_J h1 347 38 ≠ 10631) → (0 ≤ zv_I h1 347 35 ∧ zv_I h1 347 35 ≤ 999) → ∃ h', L9_reads_146 (d + 2) 347 h1 = some (none, h') ∧ zm_rF h h' ∧ zm_RI h' ∧ zv_I h' 347 32 = a ∧ zv_I h' 347 34 = 1 := by
          intro h1 f e36' e32' e33' e34' hk hn'
          obtain ⟨h', i1, i2, i3⟩ := zm_reads146 d he ha m h1 (x + 1) (zm_F_M f hM) e36' e32' e33' (by omega) (by omega) (by omega) e34' (fun q => by omega) hk hn'
          exact ⟨h', i1, zm_rF_t f i2, i3⟩
        by_cases c2 : zv_w (x - a) < 9
        · rw [if_pos c2, zm_e (zm_gJ hM 38), zm_e (zm_f26 hM), zm_e (zm_gI hM 33), e33, zm_e (zm_aB hM zm_l366 (Or.inr rfl) rfl (by omega) (by omega)), zm_e (zm_pJ hM 38 _)]
          have f1 : zm_rF h (zv_sJ h 347 38 ((27 : Int64) * zv_J h 347 38 + zv_i2l (zv_I h 366 x.toNat) - 96)) := zm_F_k (zm_F_r _ _ h) rfl _
          have ek : zv_J (zv_sJ h 347 38 ((27 : Int64) * zv_J h 347 38 + zv_i2l (zv_I h 366 x.toNat) - 96)) 347 38 = (27 : Int64) * zv_J h 347 38 + zv_i2l (zv_I h 366 x.toNat) - 96 := zm_sJJ _ _
          have eI : ∀ k, zv_I (zv_sJ h 347 38 ((27 : Int64) * zv_J h 347 38 + zv_i2l (zv_I h 366 x.toNat) - 96)) 347 k = zv_I h 347 k := fun k => rfl
          generalize zv_sJ h 347 38 ((27 : Int64) * zv_J h 347 38 + zv_i2l (zv_I h 366 x.toNat) - 96) = h1 at f1 ek eI
          have hM1 := zm_F_M f1 hM
          rw [zm_e (zm_gI hM1 33), eI, e33, zm_e (zm_pI hM1 33 _), zm_w (by omega)]
          have ek2 : zv_J (zv_sI h1 347 33 (x + 1)) 347 38 = zv_J h1 347 38 := rfl
          refine nx _ (zm_rF_f f1 (Or.inr (Or.inl rfl)) _) ?_ ?_ ?_ ?_ (fun q => ?_) ?_
          · rw [zm_sgI, if_neg (by decide), eI]
            exact e36
          · rw [zm_sgI, if_neg (by decide), eI]
            exact e32
          · rw [zm_sgI, if_pos rfl]
          · rw [zm_sgI, if_neg (by decide), eI]
            exact e34
          · have hxa : x = a := by omega
            obtain ⟨k0, k1⟩ := hk0 hxa
            rw [ek2, ek, k0, hxa]
            have := zm_key1 (zv_I h 366 a.toNat - 97).toNat (by omega)
            rw [show 97 + (((zv_I h 366 a.toNat - 97).toNat : Nat) : Int) = zv_I h 366 a.toNat by omega] at this
            exact this
          · rw [zm_sgI, if_neg (by decide), eI]
            exact hn
        · rw [if_neg c2, zm_e (zm_gJ hM 38), zm_e (zm_pJ hM 38 _)]
          have f1 : zm_rF h (zv_sJ h 347 38 (zv_J h 347 38)) := zm_F_k (zm_F_r _ _ h) rfl _
          have eI : ∀ k, zv_I (zv_sJ h 347 38 (zv_J h 347 38)) 347 k = zv_I h 347 k := fun k => rfl
          generalize zv_sJ h 347 38 (zv_J h 347 38) = h1 at f1 eI
          have hM1 := zm_F_M f1 hM
          have hxa : ¬ x = a := by
            intro q
            rw [zm_w (by omega)] at c2
            omega
          rw [zm_e (zm_gI hM1 33), eI, e33, zm_e (zm_pI hM1 33 _), zm_w (by omega)]
          refine nx _ (zm_rF_f f1 (Or.inr (Or.inl rfl)) _) ?_ ?_ ?_ ?_ (fun q => absurd (by omega) hxa) ?_
          · rw [zm_sgI, if_neg (by decide), eI]
            exact e36
          · rw [zm_sgI, if_neg (by decide), eI]
            exact e32
          · rw [zm_sgI, if_pos rfl]
          · rw [zm_sgI, if_neg (by decide), eI]
            exact e34
          · rw [zm_sgI, if_neg (by decide), eI]
            exact hn
    · rw [if_neg c1, if_pos rfl]
      have hxa : ¬ x = a := by
        intro q
        obtain ⟨_, k1⟩ := hk0 q
        rw [← q] at k1
        exact c1 k1
      refine ⟨h, rfl, zm_F_r _ _ h, ⟨by rw [e36]; exact he, ⟨by rw [e32]; exact ha, by rw [e32, e33]; omega, by rw [e33]; omega⟩, fun _ => by rw [e33, e36]; exact hx1, hn, fun _ q => hk1 (by rw [e33, e32] at q; exact q)⟩, e32, e34⟩
end
/-! 73.reads2 -/
section
theorem zm_reads250 (d : Nat) {e a : Int} (he : 0 ≤ e ∧ e ≤ 700) (ha : 0 ≤ a) : ∀ (m : Nat) (h : zv_H) (x : Int), zm_M h → zv_I h 347 36 = e → zv_I h 347 32 = a → zv_I h 347 33 = x → e - x ≤ m → a ≤ x → x ≤ e → (x = a → a < e ∧ 48 ≤ zv_I h 366 a.toNat ∧ zv_I h 366 a.toNat ≤ 57) → (0 ≤ zv_I h 347 35 ∧ (x = a → zv_I h 347 35 = 0) ∧ (x = a + 1 → zv_I h 347 35 ≤ 9) ∧ (x = a + 2 → zv_I h 347 35 ≤ 99) ∧ zv_I h 347 35 ≤ 999) → ∃ h', L9_reads_250 (d + 2) 347 h = some (none, h') ∧ zm_rF h h' ∧ zm_RI h' ∧ zv_I h' 347 32 = a ∧ zv_I h' 347 34 ≠ 1
  | m, h, x, hM, e36, e32, e33, hm, hx0, hx1, hk0, hn => by
    rw [qL9_reads_250, zm_e (zm_gI hM 33), e33, zm_e (zm_isOf hM d (by omega) (by rw [e36]; omega) 48 57), e36]
    dsimp only
    by_cases c1 : x < e ∧ 48 ≤ zv_I h 366 x.toNat ∧ zv_I h 366 x.toNat ≤ 57
    · rw [if_pos c1, if_neg (by decide), zm_e (zm_gI hM 33), e33, zm_e (zm_gI hM 32), e32]
      cases m with
      | zero => exact absurd hm (by omega)
      | succ m =>
        have nx : ∀ h1 : zv_H, zm_rF h h1 → zv_I h1 347 36 = e → zv_I h1 347 32 = a → zv_I h1 347 33 = x + 1 → (0 ≤ zv_I h1 347 35 ∧ (x + 1 = a → zv_I h1 347 35 = 0) ∧ (x + 1 = a + 1 → zv_I h1 347 35 ≤ 9) ∧ (x + 1 = a + 2 → zv_I h1 347 35 ≤ 99) ∧ zv_I h1 347 35 ≤ 999) → ∃ h', L9_reads_250 (d + 2) 347 h1 = some (none, h') ∧ zm_rF h h' ∧ zm_RI h' ∧ zv_I h' 347 32 = a ∧ zv_I h' 347 34 ≠ 1 := by
          intro h1 f e36' e32' e33' hn'
          obtain ⟨h', i1, i2, i3⟩ := zm_reads250 d he ha m h1 (x + 1) (zm_F_M f hM) e36' e32' e33' (by omega) (by omega) (by omega) (fun q => by omega) hn'
          exact ⟨h', i1, zm_rF_t f i2, i3⟩
        have stp : ∀ v : Int, (0 ≤ v ∧ (x + 1 = a → v = 0) ∧ (x + 1 = a + 1 → v ≤ 9) ∧ (x + 1 = a + 2 → v ≤ 99) ∧ v ≤ 999) → ∃ h', ((zv_pI h 347 9 35 v).bind fun g13 => (zv_gI g13 347 9 33).bind fun v14 => (zv_pI g13 347 9 33 (zv_w (v14 + 1))).bind fun g15 => L9_reads_250 (d + 2) 347 g15) = some (none, h') ∧ zm_rF h h' ∧ zm_RI h' ∧ zv_I h' 347 32 = a ∧ zv_I h' 347 34 ≠ 1 := by
          intro v hv
          rw [zm_e (zm_pI hM 35 _)]
          have f1 : zm_rF h (zv_sI h 347 35 v) := zm_F_f (zm_F_r _ _ h) rfl v
          have eI : ∀ k, zv_I (zv_sI h 347 35 v) 347 k = if k = 35 then v else zv_I h 347 k := fun k => zm_sgI _ _ _ _
          generalize zv_sI h 347 35 v = h1 at f1 eI
          have hM1 := zm_F_M f1 hM
          rw [zm_e (zm_gI hM1 33), eI, if_neg (by decide), e33, zm_e (zm_pI hM1 33 _), zm_w (by omega)]
          refine nx _ (zm_rF_f f1 (Or.inr (Or.inl rfl)) _) ?_ ?_ ?_ ?_
          · rw [zm_sgI, if_neg (by decide), eI, if_neg (by decide)]
            exact e36
          · rw [zm_sgI, if_neg (by decide), eI, if_neg (by decide)]
            exact e32
          · rw [zm_sgI, if_pos rfl]
          · rw [zm_sgI, if_neg (by decide), eI, if_pos rfl]
            exact hv
        by_cases c2 : zv_w (x - a) < 3
        · have c3 : x - a < 3 := by
            rw [zm_w (by omega)] at c2
            exact c2
          rw [if_pos c2, zm_e (zm_gI hM 35), zm_e (zm_f26 hM), zm_e (zm_gI hM 33), e33, zm_e (zm_aB hM zm_l366 (Or.inr rfl) rfl (by omega) (by omega)), zm_w (x := 10 * zv_I h 347 35) (by omega), zm_w (x := 10 * zv_I h 347 35 + zv_I h 366 x.toNat) (by omega), zm_w (x := 10 * zv_I h 347 35 + zv_I h 366 x.toNat - 48) (by omega)]
          exact stp _ (by omega)
        · have c3 : ¬ x - a < 3 := by
            rw [zm_w (by omega)] at c2
            exact c2
          rw [if_neg c2, zm_e (zm_gI hM 35)]
          exact stp _ (by omega)
    · have hxa : ¬ x = a := by
        intro q
        have k1 := hk0 q
        rw [← q] at k1
        exact c1 k1
      have fin : ∀ v : Int, v ≠ 0 → v ≠ 1 → ∃ h', (((zv_pI h 347 9 34 v).bind fun g => some (none, g)) : zv_O) = some (none, h') ∧ zm_rF h h' ∧ zm_RI h' ∧ zv_I h' 347 32 = a ∧ zv_I h' 347 34 ≠ 1 := by
        intro v v0 v1
        rw [zm_e (zm_pI hM 34 _)]
        have eI : ∀ k, zv_I (zv_sI h 347 34 v) 347 k = if k = 34 then v else zv_I h 347 k := fun k => zm_sgI _ _ _ _
        refine ⟨_, rfl, zm_F_f (zm_F_r _ _ h) rfl v, ?_, by rw [eI, if_neg (by decide)]; exact e32, by rw [eI, if_pos rfl]; exact v1⟩
        unfold zm_RI
        rw [eI 36, eI 32, eI 33, eI 34, eI 35, if_neg (by decide), if_neg (by decide), if_neg (by decide), if_pos rfl, if_neg (by decide), e36, e32, e33]
        exact ⟨he, ⟨ha, by omega, by omega⟩, fun _ => hx1, ⟨hn.1, hn.2.2.2.2⟩, fun q => absurd q v1⟩
      rw [if_neg c1, if_pos rfl, zm_e (zm_gI hM 33), zm_e (zm_gI hM 32)]
      by_cases c2 : zv_w (zv_I h 347 33 - zv_I h 347 32) ≤ 3
      · rw [if_pos c2]
        exact fin 2 (by decide) (by decide)
      · rw [if_neg c2]
        exact fin 4 (by decide) (by decide)
theorem zm_reads110 (d : Nat) {e a : Int} (he : 0 ≤ e ∧ e ≤ 700) (ha : 0 ≤ a ∧ a ≤ e) {h : zv_H} (hM : zm_M h) (e36 : zv_I h 347 36 = e) (e32 : zv_I h 347 32 = a) (e33 : zv_I h 347 33 = a + 1) (hn : 0 ≤ zv_I h 347 35 ∧ zv_I h 347 35 ≤ 999) (v : Int) (hv : v ≠ 0 → a < e) (hv1 : v ≠ 1) : ∃ h', L9_reads_110 (d + 3) 347 347 v h = some (none, h') ∧ zm_rF h h' ∧ zm_RI h' ∧ zv_I h' 347 32 = a := by
  rw [qL9_reads_110, zm_e (zm_pI hM 34 v)]
  have f1 : zm_rF h (zv_sI h 347 34 v) := zm_F_f (zm_F_r _ _ h) rfl v
  have eI : ∀ k, zv_I (zv_sI h 347 34 v) 347 k = if k = 34 then v else zv_I h 347 k := fun k => zm_sgI _ _ _ _
  generalize zv_sI h 347 34 v = h1 at f1 eI
  have hM1 := zm_F_M f1 hM
  have r32 : zv_I h1 347 32 = a := by rw [eI, if_neg (by decide)]; exact e32
  have r33 : zv_I h1 347 33 = a + 1 := by rw [eI, if_neg (by decide)]; exact e33
  have r36 : zv_I h1 347 36 = e := by rw [eI, if_neg (by decide)]; exact e36
  have r34 : zv_I h1 347 34 = v := by rw [eI, if_pos rfl]
  have r35 : zv_I h1 347 35 = zv_I h 347 35 := by rw [eI, if_neg (by decide)]
  have rb : zv_I h1 347 36 ≤ 700 := by rw [r36]; omega
  rw [zm_e (zm_gI hM1 32), r32, zm_e (zm_isOf hM1 _ ha.1 rb 97 122), r36]
  dsimp only
  by_cases c1 : a < e ∧ 97 ≤ zv_I h1 366 a.toNat ∧ zv_I h1 366 a.toNat ≤ 122
  · rw [if_pos c1, if_neg (by decide), zm_e (zm_pI hM1 34 1)]
    have f2 : zm_rF h (zv_sI h1 347 34 1) := zm_rF_f f1 (Or.inr (Or.inr (Or.inl rfl))) 1
    have eI2 : ∀ k, zv_I (zv_sI h1 347 34 1) 347 k = if k = 34 then 1 else zv_I h1 347 k := fun k => zm_sgI _ _ _ _
    have t2 : zv_I (zv_sI h1 347 34 1) 366 = zv_I h1 366 := zm_so _ _ _
    generalize zv_sI h1 347 34 1 = h2 at f2 eI2 t2
    have hM2 := zm_F_M f2 hM
    rw [zm_e (zm_pJ hM2 38 _)]
    have f3 : zm_rF h (zv_sJ h2 347 38 (Int64.ofNat 0)) := zm_F_k f2 rfl _
    have eI3 : ∀ k, zv_I (zv_sJ h2 347 38 (Int64.ofNat 0)) 347 k = zv_I h2 347 k := fun k => rfl
    have t3 : zv_I (zv_sJ h2 347 38 (Int64.ofNat 0)) 366 = zv_I h2 366 := rfl
    have k3 : zv_J (zv_sJ h2 347 38 (Int64.ofNat 0)) 347 38 = Int64.ofNat 0 := zm_sJJ _ _
    generalize zv_sJ h2 347 38 (Int64.ofNat 0) = h3 at f3 eI3 t3 k3
    have hM3 := zm_F_M f3 hM
    have s32 : zv_I h3 347 32 = a := by rw [eI3, eI2, if_neg (by decide)]; exact r32
    rw [zm_e (zm_gI hM3 32), s32, zm_e (zm_pI hM3 33 _)]
    have eI4 : ∀ k, zv_I (zv_sI h3 347 33 a) 347 k = if k = 33 then a else zv_I h3 347 k := fun k => zm_sgI _ _ _ _
    have t4 : zv_I (zv_sI h3 347 33 a) 366 = zv_I h3 366 := zm_so _ _ _
    have k4 : zv_J (zv_sI h3 347 33 a) 347 38 = zv_J h3 347 38 := rfl
    have f4 : zm_rF h (zv_sI h3 347 33 a) := zm_rF_f f3 (Or.inr (Or.inl rfl)) a
    generalize zv_sI h3 347 33 a = h4 at f4 eI4 t4 k4
    obtain ⟨h', i1, i2, i3, i4, _⟩ := zm_reads146 (d + 1) he ha.1 (e - a).toNat h4 a (zm_F_M f4 hM) (by rw [eI4, if_neg (by decide), eI3, eI2, if_neg (by decide)]; exact r36) (by rw [eI4, if_neg (by decide)]; exact s32) (by rw [eI4, if_pos rfl]) (by omega) (Int.le_refl _) (by omega) (by rw [eI4, if_neg (by decide), eI3, eI2, if_pos rfl]) (fun _ => ⟨by rw [k4, k3], by rw [t4, t3, t2]; exact c1⟩) (fun q => by omega) (by rw [eI4, if_neg (by decide), eI3, eI2, if_neg (by decide), r35]; exact hn)
    exact ⟨h', i1, zm_rF_t f4 i2, i3, i4⟩
  · rw [if_neg c1, if_pos rfl, zm_e (zm_gI hM1 32), r32, zm_e (zm_isOf hM1 _ ha.1 rb 48 57), r36]
    dsimp only
    by_cases c2 : a < e ∧ 48 ≤ zv_I h1 366 a.toNat ∧ zv_I h1 366 a.toNat ≤ 57
    · rw [if_pos c2, if_neg (by decide), zm_e (zm_pI hM1 35 0)]
      have f2 : zm_rF h (zv_sI h1 347 35 0) := zm_rF_f f1 (Or.inr (Or.inr (Or.inr rfl))) 0
      have eI2 : ∀ k, zv_I (zv_sI h1 347 35 0) 347 k = if k = 35 then 0 else zv_I h1 347 k := fun k => zm_sgI _ _ _ _
      have t2 : zv_I (zv_sI h1 347 35 0) 366 = zv_I h1 366 := zm_so _ _ _
      generalize zv_sI h1 347 35 0 = h2 at f2 eI2 t2
      have hM2 := zm_F_M f2 hM
      have s32 : zv_I h2 347 32 = a := by rw [eI2, if_neg (by decide)]; exact r32
      rw [zm_e (zm_gI hM2 32), s32, zm_e (zm_pI hM2 33 _)]
      have eI4 : ∀ k, zv_I (zv_sI h2 347 33 a) 347 k = if k = 33 then a else zv_I h2 347 k := fun k => zm_sgI _ _ _ _
      have t4 : zv_I (zv_sI h2 347 33 a) 366 = zv_I h2 366 := zm_so _ _ _
      have f4 : zm_rF h (zv_sI h2 347 33 a) := zm_rF_f f2 (Or.inr (Or.inl rfl)) a
      generalize zv_sI h2 347 33 a = h4 at f4 eI4 t4
      have n4 : zv_I h4 347 35 = 0 := by rw [eI4, if_neg (by decide), eI2, if_pos rfl]
      obtain ⟨h', i1, i2, i3, i4, _⟩ := zm_reads250 (d + 1) he ha.1 (e - a).toNat h4 a (zm_F_M f4 hM) (by rw [eI4, if_neg (by decide), eI2, if_neg (by decide)]; exact r36) (by rw [eI4, if_neg (by decide)]; exact s32) (by rw [eI4, if_pos rfl]) (by omega) (Int.le_refl _) (by omega) (fun _ => by rw [t4, t2]; exact c2) (by rw [n4]; omega)
      exact ⟨h', i1, zm_rF_t f4 i2, i3, i4⟩
    · rw [if_neg c2, if_pos rfl]
      refine ⟨h1, rfl, f1, ?_, r32⟩
      unfold zm_RI
      rw [r36, r32, r33, r34, r35]
      exact ⟨he, ⟨ha.1, by omega, by omega⟩, fun q => by have := hv q; omega, hn, fun q => absurd q hv1⟩
theorem zm_reads60 (d : Nat) {e a : Int} (he : 0 ≤ e ∧ e ≤ 700) (ha : 0 ≤ a ∧ a ≤ e) {h : zv_H} (hM : zm_M h) (e36 : zv_I h 347 36 = e) (e32 : zv_I h 347 32 = a) (hn : 0 ≤ zv_I h 347 35 ∧ zv_I h 347 35 ≤ 999) : ∃ h', L9_reads_60 (d + 4) 347 h = some (none, h') ∧ zm_rF h h' ∧ zm_RI h' ∧ zv_I h' 347 32 = a := by
  rw [qL9_reads_60, zm_e (zm_gI hM 32), e32, zm_e (zm_pI hM 33 _), zm_w (by omega)]
  have f1 : zm_rF h (zv_sI h 347 33 (a + 1)) := zm_F_f (zm_F_r _ _ h) rfl _
  have eI : ∀ k, zv_I (zv_sI h 347 33 (a + 1)) 347 k = if k = 33 then a + 1 else zv_I h 347 k := fun k => zm_sgI _ _ _ _
  generalize zv_sI h 347 33 (a + 1) = h1 at f1 eI
  have hM1 := zm_F_M f1 hM
  have r32 : zv_I h1 347 32 = a := by rw [eI, if_neg (by decide)]; exact e32
  have r33 : zv_I h1 347 33 = a + 1 := by rw [eI, if_pos rfl]
  have r36 : zv_I h1 347 36 = e := by rw [eI, if_neg (by decide)]; exact e36
  have r35 : zv_I h1 347 35 = zv_I h 347 35 := by rw [eI, if_neg (by decide)]
  have go : ∀ v : Int, (v ≠ 0 → a < e) → v ≠ 1 → ∃ h', L9_reads_110 (d + 4) 347 347 v h1 = some (none, h') ∧ zm_rF h h' ∧ zm_RI h' ∧ zv_I h' 347 32 = a := by
    intro v hv hv1
    obtain ⟨h', i1, i2, i3⟩ := zm_reads110 (d + 1) he ha hM1 r36 r32 r33 (by rw [r35]; exact hn) v hv hv1
    exact ⟨h', i1, zm_rF_t f1 i2, i3⟩
  rw [zm_e (zm_gI hM1 32), r32, zm_e (zm_gI hM1 36), r36]
  by_cases c1 : a < e
  · obtain ⟨u, eu⟩ := zm_indexOf h1 d (r := 1000023) (by decide) (zv_i2c (zv_I h1 366 a.toNat))
    rw [if_pos c1, zm_e (zm_f26 hM1), zm_e (zm_gI hM1 32), r32, zm_e (zm_aB hM1 zm_l366 (Or.inr rfl) rfl ha.1 (by omega)), zm_e eu]
    dsimp only
    by_cases c2 : u < 0
    · rw [if_pos c2]
      exact go 4 (fun _ => c1) (by decide)
    · rw [if_neg c2]
      exact go 3 (fun _ => c1) (by decide)
  · rw [if_neg c1]
    exact go 0 (fun q => absurd rfl q) (by decide)
theorem zm_reads8 (d : Nat) {e : Int} (he : 0 ≤ e ∧ e ≤ 700) : ∀ (m : Nat) (a : Int) (h : zv_H), zm_M h → zv_I h 347 36 = e → zv_I h 347 32 = a → 0 ≤ a → a ≤ e → e - a ≤ m → (0 ≤ zv_I h 347 35 ∧ zv_I h 347 35 ≤ 999) → ∃ h', L9_reads_8 (d + 4) 347 h = some (none, h') ∧ zm_rF h h' ∧ zm_RI h' ∧ a ≤ zv_I h' 347 32
  | m, a, h, hM, e36, e32, ha0, ha1, hm, hn => by
    have end_ : ∃ h', L9_reads_60 (d + 4) 347 h = some (none, h') ∧ zm_rF h h' ∧ zm_RI h' ∧ a ≤ zv_I h' 347 32 := by
      obtain ⟨h', i1, i2, i3, i4⟩ := zm_reads60 d he ⟨ha0, ha1⟩ hM e36 e32 hn
      exact ⟨h', i1, i2, i3, by rw [i4]; exact Int.le_refl _⟩
    rw [qL9_reads_8, zm_e (zm_gI hM 32), zm_e (zm_gI hM 36), e32, e36]
    by_cases c1 : a < e
    · cases m with
      | zero => exact absurd hm (by omega)
      | succ m =>
        have nx : ∃ h', ((zv_gI h 347 9 32).bind fun v => (zv_pI h 347 9 32 (zv_w (v + 1))).bind fun g => L9_reads_8 (d + 4) 347 g) = some (none, h') ∧ zm_rF h h' ∧ zm_RI h' ∧ a ≤ zv_I h' 347 32 := by
          rw [zm_e (zm_gI hM 32), e32, zm_e (zm_pI hM 32 _), zm_w (by omega)]
          have f1 : zm_rF h (zv_sI h 347 32 (a + 1)) := zm_F_f (zm_F_r _ _ h) rfl _
          have eI : ∀ k, zv_I (zv_sI h 347 32 (a + 1)) 347 k = if k = 32 then a + 1 else zv_I h 347 k := fun k => zm_sgI _ _ _ _
          obtain ⟨h', i1, i2, i3, i4⟩ := zm_reads8 d he m (a + 1) (zv_sI h 347 32 (a + 1)) (zm_F_M f1 hM) (by rw [eI, if_neg (by decide)]; exact e36) (by rw [eI, if_pos rfl]) (by omega) (by omega) (by omega) (by rw [eI, if_neg (by decide)]; exact hn)
          exact ⟨h', i1, zm_rF_t f1 i2, i3, by omega⟩
        rw [if_pos c1, zm_e (zm_f26 hM), zm_e (zm_gI hM 32), e32, zm_e (zm_aB hM zm_l366 (Or.inr rfl) rfl ha0 (by omega))]
        by_cases c2 : zv_I h 366 a.toNat = 10
        · rw [if_pos c2]
          exact nx
        · rw [if_neg c2, zm_e (zm_f26 hM), zm_e (zm_gI hM 32), e32]
          rw [zm_e (zm_aB hM zm_l366 (Or.inr rfl) rfl ha0 (by omega))]
          by_cases c3 : zv_I h 366 a.toNat = 32
          · rw [if_pos c3]
            exact nx
          · rw [if_neg c3]
            exact end_
    · rw [if_neg c1]
      exact end_
theorem zm_reads (d : Nat) {h : zv_H} (hM : zm_M h) (he : 0 ≤ zv_I h 347 36 ∧ zv_I h 347 36 ≤ 700) (hx : 0 ≤ zv_I h 347 33 ∧ zv_I h 347 33 ≤ zv_I h 347 36) (hn : 0 ≤ zv_I h 347 35 ∧ zv_I h 347 35 ≤ 999) : ∃ h', C9_reads (d + 5) 347 h = some h' ∧ zm_rF h h' ∧ zm_RI h' ∧ zv_I h 347 33 ≤ zv_I h' 347 32 := by
  have main : ∃ h', E9_reads (d + 4) 347 h = some (none, h') ∧ zm_rF h h' ∧ zm_RI h' ∧ zv_I h 347 33 ≤ zv_I h' 347 32 := by
    rw [qE9_reads, zm_e (zm_gI hM 33), zm_e (zm_pI hM 32 _)]
    have f1 : zm_rF h (zv_sI h 347 32 (zv_I h 347 33)) := zm_F_f (zm_F_r _ _ h) rfl _
    have eI : ∀ k, zv_I (zv_sI h 347 32 (zv_I h 347 33)) 347 k = if k = 32 then zv_I h 347 33 else zv_I h 347 k := fun k => zm_sgI _ _ _ _
    obtain ⟨h', i1, i2, i3, i4⟩ := zm_reads8 d he (zv_I h 347 36 - zv_I h 347 33).toNat (zv_I h 347 33) (zv_sI h 347 32 (zv_I h 347 33)) (zm_F_M f1 hM) (by rw [eI, if_neg (by decide)]) (by rw [eI, if_pos rfl]) hx.1 hx.2 (by omega) (by rw [eI, if_neg (by decide)]; exact hn)
    exact ⟨h', i1, zm_rF_t f1 i2, i3, i4⟩
  obtain ⟨h', e, q⟩ := main
  exact ⟨h', lC9_reads (zm_ob hM) e, q⟩
end
/-! 74.toks -/
section
/-! ===== the reference: what reads TOKENS ===== -/
theorem zm_RI_F {A B : List Nat} {h h' : zv_H} (r : zm_RI h) (f : zm_F A B h h') (b1 : B.contains 32 = false := by rfl) (b2 : B.contains 33 = false := by rfl) (b3 : B.contains 34 = false := by rfl) (b4 : B.contains 35 = false := by rfl) (b5 : B.contains 36 = false := by rfl) (b6 : B.contains 38 = false := by rfl) : zm_RI h' := by
  have e38 : zv_J h' 347 38 = zv_J h 347 38 := f.2.2.2.2.2 347 38 (fun q => by rw [b6] at q; cases q.2.2)
  unfold zm_RI
  rw [zm_F_g f 32 b1, zm_F_g f 33 b2, zm_F_g f 34 b3, zm_F_g f 35 b4, zm_F_g f 36 b5, e38]
  exact r
theorem zm_must {h : zv_H} (hM : zm_M h) (d : Nat) (b v : Int) (hv : 1 ≤ v) (hw : 0 ≤ zv_I h 347 30) : ∃ h', C9_must (d + 1) 347 b v h = some h' ∧ zm_F [] [30, 31] h h' ∧ 0 ≤ zv_I h' 347 30 ∧ (zv_I h' 347 30 = 0 → b ≠ 0 ∧ h' = h) := by
  have fin : ∀ w : Int, 1 ≤ w → ∃ h', (((zv_pI h 347 9 30 w).bind fun g3 => (zv_gI g3 347 9 32).bind fun v4 => (zv_pI g3 347 9 31 v4).bind fun g5 => some (none, g5)) : zv_O) = some (none, h') ∧ zm_F [] [30, 31] h h' ∧ 0 ≤ zv_I h' 347 30 ∧ (zv_I h' 347 30 = 0 → b ≠ 0 ∧ h' = h) := by
    intro w hw1
    rw [zm_e (zm_pI hM 30 w)]
    have hM1 := zm_M_sI (r := 347) (k := 30) (v := w) hM
    rw [zm_e (zm_gI hM1 32), zm_e (zm_pI hM1 31 _)]
    have e : zv_I (zv_sI (zv_sI h 347 30 w) 347 31 (zv_I (zv_sI h 347 30 w) 347 32)) 347 30 = w := by
      rw [zm_sgI, if_neg (by decide), zm_sgI, if_pos rfl]
    exact ⟨_, rfl, zm_F_f (zm_F_f (zm_F_r _ _ h) rfl _) rfl _, by rw [e]; omega, fun q => by rw [e] at q; omega⟩
  have main : ∃ h', E9_must d 347 b v h = some (none, h') ∧ zm_F [] [30, 31] h h' ∧ 0 ≤ zv_I h' 347 30 ∧ (zv_I h' 347 30 = 0 → b ≠ 0 ∧ h' = h) := by
    rw [qE9_must]
    by_cases c1 : b = 0
    · rw [if_pos c1, zm_e (zm_gI hM 30)]
      by_cases c2 : zv_I h 347 30 ≤ 0
      · rw [if_pos c2]
        by_cases c3 : v = 2
        · rw [if_pos c3, zm_e (zm_gI hM 34)]
          by_cases c4 : zv_I h 347 34 = 4
          · rw [if_pos c4]
            exact fin 1 (by decide)
          · rw [if_neg c4]
            exact fin v hv
        · rw [if_neg c3]
          exact fin v hv
      · rw [if_neg c2]
        exact ⟨h, rfl, zm_F_r _ _ h, hw, fun q => absurd q (by omega)⟩
    · rw [if_neg c1]
      exact ⟨h, rfl, zm_F_r _ _ h, hw, fun _ => ⟨c1, rfl⟩⟩
  obtain ⟨h', e, q⟩ := main
  exact ⟨h', lC9_must (zm_ob hM) e, q⟩
theorem zm_lcmp0 {x y : Int64} (h : zv_lcmp x y = 0) : x = y := by
  unfold zv_lcmp at h
  by_cases c : x = y
  · exact c
  · rw [if_neg c] at h
    split at h
    · cases h
    · cases h
theorem zm_which_l {h : zv_H} (hM : zm_M h) (d : Nat) {r L : Nat} (hl : zv_lay r = (5, L)) (hr : Nat.ble r 372 = true) (hL : L ≤ 100) : ∀ n i : Nat, i + n = L → ∃ v : Int, L9_which_2 d 347 r i h = some (some (zv_i v), h) ∧ (v = -1 ∨ ((0 ≤ v ∧ v < L) ∧ zv_I h 347 34 = 1 ∧ zv_I h 347 30 = 0 ∧ zv_J h r v.toNat = zv_J h 347 38))
  | 0, i, hi => by
    rw [qL9_which_2, zm_e (zm_al hM hl rfl hr), if_neg (by omega)]
    exact ⟨-1, rfl, Or.inl rfl⟩
  | n + 1, i, hi => by
    obtain ⟨v, e, q⟩ := zm_which_l hM d hl hr hL n (i + 1) (by omega)
    have w1 : zv_w ((i : Int) + 1) = ((i + 1 : Nat) : Int) := by
      rw [zm_w (by omega)]
      rfl
    rw [qL9_which_2, zm_e (zm_al hM hl rfl hr), if_pos (by omega), zm_e (zm_gI hM 34), w1, e]
    by_cases c1 : zv_I h 347 34 = 1
    · rw [if_pos c1, zm_e (zm_gI hM 30)]
      by_cases c2 : zv_I h 347 30 = 0
      · rw [if_pos c2, zm_e (zm_aJ hM hl hr (by omega) (by omega)), zm_e (zm_gJ hM 38)]
        by_cases c3 : zv_lcmp (zv_J h r ((i : Int)).toNat) (zv_J h 347 38) = 0
        · rw [if_pos c3, zm_e (zm_gI hM 33), zm_e (zm_gI hM 32)]
          by_cases c4 : zv_w (zv_I h 347 33 - zv_I h 347 32) ≤ 8
          · rw [if_pos c4]
            exact ⟨i, rfl, Or.inr ⟨by omega, c1, c2, zm_lcmp0 c3⟩⟩
          · rw [if_neg c4]
            exact ⟨v, rfl, q⟩
        · rw [if_neg c3]
          exact ⟨v, rfl, q⟩
      · rw [if_neg c2]
        exact ⟨-1, rfl, Or.inl rfl⟩
    · rw [if_neg c1]
      exact ⟨-1, rfl, Or.inl rfl⟩
theorem zm_which {h : zv_H} (hM : zm_M h) (d : Nat) {r L : Nat} (hl : zv_lay r = (5, L)) (hr : Nat.ble r 372 = true) (hL : L ≤ 100) : ∃ v : Int, C9_which (d + 1) 347 r h = some (v, h) ∧ (v = -1 ∨ ((0 ≤ v ∧ v < L) ∧ zv_I h 347 34 = 1 ∧ zv_I h 347 30 = 0 ∧ zv_J h r v.toNat = zv_J h 347 38)) := by
  obtain ⟨v, e, q⟩ := zm_which_l hM d hl hr hL L 0 (by omega)
  refine ⟨v, lC9_which (zm_ob hM) ?_, q⟩
  rw [qE9_which]
  exact e
theorem zm_isSign {h : zv_H} (hM : zm_M h) (d : Nat) (r : zm_RI h) (c : Int) : ∃ v : Int, C9_isSign (d + 1) 347 c h = some (v, h) ∧ (v = 0 ∨ (v = 1 ∧ zv_I h 347 30 = 0 ∧ zv_I h 347 34 = 3)) := by
  have main : ∃ v : Int, E9_isSign d 347 c h = some (some (zv_i v), h) ∧ (v = 0 ∨ (v = 1 ∧ zv_I h 347 30 = 0 ∧ zv_I h 347 34 = 3)) := by
    rw [qE9_isSign, zm_e (zm_gI hM 30)]
    by_cases c1 : zv_I h 347 30 = 0
    · rw [if_pos c1, zm_e (zm_gI hM 34)]
      by_cases c2 : zv_I h 347 34 = 3
      · obtain ⟨r1, r2, r3, _⟩ := r
        have r4 := r3 (by rw [c2]; decide)
        rw [if_pos c2, zm_e (zm_f26 hM), zm_e (zm_gI hM 32), zm_e (zm_aB hM zm_l366 (Or.inr rfl) rfl r2.1 (by omega))]
        by_cases c3 : zv_I h 366 (zv_I h 347 32).toNat = c
        · rw [if_pos c3]
          exact ⟨1, rfl, Or.inr ⟨rfl, c1, c2⟩⟩
        · rw [if_neg c3]
          exact ⟨0, rfl, Or.inl rfl⟩
      · rw [if_neg c2]
        exact ⟨0, rfl, Or.inl rfl⟩
    · rw [if_neg c1]
      exact ⟨0, rfl, Or.inl rfl⟩
  obtain ⟨v, e, q⟩ := main
  exact ⟨v, lC9_isSign (zm_ob hM) e, q⟩
/-- the next TOKEN, where there was one -/
theorem zm_rd (d : Nat) {h : zv_H} (hM : zm_M h) (r : zm_RI h) (hs : zv_I h 347 34 ≠ 0) : ∃ h', C9_reads (d + 5) 347 h = some h' ∧ zm_rF h h' ∧ zm_RI h' ∧ zv_I h 347 33 ≤ zv_I h' 347 32 ∧ zv_I h' 347 30 = zv_I h 347 30 := by
  obtain ⟨h', e, f, r', q⟩ := zm_reads d hM r.1 ⟨by have := r.2.1; omega, r.2.2.1 hs⟩ r.2.2.2.1
  exact ⟨h', e, f, r', q, zm_F_g f 30⟩
/-- behind reading: fine, or a FAULT; where fine, it was fine and the place is further on by so many -/
def zm_Ok (n : Int) (h h' : zv_H) : Prop := zm_RI h' ∧ 0 ≤ zv_I h' 347 30 ∧ (zv_I h' 347 30 = 0 → zv_I h 347 30 = 0 ∧ zv_I h 347 32 + n ≤ zv_I h' 347 32)
theorem zm_takes {h : zv_H} (hM : zm_M h) (d : Nat) (r : zm_RI h) (hw : 0 ≤ zv_I h 347 30) (c : Int) : ∃ h', C9_takes (d + 6) 347 c h = some h' ∧ zm_F [] [30, 31, 32, 33, 34, 35, 38] h h' ∧ zm_Ok 1 h h' := by
  have main : ∃ h', E9_takes (d + 5) 347 c h = some (none, h') ∧ zm_F [] [30, 31, 32, 33, 34, 35, 38] h h' ∧ zm_Ok 1 h h' := by
    obtain ⟨b, eb, qb⟩ := zm_isSign hM (d + 4) r c
    obtain ⟨h1, e1, f1, w1, k1⟩ := zm_must hM (d + 4) b 2 (by decide) hw
    have hM1 := zm_F_M f1 hM
    rw [qE9_takes, zm_e eb]
    dsimp only
    rw [zm_e e1, zm_e (zm_gI hM1 30)]
    by_cases c1 : zv_I h1 347 30 = 0
    · obtain ⟨b0, eh⟩ := k1 c1
      subst eh
      rcases qb with q | ⟨q1, q2, q3⟩
      · exact absurd q b0
      · obtain ⟨h2, e2, f2, r2, p2, z2⟩ := zm_rd d hM r (by rw [q3]; decide)
        rw [if_pos c1, zm_e e2]
        refine ⟨h2, rfl, zm_F_s f2 rfl rfl, r2, by rw [z2]; exact w1, fun _ => ⟨q2, ?_⟩⟩
        have := r.2.1
        omega
    · rw [if_neg c1]
      exact ⟨h1, rfl, zm_F_s f1 rfl rfl, zm_RI_F r f1, w1, fun q => absurd q c1⟩
  obtain ⟨h', e, q⟩ := main
  exact ⟨h', lC9_takes (zm_ob hM) e, q⟩
theorem zm_takesNumber {h : zv_H} (hM : zm_M h) (d : Nat) (r : zm_RI h) (hw : 0 ≤ zv_I h 347 30) : ∃ (v : Int) (h' : zv_H), C9_takesNumber (d + 6) 347 h = some (v, h') ∧ zm_F [] [30, 31, 32, 33, 34, 35, 38] h h' ∧ zm_Ok 1 h h' ∧ 0 ≤ v ∧ v ≤ 999 := by
  have l14 : ∀ b : Int, (b ≠ 0 → zv_I h 347 34 = 2) → ∃ (v : Int) (h' : zv_H), L9_takesNumber_14 (d + 5) 347 347 b h = some (some (zv_i v), h') ∧ zm_F [] [30, 31, 32, 33, 34, 35, 38] h h' ∧ zm_Ok 1 h h' ∧ 0 ≤ v ∧ v ≤ 999 := by
    intro b hb
    obtain ⟨h1, e1, f1, w1, k1⟩ := zm_must hM (d + 4) b 2 (by decide) hw
    have hM1 := zm_F_M f1 hM
    have n1 : zv_I h1 347 35 = zv_I h 347 35 := zm_F_g f1 35
    have hn := r.2.2.2.1
    rw [qL9_takesNumber_14, zm_e e1, zm_e (zm_gI hM1 35), zm_e (zm_gI hM1 30), n1]
    by_cases c1 : zv_I h1 347 30 = 0
    · obtain ⟨b0, eh⟩ := k1 c1
      subst eh
      obtain ⟨h2, e2, f2, r2, p2, z2⟩ := zm_rd d hM r (by rw [hb b0]; decide)
      rw [if_pos c1, zm_e e2]
      refine ⟨_, h2, rfl, zm_F_s f2 rfl rfl, ⟨r2, by rw [z2]; exact w1, fun _ => ⟨c1, ?_⟩⟩, hn⟩
      have := r.2.1
      omega
    · rw [if_neg c1]
      exact ⟨_, h1, rfl, zm_F_s f1 rfl rfl, ⟨zm_RI_F r f1, w1, fun q => absurd q c1⟩, hn⟩
  have main : ∃ (v : Int) (h' : zv_H), E9_takesNumber (d + 5) 347 h = some (some (zv_i v), h') ∧ zm_F [] [30, 31, 32, 33, 34, 35, 38] h h' ∧ zm_Ok 1 h h' ∧ 0 ≤ v ∧ v ≤ 999 := by
    rw [qE9_takesNumber, zm_e (zm_gI hM 34)]
    by_cases c1 : zv_I h 347 34 = 2
    · rw [if_pos c1]
      exact l14 1 (fun _ => c1)
    · rw [if_neg c1]
      exact l14 0 (fun q => absurd rfl q)
  obtain ⟨v, h', e, q⟩ := main
  exact ⟨v, h', lC9_takesNumber (zm_ob hM) e, q⟩
theorem zm_takesWord64 (d : Nat) {m : Nat} (hm : m ≤ 640) : ∀ (n i : Nat) (h : zv_H), i + n = m → zm_M h → zm_RI h → zv_I h 347 34 = 1 → zv_I h 347 19 = m → zv_I h 347 32 + m ≤ zv_I h 347 33 → ∃ h', L9_takesWord_64 (d + 5) 347 i h = some (none, h') ∧ zm_F [360] [32, 33, 34, 35, 38] h h' ∧ zm_RI h' ∧ zv_I h 347 33 ≤ zv_I h' 347 32
  | 0, i, h, hi, hM, r, h34, h19, hx => by
    obtain ⟨h2, e2, f2, r2, p2, z2⟩ := zm_rd d hM r (by rw [h34]; decide)
    rw [qL9_takesWord_64, zm_e (zm_gI hM 19), h19, if_neg (by omega), zm_e e2]
    exact ⟨h2, rfl, zm_F_s f2 rfl rfl, r2, p2⟩
  | n + 1, i, h, hi, hM, r, h34, h19, hx => by
    have w1 : zv_w ((i : Int) + 1) = ((i + 1 : Nat) : Int) := by
      rw [zm_w (by omega)]
      rfl
    obtain ⟨r1, r2, r3, _⟩ := id r
    have r4 := r3 (by rw [h34]; decide)
    rw [qL9_takesWord_64, zm_e (zm_gI hM 19), h19, if_pos (by omega), zm_e (zm_f17 hM), zm_e (zm_f26 hM), zm_e (zm_gI hM 32), zm_w (x := zv_I h 347 32 + (i : Int)) (by omega), zm_e (zm_aB hM zm_l366 (Or.inr rfl) rfl (by omega) (by omega)), zm_e (zm_wI hM zm_l360 rfl (by omega) (by omega) _), w1]
    generalize zv_w (zv_I h 366 (zv_I h 347 32 + (i : Int)).toNat - 97) = v0
    have f0 : zm_F [360] [32, 33, 34, 35, 38] h (zv_sI h 360 ((i : Int)).toNat v0) := zm_F_I (zm_F_r _ _ h) rfl _ _
    obtain ⟨h', i1, i2, i3, i4⟩ := zm_takesWord64 d hm n (i + 1) (zv_sI h 360 ((i : Int)).toNat v0) (by omega) hM r h34 h19 hx
    exact ⟨h', i1, zm_F_t f0 i2, i3, i4⟩
theorem zm_takesWord {h : zv_H} (hM : zm_M h) (d : Nat) (r : zm_RI h) (hw : 0 ≤ zv_I h 347 30) {most : Int} (hm : most ≤ 40) : ∃ h', C9_takesWord (d + 6) 347 most h = some h' ∧ zm_F [360] [19, 30, 31, 32, 33, 34, 35, 38] h h' ∧ zm_Ok 1 h h' ∧ (zv_I h' 347 30 = 0 → 0 ≤ zv_I h' 347 19 ∧ zv_I h' 347 19 ≤ most) := by
  have l14 : ∀ b : Int, (b ≠ 0 → zv_I h 347 34 = 1) → ∃ h', L9_takesWord_14 (d + 5) 347 most 347 b h = some (none, h') ∧ zm_F [360] [19, 30, 31, 32, 33, 34, 35, 38] h h' ∧ zm_Ok 1 h h' ∧ (zv_I h' 347 30 = 0 → 0 ≤ zv_I h' 347 19 ∧ zv_I h' 347 19 ≤ most) := by
    intro b hb
    obtain ⟨h1, e1, f1, w1, k1⟩ := zm_must hM (d + 4) b 2 (by decide) hw
    have hM1 := zm_F_M f1 hM
    have r1 := zm_RI_F r f1
    have x32 : zv_I h1 347 32 = zv_I h 347 32 := zm_F_g f1 32
    have x33 : zv_I h1 347 33 = zv_I h 347 33 := zm_F_g f1 33
    have x34 : zv_I h1 347 34 = zv_I h 347 34 := zm_F_g f1 34
    have hr := r.2.1
    have l37 : ∀ b2 : Int, (b2 ≠ 0 → zv_I h 347 33 - zv_I h 347 32 ≤ most) → ∃ h', L9_takesWord_37 (d + 5) 347 347 b2 h1 = some (none, h') ∧ zm_F [360] [19, 30, 31, 32, 33, 34, 35, 38] h h' ∧ zm_Ok 1 h h' ∧ (zv_I h' 347 30 = 0 → 0 ≤ zv_I h' 347 19 ∧ zv_I h' 347 19 ≤ most) := by
      intro b2 hb2
      obtain ⟨h2, e2, f2, w2, k2⟩ := zm_must hM1 (d + 4) b2 4 (by decide) w1
      have hM2 := zm_F_M f2 hM1
      rw [qL9_takesWord_37, zm_e e2, zm_e (zm_gI hM2 30)]
      by_cases c1 : zv_I h2 347 30 ≤ 0
      · have c2 : zv_I h2 347 30 = 0 := by omega
        obtain ⟨b20, eh2⟩ := k2 c2
        subst eh2
        obtain ⟨b0, eh⟩ := k1 c2
        subst eh
        have hlen := hb2 b20
        have h34 := hb b0
        obtain ⟨m, em⟩ : ∃ m : Nat, zv_I h2 347 33 - zv_I h2 347 32 = m := ⟨(zv_I h2 347 33 - zv_I h2 347 32).toNat, by omega⟩
        rw [if_pos c1, zm_e (zm_gI hM 33), zm_e (zm_gI hM 32), zm_w (x := zv_I h2 347 33 - zv_I h2 347 32) (by omega), em, zm_e (zm_pI hM 19 _)]
        have f3 : zm_F [360] [19, 30, 31, 32, 33, 34, 35, 38] h2 (zv_sI h2 347 19 (m : Int)) := zm_F_f (zm_F_r _ _ h2) rfl _
        have eI : ∀ k, zv_I (zv_sI h2 347 19 (m : Int)) 347 k = if k = 19 then (m : Int) else zv_I h2 347 k := fun k => zm_sgI _ _ _ _
        have r3 : zm_RI (zv_sI h2 347 19 (m : Int)) := zm_RI_F (A := []) (B := [19]) r (zm_F_f (zm_F_r _ _ h2) rfl _)
        generalize zv_sI h2 347 19 (m : Int) = h3 at f3 eI r3
        obtain ⟨h4, i1, i2, i3, i4⟩ := zm_takesWord64 d (m := m) (by omega) m 0 h3 (by omega) (zm_F_M f3 hM) r3 (by rw [eI, if_neg (by decide)]; exact h34) (by rw [eI, if_pos rfl]) (by rw [eI, eI, if_neg (by decide), if_neg (by decide)]; omega)
        have z30 : zv_I h4 347 30 = 0 := by
          rw [zm_F_g i2 30, eI, if_neg (by decide)]
          exact c2
        have z19 : zv_I h4 347 19 = m := by rw [zm_F_g i2 19, eI, if_pos rfl]
        rw [eI, if_neg (by decide)] at i4
        refine ⟨h4, i1, zm_F_t f3 (zm_F_s i2 rfl rfl), ⟨i3, by omega, fun _ => ⟨c2, by omega⟩⟩, fun _ => by omega⟩
      · rw [if_neg c1]
        exact ⟨h2, rfl, zm_F_t (zm_F_s f1 rfl rfl) (zm_F_s f2 rfl rfl), ⟨zm_RI_F r1 f2, w2, fun q => absurd q (by omega)⟩, fun q => absurd q (by omega)⟩
    rw [qL9_takesWord_14, zm_e e1, zm_e (zm_gI hM1 33), zm_e (zm_gI hM1 32), x33, x32, zm_w (x := zv_I h 347 33 - zv_I h 347 32) (by omega)]
    by_cases c1 : zv_I h 347 33 - zv_I h 347 32 ≤ most
    · rw [if_pos c1]
      exact l37 1 (fun _ => c1)
    · rw [if_neg c1]
      exact l37 0 (fun q => absurd rfl q)
  have main : ∃ h', E9_takesWord (d + 5) 347 most h = some (none, h') ∧ zm_F [360] [19, 30, 31, 32, 33, 34, 35, 38] h h' ∧ zm_Ok 1 h h' ∧ (zv_I h' 347 30 = 0 → 0 ≤ zv_I h' 347 19 ∧ zv_I h' 347 19 ≤ most) := by
    rw [qE9_takesWord, zm_e (zm_gI hM 34)]
    by_cases c1 : zv_I h 347 34 = 1
    · rw [if_pos c1]
      exact l14 1 (fun _ => c1)
    · rw [if_neg c1]
      exact l14 0 (fun q => absurd rfl q)
  obtain ⟨h', e, q⟩ := main
  exact ⟨h', lC9_takesWord (zm_ob hM) e, q⟩
end
