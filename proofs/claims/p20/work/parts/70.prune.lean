/-! ===== the reference: pruning ===== -/
theorem zm_Ln_kid {c : Nat → Int} {s : Int} : ∀ {l : List Int} {t : Int}, zm_Ln c (t :: l) t → s ∈ l → ∃ u, u ∈ t :: l ∧ zm_o c u 1 = s
  | [], _, _, h => by cases h
  | v :: l, t, hl, h => by
    have h1 : zm_o c t 1 = v := hl.2.1.1
    rcases List.mem_cons.mp h with q | q
    · exact ⟨t, List.mem_cons_self, by rw [h1, q]⟩
    · have h2 := hl.2
      rw [h1] at h2
      obtain ⟨u, u1, u2⟩ := zm_Ln_kid h2 q
      exact ⟨u, List.mem_cons_of_mem _ u1, u2⟩
theorem zm_W_rm {c : Nat → Int} (w : zm_W c) {s : Int} (hs : zm_st c s) (h0 : s ≠ 0) (hh : s ≠ c 0) (hn : zm_nch c s ≤ 0) : zm_W (zm_os c s 0 0) := by
  have o : ∀ t v : Int, 0 ≤ t → 0 ≤ v → v < 76 → ¬ (t = s ∧ v = 0) → zm_o (zm_os c s 0 0) t v = zm_o c t v := fun t v t0 v0 v1 q => zm_os_o c 0 hs.1.1 (by decide) t0 ⟨v0, v1⟩ q
  have hd : ∀ k : Nat, k < 432 → zm_os c s 0 0 k = c k := fun k hk => zm_u_o _ _ (by omega)
  have hst : ∀ {t : Int}, zm_st (zm_os c s 0 0) t → zm_st c t ∧ t ≠ s := by
    intro t q
    by_cases e : t = s
    · have h1 := q.2
      rw [e, zm_os_s] at h1
      cases h1
    · exact ⟨⟨q.1, by rw [← o t 0 q.1.1 (by decide) (by decide) (fun z => e z.1)]; exact q.2⟩, e⟩
  have hst2 : ∀ {t : Int}, zm_st c t → t ≠ s → zm_st (zm_os c s 0 0) t := fun q e => ⟨q.1, by rw [o _ 0 q.1.1 (by decide) (by decide) (fun z => e z.1)]; exact q.2⟩
  have hag : ∀ t : Int, 0 ≤ t → zm_ag c (zm_os c s 0 0) t := fun t t0 v v0 v1 _ => o t v t0 (by omega) v1 (fun z => by omega)
  obtain ⟨⟨w1, ⟨w2, w3, w4, w5⟩, w6⟩, w7, w8⟩ := id w
  refine ⟨⟨fun t t0 t1 => ?_, ⟨hst2 w2 h0.symm, ?_, ?_, ?_⟩, fun t ht => ?_⟩, ?_, zm_Wh_hd w8 ⟨hd 3 (by decide), hd 4 (by decide), fun k _ h2 => hd k h2, fun q => by rw [hd 5 (by decide)]; exact q⟩⟩
  · by_cases e : t = s
    · rw [e, zm_os_s]
      exact Or.inl rfl
    · rw [o t 0 t0 (by decide) (by decide) (fun z => e z.1)]
      exact w1 t t0 t1
  · rw [hag 0 (by decide) 1 (by decide) (by decide) (by decide)]
    exact w3
  · rw [hag 0 (by decide) 2 (by decide) (by decide) (by decide)]
    exact w4
  · rw [hag 0 (by decide) 5 (by decide) (by decide) (by decide)]
    exact w5
  · obtain ⟨t1, t2⟩ := hst ht
    obtain ⟨l, l1, l2, l3, l4⟩ := zm_W_l w.1 t1
    refine ⟨l, zm_W1_cg l1 l3 (fun u hu => hag u (l1.2.1.2.2 u hu).1.1) (fun u hu => hst2 (l1.2.1.2.2 u hu) (fun e => ?_))⟩
    rw [e] at hu
    rcases List.mem_cons.mp hu with q | q
    · exact t2 q.symm
    · obtain ⟨v, v1, v2⟩ := zm_Ln_kid l1.1 q
      exact zm_nch_0 hn (l1.2.1.2.2 v v1) v2
  · rw [hd 0 (by decide)]
    exact hst2 w7 (fun e => hh e.symm)
theorem zm_sum_upd {f g : Nat → Int} {j : Nat} (hj : g j = f j - 1) (h : ∀ k, k ≠ j → g k = f k) : ∀ n : Nat, zm_sum g n = if j < n then zm_sum f n - 1 else zm_sum f n
  | 0 => rfl
  | n + 1 => by
    have ih := zm_sum_upd hj h n
    show zm_sum g n + g n = if j < n + 1 then zm_sum f n + f n - 1 else zm_sum f n + f n
    by_cases e : n = j
    · subst e
      rw [if_neg (Nat.lt_irrefl _)] at ih
      rw [if_pos (by omega), ih, hj]
      omega
    · rw [h n e]
      by_cases q : j < n
      · rw [if_pos q] at ih
        rw [if_pos (by omega), ih]
        omega
      · rw [if_neg q] at ih
        rw [if_neg (by omega), ih]
theorem zm_nst_rm {c : Nat → Int} {s : Int} (hs : zm_st c s) : zm_nst (zm_os c s 0 0) = zm_nst c - 1 := by
  have h1 := hs.1
  have e := zm_sum_upd (f := fun k => zm_o c k 0) (g := fun k => zm_o (zm_os c s 0 0) k 0) (j := s.toNat) (by
    show zm_o (zm_os c s 0 0) ((s.toNat : Nat) : Int) 0 = zm_o c ((s.toNat : Nat) : Int) 0 - 1
    rw [show ((s.toNat : Nat) : Int) = s by clear hs; omega, zm_os_s, hs.2]
    rfl) (fun k hk => zm_os_o _ _ h1.1 (by decide) (by omega) (by decide) (fun q => hk (by clear hs; omega))) 48
  have h2 : s.toNat < 48 := by
    clear hs e
    omega
  rw [if_pos h2] at e
  exact e
/-- one that may go -/
def zm_Go (c : Nat → Int) (v : Int) : Prop := v = -1 ∨ (zm_st c v ∧ v ≠ 0 ∧ v ≠ c 0 ∧ zm_nch c v ≤ 0)
theorem zm_firstOut_l {h : zv_H} {c : Nat → Int} (hM : zm_M h) (hc : zv_I h 348 = c) (h3 : 0 ≤ c 3 ∧ c 3 ≤ 12) (d : Nat) : ∀ (n i : Nat) (b : Int), 1 ≤ i → i + n = 48 → zm_Go c b → ∃ v : Int, L9_firstOut_4 (d + 3) 347 b i h = some (some (zv_i v), h) ∧ zm_Go c v
  | 0, i, b, h1, hi, hb => ⟨b, by rw [qL9_firstOut_4, if_neg (by omega)], hb⟩
  | n + 1, i, b, h1, hi, hb => by
    have w1 : zv_w ((i : Int) + 1) = ((i + 1 : Nat) : Int) := by
      rw [zm_w (by omega)]
      rfl
    have j1 : (i : Int) < 48 := by omega
    have j2 : 0 ≤ (i : Int) ∧ (i : Int) ≤ 48 := by omega
    have j3 : (i : Int) ≠ 0 := by omega
    have hi' : (i + 1) + n = 48 := by omega
    have sk := zm_firstOut_l hM hc h3 d n (i + 1) b (by omega) hi' hb
    rw [qL9_firstOut_4, if_pos j1, zm_e (zm_isState hM _ i), w1, hc]
    dsimp only
    by_cases c1 : zm_st c i
    · rw [if_pos c1, if_neg (by decide), zm_e (zm_here hM _), hc]
      dsimp only
      by_cases c2 : (i : Int) = c 0
      · rw [if_pos c2]
        exact sk
      · rw [if_neg c2, zm_e (zm_childrenOf hM d i), hc]
        dsimp only
        by_cases c3 : zm_nch c i ≤ 0
        · have ok : zm_Go c i := Or.inr ⟨c1, j3, c2, c3⟩
          have nx := zm_firstOut_l hM hc h3 d n (i + 1) i (by omega) hi' ok
          obtain ⟨u, eu, _⟩ := zm_namesOf hM (d + 2) i (by rw [hc]; exact h3)
          rw [if_pos c3, zm_e eu]
          dsimp only
          by_cases c4 : u ≤ 0
          · rw [if_pos c4]
            by_cases c5 : b < 0
            · rw [if_pos c5]
              exact nx
            · rw [if_neg c5, zm_e (zm_of hM _ j2 (by decide))]
              dsimp only
              rcases hb with q | q
              · rw [q] at c5
                exact absurd (by decide) c5
              · rw [zm_e (zm_of hM _ (zm_st48 q.1) (by decide))]
                dsimp only
                by_cases c6 : zm_o (zv_I h 348) i 7 < zm_o (zv_I h 348) b 7
                · rw [if_pos c6]
                  exact nx
                · rw [if_neg c6]
                  exact sk
          · rw [if_neg c4]
            exact sk
        · rw [if_neg c3]
          exact sk
    · rw [if_neg c1, if_pos rfl]
      exact sk
theorem zm_firstOut {h : zv_H} {c : Nat → Int} (hM : zm_M h) (hc : zv_I h 348 = c) (h3 : 0 ≤ c 3 ∧ c 3 ≤ 12) (d : Nat) : ∃ v : Int, C9_firstOut (d + 4) 347 h = some (v, h) ∧ zm_Go c v := by
  obtain ⟨v, e, q⟩ := zm_firstOut_l hM hc h3 d 47 1 (-1) (by decide) rfl (Or.inl rfl)
  refine ⟨v, lC9_firstOut (zm_ob hM) ?_, q⟩
  rw [qE9_firstOut]
  exact e
theorem zm_prune45 (d : Nat) (many a s : Int) {m : Nat} (hm : m ≤ 40) (g : Nat → Int) : ∀ (n i : Nat) (h : zv_H), i + n = m → zm_M h → zv_I h 348 5 = m → (∀ k : Nat, k < 4156 → zv_I h 348 k = g k) → ∃ h', L9_pruneNow_45 d 347 many a s i h = L9_pruneNow_45 d 347 many a s m h' ∧ zm_F [348] [] h h' ∧ (∀ k : Nat, k < 4156 → zv_I h' 348 k = g k)
  | 0, i, h, hi, _, _, hk => by
    have e : i = m := by omega
    subst e
    exact ⟨h, rfl, zm_F_r _ _ h, hk⟩
  | n + 1, i, h, hi, hM, h5, hk => by
    have w1 : zv_w ((i : Int) + 1) = ((i + 1 : Nat) : Int) := by
      rw [zm_w (by omega)]
      rfl
    have w2 : zv_w (4156 + zv_w (2 * (i : Int))) = 4156 + 2 * (i : Int) := by
      rw [zm_w (x := 2 * (i : Int)) (by omega), zm_w (by omega)]
    rw [qL9_pruneNow_45, zm_e (zm_f0 hM), zm_e (zm_aI hM zm_l348 rfl (by decide) (by decide)), show zv_I h 348 (Int.toNat 5) = _ from h5, if_pos (by omega), zm_e (zm_f0 hM), w2, zm_e (zm_aI hM zm_l348 rfl (by omega) (by omega)), w1]
    by_cases c1 : zv_I h 348 (4156 + 2 * (i : Int)).toNat = s
    · rw [if_pos c1, zm_e (zm_f0 hM), zm_e (zm_wI hM zm_l348 rfl (by omega) (by omega) _)]
      have e1 : zv_I (zv_sI h 348 (4156 + 2 * (i : Int)).toNat (-1)) 348 = zm_u (zv_I h 348) (4156 + 2 * (i : Int)).toNat (-1) := zm_ss _ _ _ _
      obtain ⟨h', i1, i2, i3⟩ := zm_prune45 d many a s hm g n (i + 1) (zv_sI h 348 (4156 + 2 * (i : Int)).toNat (-1)) (by omega) hM (by rw [e1, zm_u_o _ _ (by omega)]; exact h5) (fun k hk2 => by rw [e1, zm_u_o _ _ (by omega)]; exact hk k hk2)
      exact ⟨h', i1, zm_F_t (zm_F_I (zm_F_r _ _ h) rfl _ _) i2, i3⟩
    · rw [if_neg c1]
      exact zm_prune45 d many a s hm g n (i + 1) h (by omega) hM h5 hk
theorem zm_prune23 (d : Nat) {many : Int} (hm : 1 ≤ many) : ∀ (n : Nat) (a s : Int) (h : zv_H), zm_M h → zm_W (zv_I h 348) → zm_nst (zv_I h 348) ≤ n → zm_Go (zv_I h 348) s → zm_R (L9_pruneNow_23 (d + 4) 347 many a s h) (zm_I fun _ h' => zm_F [348] [] h h' ∧ zm_W (zv_I h' 348))
  | 0, a, s, h, hM, w, hn, hs => by
    rw [qL9_pruneNow_23]
    refine zm_if (fun _ => zm_iI ⟨zm_F_r _ _ h, w⟩) (fun _ => ?_)
    rw [zm_e (zm_states hM _ w.1.1)]
    dsimp only
    rw [if_pos (by omega)]
    exact zm_iI ⟨zm_F_r _ _ h, w⟩
  | n + 1, a, s, h, hM, w, hn, hs => by
    rw [qL9_pruneNow_23]
    refine zm_if (fun _ => zm_iI ⟨zm_F_r _ _ h, w⟩) (fun hs0 => ?_)
    rw [zm_e (zm_states hM _ w.1.1)]
    dsimp only
    refine zm_if (fun _ => zm_iI ⟨zm_F_r _ _ h, w⟩) (fun _ => ?_)
    rcases hs with q | ⟨q1, q2, q3, q4⟩
    · rw [q] at hs0
      exact absurd (by decide) hs0
    · have w1 := zm_W_rm w q1 q2 q3 q4
      have n1 := zm_nst_rm q1
      rw [zm_e (zm_sets hM _ (zm_st48 q1) (by decide) _)]
      have f1 : zm_F [348] [] h (zv_sI h 348 (432 + 76 * s.toNat + Int.toNat 0) 0) := zm_F_I (zm_F_r _ _ h) rfl _ _
      have e1 : zv_I (zv_sI h 348 (432 + 76 * s.toNat + Int.toNat 0) 0) 348 = zm_os (zv_I h 348) s 0 0 := zm_ss _ _ _ _
      generalize zv_sI h 348 (432 + 76 * s.toNat + Int.toNat 0) 0 = h1 at f1 e1
      have hM1 := zm_F_M f1 hM
      rw [← e1] at w1 n1
      have h5 := w1.2.2.2.2.2
      obtain ⟨m, em⟩ : ∃ m : Nat, zv_I h1 348 5 = m := ⟨(zv_I h1 348 5).toNat, by omega⟩
      obtain ⟨h2, i1, f2, k2⟩ := zm_prune45 (d + 4) many a s (m := m) (by omega) (zv_I h1 348) m 0 h1 (by omega) hM1 em (fun _ _ => rfl)
      have hM2 := zm_F_M f2 hM1
      have e25 : zv_I h2 348 5 = m := (k2 5 (by decide)).trans em
      have w2 : zm_W (zv_I h2 348) := zm_W_alt w1 (fun k _ h1 => k2 k (by omega)) (by rw [k2 0 (by decide)]; exact w1.2.1) (by rw [k2 3 (by decide)]; exact w1.2.2.1) (k2 4 (by decide)) (fun k _ h1 => k2 k (by omega)) (by rw [k2 5 (by decide)]; exact w1.2.2.2.2.2)
      have n2 : zm_nst (zv_I h2 348) = zm_nst (zv_I h1 348) := zm_sum_cg 48 (fun k hk => k2 _ (by omega))
      obtain ⟨v, ev, qv⟩ := zm_firstOut hM2 rfl w2.2.2.1 d
      rw [show L9_pruneNow_45 (d + 4) 347 many a s 0 h1 = _ from i1, qL9_pruneNow_45, zm_e (zm_f0 hM2), zm_e (zm_aI hM2 zm_l348 rfl (by decide) (by decide)), show zv_I h2 348 (Int.toNat 5) = _ from e25, if_neg (Int.lt_irrefl _), zm_e ev]
      dsimp only
      refine zm_mono (zm_prune23 d hm n (zv_w (a + 1)) v h2 hM2 w2 (by omega) qv) ?_
      rintro ⟨ov, h'⟩ ⟨v', ev, f3, q3⟩
      exact ⟨v', ev, zm_F_t f1 (zm_F_t f2 f3), q3⟩
theorem zm_pruneNow {h : zv_H} {c : Nat → Int} (hM : zm_M h) (hc : zv_I h 348 = c) (w : zm_W c) (d : Nat) (many : Int) : zm_R (C9_pruneNow (d + 5) 347 many h) (fun q => zm_F [348] [3] h q.2 ∧ zm_W (zv_I q.2 348)) := by
  refine zm_cI (P := fun _ h' => zm_F [348] [3] h h' ∧ zm_W (zv_I h' 348)) (lC9_pruneNow (zm_ob hM)) ?_
  rw [qE9_pruneNow]
  refine zm_gb (zm_isIn _ many 1 48) (fun _ => ?_) (fun hm => ?_)
  · dsimp only
    rw [zm_e (zm_refuse hM _ 1)]
    have e : zv_I (zv_sI h 347 3 1) 348 = c := (zm_so h _ _).trans hc
    exact zm_iI ⟨zm_F_f (zm_F_r _ _ h) rfl _, by rw [e]; exact w⟩
  · obtain ⟨v, ev, qv⟩ := zm_firstOut hM hc w.2.2.1 d
    dsimp only
    rw [zm_e ev]
    subst hc
    refine zm_mono (zm_prune23 d hm.1 (zm_nst (zv_I h 348)).toNat 0 v h hM w (by omega) qv) ?_
    rintro ⟨ov, h'⟩ ⟨v', ev, f3, q3⟩
    exact ⟨v', ev, zm_F_s f3 rfl rfl, q3⟩
