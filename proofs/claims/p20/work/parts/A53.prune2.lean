/-! ===== the tie: pruning ===== -/
theorem zt_pr45 (D : Nat) (many a2 s : Int) {m : Nat} (hm : m ≤ 40) : ∀ (n i : Nat) (h : zv_H), i + n = m → zm_M h → zv_I h 348 5 = m → ∃ h', L9_pruneNow_45 D 347 many a2 s i h = L9_pruneNow_45 D 347 many a2 s m h' ∧ zm_F [348] [] h h' ∧ (∀ k : Nat, (∀ j : Nat, i ≤ j → j < m → k ≠ 4156 + 2 * j) → zv_I h' 348 k = zv_I h 348 k) ∧ ∀ j : Nat, i ≤ j → j < m → zv_I h' 348 (4156 + 2 * j) = if zv_I h 348 (4156 + 2 * j) = s then -1 else zv_I h 348 (4156 + 2 * j) := by
  intro n
  induction n with
  | zero =>
    intro i h hi hM h5
    have e : i = m := hi
    subst e
    exact ⟨h, rfl, zm_F_r _ _ h, fun _ _ => rfl, fun j h1 h2 => absurd h2 (Nat.not_lt.mpr h1)⟩
  | succ n ih =>
    intro i h hi hM h5
    have w1 : zv_w ((i : Int) + 1) = ((i + 1 : Nat) : Int) := by
      rw [zm_w (by omega)]
      rfl
    have w2 : zv_w (4156 + zv_w (2 * (i : Int))) = 4156 + 2 * (i : Int) := by
      rw [zm_w (x := 2 * (i : Int)) (by omega), zm_w (by omega)]
    have b1 : 0 ≤ 4156 + 2 * (i : Int) ∧ 4156 + 2 * (i : Int) < ((4236 : Nat) : Int) ∧ (4156 + 2 * (i : Int)).toNat = 4156 + 2 * i := by omega
    have im : (i : Int) < (m : Int) := by omega
    have hi' : (i + 1) + n = m := by omega
    have iM : i < m := by omega
    have e1 : zv_aI h 348 (4156 + 2 * (i : Int)) = some (zv_I h 348 (4156 + 2 * i)) := by rw [zm_aI hM zm_l348 rfl b1.1 b1.2.1, b1.2.2]
    rw [qL9_pruneNow_45, zm_e (zm_f0 hM), zm_e (zm_aI hM zm_l348 rfl (by decide) (by decide)), show zv_I h 348 (Int.toNat 5) = _ from h5, if_pos im, zm_e (zm_f0 hM), w2, zm_e e1, w1]
    by_cases c1 : zv_I h 348 (4156 + 2 * i) = s
    · have ne : ∀ k : Nat, k ≠ 4156 + 2 * i → zv_I (zv_sI h 348 (4156 + 2 * i) (-1)) 348 k = zv_I h 348 k := fun k hk => zy_In _ _ (fun q => hk q.2)
      obtain ⟨h', i1, i2, i3, i4⟩ := ih (i + 1) (zv_sI h 348 (4156 + 2 * i) (-1)) hi' hM (by rw [ne 5 (by omega)]; exact h5)
      refine ⟨h', ?_, zm_F_t (zm_F_I (zm_F_r _ _ h) rfl _ _) i2, fun k hk => ?_, fun j h1 h2 => ?_⟩
      · rw [if_pos c1, zm_e (zm_f0 hM), zm_e (zm_wI hM zm_l348 rfl b1.1 b1.2.1 _), b1.2.2]
        exact i1
      · rw [i3 k (fun j h1 h2 => hk j (Nat.le_of_succ_le h1) h2), ne k (hk i (Nat.le_refl _) iM)]
      · by_cases z : j = i
        · subst z
          rw [i3 _ (fun j' h1' h2' => by omega), zy_I, if_pos c1]
        · rw [i4 j (Nat.lt_of_le_of_ne h1 (fun q => z q.symm)) h2, ne _ (by omega)]
    · obtain ⟨h', i1, i2, i3, i4⟩ := ih (i + 1) h hi' hM h5
      refine ⟨h', ?_, i2, fun k hk => i3 k (fun j h1 h2 => hk j (Nat.le_of_succ_le h1) h2), fun j h1 h2 => ?_⟩
      · rw [if_neg c1]
        exact i1
      · by_cases z : j = i
        · subst z
          rw [i3 _ (fun j' h1' h2' => by omega), if_neg c1]
        · exact i4 j (Nat.lt_of_le_of_ne h1 (fun q => z q.symm)) h2
theorem zt_pr4 {t w : Int} (ht : 0 ≤ t ∧ t ≤ 47) (hw : 0 ≤ w ∧ w < 76) : 432 + 76 * t.toNat + w.toNat < 4156 := by omega
theorem zt_pr5 (x : Int) : (x % 40).toNat < 40 := by omega
theorem zt_pr6 {m : Nat} {x many : Int} (hm : 1 ≤ many) (le : ¬ x ≤ many) (h : (m : Int) + x ≤ 48) : (m : Int) < 48 := by omega
theorem zt_pr7 {m : Nat} (h : (m : Int) < 48) : zv_w ((m : Int) + 1) = ((m + 1 : Nat) : Int) := by
  rw [zm_w (by omega)]
  rfl
theorem zt_pr8 {x y : Int} {n : Nat} (e : x = y - 1) (h : y ≤ ((n + 1 : Nat) : Int)) : x ≤ (n : Int) := by omega
theorem zt_pr9 {x y : Int} {m : Nat} (e : x = y - 1) (h : (m : Int) + y ≤ 48) : ((m + 1 : Nat) : Int) + x ≤ 48 := by omega
theorem zt_pa {c : Nat → Int} (W : zm_W c) {s : Int} (hs : zm_st c s) (s0 : s ≠ 0) : zm_st c (zm_o c s 1) ∧ zm_o c s 1 ≠ s := by
  obtain ⟨l, hl, ok, _⟩ := zt_line W hs
  cases l with
  | nil => exact absurd (Option.some.inj ok.2.1) s0
  | cons p l =>
    have e : zm_o c s 1 = p := hl.2.1.1
    rw [e]
    exact ⟨ok.2.2.1 p (List.mem_cons_of_mem _ List.mem_cons_self), fun q => (List.nodup_cons.mp ok.1).1 (by rw [← q]; exact List.mem_cons_self)⟩
theorem zt_H_pr {a : Nat} {c c' : Nat → Int} {g g' : zv_H} {s : Int} (H : zt_H a c g) (hA' : zc_A g') (R : zt_rm a (zt_r a s) (zt_r a (zm_o c s 1)) s g g') (hs : zm_st c s) (s0 : s ≠ 0) (sh : s ≠ c 0) (W' : zm_W c') (l1 : ∀ k : Nat, (∀ j : Nat, (j : Int) < c 5 → k ≠ 4156 + 2 * j) → c' k = zm_os c s 0 0 k) (l2 : ∀ j : Nat, (j : Int) < c 5 → c' (4156 + 2 * j) = if c (4156 + 2 * j) = s then -1 else c (4156 + 2 * j)) : zt_H a c' g' := by
  have U := zt_H_U H
  have W := zt_U_W U
  have la := zt_U_la U
  have V := zt_H_V H
  have s47 := hs.1
  have sN : s.toNat < 48 := by clear hs sh; omega
  have ec : ∀ k : Nat, k < 4156 → c' k = zm_os c s 0 0 k := fun k hk => l1 k (fun j _ => by clear hs sh; omega)
  have hd : ∀ k : Nat, k < 432 → c' k = c k := fun k hk => (ec k (by clear hs sh; omega)).trans (zm_u_o _ _ (by clear hs sh; omega))
  have o : ∀ t w : Int, (0 ≤ t ∧ t ≤ 47) → 0 ≤ w → w < 76 → ¬ (t = s ∧ w = 0) → zm_o c' t w = zm_o c t w := fun t w ht w0 w1 q => (ec _ (zt_pr4 ht ⟨w0, w1⟩)).trans (zm_os_o c 0 s47.1 (by decide) ht.1 ⟨w0, w1⟩ q)
  have os : zm_o c' s 0 = 0 := (ec _ (zt_pr4 s47 ⟨by decide, by decide⟩)).trans (zm_os_s _ _ _ _)
  have st : ∀ t, zm_st c' t → zm_st c t ∧ t ≠ s := fun t q => by
    by_cases e : t = s
    · have h1 := q.2
      rw [e, os] at h1
      cases h1
    · exact ⟨⟨q.1, by rw [← o t 0 q.1 (by decide) (by decide) (fun z => e z.1)]; exact q.2⟩, e⟩
  have oS := zt_rm_l3 R
  have I := zt_rm_I R
  have lS := zt_r_l la s47
  have lP := zt_rm_p R
  have hI : ∀ n k, n ≤ 27 → n ≠ 1 → n ≠ 2 → n ≠ 3 → n ≠ 18 → ¬ (n = 0 ∧ k = 12) → zv_I g' (a + n) k = zv_I g (a + n) k := fun n k n0 n1 n2 n3 n18 n12 => by
    refine I _ k (fun q => zt_hs (a := a) (x := 0) s47 n0 (by decide) n1 n2 n3 q.1) (fun q => ?_) (fun q => n18 (Nat.add_left_cancel q)) (fun q => n12 ⟨Nat.add_left_cancel (q.1.trans (Nat.add_zero a).symm), q.2⟩)
    have ps := zt_pa W hs s0
    exact zt_hs (a := a) (x := 0) ps.1.1 n0 (by decide) n1 n2 n3 q.1
  refine ⟨?_, ?_, ?_, ?_⟩
  · refine zt_U_rm (g0 := g) U R (fun _ _ => rfl) (fun _ _ _ => rfl) (fun _ _ => rfl) hA' hs W' st (fun i hi => ?_) (fun t ht => ?_) ?_ ?_ ?_
    · by_cases e : (i : Int) = s
      · rw [if_pos e, e]; exact os
      · rw [if_neg e]
        exact o _ 0 ⟨Int.natCast_nonneg _, Int.ofNat_le.mpr (Nat.le_of_lt_succ hi)⟩ (by decide) (by decide) (fun z => e z.1)
    · obtain ⟨t1, t2⟩ := st t ht
      exact ⟨fun w w0 w1 _ => (o t w t1.1 (Int.le_trans (by decide) w0) w1 (fun z => t2 z.1)).symm, o t 7 t1.1 (by decide) (by decide) (fun z => t2 z.1)⟩
    · rw [hd 0 (by decide)]; exact zt_U_he U
    · exact (hd 1 (by decide)).symm
    · rw [← zm_nst_rm hs]
      exact zm_sum_cg 48 (fun k hk => ec _ (zt_pr4 ⟨Int.natCast_nonneg _, Int.ofNat_le.mpr (Nat.le_of_lt_succ hk)⟩ ⟨by decide, by decide⟩))
  · exact zt_J_c (zt_J_cg (zt_H_J H) (fun r k r1 r2 => by
      obtain ⟨n, rfl⟩ : ∃ n, r = a + n := ⟨r - a, by clear hs sh; omega⟩
      clear hs sh
      exact hI n k (by omega) (by omega) (by omega) (by omega) (by omega) (by omega))) W.2.2.2.1.2 (hd 4 (by decide)) (fun k _ h2 => hd k (Nat.lt_trans h2 (by decide)))
  · have e2 := hd 2 (by decide)
    have e5 := hd 5 (by decide)
    have v5 := zt_V_c5 V
    refine ⟨?_, ?_, ?_, fun i hi => ?_, fun i hi => ?_, fun t ht => ?_, fun t u ht hu e => ?_⟩
    · rw [e2, hI 17 4 (by decide) (by decide) (by decide) (by decide) (by decide) (fun q => absurd q.1 (by decide))]
      exact zt_V_ct V
    · rw [e2]; exact zt_V_c0 V
    · rw [e5, e2]; exact v5
    · rw [e5] at hi
      rw [l2 i hi, zt_V_ls V i hi, e2, zt_rm_lg R _ (zt_pr5 _)]
    · rw [e5] at hi
      rw [l1 _ (fun j _ => by clear hs sh; omega), e2, hI 19 _ (by decide) (by decide) (by decide) (by decide) (by decide) (fun q => absurd q.1 (by decide)), ← zt_V_lt V i hi]
      exact zm_u_o _ _ (by clear hs sh; omega)
    · obtain ⟨t1, t2⟩ := st t ht
      rw [o t 7 t1.1 (by decide) (by decide) (fun z => t2 z.1), e2]
      exact zt_V_vb V t t1
    · obtain ⟨t1, t2⟩ := st t ht
      obtain ⟨u1, u2⟩ := st u hu
      rw [o t 7 t1.1 (by decide) (by decide) (fun z => t2 z.1), o u 7 u1.1 (by decide) (by decide) (fun z => u2 z.1)] at e
      exact zt_V_vd V t u t1 u1 e
  · exact zt_N_c (zt_H_N H) W.2.2.1.2 (hd 3 (by decide)) (fun k _ h2 => hd k h2) (fun r k r1 r2 => by
      obtain ⟨n, rfl⟩ : ∃ n, r = a + n := ⟨r - a, by clear hs sh; omega⟩
      clear hs sh
      exact hI n k (by omega) (by omega) (by omega) (by omega) (by omega) (by omega))
theorem zt_rm_k {a S P : Nat} {s : Int} {g g' : zv_H} (la : zv_lay a = (1, 0)) (R : zt_rm a S P s g g') (hS : zt_in a S) (hP : zt_in a P) : zt_k a g g' := by
  refine zt_k_of (zt_rm_n R) (zt_rm_c R) (fun r k hr => zt_rm_I R r k (fun q => hr (by rw [q.1]; exact hS)) (fun q => hr (by rw [q.1]; exact hP)) (fun q => hr (by rw [q]; exact zt_inA la (by decide))) (fun q => hr (by rw [q.1]; exact zt_inA la (n := 0) (by decide)))) (fun r k _ => by unfold zv_J; rw [zt_rm_J R]) (fun r k hr => zt_rm_R R r k (fun q => hr (by rw [q.1]; exact hS)))
theorem zj_prloop {d D : Nat} {a : Nat} {many : Int} (hm : 1 ≤ many) : ∀ (n m : Nat) (c : Nat → Int) (g k : zv_H) (v : Int), zc_A g → zt_H a c g → zm_M k → zv_I k 348 = c → zm_nst c ≤ (n : Int) → (m : Int) + zm_nst c ≤ 48 → zm_Go c v → C0_nextToGo (d + 2) a g = some (zt_ro a v, g) → ∃ (w : Int) (g' k' : zv_H), L0_pruneTo_14 (d + 2) a many m g = some (some (zv_i w), g') ∧ L9_pruneNow_23 (D + 4) 347 many m v k = some (some (zv_i w), k') ∧ 0 ≤ w ∧ zt_k a g g' ∧ zt_H a (zv_I k' 348) g' ∧ zv_I k' 348 1 = c 1 ∧ zv_I k' 348 2 = c 2 := by
  intro n
  induction n with
  | zero =>
    intro m c g k v hA H hM hc hn hmn gv en
    have U := zt_H_U H
    have W := zt_U_W U
    have la := zt_U_la U
    have gL := zt_L_A hA
    have le : zm_nst c ≤ many := Int.le_trans hn (Int.le_trans (by decide) hm)
    refine ⟨m, g, k, ?_, ?_, Int.natCast_nonneg _, zt_k_r a g, by rw [hc]; exact H, by rw [hc], by rw [hc]⟩
    · rw [qL0_pruneTo_14, zm_e (zl_gI gL la 12), zt_U_ct U, if_pos le]
    · rw [qL9_pruneNow_23]
      by_cases v0 : v < 0
      · rw [if_pos v0]
      · rw [if_neg v0, zm_e (zm_states hM _ (by rw [hc]; exact W.1.1)), hc]
        dsimp only
        rw [if_pos le]
  | succ n ih =>
    intro m c g k v hA H hM hc hn hmn gv en
    have U := zt_H_U H
    have W := zt_U_W U
    have la := zt_U_la U
    have gL := zt_L_A hA
    by_cases le : zm_nst c ≤ many
    · refine ⟨m, g, k, ?_, ?_, Int.natCast_nonneg _, zt_k_r a g, by rw [hc]; exact H, by rw [hc], by rw [hc]⟩
      · rw [qL0_pruneTo_14, zm_e (zl_gI gL la 12), zt_U_ct U, if_pos le]
      · rw [qL9_pruneNow_23]
        by_cases v0 : v < 0
        · rw [if_pos v0]
        · rw [if_neg v0, zm_e (zm_states hM _ (by rw [hc]; exact W.1.1)), hc]
          dsimp only
          rw [if_pos le]
    · have m48 : (m : Int) < 48 := zt_pr6 hm le hmn
      rcases gv with v1 | ⟨hs, s0, sh, nch⟩
      · have v0 : v < 0 := by rw [v1]; decide
        refine ⟨m, g, k, ?_, ?_, Int.natCast_nonneg _, zt_k_r a g, by rw [hc]; exact H, by rw [hc], by rw [hc]⟩
        · rw [qL0_pruneTo_14, zm_e (zl_gI gL la 12), zt_U_ct U, if_neg le, if_pos m48, zm_e en]
          dsimp only
          rw [if_pos (show zt_ro a v = 0 from if_pos v0)]
        · rw [qL9_pruneNow_23, if_pos v0]
      · have v0 : ¬ v < 0 := Int.not_lt.mpr hs.1.1
        have ero : zt_ro a v = zt_r a v := if_neg v0
        have ps := zt_pa W hs s0
        have lS := zt_r_l la hs.1
        have lP := zt_r_l la ps.1.1
        have S := zt_U_st U v hs
        have nch0 : zm_nch c v = 0 := Int.le_antisymm nch (zt_nch0 c v)
        have neP : zt_r a (zm_o c v 1) ≠ zt_r a v := fun q => ps.2 (zt_r_inj la ps.1.1 hs.1 q)
        obtain ⟨g1, e1, R⟩ := zt_remove (d := d) gL la lS lP (zt_S_pa S) (zt_num U hs) neP
        have inS : zt_in a (zt_r a v) := zt_inr la hs.1 (n := 0) (by decide)
        have inP : zt_in a (zt_r a (zm_o c v 1)) := zt_inr la ps.1.1 (n := 0) (by decide)
        have hA1 : zc_A g1 := by
          obtain ⟨q, e, w⟩ := zc_C0_remove (d := d) hA la (zt_U_V U hs) inS.2.2 ((zt_S_ch S).trans nch0) (by rw [zt_U_he U]; exact fun q => sh (zt_r_inj la W.2.1.1 hs.1 q).symm)
          rw [e1] at e
          cases e
          exact w.1.2
        -- the reference
        have w1 := zm_W_rm W hs s0 sh nch
        have es : C9_sets (D + 4) 347 v 0 0 k = some (zv_sI k 348 (432 + 76 * v.toNat + Int.toNat 0) 0) := zm_sets hM _ (zm_st48 hs) (by decide) _
        have f1 : zm_F [348] [] k (zv_sI k 348 (432 + 76 * v.toNat + Int.toNat 0) 0) := zm_F_I (zm_F_r _ _ k) rfl _ _
        have ek1 : zv_I (zv_sI k 348 (432 + 76 * v.toNat + Int.toNat 0) 0) 348 = zm_os c v 0 0 := by rw [← hc]; exact zm_ss _ _ _ _
        generalize zv_sI k 348 (432 + 76 * v.toNat + Int.toNat 0) 0 = k1 at es f1 ek1
        have hM1 := zm_F_M f1 hM
        have c5 : zm_os c v 0 0 5 = c 5 := zm_u_o _ _ (by clear hs sh; omega)
        have h5 := W.2.2.2.2.2
        obtain ⟨p, ep⟩ : ∃ p : Nat, c 5 = p := ⟨(c 5).toNat, (Int.toNat_of_nonneg h5.1).symm⟩
        have p40 : p ≤ 40 := by rw [ep] at h5; exact Int.ofNat_le.mp h5.2
        obtain ⟨k2, i1, f2, i3, i4⟩ := zt_pr45 (D + 4) many (m : Int) v p40 p 0 k1 (Nat.zero_add _) hM1 (by rw [ek1, c5, ep])
        have hM2 := zm_F_M f2 hM1
        rw [ek1] at i3 i4
        have oc : ∀ k : Nat, 4156 ≤ k → zm_os c v 0 0 k = c k := fun k hk => zm_u_o _ _ (by have := hs.1; clear hs sh; omega)
        have k25 : zv_I k2 348 5 = p := (i3 5 (fun j _ _ => by omega)).trans (c5.trans ep)
        have i3' : ∀ x : Nat, x < 4156 → zv_I k2 348 x = zm_os c v 0 0 x := fun x hx => i3 x (fun j _ _ => by omega)
        have W2 : zm_W (zv_I k2 348) := zm_W_alt w1 (fun k _ h1 => i3' k (by omega)) (by rw [i3' 0 (by decide)]; exact w1.2.1) (by rw [i3' 3 (by decide)]; exact w1.2.2.1) (i3' 4 (by decide)) (fun k _ h1 => i3' k (by omega)) (by rw [i3' 5 (by decide)]; exact w1.2.2.2.2.2)
        have n1 := zm_nst_rm hs
        have n2 : zm_nst (zv_I k2 348) = zm_nst (zm_os c v 0 0) := zm_sum_cg 48 (fun k hk => i3' _ (by omega))
        have H1 : zt_H a (zv_I k2 348) g1 := zt_H_pr H hA1 R hs s0 sh W2 (fun x hx => i3 x (fun j _ j2 => hx j (by rw [ep]; exact Int.ofNat_lt.mpr j2))) (fun j hj => by
          rw [ep] at hj
          have := i4 j (Nat.zero_le _) (Int.ofNat_lt.mp hj)
          rw [oc _ (Nat.le_add_right _ _)] at this
          exact this)
        obtain ⟨v', gv', en', fo'⟩ := zj_fo (d := d) (D := D) (zt_L_A hA1) H1 hM2 rfl
        have nst1 : zm_nst (zv_I k2 348) = zm_nst c - 1 := n2.trans n1
        have wm := zt_pr7 m48
        obtain ⟨w, g', k', y1, y2, y3, y4, y5, y6, y7⟩ := ih (m + 1) (zv_I k2 348) g1 k2 v' hA1 H1 hM2 rfl (zt_pr8 nst1 hn) (zt_pr9 nst1 hmn) gv' en'
        have x1 : zv_I k2 348 1 = c 1 := (i3' 1 (by decide)).trans (zm_u_o _ _ (by clear hs sh; omega))
        have x2 : zv_I k2 348 2 = c 2 := (i3' 2 (by decide)).trans (zm_u_o _ _ (by clear hs sh; omega))
        refine ⟨w, g', k', ?_, ?_, y3, zt_k_t (zt_rm_k la R inS inP) y4, y5, y6.trans x1, y7.trans x2⟩
        · rw [qL0_pruneTo_14, zm_e (zl_gI gL la 12), zt_U_ct U, if_neg le, if_pos m48, zm_e en]
          dsimp only
          rw [ero, if_neg (zt_r0 U hs), zm_e e1, wm]
          exact y1
        · rw [qL9_pruneNow_23, if_neg v0, zm_e (zm_states hM _ (by rw [hc]; exact W.1.1)), hc]
          dsimp only
          rw [if_neg le, zm_e es, show L9_pruneNow_45 (D + 4) 347 many (m : Int) v 0 k1 = _ from i1, qL9_pruneNow_45, zm_e (zm_f0 hM2), zm_e (zm_aI hM2 zm_l348 rfl (by decide) (by decide)), show zv_I k2 348 (Int.toNat 5) = _ from k25, if_neg (Int.lt_irrefl _), zm_e fo', wm]
          exact y2
theorem zj_prune {d D : Nat} {a : Nat} {c : Nat → Int} {g k : zv_H} (hA : zc_A g) (H : zt_H a c g) (hM : zm_M k) (hc : zv_I k 348 = c) {many : Int} (rm : zv_rg many) : ∃ q q', C0_pruneTo (d + 3) a many g = some q ∧ C9_pruneNow (D + 5) 347 many k = some q' ∧ zt_Z a 0 g k q q' := by
  have U := zt_H_U H
  have W := zt_U_W U
  have la := zt_U_la U
  have gL := zt_L_A hA
  have ew := zc_within (d := d + 1) g many 1 48
  have ei := zm_isIn (h := k) (D + 3) many 1 48
  by_cases hm : 1 ≤ many ∧ many ≤ 48
  · rw [if_pos hm] at ew ei
    obtain ⟨v, gv, en, fo⟩ := zj_fo (d := d) (D := D) gL H hM hc
    have nst := zt_nst_le W
    obtain ⟨w, g', k', y1, y2, y3, y4, y5, y6, y7⟩ := zj_prloop (d := d) (D := D) hm.1 48 0 c g k v hA H hM hc nst.2 (by rw [show ((0 : Nat) : Int) = 0 from rfl, Int.zero_add]; exact nst.2) gv en
    have z1 : C0_pruneTo (d + 3) a many g = some (w, g') := by
      refine lC0_pruneTo (zl_ob gL la) ?_
      rw [qE0_pruneTo, zm_e ew]
      dsimp only
      rw [if_neg (by decide)]
      exact y1
    have z2 : C9_pruneNow (D + 5) 347 many k = some (w, k') := by
      refine lC9_pruneNow (zm_ob hM) ?_
      rw [qE9_pruneNow, zm_e ei]
      dsimp only
      rw [if_neg (by decide), zm_e fo]
      exact y2
    obtain ⟨p, ep, X, _⟩ := zc_C0_pruneTo (d := d) hA la rm
    have ee : p = (w, g') := Option.some.inj (ep.symm.trans z1)
    rw [ee] at X
    obtain ⟨p', ep', Fm, _⟩ := zm_pruneNow hM hc W D many
    have ee' : p' = (w, k') := Option.some.inj (ep'.symm.trans z2)
    rw [ee'] at Fm
    refine ⟨(w, g'), (w, k'), z1, z2, ⟨X, y4, zm_F_s Fm rfl rfl, Or.inr ⟨y3, rfl⟩, y5, ?_, ?_⟩⟩
    · rw [hc]
      dsimp only
      rw [y6]
      exact ⟨Int.le_refl _, Int.le_add_of_nonneg_right (by decide)⟩
    · rw [hc]
      dsimp only
      rw [y7]
      exact ⟨Int.le_refl _, Int.le_add_of_nonneg_right (by decide)⟩
  · rw [if_neg hm] at ew ei
    refine ⟨(-1, g), (-1, zv_sI k 347 3 1), lC0_pruneTo (zl_ob gL la) ?_, lC9_pruneNow (zm_ob hM) ?_, zt_Z_rf (by decide) hA H hc (by decide) 1⟩
    · rw [qE0_pruneTo, zm_e ew]
      rfl
    · rw [qE9_pruneNow, zm_e ei]
      dsimp only
      rw [if_pos rfl, zm_e (zm_refuse hM _ 1)]
