/-! ===== the reference: load ===== -/
/-- a start alone, of m letters -/
def zm_O (c : Nat → Int) (m : Int) : Prop := (∀ s : Int, 0 ≤ s → s ≤ 47 → zm_o c s 0 = if s = 0 then 1 else 0) ∧ (zm_o c 0 1 = -1 ∧ zm_o c 0 2 = -1 ∧ zm_o c 0 5 = m ∧ zm_o c 0 8 = 0) ∧ c 0 = 0 ∧ c 3 = 0 ∧ c 5 = 0
theorem zm_W_O {c : Nat → Int} {m : Int} (o : zm_O c m) (h0 : 0 ≤ m ∧ m ≤ 40) (h4 : 0 ≤ c 4 ∧ c 4 ≤ 392) (hp : c 4 = 0 ∨ zm_ph (zm_cd c) 0) : zm_W c := by
  obtain ⟨o1, ⟨o2, o3, o4, o5⟩, o6, o7, o8⟩ := o
  have s0 : zm_st c 0 := ⟨by decide, by rw [o1 0 (by decide) (by decide), if_pos rfl]⟩
  refine ⟨⟨fun s s1 s2 => ?_, ⟨s0, o2, o3, by rw [o4]; exact h0⟩, fun s hs => ?_⟩, by rw [o6]; exact s0, by rw [o7]; decide, h4, hp, by rw [o8]; decide⟩
  · rw [o1 s s1 s2]
    split
    · exact Or.inr rfl
    · exact Or.inl rfl
  · have es : s = 0 := by
      have h1 := hs.2
      rw [o1 s hs.1.1 hs.1.2] at h1
      by_cases q : s = 0
      · exact q
      · rw [if_neg q] at h1
        cases h1
    subst es
    refine ⟨[], ⟨⟨rfl, by decide, by decide⟩, ?_⟩, ⟨List.nodup_cons.mpr ⟨List.not_mem_nil, List.nodup_nil⟩, rfl, fun t ht => by rw [List.mem_singleton.mp ht]; exact s0⟩, fun q => absurd rfl q, fun q => absurd rfl q, fun q => ?_, by rw [o5]; decide, ?_⟩
    · show zm_o c 0 1 < 0
      rw [o2]
      decide
    · rw [o3] at q
      cases q
    · have h1 := List.length_filter_le (zm_sn c [0]) (zm_row c [0])
      have h2 : (zm_row c [0]).length ≤ 40 := by
        rw [zm_row_1, zm_rs_len, o4]
        omega
      omega
theorem zm_clears_l (d : Nat) : ∀ (n i : Nat) (h : zv_H), i + n = 4236 → zm_M h → (∀ k : Nat, k < i → zv_I h 348 k = 0) → ∃ h', L9_clears_2 d 347 i h = L9_clears_2 d 347 4236 h' ∧ zm_F [348] [] h h' ∧ (∀ k : Nat, k < 4236 → zv_I h' 348 k = 0)
  | 0, i, h, hi, _, hk => by
    have e : i = 4236 := by omega
    subst e
    exact ⟨h, rfl, zm_F_r _ _ h, hk⟩
  | n + 1, i, h, hi, hM, hk => by
    rw [qL9_clears_2, if_pos (by omega), zm_e (zm_f0 hM), zm_e (zm_wI hM zm_l348 rfl (by omega) (by omega) _), zm_w (by omega)]
    obtain ⟨h', i1, i2, i3⟩ := zm_clears_l d n (i + 1) (zv_sI h 348 ((i : Int)).toNat 0) (by omega) hM (fun k hk2 => by
      rw [zm_ss]
      by_cases q : k = i
      · rw [q, show ((i : Int)).toNat = i by omega, zm_u_s]
      · rw [zm_u_o _ _ (by omega)]
        exact hk k (by omega))
    exact ⟨h', i1, zm_F_t (zm_F_I (zm_F_r _ _ h) rfl _ _) i2, i3⟩
theorem zm_clears {h : zv_H} (hM : zm_M h) (d : Nat) : zm_R (C9_clears (d + 2) 347 h) (fun h' => zm_F [348] [] h h' ∧ zm_O (zv_I h' 348) 0 ∧ zv_I h' 348 4 = 0) := by
  refine zm_cV (lC9_clears (zm_ob hM)) ?_
  obtain ⟨z, i1, f1, k1⟩ := zm_clears_l (d + 1) 4236 0 h rfl hM (fun k hk => by omega)
  have hMz := zm_F_M f1 hM
  have S : ∀ (g : zv_H) (w v : Int), zv_I (zv_sI g 348 (432 + 76 * (0 : Int).toNat + w.toNat) v) 348 = zm_os (zv_I g 348) 0 w v := fun g w v => zm_ss _ _ _ _
  rw [qE9_clears, show L9_clears_2 (d + 1) 347 0 h = _ from i1, qL9_clears_2, if_neg (by decide), zm_e (zm_sets hMz d (by decide) (by decide) _)]
  have M1 : zm_M (zv_sI z 348 (432 + 76 * (0 : Int).toNat + Int.toNat 0) 1) := hMz
  rw [zm_e (zm_sets M1 d (by decide) (by decide) _)]
  have M2 : zm_M (zv_sI (zv_sI z 348 (432 + 76 * (0 : Int).toNat + Int.toNat 0) 1) 348 (432 + 76 * (0 : Int).toNat + Int.toNat 1) (-1)) := hMz
  rw [zm_e (zm_sets M2 d (by decide) (by decide) _)]
  have M3 : zm_M (zv_sI (zv_sI (zv_sI z 348 (432 + 76 * (0 : Int).toNat + Int.toNat 0) 1) 348 (432 + 76 * (0 : Int).toNat + Int.toNat 1) (-1)) 348 (432 + 76 * (0 : Int).toNat + Int.toNat 2) (-1)) := hMz
  rw [zm_e (zm_sets M3 d (by decide) (by decide) _)]
  have z0 : ∀ s w : Int, 0 ≤ s → s ≤ 48 → 0 ≤ w → w < 76 → zm_o (zv_I z 348) s w = 0 := fun s w s0 s1 w0 w1 => k1 _ (by omega)
  have O : ∀ (c : Nat → Int) (w v s' w' : Int), 0 ≤ w ∧ w < 76 → 0 ≤ s' → 0 ≤ w' ∧ w' < 76 → ¬ (s' = 0 ∧ w' = w) → zm_o (zm_os c 0 w v) s' w' = zm_o c s' w' := fun c w v s' w' h1 h2 h3 h4 => zm_os_o c v (by decide) h1 h2 h3 h4
  have Kk : ∀ (c : Nat → Int) (w v : Int) (k : Nat), 0 ≤ w ∧ w < 76 → k < 432 → zm_os c 0 w v k = c k := fun c w v k h1 h2 => zm_os_k c v h1 (by omega)
  refine zm_iV ⟨zm_F_I (zm_F_I (zm_F_I (zm_F_I f1 rfl _ _) rfl _ _) rfl _ _) rfl _ _, ?_, ?_⟩
  · rw [S, S, S, S]
    refine ⟨fun s s0 s1 => ?_, ⟨?_, ?_, ?_, ?_⟩, ?_, ?_, ?_⟩
    · rw [O _ _ _ _ _ (by decide) s0 (by decide) (fun q => by cases q.2), O _ _ _ _ _ (by decide) s0 (by decide) (fun q => by cases q.2), O _ _ _ _ _ (by decide) s0 (by decide) (fun q => by cases q.2)]
      by_cases q : s = 0
      · rw [if_pos q, q, zm_os_s]
      · rw [if_neg q, O _ _ _ _ _ (by decide) s0 (by decide) (fun z => q z.1)]
        exact z0 s 0 s0 (by omega) (by decide) (by decide)
    · rw [O _ _ _ _ _ (by decide) (by decide) (by decide) (fun q => by cases q.2), O _ _ _ _ _ (by decide) (by decide) (by decide) (fun q => by cases q.2), zm_os_s]
    · rw [O _ _ _ _ _ (by decide) (by decide) (by decide) (fun q => by cases q.2), zm_os_s]
    · rw [O _ _ _ _ _ (by decide) (by decide) (by decide) (fun q => by cases q.2), O _ _ _ _ _ (by decide) (by decide) (by decide) (fun q => by cases q.2), O _ _ _ _ _ (by decide) (by decide) (by decide) (fun q => by cases q.2), O _ _ _ _ _ (by decide) (by decide) (by decide) (fun q => by cases q.2)]
      exact z0 0 5 (by decide) (by decide) (by decide) (by decide)
    · rw [O _ _ _ _ _ (by decide) (by decide) (by decide) (fun q => by cases q.2), O _ _ _ _ _ (by decide) (by decide) (by decide) (fun q => by cases q.2), O _ _ _ _ _ (by decide) (by decide) (by decide) (fun q => by cases q.2), O _ _ _ _ _ (by decide) (by decide) (by decide) (fun q => by cases q.2)]
      exact z0 0 8 (by decide) (by decide) (by decide) (by decide)
    · rw [Kk _ _ _ _ (by decide) (by decide), Kk _ _ _ _ (by decide) (by decide), Kk _ _ _ _ (by decide) (by decide), Kk _ _ _ _ (by decide) (by decide)]
      exact k1 0 (by decide)
    · rw [Kk _ _ _ _ (by decide) (by decide), Kk _ _ _ _ (by decide) (by decide), Kk _ _ _ _ (by decide) (by decide), Kk _ _ _ _ (by decide) (by decide)]
      exact k1 3 (by decide)
    · rw [Kk _ _ _ _ (by decide) (by decide), Kk _ _ _ _ (by decide) (by decide), Kk _ _ _ _ (by decide) (by decide), Kk _ _ _ _ (by decide) (by decide)]
      exact k1 5 (by decide)
  · rw [S, S, S, S, Kk _ _ _ _ (by decide) (by decide), Kk _ _ _ _ (by decide) (by decide), Kk _ _ _ _ (by decide) (by decide), Kk _ _ _ _ (by decide) (by decide)]
    exact k1 4 (by decide)
theorem zm_load48 (d : Nat) : ∀ (n i : Nat) (h : zv_H), i + n = 4236 → zm_M h → (∀ k : Nat, k < i → zv_I h 349 k = zv_I h 348 k) → ∃ h', L9_load_48 d 347 i h = L9_load_48 d 347 4236 h' ∧ zm_F [349] [] h h' ∧ (∀ k : Nat, k < 4236 → zv_I h' 349 k = zv_I h 348 k)
  | 0, i, h, hi, _, hk => by
    have e : i = 4236 := by omega
    subst e
    exact ⟨h, rfl, zm_F_r _ _ h, hk⟩
  | n + 1, i, h, hi, hM, hk => by
    rw [qL9_load_48, if_pos (by omega), zm_e (zm_f1 hM), zm_e (zm_f0 hM), zm_e (zm_aI hM zm_l348 rfl (by omega) (by omega)), zm_e (zm_wI hM zm_l349 rfl (by omega) (by omega) _), zm_w (by omega)]
    obtain ⟨h', i1, i2, i3⟩ := zm_load48 d n (i + 1) (zv_sI h 349 ((i : Int)).toNat (zv_I h 348 ((i : Int)).toNat)) (by omega) hM (fun k hk2 => by
      rw [zm_ss, zm_so h _ _]
      by_cases q : k = i
      · rw [q, show ((i : Int)).toNat = i by omega, zm_u_s]
      · rw [zm_u_o _ _ (by omega)]
        exact hk k (by omega))
    exact ⟨h', i1, zm_F_t (zm_F_I (zm_F_r _ _ h) rfl _ _) i2, fun k hk => by rw [i3 k hk, zm_so h _ _]⟩
theorem zm_load254 (d : Nat) : ∀ (n i : Nat) (h : zv_H), i + n = 4236 → zm_M h → (∀ k : Nat, k < i → zv_I h 348 k = zv_I h 349 k) → ∃ h', L9_load_254 d 347 i h = L9_load_254 d 347 4236 h' ∧ zm_F [348] [] h h' ∧ (∀ k : Nat, k < 4236 → zv_I h' 348 k = zv_I h 349 k)
  | 0, i, h, hi, _, hk => by
    have e : i = 4236 := by omega
    subst e
    exact ⟨h, rfl, zm_F_r _ _ h, hk⟩
  | n + 1, i, h, hi, hM, hk => by
    rw [qL9_load_254, if_pos (by omega), zm_e (zm_f0 hM), zm_e (zm_f1 hM), zm_e (zm_aI hM zm_l349 rfl (by omega) (by omega)), zm_e (zm_wI hM zm_l348 rfl (by omega) (by omega) _), zm_w (by omega)]
    obtain ⟨h', i1, i2, i3⟩ := zm_load254 d n (i + 1) (zv_sI h 348 ((i : Int)).toNat (zv_I h 349 ((i : Int)).toNat)) (by omega) hM (fun k hk2 => by
      rw [zm_ss, zm_so h _ _]
      by_cases q : k = i
      · rw [q, show ((i : Int)).toNat = i by omega, zm_u_s]
      · rw [zm_u_o _ _ (by omega)]
        exact hk k (by omega))
    exact ⟨h', i1, zm_F_t (zm_F_I (zm_F_r _ _ h) rfl _ _) i2, fun k hk => by rw [i3 k hk, zm_so h _ _]⟩
/-- all the same numbers: as it was -/
theorem zm_W_eq {c c' : Nat → Int} (w : zm_W c) (e : ∀ k : Nat, k < 4236 → c' k = c k) : zm_W c' := zm_W_alt w (fun k _ h => e k (by omega)) (by rw [e 0 (by decide)]; exact w.2.1) (by rw [e 3 (by decide)]; exact w.2.2.1) (e 4 (by decide)) (fun k _ h => e k (by omega)) (by rw [e 5 (by decide)]; exact w.2.2.2.2.2)
/-- within load -/
def zm_Ld (c0 : Nat → Int) (h0 h : zv_H) : Prop := zm_F [348, 349, 351, 352, 353, 354, 355, 358, 359, 360, 362, 363, 364, 365] [3, 4, 10, 11, 12, 19, 24, 27, 28, 29, 30, 31, 32, 33, 34, 35, 36, 37, 38, 42, 43] h0 h ∧ (zm_RI h ∧ zm_K h) ∧ 0 ≤ zv_I h 347 30 ∧ ∀ k : Nat, k < 4236 → zv_I h 349 k = c0 k
theorem zm_Ld_n {c0 : Nat → Int} {h0 h h' : zv_H} {A B : List Nat} (l : zm_Ld c0 h0 h) (f : zm_F A B h h') (hA : (A.all fun r => List.contains [348, 349, 351, 352, 353, 354, 355, 358, 359, 360, 362, 363, 364, 365] r) = true) (hB : (B.all fun r => List.contains [3, 4, 10, 11, 12, 19, 24, 27, 28, 29, 30, 31, 32, 33, 34, 35, 36, 37, 38, 42, 43] r) = true) (h349 : A.contains 349 = false) (r : zm_RI h') (w : 0 ≤ zv_I h' 347 30) : zm_Ld c0 h0 h' := by
  obtain ⟨l1, ⟨l2, l3⟩, l4, l5⟩ := l
  exact ⟨zm_F_t l1 (zm_F_s f hA hB), ⟨r, zm_K_F l3 f⟩, w, fun k hk => by rw [zm_F_a f 349 h349]; exact l5 k hk⟩
def zm_Lp (h0 : zv_H) (_ : Int) (h : zv_H) : Prop := zm_F [348, 349, 351, 352, 353, 354, 355, 358, 359, 360, 362, 363, 364, 365] [3, 4, 10, 11, 12, 19, 24, 27, 28, 29, 30, 31, 32, 33, 34, 35, 36, 37, 38, 42, 43] h0 h ∧ zm_W (zv_I h 348) ∧ zv_I h 347 27 = 0 ∧ 0 ≤ zv_I h 347 35 ∧ zv_I h 347 35 ≤ 999
theorem zm_load203 (d : Nat) {c0 : Nat → Int} (w0 : zm_W c0) {h0 h : zv_H} (hM0 : zm_M h0) (l : zm_Ld c0 h0 h) (hw : zv_I h 347 30 = 0 → zm_W (zv_I h 348)) : zm_R (L9_load_203 (d + 2) 347 h) (zm_I (zm_Lp h0)) := by
  obtain ⟨l1, ⟨l2, l3⟩, l4, l5⟩ := l
  have hM := zm_F_M l1 hM0
  rw [qL9_load_203, zm_e (zm_pI hM 27 0)]
  have f1 : zm_F [] [27] h (zv_sI h 347 27 0) := zm_F_f (zm_F_r _ _ h) rfl _
  have e1 : zv_I (zv_sI h 347 27 0) 347 27 = 0 := by rw [zm_sgI, if_pos rfl]
  generalize zv_sI h 347 27 0 = h1 at f1 e1
  have hM1 := zm_F_M f1 hM
  rw [zm_e (zm_gI hM1 30), zm_e (zm_pI hM1 28 _)]
  have f2 : zm_F [] [28] h1 (zv_sI h1 347 28 (zv_I h1 347 30)) := zm_F_f (zm_F_r _ _ h1) rfl _
  generalize zv_sI h1 347 28 (zv_I h1 347 30) = h2 at f2
  have hM2 := zm_F_M f2 hM1
  have l232 : ∀ v : Int, zm_R (L9_load_232 (d + 2) 347 347 v h2) (zm_I (zm_Lp h0)) := by
    intro v
    rw [qL9_load_232, zm_e (zm_pI hM2 29 _)]
    have f3 : zm_F [] [29] h2 (zv_sI h2 347 29 v) := zm_F_f (zm_F_r _ _ h2) rfl _
    generalize zv_sI h2 347 29 v = h3 at f3
    have hM3 := zm_F_M f3 hM2
    rw [zm_e (zm_pI hM3 3 _)]
    have f4 : zm_F [] [3] h3 (zv_sI h3 347 3 0) := zm_F_f (zm_F_r _ _ h3) rfl _
    generalize zv_sI h3 347 3 0 = h4 at f4
    have hM4 := zm_F_M f4 hM3
    have F4 : zm_F [] [3, 27, 28, 29] h h4 := zm_F_t (zm_F_s f1 rfl rfl) (zm_F_t (zm_F_s f2 rfl rfl) (zm_F_t (zm_F_s f3 rfl rfl) (zm_F_s f4 rfl rfl)))
    have z27 : zv_I h4 347 27 = 0 := by rw [zm_F_g f4 27, zm_F_g f3 27, zm_F_g f2 27, e1]
    have F04 : zm_F [348, 349, 351, 352, 353, 354, 355, 358, 359, 360, 362, 363, 364, 365] [3, 4, 10, 11, 12, 19, 24, 27, 28, 29, 30, 31, 32, 33, 34, 35, 36, 37, 38, 42, 43] h0 h4 := zm_F_t l1 (zm_F_s F4 rfl rfl)
    rw [zm_e (zm_gI hM4 30)]
    refine zm_if (fun z => ?_) (fun _ => ?_)
    · have w4 : zm_W (zv_I h4 348) := by
        rw [zm_F_a F4 348]
        exact hw (by rw [← zm_F_g F4 30]; exact z)
      rw [zm_e (zm_states hM4 _ w4.1.1)]
      exact zm_iI ⟨F04, w4, z27, by rw [zm_F_g F4 35]; exact l2.2.2.2.1⟩
    · obtain ⟨h5, i5, f5, k5⟩ := zm_load254 (d + 2) 4236 0 h4 rfl hM4 (fun k hk => by omega)
      have hM5 := zm_F_M f5 hM4
      rw [show L9_load_254 (d + 2) 347 0 h4 = _ from i5, qL9_load_254, if_neg (by decide), zm_e (zm_refuse hM5 _ 9)]
      have f6 : zm_F [] [3] h5 (zv_sI h5 347 3 9) := zm_F_f (zm_F_r _ _ h5) rfl _
      refine zm_iI ⟨zm_F_t F04 (zm_F_t (zm_F_s f5 rfl rfl) (zm_F_s f6 rfl rfl)), ?_, ?_, ?_⟩
      · rw [zm_F_a f6 348]
        exact zm_W_eq w0 (fun k hk => by rw [k5 k hk, zm_F_a F4 349]; exact l5 k hk)
      · rw [zm_F_g f6 27, zm_F_g f5 27, z27]
      · rw [zm_F_g f6 35, zm_F_g f5 35, zm_F_g F4 35]
        exact l2.2.2.2.1
  rw [zm_e (zm_gI hM2 30)]
  refine zm_if (fun _ => l232 (-1)) (fun _ => ?_)
  rw [zm_e (zm_gI hM2 31)]
  exact l232 _
theorem zm_load182 (d : Nat) {c0 : Nat → Int} (w0 : zm_W c0) {h0 : zv_H} (hM0 : zm_M h0) : ∀ (m : Nat) (h : zv_H), zm_Ld c0 h0 h → (zv_I h 347 30 = 0 → zm_W (zv_I h 348) ∧ 701 - zv_I h 347 32 ≤ m) → zm_R (L9_load_182 (d + 11) 347 h) (zm_I (zm_Lp h0))
  | m, h, l, hw => by
    have hM := zm_F_M l.1 hM0
    have end_ := zm_load203 (d + 9) w0 hM0 l (fun z => (hw z).1)
    rw [qL9_load_182, zm_e (zm_gI hM 30)]
    refine zm_if (fun z => ?_) (fun _ => end_)
    rw [zm_e (zm_gI hM 34)]
    refine zm_if (fun _ => end_) (fun _ => ?_)
    obtain ⟨w1, m1⟩ := hw z
    have hr := l.2.1.1.2.1
    obtain ⟨h1, e1, f1, r1, x1, y1⟩ := zm_readsLine hM l.2.1.1 z w1 d
    rw [zm_e e1]
    have l' := zm_Ld_n l f1 rfl rfl rfl r1 x1
    cases m with
    | zero => exact absurd m1 (by omega)
    | succ m => exact zm_load182 d w0 hM0 m h1 l' (fun z1 => ⟨(y1 z1).1, by have := (y1 z1).2; omega⟩)
theorem zm_load156 (d : Nat) {c0 : Nat → Int} (w0 : zm_W c0) {h0 : zv_H} (hM0 : zm_M h0) {h : zv_H} (l : zm_Ld c0 h0 h) (hd : zv_I h 347 37 = 0) (hO : zv_I h 347 30 = 0 → ∃ m : Int, (0 ≤ m ∧ m ≤ 40) ∧ zm_O (zv_I h 348) m ∧ zv_I h 348 4 = 0) : zm_R (L9_load_156 (d + 27) 347 h) (zm_I (zm_Lp h0)) := by
  have hM := zm_F_M l.1 hM0
  have r := l.2.1.1
  have hr := r.2.1
  obtain ⟨k, ek, qk⟩ := zm_which hM (d + 26) zm_l368 rfl (by decide)
  rw [qL9_load_156, zm_e (zm_f40 hM), zm_e ek]
  dsimp only
  refine zm_if (fun c1 => ?_) (fun _ => zm_load182 (d + 16) w0 hM0 701 h l (fun z => ?_))
  · rcases qk with z | ⟨z1, z2, z3, z4⟩
    · rw [z] at c1
      exact absurd c1 (by decide)
    · obtain ⟨m, hm, o, c4⟩ := hO z3
      obtain ⟨h1, e1, f1, r1, p1, w1⟩ := zm_rd (d + 22) hM r (by rw [z2]; decide)
      have hM1 := zm_F_M f1 hM
      have e48 : zv_I h1 348 = zv_I h 348 := zm_F_a f1 348
      have hr1 := r1.2.1
      have P1 : zm_Pq h1 := ⟨⟨hM1, r1, zm_K_F l.2.1.2 f1⟩, w1.trans z3, by rw [e48, c4]; exact Int.le_refl _, by rw [e48, c4]; omega⟩
      obtain ⟨h2, e2, Q2⟩ := zm_test d P1 ((zm_F_g f1 37).trans hd)
      obtain ⟨s1, s2, s3, s4, s5, s6⟩ := Q2
      have hM2 := zm_F_M s1 hM1
      obtain ⟨h3, e3, f3, ok3⟩ := zm_takes hM2 (d + 21) s3 s4 59
      obtain ⟨o1, o2, o3⟩ := ok3
      rw [zm_e e1, zm_e e2, zm_e e3]
      have l1 := zm_Ld_n l f1 rfl rfl rfl r1 (by rw [w1, z3]; exact Int.le_refl _)
      have l2 := zm_Ld_n l1 s1 rfl rfl rfl s3 s4
      have l3 := zm_Ld_n l2 f3 rfl rfl rfl o1 o2
      refine zm_load182 (d + 16) w0 hM0 701 h3 l3 (fun z => ⟨?_, by have := o1.2.1; omega⟩)
      obtain ⟨z5, _⟩ := o3 z
      obtain ⟨e, y1, y2, y3, y4⟩ := s6 z5
      have hb := s3.2.1
      have hb2 := s3.1
      have h348 : zv_I h3 348 = zv_I h2 348 := zm_F_a f3 348
      rw [e48, c4] at y3 y4
      have hcd : zm_cd (zv_I h1 348) = [] := by
        unfold zm_cd
        rw [e48, c4]
        rfl
      rw [hcd, List.nil_append] at y2
      rw [h348]
      have s5' : ∀ k : Nat, k ≠ 4 → ¬ (8 ≤ k ∧ k < 408) → zv_I h2 348 k = zv_I h 348 k := fun k k0 k1 => (s5 k k0 k1).trans (by rw [e48])
      refine zm_W_O (m := m) ⟨fun s q0 q1 => ?_, ⟨?_, ?_, ?_, ?_⟩, ?_, ?_, ?_⟩ hm (by omega) (Or.inr (by rw [y2]; exact zm_pe_ph y1))
      · show zv_I h2 348 _ = _
        rw [s5' _ (by omega) (by omega)]
        exact o.1 s q0 q1
      · show zv_I h2 348 _ = _
        rw [s5' _ (by decide) (by decide)]
        exact o.2.1.1
      · show zv_I h2 348 _ = _
        rw [s5' _ (by decide) (by decide)]
        exact o.2.1.2.1
      · show zv_I h2 348 _ = _
        rw [s5' _ (by decide) (by decide)]
        exact o.2.1.2.2.1
      · show zv_I h2 348 _ = _
        rw [s5' _ (by decide) (by decide)]
        exact o.2.1.2.2.2
      · rw [s5' _ (by decide) (by decide)]
        exact o.2.2.1
      · rw [s5' _ (by decide) (by decide)]
        exact o.2.2.2.1
      · rw [s5' _ (by decide) (by decide)]
        exact o.2.2.2.2
  · obtain ⟨m, hm, o, c4⟩ := hO z
    exact ⟨zm_W_O o hm (by rw [c4]; decide) (Or.inl c4), by omega⟩
theorem zm_O_s {c : Nat → Int} {m : Int} (o : zm_O c m) {w : Int} (hw : 12 ≤ w ∧ w < 76) (v : Int) : zm_O (zm_os c 0 w v) m ∧ zm_os c 0 w v 4 = c 4 := by
  obtain ⟨o1, ⟨o2, o3, o4, o5⟩, o6, o7, o8⟩ := o
  have O : ∀ s' w' : Int, 0 ≤ s' → 0 ≤ w' → w' < 12 → zm_o (zm_os c 0 w v) s' w' = zm_o c s' w' := fun s' w' h1 h2 h3 => zm_os_o c v (by decide) (by omega) h1 (by omega) (fun q => by omega)
  have Kk : ∀ k : Nat, k < 432 → zm_os c 0 w v k = c k := fun k hk => zm_os_k c v (by omega) (by omega)
  exact ⟨⟨fun s s0 s1 => (O s 0 s0 (by decide) (by decide)).trans (o1 s s0 s1), ⟨(O 0 1 (by decide) (by decide) (by decide)).trans o2, (O 0 2 (by decide) (by decide) (by decide)).trans o3, (O 0 5 (by decide) (by decide) (by decide)).trans o4, (O 0 8 (by decide) (by decide) (by decide)).trans o5⟩, (Kk 0 (by decide)).trans o6, (Kk 3 (by decide)).trans o7, (Kk 5 (by decide)).trans o8⟩, Kk 4 (by decide)⟩
theorem zm_O_5 {c : Nat → Int} {m : Int} (o : zm_O c m) (v : Int) : zm_O (zm_os c 0 5 v) v ∧ zm_os c 0 5 v 4 = c 4 := by
  obtain ⟨o1, ⟨o2, o3, o4, o5⟩, o6, o7, o8⟩ := o
  have O : ∀ s' w' : Int, 0 ≤ s' → 0 ≤ w' → w' < 76 → w' ≠ 5 → zm_o (zm_os c 0 5 v) s' w' = zm_o c s' w' := fun s' w' h1 h2 h3 h4 => zm_os_o c v (by decide) (by decide) h1 ⟨h2, h3⟩ (fun q => h4 q.2)
  have Kk : ∀ k : Nat, k < 432 → zm_os c 0 5 v k = c k := fun k hk => zm_os_k c v (by decide) (by omega)
  exact ⟨⟨fun s s0 s1 => (O s 0 s0 (by decide) (by decide) (by decide)).trans (o1 s s0 s1), ⟨(O 0 1 (by decide) (by decide) (by decide) (by decide)).trans o2, (O 0 2 (by decide) (by decide) (by decide) (by decide)).trans o3, zm_os_s _ _ _ _, (O 0 8 (by decide) (by decide) (by decide) (by decide)).trans o5⟩, (Kk 0 (by decide)).trans o6, (Kk 3 (by decide)).trans o7, (Kk 5 (by decide)).trans o8⟩, Kk 4 (by decide)⟩
theorem zm_load104 (d : Nat) {c0 : Nat → Int} (w0 : zm_W c0) {h0 : zv_H} (hM0 : zm_M h0) : ∀ (n i : Nat) (h : zv_H), zm_Ld c0 h0 h → zv_I h 347 37 = 0 → (zv_I h 347 30 = 0 → (0 ≤ zv_I h 347 19 ∧ zv_I h 347 19 ≤ 40) ∧ (i : Int) ≤ zv_I h 347 19 ∧ zv_I h 347 19 - i ≤ n ∧ ∃ m, zm_O (zv_I h 348) m ∧ zv_I h 348 4 = 0) → zm_R (L9_load_104 (d + 27) 347 i h) (zm_I (zm_Lp h0))
  | n, i, h, l, hd, hO => by
    have hM := zm_F_M l.1 hM0
    have r := l.2.1.1
    have l140 : zm_R (L9_load_140 (d + 27) 347 h) (zm_I (zm_Lp h0)) := by
      rw [qL9_load_140, zm_e (zm_gI hM 19), zm_e (zm_sets hM _ (by decide) (by decide) _)]
      have f1 : zm_F [348] [] h (zv_sI h 348 (432 + 76 * (0 : Int).toNat + Int.toNat 5) (zv_I h 347 19)) := zm_F_I (zm_F_r _ _ h) rfl _ _
      have e1 : zv_I (zv_sI h 348 (432 + 76 * (0 : Int).toNat + Int.toNat 5) (zv_I h 347 19)) 348 = zm_os (zv_I h 348) 0 5 (zv_I h 347 19) := zm_ss _ _ _ _
      generalize zv_sI h 348 (432 + 76 * (0 : Int).toNat + Int.toNat 5) (zv_I h 347 19) = h1 at f1 e1
      have hM1 := zm_F_M f1 hM
      have r1 := zm_RI_F r f1
      have w1 : zv_I h1 347 30 = zv_I h 347 30 := zm_F_g f1 30
      obtain ⟨h2, e2, f2, ok2⟩ := zm_takes hM1 (d + 21) r1 (by rw [w1]; exact l.2.2.1) 59
      obtain ⟨o1, o2, o3⟩ := ok2
      rw [zm_e e2]
      have l1 := zm_Ld_n l f1 rfl rfl rfl r1 (by rw [w1]; exact l.2.2.1)
      refine zm_load156 d w0 hM0 (zm_Ld_n l1 f2 rfl rfl rfl o1 o2) ((zm_F_g f2 37).trans ((zm_F_g f1 37).trans hd)) (fun z => ?_)
      obtain ⟨z1, _⟩ := o3 z
      rw [w1] at z1
      obtain ⟨b1, b2, b3, m, om, c4⟩ := hO z1
      have o5 := zm_O_5 om (zv_I h 347 19)
      refine ⟨_, b1, ?_, ?_⟩
      · rw [zm_F_a f2 348, e1]
        exact o5.1
      · rw [zm_F_a f2 348, e1, o5.2, c4]
    rw [qL9_load_104, zm_e (zm_gI hM 19)]
    refine zm_if (fun c1 => ?_) (fun _ => l140)
    rw [zm_e (zm_gI hM 30)]
    refine zm_if (fun z => ?_) (fun _ => l140)
    obtain ⟨b1, b2, b3, m, om, c4⟩ := hO z
    rw [zm_e (zm_f17 hM), zm_e (zm_aI hM zm_l360 rfl (by omega) (by omega)), zm_w (x := 12 + (i : Int)) (by omega), zm_e (zm_sets hM _ (by decide) (by omega) _), zm_w (by omega)]
    generalize zv_I h 360 ((i : Int)).toNat = v0
    have f1 : zm_F [348] [] h (zv_sI h 348 (432 + 76 * (0 : Int).toNat + (12 + (i : Int)).toNat) v0) := zm_F_I (zm_F_r _ _ h) rfl _ _
    have e1 : zv_I (zv_sI h 348 (432 + 76 * (0 : Int).toNat + (12 + (i : Int)).toNat) v0) 348 = zm_os (zv_I h 348) 0 (12 + (i : Int)) v0 := zm_ss _ _ _ _
    generalize zv_sI h 348 (432 + 76 * (0 : Int).toNat + (12 + (i : Int)).toNat) v0 = h1 at f1 e1
    have o1 := zm_O_s om (w := 12 + (i : Int)) (by omega) v0
    cases n with
    | zero => exact absurd b3 (by omega)
    | succ n =>
      exact zm_load104 d w0 hM0 n (i + 1) h1 (zm_Ld_n l f1 rfl rfl rfl (zm_RI_F r f1) (by rw [zm_F_g f1 30]; exact l.2.2.1)) ((zm_F_g f1 37).trans hd) (fun _ => by
        rw [zm_F_g f1 19, e1]
        exact ⟨b1, by omega, by omega, m, o1.1, o1.2.trans c4⟩)
theorem zm_load {h : zv_H} (hM : zm_M h) (w : zm_W (zv_I h 348)) (K : zm_K h) (ht : 0 ≤ zv_I h 347 27 ∧ zv_I h 347 27 ≤ 700) (hn : 0 ≤ zv_I h 347 35 ∧ zv_I h 347 35 ≤ 999) (d : Nat) (n : Int) : zm_R (C9_load (d + 28) 347 n h) (fun q => zm_F [348, 349, 351, 352, 353, 354, 355, 358, 359, 360, 362, 363, 364, 365] [3, 4, 10, 11, 12, 19, 24, 27, 28, 29, 30, 31, 32, 33, 34, 35, 36, 37, 38, 42, 43] h q.2 ∧ zm_W (zv_I q.2 348) ∧ (zv_I q.2 347 27 = if 0 ≤ n ∧ n ≤ zv_I h 347 27 then 0 else zv_I h 347 27) ∧ 0 ≤ zv_I q.2 347 35 ∧ zv_I q.2 347 35 ≤ 999) := by
  refine zm_cI (P := fun _ h' => zm_F [348, 349, 351, 352, 353, 354, 355, 358, 359, 360, 362, 363, 364, 365] [3, 4, 10, 11, 12, 19, 24, 27, 28, 29, 30, 31, 32, 33, 34, 35, 36, 37, 38, 42, 43] h h' ∧ zm_W (zv_I h' 348) ∧ (zv_I h' 347 27 = if 0 ≤ n ∧ n ≤ zv_I h 347 27 then 0 else zv_I h 347 27) ∧ 0 ≤ zv_I h' 347 35 ∧ zv_I h' 347 35 ≤ 999) (lC9_load (zm_ob hM)) ?_
  have l18 : ∀ v : Int, (v = 0 → 0 ≤ n ∧ n ≤ zv_I h 347 27) → (v ≠ 0 → ¬ (0 ≤ n ∧ n ≤ zv_I h 347 27)) → zm_R (L9_load_18 (d + 27) 347 n 347 v h) (zm_I fun _ h' => zm_F [348, 349, 351, 352, 353, 354, 355, 358, 359, 360, 362, 363, 364, 365] [3, 4, 10, 11, 12, 19, 24, 27, 28, 29, 30, 31, 32, 33, 34, 35, 36, 37, 38, 42, 43] h h' ∧ zm_W (zv_I h' 348) ∧ (zv_I h' 347 27 = if 0 ≤ n ∧ n ≤ zv_I h 347 27 then 0 else zv_I h 347 27) ∧ 0 ≤ zv_I h' 347 35 ∧ zv_I h' 347 35 ≤ 999) := by
    intro v hv hvn
    have f1 : zm_F [] [3, 4] h (zv_sI (zv_sI h 347 4 0) 347 3 v) := zm_F_f (zm_F_f (zm_F_r _ _ h) rfl _) rfl _
    rw [qL9_load_18]
    refine zm_gb (zm_is hM _ v) (fun hvx => ?_) (fun hv0 => ?_)
    · dsimp only
      exact zm_iI ⟨zm_F_s f1 rfl rfl, by rw [zm_F_a f1 348]; exact w, by rw [zm_F_g f1 27, if_neg (hvn hvx)], by rw [zm_F_g f1 35]; exact hn⟩
    dsimp only
    obtain ⟨n0, n1⟩ := hv hv0
    generalize zv_sI (zv_sI h 347 4 0) 347 3 v = h1 at f1
    have hM1 := zm_F_M f1 hM
    rw [zm_e (zm_pI hM1 36 n)]
    have I2 : ∀ k, zv_I (zv_sI h1 347 36 n) 347 k = if k = 36 then n else zv_I h1 347 k := fun k => zm_sgI _ _ _ _
    have f2 : zm_F [] [36] h1 (zv_sI h1 347 36 n) := zm_F_f (zm_F_r _ _ h1) rfl _
    generalize zv_sI h1 347 36 n = h2 at I2 f2
    have hM2 := zm_F_M f2 hM1
    rw [zm_e (zm_pI hM2 33 0)]
    have I3 : ∀ k, zv_I (zv_sI h2 347 33 0) 347 k = if k = 33 then 0 else zv_I h2 347 k := fun k => zm_sgI _ _ _ _
    have f3 : zm_F [] [33] h2 (zv_sI h2 347 33 0) := zm_F_f (zm_F_r _ _ h2) rfl _
    generalize zv_sI h2 347 33 0 = h3 at I3 f3
    have hM3 := zm_F_M f3 hM2
    rw [zm_e (zm_pI hM3 30 0)]
    have I4 : ∀ k, zv_I (zv_sI h3 347 30 0) 347 k = if k = 30 then 0 else zv_I h3 347 k := fun k => zm_sgI _ _ _ _
    have f4 : zm_F [] [30] h3 (zv_sI h3 347 30 0) := zm_F_f (zm_F_r _ _ h3) rfl _
    generalize zv_sI h3 347 30 0 = h4 at I4 f4
    have hM4 := zm_F_M f4 hM3
    rw [zm_e (zm_pI hM4 37 0)]
    have I5 : ∀ k, zv_I (zv_sI h4 347 37 0) 347 k = if k = 37 then 0 else zv_I h4 347 k := fun k => zm_sgI _ _ _ _
    have f5 : zm_F [] [37] h4 (zv_sI h4 347 37 0) := zm_F_f (zm_F_r _ _ h4) rfl _
    generalize zv_sI h4 347 37 0 = h5 at I5 f5
    have hM5 := zm_F_M f5 hM4
    have F5 : zm_F [] [3, 4, 30, 33, 36, 37] h h5 := zm_F_t (zm_F_s f1 rfl rfl) (zm_F_t (zm_F_s f2 rfl rfl) (zm_F_t (zm_F_s f3 rfl rfl) (zm_F_t (zm_F_s f4 rfl rfl) (zm_F_s f5 rfl rfl))))
    obtain ⟨h6, i6, f6, k6⟩ := zm_load48 (d + 27) 4236 0 h5 rfl hM5 (fun k hk => by omega)
    have hM6 := zm_F_M f6 hM5
    obtain ⟨h7, e7, f7, O7, c7⟩ := zm_clears hM6 (d + 25)
    have hM7 := zm_F_M f7 hM6
    have F7 : zm_F [348, 349] [3, 4, 30, 33, 36, 37] h h7 := zm_F_t (zm_F_s F5 rfl rfl) (zm_F_t (zm_F_s f6 rfl rfl) (zm_F_s f7 rfl rfl))
    have v36 : zv_I h7 347 36 = n := by rw [zm_F_g f7 36, zm_F_g f6 36, I5, if_neg (by decide), I4, if_neg (by decide), I3, if_neg (by decide), I2, if_pos rfl]
    have v33 : zv_I h7 347 33 = 0 := by rw [zm_F_g f7 33, zm_F_g f6 33, I5, if_neg (by decide), I4, if_neg (by decide), I3, if_pos rfl]
    have v30 : zv_I h7 347 30 = 0 := by rw [zm_F_g f7 30, zm_F_g f6 30, I5, if_neg (by decide), I4, if_pos rfl]
    have v37 : zv_I h7 347 37 = 0 := by rw [zm_F_g f7 37, zm_F_g f6 37, I5, if_pos rfl]
    have v35 : zv_I h7 347 35 = zv_I h 347 35 := zm_F_g F7 35
    obtain ⟨h8, e8, f8, r8, p8⟩ := zm_reads (d + 22) hM7 (by rw [v36]; omega) (by rw [v33, v36]; omega) (by rw [v35]; exact hn)
    have hM8 := zm_F_M f8 hM7
    have w8 : zv_I h8 347 30 = 0 := (zm_F_g f8 30).trans v30
    have l8 : zm_Ld (zv_I h 348) h h8 := by
      refine ⟨zm_F_t (zm_F_s F7 rfl rfl) (zm_F_s f8 rfl rfl), ⟨r8, zm_K_F (zm_K_F K F7) f8⟩, by rw [w8]; exact Int.le_refl _, fun k hk => ?_⟩
      rw [zm_F_a f8 349, zm_F_a f7 349, k6 k hk, zm_F_a F5 348]
    have d8 : zv_I h8 347 37 = 0 := (zm_F_g f8 37).trans v37
    have c8 : zv_I h8 348 = zv_I h7 348 := zm_F_a f8 348
    have fin : ∀ r : Option zv_V × zv_H, zm_I (zm_Lp h) r → zm_I (fun _ h' => zm_F [348, 349, 351, 352, 353, 354, 355, 358, 359, 360, 362, 363, 364, 365] [3, 4, 10, 11, 12, 19, 24, 27, 28, 29, 30, 31, 32, 33, 34, 35, 36, 37, 38, 42, 43] h h' ∧ zm_W (zv_I h' 348) ∧ (zv_I h' 347 27 = if 0 ≤ n ∧ n ≤ zv_I h 347 27 then 0 else zv_I h 347 27) ∧ 0 ≤ zv_I h' 347 35 ∧ zv_I h' 347 35 ≤ 999) r := by
      rintro ⟨ov, h'⟩ ⟨v', ev, q1, q2, q3, q4⟩
      exact ⟨v', ev, q1, q2, by rw [q3, if_pos (show 0 ≤ n ∧ n ≤ zv_I h 347 27 from ⟨n0, n1⟩)], q4⟩
    obtain ⟨k, ek, qk⟩ := zm_which hM8 (d + 26) zm_l368 rfl (by decide)
    rw [show L9_load_48 (d + 27) 347 0 h5 = _ from i6, qL9_load_48, if_neg (by decide), zm_e e7, zm_e e8, zm_e (zm_f40 hM8), zm_e ek]
    dsimp only
    refine zm_if (fun hk => ?_) (fun _ => zm_mono (zm_load156 d w hM l8 d8 (fun _ => ⟨0, by decide, by rw [c8]; exact O7, by rw [c8]; exact c7⟩)) fin)
    rcases qk with z | ⟨z1, z2, z3, z4⟩
    · rw [z] at hk
      exact absurd hk (by decide)
    · obtain ⟨h9, e9, f9, r9, p9, w9⟩ := zm_rd (d + 22) hM8 r8 (by rw [z2]; decide)
      have hM9 := zm_F_M f9 hM8
      have w9' : 0 ≤ zv_I h9 347 30 := by rw [w9, w8]; exact Int.le_refl _
      obtain ⟨h10, e10, f10, ok10, m10⟩ := zm_takesWord hM9 (d + 21) r9 w9' (most := 40) (by decide)
      obtain ⟨o1, o2, o3⟩ := ok10
      rw [zm_e e9, zm_e e10]
      have l9 := zm_Ld_n l8 f9 rfl rfl rfl r9 w9'
      have l10 := zm_Ld_n l9 f10 rfl rfl rfl o1 o2
      refine zm_mono (zm_load104 d w hM 40 0 h10 l10 ((zm_F_g f10 37).trans ((zm_F_g f9 37).trans d8)) (fun z => ?_)) fin
      have hm := m10 z
      refine ⟨hm, hm.1, by omega, 0, ?_, ?_⟩
      · rw [zm_F_a f10 348, zm_F_a f9 348, c8]
        exact O7
      · rw [zm_F_a f10 348, zm_F_a f9 348, c8]
        exact c7
  rw [qE9_load, zm_e (zm_gI hM 27)]
  exact zm_gb (zm_isIn _ n 0 _) (fun hin => l18 1 (fun q => by cases q) (fun _ => hin)) (fun hin => l18 0 (fun _ => hin) (fun q => absurd rfl q))
