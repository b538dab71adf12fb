/-! 59.small -/
section
/-! ===== the reference: counts, the free state, visits ===== -/
theorem zm_sum_b {f : Nat → Int} {a b : Int} : ∀ n : Nat, (∀ k, k < n → a ≤ f k ∧ f k ≤ b) → n * a ≤ zm_sum f n ∧ zm_sum f n ≤ n * b
  | 0, _ => by
    show ((0 : Nat) : Int) * a ≤ 0 ∧ 0 ≤ ((0 : Nat) : Int) * b
    omega
  | n + 1, hf => by
    have h1 := zm_sum_b n (fun k hk => hf k (by omega))
    have h2 := hf n (by omega)
    show ((n + 1 : Nat) : Int) * a ≤ zm_sum f n + f n ∧ zm_sum f n + f n ≤ ((n + 1 : Nat) : Int) * b
    rw [Int.natCast_add, Int.add_mul, Int.add_mul]
    omega
theorem zm_sum_cg {f g : Nat → Int} : ∀ n : Nat, (∀ k, k < n → f k = g k) → zm_sum f n = zm_sum g n
  | 0, _ => rfl
  | n + 1, h => by
    show zm_sum f n + f n = zm_sum g n + g n
    rw [zm_sum_cg n (fun k hk => h k (by omega)), h n (by omega)]
theorem zm_sum_0 {f : Nat → Int} : ∀ n : Nat, (∀ k, k < n → 0 ≤ f k) → zm_sum f n = 0 → ∀ k, k < n → f k = 0
  | 0, _, _, k, hk => by omega
  | n + 1, hf, h, k, hk => by
    have h1 : zm_sum f n + f n = 0 := h
    have h2 := hf n (by omega)
    have h4 : 0 ≤ zm_sum f n := by
      clear h1 h h2
      have : ∀ m : Nat, m ≤ n → 0 ≤ zm_sum f m := by
        intro m
        induction m with
        | zero => exact fun _ => Int.le_refl _
        | succ m ih =>
          intro hm
          have a1 := ih (by omega)
          have a2 := hf m (by omega)
          show 0 ≤ zm_sum f m + f m
          omega
      exact this n (Nat.le_refl _)
    by_cases e : k = n
    · rw [e]
      omega
    · exact zm_sum_0 n (fun j hj => hf j (by omega)) (by omega) k (by omega)
/-- how many states -/
def zm_nst (c : Nat → Int) : Int := zm_sum (fun k => zm_o c k 0) 48
theorem zm_states_l {h : zv_H} (hM : zm_M h) (d : Nat) (h01 : ∀ s, 0 ≤ s → s ≤ 47 → zm_o (zv_I h 348) s 0 = 0 ∨ zm_o (zv_I h 348) s 0 = 1) : ∀ m i : Nat, i + m = 48 → L9_states_4 (d + 1) 347 (zm_sum (fun k => zm_o (zv_I h 348) k 0) i) i h = some (some (zv_i (zm_nst (zv_I h 348))), h)
  | 0, i, hi => by
    have e : i = 48 := by omega
    rw [qL9_states_4, if_neg (by omega), e]
    rfl
  | m + 1, i, hi => by
    have b1 := zm_sum_b (f := fun k => zm_o (zv_I h 348) k 0) (a := 0) (b := 1) i (fun k hk => by
      rcases h01 k (by omega) (by omega) with q | q
      · rw [q]
        omega
      · rw [q]
        omega)
    have b2 := h01 i (by omega) (by omega)
    rw [qL9_states_4, if_pos (by omega), zm_e (zm_of hM d (by omega) (by decide)), zm_w (x := (i : Int) + 1) (by omega)]
    dsimp only
    rw [zm_w (by omega)]
    exact zm_states_l hM d h01 m (i + 1) (by omega)
theorem zm_states {h : zv_H} (hM : zm_M h) (d : Nat) (h01 : ∀ s, 0 ≤ s → s ≤ 47 → zm_o (zv_I h 348) s 0 = 0 ∨ zm_o (zv_I h 348) s 0 = 1) : C9_states (d + 2) 347 h = some (zm_nst (zv_I h 348), h) := by
  refine lC9_states (zm_ob hM) ?_
  rw [qE9_states]
  exact zm_states_l hM d h01 48 0 rfl
theorem zm_freeState_l {h : zv_H} (hM : zm_M h) (d : Nat) : ∀ m i : Nat, i + m = 48 → (∀ j : Int, 0 ≤ j → j < i → zm_o (zv_I h 348) j 0 = 1) → ∃ v : Int, L9_freeState_2 (d + 1) 347 i h = some (some (zv_i v), h) ∧ (0 ≤ v ∧ v ≤ 48) ∧ (∀ j : Int, 0 ≤ j → j < v → zm_o (zv_I h 348) j 0 = 1) ∧ (v ≤ 47 → zm_o (zv_I h 348) v 0 ≠ 1)
  | 0, i, hi, hj => by
    rw [qL9_freeState_2, if_neg (by omega)]
    exact ⟨i, rfl, by omega, hj, fun q => by omega⟩
  | m + 1, i, hi, hj => by
    rw [qL9_freeState_2, if_pos (by omega), zm_e (zm_of hM d (by omega) (by decide))]
    dsimp only
    by_cases c1 : zm_o (zv_I h 348) i 0 = 1
    · rw [if_pos c1, zm_w (by omega)]
      exact zm_freeState_l hM d m (i + 1) (by omega) (fun j h0 h1 => by
        by_cases e : j = i
        · rw [e]
          exact c1
        · exact hj j h0 (by omega))
    · rw [if_neg c1]
      exact ⟨i, rfl, by omega, hj, fun _ => c1⟩
theorem zm_freeState {h : zv_H} (hM : zm_M h) (d : Nat) : ∃ v : Int, C9_freeState (d + 2) 347 h = some (v, h) ∧ (0 ≤ v ∧ v ≤ 48) ∧ (∀ j : Int, 0 ≤ j → j < v → zm_o (zv_I h 348) j 0 = 1) ∧ (v ≤ 47 → zm_o (zv_I h 348) v 0 ≠ 1) := by
  obtain ⟨v, e, r⟩ := zm_freeState_l hM d 48 0 rfl (fun j h0 h1 => by omega)
  refine ⟨v, lC9_freeState (zm_ob hM) ?_, r⟩
  rw [qE9_freeState]
  exact e
theorem zm_nst_48 {c : Nat → Int} (h : ∀ j : Int, 0 ≤ j → j < 48 → zm_o c j 0 = 1) : zm_nst c = 48 := by
  have : zm_nst c = zm_sum (fun _ => 1) 48 := zm_sum_cg 48 (fun k hk => h k (by omega) (by omega))
  rw [this]
  rfl
/-- a state that lives not, where there is one -/
theorem zm_free {h : zv_H} (hM : zm_M h) (d : Nat) (hn : zm_nst (zv_I h 348) ≠ 48) : ∃ v : Int, C9_freeState (d + 2) 347 h = some (v, h) ∧ (0 ≤ v ∧ v ≤ 47) ∧ (∀ j : Int, 0 ≤ j → j < v → zm_o (zv_I h 348) j 0 = 1) ∧ zm_o (zv_I h 348) v 0 ≠ 1 := by
  obtain ⟨v, e, r1, r2, r3⟩ := zm_freeState hM d
  have : v ≠ 48 := fun q => hn (zm_nst_48 (by rw [q] at r2; exact r2))
  exact ⟨v, e, by omega, r2, r3 (by omega)⟩
/-- how many children -/
def zm_nch (c : Nat → Int) (s : Int) : Int := zm_sum (fun k => if zm_st c k ∧ zm_o c k 1 = s then 1 else 0) 48
theorem zm_childrenOf_l {h : zv_H} (hM : zm_M h) (d : Nat) (s : Int) : ∀ m i : Nat, i + m = 48 → L9_childrenOf_4 (d + 2) 347 s (zm_sum (fun k => if zm_st (zv_I h 348) k ∧ zm_o (zv_I h 348) k 1 = s then 1 else 0) i) i h = some (some (zv_i (zm_nch (zv_I h 348) s)), h)
  | 0, i, hi => by
    have e : i = 48 := by omega
    rw [qL9_childrenOf_4, if_neg (by omega), e]
    rfl
  | m + 1, i, hi => by
    have b1 := zm_sum_b (f := fun k => if zm_st (zv_I h 348) k ∧ zm_o (zv_I h 348) k 1 = s then (1 : Int) else 0) (a := 0) (b := 1) i (fun k hk => by
      split
      · omega
      · omega)
    have ih := zm_childrenOf_l hM d s m (i + 1) (by omega)
    have ex : zm_sum (fun k => if zm_st (zv_I h 348) k ∧ zm_o (zv_I h 348) k 1 = s then (1 : Int) else 0) (i + 1) = zm_sum (fun k => if zm_st (zv_I h 348) k ∧ zm_o (zv_I h 348) k 1 = s then (1 : Int) else 0) i + (if zm_st (zv_I h 348) i ∧ zm_o (zv_I h 348) i 1 = s then 1 else 0) := rfl
    rw [ex] at ih
    rw [qL9_childrenOf_4, if_pos (by omega), zm_e (zm_isState hM d i), zm_w (x := (i : Int) + 1) (by omega)]
    dsimp only
    by_cases c1 : zm_st (zv_I h 348) i
    · rw [if_pos c1, if_neg (by decide), zm_e (zm_of hM _ (by omega) (by decide))]
      dsimp only
      by_cases c2 : zm_o (zv_I h 348) i 1 = s
      · rw [if_pos c2, zm_w (by omega)]
        rw [if_pos (show zm_st (zv_I h 348) i ∧ zm_o (zv_I h 348) i 1 = s from ⟨c1, c2⟩)] at ih
        exact ih
      · rw [if_neg c2, zm_w (by omega)]
        rw [if_neg (show ¬ (zm_st (zv_I h 348) i ∧ zm_o (zv_I h 348) i 1 = s) from fun q => c2 q.2)] at ih
        exact ih
    · rw [if_neg c1, if_pos rfl, zm_w (by omega)]
      rw [if_neg (show ¬ (zm_st (zv_I h 348) i ∧ zm_o (zv_I h 348) i 1 = s) from fun q => c1 q.1)] at ih
      exact ih
theorem zm_childrenOf {h : zv_H} (hM : zm_M h) (d : Nat) (s : Int) : C9_childrenOf (d + 3) 347 s h = some (zm_nch (zv_I h 348) s, h) := by
  refine lC9_childrenOf (zm_ob hM) ?_
  rw [qE9_childrenOf]
  exact zm_childrenOf_l hM d s 48 0 rfl
theorem zm_nch_0 {c : Nat → Int} {s : Int} (h : zm_nch c s ≤ 0) {t : Int} (ht : zm_st c t) : zm_o c t 1 ≠ s := by
  intro e
  have hp : ∀ k : Nat, k < 48 → (0 : Int) ≤ (fun k : Nat => if zm_st c k ∧ zm_o c k 1 = s then (1 : Int) else 0) k := by
    intro k _
    dsimp only
    split
    · omega
    · omega
  have h0 : (0 : Int) ≤ zm_nch c s := by
    have := (zm_sum_b (f := fun k : Nat => if zm_st c k ∧ zm_o c k 1 = s then (1 : Int) else 0) (a := 0) (b := 1) 48 (fun k _ => by
      split
      · omega
      · omega)).1
    unfold zm_nch
    omega
  have h2 := zm_sum_0 48 hp (by show zm_nch c s = 0; omega) t.toNat (by omega)
  rw [show ((t.toNat : Nat) : Int) = t by omega, if_pos (show zm_st c t ∧ zm_o c t 1 = s from ⟨ht, e⟩)] at h2
  cases h2
/-! a visit -/
def zm_vc (c : Nat → Int) (s : Int) : Nat → Int := fun k => if k = 5 then (if c 5 < 40 then zv_w (c 5 + 1) else 40) else if k = 4157 then c 1 else if k = 4156 then s else if 4158 ≤ k ∧ k < 4236 then c (k - 2) else if k = 432 + 76 * s.toNat + 7 then zv_w (c 2 + 1) else if k = 2 then zv_w (c 2 + 1) else if k = 0 then s else c k
theorem zm_visits_l (d : Nat) (s : Int) (c : Nat → Int) : ∀ (m : Nat) (h : zv_H), m ≤ 78 → zm_M h → zv_I h 348 = (fun k => if 4158 + m ≤ k ∧ k < 4236 then c (k - 2) else c k) → ∃ h', L9_visits_42 d 347 s ((m : Int) + 1) h = L9_visits_42 d 347 s 1 h' ∧ zm_F [348] [] h h' ∧ zv_I h' 348 = (fun k => if 4158 ≤ k ∧ k < 4236 then c (k - 2) else c k)
  | 0, h, _, _, hc => ⟨h, rfl, zm_F_r _ _ h, hc⟩
  | m + 1, h, hm, hM, hc => by
    have w1 : zv_w (zv_w (4156 + (((m + 1 : Nat) : Int) + 1)) - 2) = 4156 + (m : Int) := by
      rw [zm_w (x := 4156 + (((m + 1 : Nat) : Int) + 1)) (by omega), zm_w (by omega)]
      omega
    have w2 : zv_w (4156 + (((m + 1 : Nat) : Int) + 1)) = 4158 + (m : Int) := by
      rw [zm_w (by omega)]
      omega
    have w3 : zv_w (((m + 1 : Nat) : Int) + 1 + -1) = (m : Int) + 1 := by
      rw [zm_w (by omega)]
      omega
    have rd : zv_I h 348 (4156 + (m : Int)).toNat = c (4156 + m) := by
      rw [hc]
      dsimp only
      rw [if_neg (by omega), show (4156 + (m : Int)).toNat = 4156 + m by omega]
    rw [qL9_visits_42, if_neg (by omega), zm_e (zm_f0 hM), zm_e (zm_f0 hM), w1, zm_e (zm_aI hM zm_l348 rfl (by omega) (by omega)), rd, w2, zm_e (zm_wI hM zm_l348 rfl (by omega) (by omega) _), w3]
    obtain ⟨h', i1, i2, i3⟩ := zm_visits_l d s c m (zv_sI h 348 (4158 + (m : Int)).toNat (c (4156 + m))) (by omega) hM (by
      rw [zm_ss, hc]
      funext k
      unfold zm_u
      dsimp only
      by_cases q : k = (4158 + (m : Int)).toNat
      · rw [if_pos q, if_pos (by omega), show k - 2 = 4156 + m by omega]
      · rw [if_neg q]
        by_cases q2 : 4158 + (m + 1) ≤ k ∧ k < 4236
        · rw [if_pos q2, if_pos (by omega)]
        · rw [if_neg q2, if_neg (by omega)])
    exact ⟨h', i1, zm_F_t (zm_F_I (zm_F_r _ _ h) rfl _ _) i2, i3⟩
theorem zm_visits {h : zv_H} {c : Nat → Int} (hM : zm_M h) (hc : zv_I h 348 = c) (d : Nat) {s : Int} (hs : 0 ≤ s ∧ s ≤ 47) : zm_R (C9_visits (d + 2) 347 s h) (fun h' => zm_F [348] [] h h' ∧ zv_I h' 348 = if s = c 0 then c else zm_vc c s) := by
  refine zm_cV (lC9_visits (zm_ob hM)) ?_
  rw [qE9_visits, zm_e (zm_here hM d), hc]
  dsimp only
  by_cases c1 : s = c 0
  · rw [if_pos c1, if_pos c1]
    exact zm_iV ⟨zm_F_r _ _ h, hc⟩
  · rw [if_neg c1, if_neg c1, zm_e (zm_f0 hM), zm_e (zm_wI hM zm_l348 rfl (by decide) (by decide) _)]
    have hM1 : zm_M (zv_sI h 348 (Int.toNat 0) s) := hM
    rw [zm_e (zm_f0 hM1), zm_e (zm_aI hM1 zm_l348 rfl (by decide) (by decide)), zm_ss, hc, zm_u_o _ _ (by decide), zm_e (zm_wI hM1 zm_l348 rfl (by decide) (by decide) _)]
    have hM2 : zm_M (zv_sI (zv_sI h 348 (Int.toNat 0) s) 348 (Int.toNat 2) (zv_w (c (Int.toNat 2) + 1))) := hM
    rw [zm_e (zm_f0 hM2), zm_e (zm_aI hM2 zm_l348 rfl (by decide) (by decide)), zm_ss, zm_u_s, zm_e (zm_sets hM2 _ (by omega) (by decide) _)]
    have hM3 : zm_M (zv_sI (zv_sI (zv_sI h 348 (Int.toNat 0) s) 348 (Int.toNat 2) (zv_w (c (Int.toNat 2) + 1))) 348 (432 + 76 * s.toNat + Int.toNat 7) (zv_w (c (Int.toNat 2) + 1))) := hM
    have f3 : zm_F [348] [] h (zv_sI (zv_sI (zv_sI h 348 (Int.toNat 0) s) 348 (Int.toNat 2) (zv_w (c (Int.toNat 2) + 1))) 348 (432 + 76 * s.toNat + Int.toNat 7) (zv_w (c (Int.toNat 2) + 1))) := zm_F_I (zm_F_I (zm_F_I (zm_F_r _ _ h) rfl _ _) rfl _ _) rfl _ _
    generalize e3 : zv_sI (zv_sI (zv_sI h 348 (Int.toNat 0) s) 348 (Int.toNat 2) (zv_w (c (Int.toNat 2) + 1))) 348 (432 + 76 * s.toNat + Int.toNat 7) (zv_w (c (Int.toNat 2) + 1)) = h3 at hM3 f3
    have c3 : zv_I h3 348 = zm_u (zm_u (zm_u c 0 s) 2 (zv_w (c 2 + 1))) (432 + 76 * s.toNat + 7) (zv_w (c 2 + 1)) := by
      rw [← e3, zm_ss, zm_ss, zm_ss, hc]
      rfl
    obtain ⟨h4, i1, i2, i3⟩ := zm_visits_l (d + 1) s (zv_I h3 348) 78 h3 (by decide) hM3 (by
      funext k
      rw [if_neg (by omega)])
    have hM4 := zm_F_M i2 hM3
    have r5 : zv_I h4 348 5 = c 5 := by
      rw [i3]
      dsimp only
      rw [if_neg (by decide), c3, zm_u_o _ _ (by omega), zm_u_o _ _ (by decide), zm_u_o _ _ (by decide)]
    have r1 : zv_I h4 348 1 = c 1 := by
      rw [i3]
      dsimp only
      rw [if_neg (by decide), c3, zm_u_o _ _ (by omega), zm_u_o _ _ (by decide), zm_u_o _ _ (by decide)]
    rw [show L9_visits_42 (d + 1) 347 s 79 h3 = _ from i1, qL9_visits_42, if_pos (by decide), zm_e (zm_f0 hM4), zm_e (zm_wI hM4 zm_l348 rfl (by decide) (by decide) _)]
    have hM5 : zm_M (zv_sI h4 348 (Int.toNat 4156) s) := hM4
    rw [zm_e (zm_f0 hM5), zm_e (zm_f0 hM5), zm_e (zm_aI hM5 zm_l348 rfl (by decide) (by decide)), zm_ss, zm_u_o _ _ (by decide), show zv_I h4 348 (Int.toNat 1) = c 1 from r1, zm_e (zm_wI hM5 zm_l348 rfl (by decide) (by decide) _)]
    have hM6 : zm_M (zv_sI (zv_sI h4 348 (Int.toNat 4156) s) 348 (Int.toNat 4157) (c 1)) := hM4
    have f6 : zm_F [348] [] h4 (zv_sI (zv_sI h4 348 (Int.toNat 4156) s) 348 (Int.toNat 4157) (c 1)) := zm_F_I (zm_F_I (zm_F_r _ _ h4) rfl _ _) rfl _ _
    have c6 : zv_I (zv_sI (zv_sI h4 348 (Int.toNat 4156) s) 348 (Int.toNat 4157) (c 1)) 348 = zm_u (zm_u (zv_I h4 348) 4156 s) 4157 (c 1) := by
      rw [zm_ss, zm_ss]
      rfl
    rw [zm_e (zm_f0 hM6), zm_e (zm_f0 hM6), zm_e (zm_aI hM6 zm_l348 rfl (by decide) (by decide)), c6, zm_u_o _ _ (by decide), zm_u_o _ _ (by decide), show zv_I h4 348 (Int.toNat 5) = c 5 from r5]
    have fin : ∀ v : Int, v = (if c 5 < 40 then zv_w (c 5 + 1) else 40) → zm_R (some ((none : Option zv_V), zv_sI (zv_sI (zv_sI h4 348 (Int.toNat 4156) s) 348 (Int.toNat 4157) (c 1)) 348 (Int.toNat 5) v)) (zm_V fun h' => zm_F [348] [] h h' ∧ zv_I h' 348 = zm_vc c s) := by
      intro v hv
      refine zm_iV ⟨zm_F_I (zm_F_t f3 (zm_F_t i2 f6)) rfl _ _, ?_⟩
      rw [zm_ss, c6, i3, c3, hv]
      funext k
      unfold zm_vc zm_u
      dsimp only
      by_cases q1 : k = 5
      · rw [if_pos q1, if_pos (show k = Int.toNat 5 from q1)]
      · rw [if_neg q1, if_neg (show ¬ k = Int.toNat 5 from q1)]
        by_cases q2 : k = 4157
        · rw [if_pos q2, if_pos q2]
        · rw [if_neg q2, if_neg q2]
          by_cases q3 : k = 4156
          · rw [if_pos q3, if_pos q3]
          · rw [if_neg q3, if_neg q3]
            by_cases q4 : 4158 ≤ k ∧ k < 4236
            · rw [if_pos q4, if_pos q4, if_neg (by omega), if_neg (by omega), if_neg (by omega)]
            · rw [if_neg q4, if_neg q4]
    by_cases c5 : c 5 < 40
    · rw [if_pos c5, zm_e (zm_f0 hM6), zm_e (zm_aI hM6 zm_l348 rfl (by decide) (by decide)), c6, zm_u_o _ _ (by decide), zm_u_o _ _ (by decide), show zv_I h4 348 (Int.toNat 5) = c 5 from r5, zm_e (zm_wI hM6 zm_l348 rfl (by decide) (by decide) _)]
      exact fin _ (by rw [if_pos c5])
    · rw [if_neg c5, zm_e (zm_wI hM6 zm_l348 rfl (by decide) (by decide) _)]
      exact fin _ (by rw [if_neg c5])
end
/-! 60.tree -/
section
/-! ===== the reference: latest, children, the way ===== -/
/-- every state has its line -/
def zm_WL (c : Nat → Int) : Prop := ∀ k, zm_st c k → ∃ l, zm_Ln c l k
theorem zm_WL_of {c : Nat → Int} (w : zm_Wt c) : zm_WL c := by
  intro k hk
  obtain ⟨l, hl⟩ := w.2.2 k hk
  exact ⟨k :: l, hl.1⟩
theorem zm_latestIn_l {h : zv_H} (hM : zm_M h) (hL : zm_WL (zv_I h 348)) (d : Nat) (s : Int) : ∀ (m i : Nat) (v : Int), i + m = 48 → ∃ r : Int, L9_latestIn_10 (d + 2) 347 s v i h = some (some (zv_i r), h)
  | 0, i, v, hi => ⟨v, by rw [qL9_latestIn_10, if_neg (by omega)]⟩
  | m + 1, i, v, hi => by
    rw [qL9_latestIn_10, if_pos (by omega), zm_e (zm_isState hM d i), zm_w (x := (i : Int) + 1) (by omega)]
    dsimp only
    by_cases c1 : zm_st (zv_I h 348) i
    · rw [if_pos c1, if_neg (by decide), zm_e (zm_of hM _ (by omega) (by decide))]
      dsimp only
      by_cases c2 : zm_o (zv_I h 348) i 7 ≤ v
      · rw [if_pos c2]
        exact zm_latestIn_l hM hL d s m (i + 1) v (by omega)
      · obtain ⟨l, hl⟩ := hL _ c1
        rw [if_neg c2, zm_e (zm_isOfLine hM d s hl)]
        dsimp only
        by_cases c3 : s ∈ l
        · rw [if_pos c3, if_neg (by decide), zm_e (zm_of hM _ (by omega) (by decide))]
          exact zm_latestIn_l hM hL d s m (i + 1) _ (by omega)
        · rw [if_neg c3, if_pos rfl]
          exact zm_latestIn_l hM hL d s m (i + 1) v (by omega)
    · rw [if_neg c1, if_pos rfl]
      exact zm_latestIn_l hM hL d s m (i + 1) v (by omega)
theorem zm_latestIn {h : zv_H} (hM : zm_M h) (hL : zm_WL (zv_I h 348)) (d : Nat) {s : Int} (hs : 0 ≤ s ∧ s ≤ 48) : ∃ r : Int, C9_latestIn (d + 3) 347 s h = some (r, h) := by
  obtain ⟨r, e⟩ := zm_latestIn_l hM hL d s 48 0 (zm_o (zv_I h 348) s 7) rfl
  refine ⟨r, lC9_latestIn (zm_ob hM) ?_⟩
  rw [qE9_latestIn, zm_e (zm_of hM _ hs (by decide))]
  exact e
theorem zm_childOf_35 {h : zv_H} (hM : zm_M h) (hL : zm_WL (zv_I h 348)) (d : Nat) (s n k : Int) (hk : 0 ≤ k ∧ k ≤ 47) : ∀ (m i : Nat) (a : Int), i + m = 48 → 0 ≤ a ∧ a ≤ i → ∃ a' : Int, L9_childOf_35 (d + 3) 347 s n k a i h = if a' = n then some (some (zv_i k), h) else L9_childOf_2 (d + 3) 347 s n (k + 1) h
  | 0, i, a, hi, _ => ⟨a, by rw [qL9_childOf_35, if_neg (by omega), zm_w (by omega)]⟩
  | m + 1, i, a, hi, ha => by
    rw [qL9_childOf_35, if_pos (by omega), zm_e (zm_isState hM _ i), zm_w (x := (i : Int) + 1) (by omega), zm_w (x := a + 0) (by omega), zm_w (x := a + 1) (by omega)]
    dsimp only
    by_cases c1 : zm_st (zv_I h 348) i
    · rw [if_pos c1, if_neg (by decide), zm_e (zm_of hM _ (by omega) (by decide))]
      dsimp only
      by_cases c2 : zm_o (zv_I h 348) i 1 = s
      · obtain ⟨r1, e1⟩ := zm_latestIn hM hL d (s := i) (by omega)
        obtain ⟨r2, e2⟩ := zm_latestIn hM hL d (s := k) (by omega)
        rw [if_pos c2, zm_e e1]
        dsimp only
        rw [zm_e e2]
        dsimp only
        by_cases c3 : r1 ≤ r2
        · rw [if_pos c3]
          exact zm_childOf_35 hM hL d s n k hk m (i + 1) _ (by omega) (by omega)
        · rw [if_neg c3]
          exact zm_childOf_35 hM hL d s n k hk m (i + 1) _ (by omega) (by omega)
      · rw [if_neg c2]
        exact zm_childOf_35 hM hL d s n k hk m (i + 1) _ (by omega) (by omega)
    · rw [if_neg c1, if_pos rfl]
      exact zm_childOf_35 hM hL d s n k hk m (i + 1) _ (by omega) (by omega)
theorem zm_childOf_l {h : zv_H} (hM : zm_M h) (hL : zm_WL (zv_I h 348)) (d : Nat) (s n : Int) : ∀ (m i : Nat), i + m = 48 → ∃ r : Int, L9_childOf_2 (d + 3) 347 s n i h = some (some (zv_i r), h) ∧ (r = -1 ∨ (zm_st (zv_I h 348) r ∧ zm_o (zv_I h 348) r 1 = s))
  | 0, i, hi => ⟨-1, by rw [qL9_childOf_2, if_neg (by omega)], Or.inl rfl⟩
  | m + 1, i, hi => by
    rw [qL9_childOf_2, if_pos (by omega), zm_e (zm_isState hM _ i), zm_w (x := (i : Int) + 1) (by omega)]
    dsimp only
    by_cases c1 : zm_st (zv_I h 348) i
    · rw [if_pos c1, if_neg (by decide), zm_e (zm_of hM _ (by omega) (by decide))]
      dsimp only
      by_cases c2 : zm_o (zv_I h 348) i 1 = s
      · obtain ⟨a', e⟩ := zm_childOf_35 hM hL d s n i (by omega) 48 0 0 rfl (by omega)
        rw [if_pos c2, show L9_childOf_35 (d + 3) 347 s n i 0 0 h = _ from e]
        by_cases c3 : a' = n
        · rw [if_pos c3]
          exact ⟨i, rfl, Or.inr ⟨c1, c2⟩⟩
        · rw [if_neg c3]
          exact zm_childOf_l hM hL d s n m (i + 1) (by omega)
      · rw [if_neg c2]
        exact zm_childOf_l hM hL d s n m (i + 1) (by omega)
    · rw [if_neg c1, if_pos rfl]
      exact zm_childOf_l hM hL d s n m (i + 1) (by omega)
theorem zm_childOf {h : zv_H} (hM : zm_M h) (hL : zm_WL (zv_I h 348)) (d : Nat) (s n : Int) : ∃ r : Int, C9_childOf (d + 4) 347 s n h = some (r, h) ∧ (r = -1 ∨ (zm_st (zv_I h 348) r ∧ zm_o (zv_I h 348) r 1 = s)) := by
  obtain ⟨r, e, q⟩ := zm_childOf_l hM hL d s n 48 0 rfl
  refine ⟨r, lC9_childOf (zm_ob hM) ?_, q⟩
  rw [qE9_childOf]
  exact e
/-- the nearest of two lines -/
theorem zm_commonOf_l {h : zv_H} (hM : zm_M h) (d : Nat) {t : Int} {lt : List Int} (hlt : zm_Ln (zv_I h 348) lt t) (h0 : 0 ∈ lt) : ∀ {l : List Int} {s : Int}, zm_Ln (zv_I h 348) l s → 0 ∈ l → ∃ r : Int, L9_commonOf_2 (d + 2) 347 t s h = some (some (zv_i r), h) ∧ r ∈ l ∧ r ∈ lt
  | [], _, _, hz => by cases hz
  | u :: l, s, hl, hz => by
    obtain ⟨⟨e, hu⟩, hl'⟩ := hl
    subst e
    rw [qL9_commonOf_2, zm_e (zm_isOfLine hM d s hlt)]
    dsimp only
    by_cases c1 : s ∈ lt
    · rw [if_pos c1, if_neg (by decide)]
      exact ⟨s, rfl, List.mem_cons_self, c1⟩
    · rw [if_neg c1, if_pos rfl, zm_e (zm_of hM _ hu (by decide))]
      have hz2 : 0 ∈ l := by
        rcases List.mem_cons.mp hz with q | q
        · exact absurd (by rw [← q]; exact h0) c1
        · exact q
      obtain ⟨r, e1, e2, e3⟩ := zm_commonOf_l hM d hlt h0 hl' hz2
      exact ⟨r, e1, List.mem_cons_of_mem _ e2, e3⟩
theorem zm_commonOf {h : zv_H} (hM : zm_M h) (d : Nat) {s t : Int} {ls lt : List Int} (hls : zm_Ln (zv_I h 348) ls s) (hlt : zm_Ln (zv_I h 348) lt t) (hs0 : 0 ∈ ls) (ht0 : 0 ∈ lt) : ∃ r : Int, C9_commonOf (d + 3) 347 s t h = some (r, h) ∧ r ∈ ls ∧ r ∈ lt := by
  obtain ⟨r, e, q⟩ := zm_commonOf_l hM d hlt ht0 hls hs0
  refine ⟨r, lC9_commonOf (zm_ob hM) ?_, q⟩
  rw [qE9_commonOf]
  exact e
theorem zm_Lw_0 {c : Nat → Int} {l : List Int} (h : zm_Lw c l) : 0 ∈ l := List.mem_of_getLast? h.2.1
/-- how far a state of a line is from the start -/
theorem zm_depth_in {h : zv_H} (hM : zm_M h) (d : Nat) {l : List Int} {s r : Int} (hl : zm_Ln (zv_I h 348) l s) (hn : l.length ≤ 49) (hr : r ∈ l) : ∃ n : Int, C9_depthOf (d + 2) 347 r h = some (n, h) ∧ 0 ≤ n ∧ n < 49 := by
  obtain ⟨a, b, e1, e2⟩ := zm_Ln_s hl r hr
  have hlen := congrArg List.length e1
  rw [List.length_append, List.length_cons] at hlen
  exact ⟨b.length, zm_depthOf hM d e2 (by omega), by omega, by omega⟩
theorem zm_wayMany {h : zv_H} (hM : zm_M h) (hW : zm_Wt (zv_I h 348)) (d : Nat) {s t : Int} (hs : zm_st (zv_I h 348) s) (ht : zm_st (zv_I h 348) t) : ∃ r : Int, C9_wayMany (d + 4) 347 s t h = some (r, h) ∧ -200 < r ∧ r < 200 := by
  obtain ⟨ls, a1, a2, _⟩ := zm_W_l hW hs
  obtain ⟨lt, b1, b2, _⟩ := zm_W_l hW ht
  obtain ⟨r, e, r1, r2⟩ := zm_commonOf hM d a1.1 b1.1 (zm_Lw_0 a1.2.1) (zm_Lw_0 b1.2.1)
  obtain ⟨n, en, n1, n2⟩ := zm_depth_in hM (d + 1) a1.1 (by rw [List.length_cons]; omega) r1
  refine ⟨_, lC9_wayMany (zm_ob hM) (by
    rw [qE9_wayMany, zm_e (zm_depthOf hM (d + 1) a1.1 (by omega))]
    dsimp only
    rw [zm_e (zm_depthOf hM (d + 1) b1.1 (by omega))]
    dsimp only
    rw [zm_e e]
    dsimp only
    rw [zm_e en]), ?_⟩
  rw [zm_w (x := (ls.length : Int) + lt.length) (by omega), zm_w (x := 2 * n) (by omega), zm_w (by omega)]
  omega
/-! what a visit changes -/
theorem zm_vc_o {c : Nat → Int} {s t w : Int} (hs : 0 ≤ s ∧ s ≤ 47) (ht : 0 ≤ t ∧ t ≤ 48) (hw : 0 ≤ w ∧ w < 76) (h7 : ¬ (t = s ∧ w = 7)) : zm_o (zm_vc c s) t w = zm_o c t w := by
  unfold zm_o zm_vc
  rw [if_neg (by omega), if_neg (by omega), if_neg (by omega), if_neg (by omega), if_neg (by omega), if_neg (by omega), if_neg (by omega)]
theorem zm_vc_h {c : Nat → Int} {s : Int} {k : Nat} (hs : 0 ≤ s ∧ s ≤ 47) (hk : k < 432) (h0 : k ≠ 0) (h2 : k ≠ 2) (h5 : k ≠ 5) : zm_vc c s k = c k := by
  unfold zm_vc
  rw [if_neg (by omega), if_neg (by omega), if_neg (by omega), if_neg (by omega), if_neg (by omega), if_neg (by omega), if_neg (by omega)]
theorem zm_vc_0 (c : Nat → Int) {s : Int} (hs : 0 ≤ s ∧ s ≤ 47) : zm_vc c s 0 = s := by
  unfold zm_vc
  rw [if_neg (by omega), if_neg (by omega), if_neg (by omega), if_neg (by omega), if_neg (by omega), if_neg (by omega), if_pos rfl]
theorem zm_vc_5 (c : Nat → Int) (s : Int) : zm_vc c s 5 = if c 5 < 40 then zv_w (c 5 + 1) else 40 := by
  unfold zm_vc
  rw [if_pos rfl]
/-- the heads agree -/
def zm_hd (c c' : Nat → Int) : Prop := c' 3 = c 3 ∧ c' 4 = c 4 ∧ (∀ k, 8 ≤ k → k < 432 → c' k = c k) ∧ (0 ≤ c 5 ∧ c 5 ≤ 40 → 0 ≤ c' 5 ∧ c' 5 ≤ 40)
theorem zm_hd_r (c : Nat → Int) : zm_hd c c := ⟨rfl, rfl, fun _ _ _ => rfl, fun h => h⟩
theorem zm_hd_t {a b c : Nat → Int} (f : zm_hd a b) (g : zm_hd b c) : zm_hd a c := ⟨g.1.trans f.1, g.2.1.trans f.2.1, fun k h1 h2 => (g.2.2.1 k h1 h2).trans (f.2.2.1 k h1 h2), fun q => g.2.2.2 (f.2.2.2 q)⟩
theorem zm_vc_hd (c : Nat → Int) {s : Int} (hs : 0 ≤ s ∧ s ≤ 47) : zm_hd c (zm_vc c s) := by
  refine ⟨zm_vc_h hs (by decide) (by decide) (by decide) (by decide), zm_vc_h hs (by decide) (by decide) (by decide) (by decide), fun k h1 h2 => zm_vc_h hs h2 (by omega) (by omega) (by omega), fun q => ?_⟩
  rw [zm_vc_5]
  split
  · rw [zm_w (by omega)]
    omega
  · omega
theorem zm_Wh_hd {c c' : Nat → Int} (h : zm_Wh c) (g : zm_hd c c') : zm_Wh c' := by
  obtain ⟨h1, h2, h3, h4⟩ := h
  obtain ⟨g1, g2, g3, g4⟩ := g
  have e : zm_cd c' = zm_cd c := by
    unfold zm_cd
    rw [g2]
    refine List.map_congr_left ?_
    intro k hk
    have := List.mem_range.mp hk
    exact g3 _ (by omega) (by omega)
  refine ⟨by rw [g1]; exact h1, by rw [g2]; exact h2, ?_, g4 h4⟩
  rw [g2, e]
  exact h3
/-- the tree's part stays when all agrees but lives, visits -/
theorem zm_Wt_cg {c c' : Nat → Int} (w : zm_Wt c) (h : ∀ t : Int, 0 ≤ t → t ≤ 47 → zm_o c' t 0 = zm_o c t 0 ∧ zm_ag c c' t) : zm_Wt c' := by
  have hst : ∀ t, zm_st c' t ↔ zm_st c t := by
    intro t
    constructor
    · intro q
      exact ⟨q.1, by rw [← (h t q.1.1 q.1.2).1]; exact q.2⟩
    · intro q
      exact ⟨q.1, by rw [(h t q.1.1 q.1.2).1]; exact q.2⟩
  obtain ⟨w1, ⟨w2, w3, w4, w5⟩, w6⟩ := id w
  have h0 := h 0 (by decide) (by decide)
  refine ⟨fun s s1 s2 => by rw [(h s s1 s2).1]; exact w1 s s1 s2, ⟨(hst 0).mpr w2, by rw [h0.2 1 (by decide) (by decide) (by decide)]; exact w3, by rw [h0.2 2 (by decide) (by decide) (by decide)]; exact w4, by rw [h0.2 5 (by decide) (by decide) (by decide)]; exact w5⟩, fun s hs => ?_⟩
  obtain ⟨l, l1, l2, l3, l4⟩ := zm_W_l w ((hst s).mp hs)
  exact ⟨l, zm_W1_cg l1 l3 (fun t ht => by have := l1.2.1.2.2 t ht; exact (h t this.1.1 this.1.2).2) (fun t ht => (hst t).mpr (l1.2.1.2.2 t ht))⟩
/-- a visit keeps all -/
theorem zm_W_vc {c : Nat → Int} (w : zm_W c) {s : Int} (hs : zm_st c s) : zm_W (if s = c 0 then c else zm_vc c s) := by
  by_cases e : s = c 0
  · rw [if_pos e]
    exact w
  · rw [if_neg e]
    have h1 : ∀ t : Int, 0 ≤ t → t ≤ 47 → zm_o (zm_vc c s) t 0 = zm_o c t 0 ∧ zm_ag c (zm_vc c s) t := fun t t0 t1 => ⟨zm_vc_o hs.1 (by omega) (by decide) (by omega), fun x x1 x2 x3 => zm_vc_o hs.1 (by omega) (by omega) (by omega)⟩
    refine ⟨zm_Wt_cg w.1 h1, ?_, zm_Wh_hd w.2.2 (zm_vc_hd c hs.1)⟩
    rw [zm_vc_0 c hs.1]
    exact ⟨hs.1, by rw [(h1 s hs.1.1 hs.1.2).1]; exact hs.2⟩
end
/-! 61.new -/
section
/-! ===== the reference: TEST, a new state ===== -/
theorem zm_tmod {x : Int} {n : Int} (h : 0 ≤ x) (hn : 0 < n) : 0 ≤ x.tmod n ∧ x.tmod n < n := by
  rw [Int.tmod_eq_emod_of_nonneg h]
  exact ⟨Int.emod_nonneg _ (by omega), Int.emod_lt_of_pos _ hn⟩
theorem zm_compares (d : Nat) (a b n : Int) (h : zv_H) : ∃ v : Int, C9_compares (d + 1) a b n h = some (v, h) ∧ (v = 0 ∨ v = 1) := by
  have main : ∃ v : Int, E9_compares d a b n h = some (some (zv_i v), h) ∧ (v = 0 ∨ v = 1) := by
    rw [qE9_compares]
    by_cases c1 : a = 0
    · rw [if_pos c1]
      by_cases c2 : b < n
      · rw [if_pos c2]
        exact ⟨1, rfl, Or.inr rfl⟩
      · rw [if_neg c2]
        exact ⟨0, rfl, Or.inl rfl⟩
    · rw [if_neg c1]
      by_cases c2 : a = 1
      · rw [if_pos c2]
        by_cases c3 : b = n
        · rw [if_pos c3]
          exact ⟨1, rfl, Or.inr rfl⟩
        · rw [if_neg c3]
          exact ⟨0, rfl, Or.inl rfl⟩
      · rw [if_neg c2]
        by_cases c3 : b ≤ n
        · rw [if_pos c3]
          exact ⟨0, rfl, Or.inl rfl⟩
        · rw [if_neg c3]
          exact ⟨1, rfl, Or.inr rfl⟩
  obtain ⟨v, e, q⟩ := main
  exact ⟨v, lC9_compares e, q⟩
theorem zm_nz01 (v : Int) : zv_nz v = 0 ∨ zv_nz v = 1 := by
  unfold zv_nz
  omega
theorem zm_holds_l (d : Nat) : ∀ (r : List Int) (k : Nat) (top : Int) (h : zv_H), zm_M h → (∀ (j : Nat) (x : Int), r[j]? = some x → zv_I h 348 (8 + (k + j)) = x) → zv_I h 348 4 = ((k + r.length : Nat) : Int) → k + r.length ≤ 392 → 0 ≤ top → top ≤ k → zm_ph r top → (1 ≤ top → zv_I h 359 0 = 0 ∨ zv_I h 359 0 = 1) → ∃ (v : Int) (h' : zv_H), L9_holds_60 (d + 1) 347 top k h = some (some (zv_i v), h') ∧ (v = 0 ∨ v = 1) ∧ zm_F [359] [] h h'
  | [], k, top, h, hM, _, h4, hn, t0, t1, hp, hs => by
    have e1 : top = 1 := hp
    have q := hs (by omega)
    rw [List.length_nil] at h4
    rw [qL9_holds_60, zm_e (zm_f0 hM), zm_e (zm_aI hM zm_l348 rfl (by decide) (by decide)), show zv_I h 348 (Int.toNat 4) = _ from h4, if_neg (by omega), zm_e (zm_f16 hM), zm_e (zm_aB hM zm_l359 (Or.inl rfl) rfl (by decide) (by decide)), show zv_I h 359 (Int.toNat 0) = zv_I h 359 0 from rfl, if_pos q]
    exact ⟨_, _, rfl, q, zm_F_r _ _ h⟩
  | v :: r, k, top, h, hM, hr, h4, hn, t0, t1, hp, hs => by
    rw [List.length_cons] at h4 hn
    have hv : zv_I h 348 (8 + k) = v := hr 0 v rfl
    have hr' : ∀ (j : Nat) (x : Int), r[j]? = some x → zv_I h 348 (8 + ((k + 1) + j)) = x := fun j x hx => by
      have := hr (j + 1) x hx
      rw [show k + 1 + j = k + (j + 1) by omega]
      exact this
    have w1 : zv_w ((k : Int) + 1) = ((k + 1 : Nat) : Int) := by
      rw [zm_w (by omega)]
      rfl
    have go : ∀ (t i : Int) (w : Int), 0 ≤ i → i < 400 → 0 ≤ t → t ≤ ((k + 1 : Nat) : Int) → zm_ph r t → (i = 0 ∨ (1 ≤ top)) → ∃ (v : Int) (h' : zv_H), ((zv_wB h 359 i w).bind fun g => L9_holds_60 (d + 1) 347 t ((k + 1 : Nat) : Int) g) = some (some (zv_i v), h') ∧ (v = 0 ∨ v = 1) ∧ zm_F [359] [] h h' := by
      intro t i w i0 i1 ta tb hph hor
      rw [zm_e (zm_wB hM zm_l359 rfl i0 (by omega) w)]
      obtain ⟨v', h', e1, e2, e3⟩ := zm_holds_l d r (k + 1) t (zv_sI h 359 i.toNat (zv_nz w)) hM (fun j x hx => by rw [zm_so h _ _]; exact hr' j x hx) (by rw [zm_so h _ _, h4]; omega) (by omega) ta (by omega) hph (fun _ => by
        rw [zm_ss]
        unfold zm_u
        by_cases q : 0 = i.toNat
        · rw [if_pos q]
          exact zm_nz01 w
        · rw [if_neg q]
          rcases hor with q2 | q2
          · exact absurd (by rw [q2]; rfl) q
          · exact hs q2)
      exact ⟨v', h', e1, e2, zm_F_t (zm_F_I (zm_F_r _ _ h) rfl _ _) e3⟩
    have rd : ∀ i : Int, 0 ≤ i → i < 400 → zv_aB h 359 i = some (zv_I h 359 i.toNat) := fun i i0 i1 => zm_aB hM zm_l359 (Or.inl rfl) rfl i0 (by omega)
    have hp2 : if 0 ≤ v then zm_ph r (top + 1) else if v = -1 then 1 ≤ top ∧ zm_ph r top else 2 ≤ top ∧ zm_ph r (top - 1) := hp
    rw [qL9_holds_60, zm_e (zm_f0 hM), zm_e (zm_aI hM zm_l348 rfl (by decide) (by decide)), show zv_I h 348 (Int.toNat 4) = _ from h4, if_pos (by omega), zm_e (zm_f0 hM), zm_w (x := 8 + (k : Int)) (by omega), zm_e (zm_aI hM zm_l348 rfl (by omega) (by omega)), show (8 + (k : Int)).toNat = 8 + k by omega, hv, w1]
    by_cases c1 : 0 ≤ v
    · rw [if_pos c1] at hp2
      have hm := zm_tmod (n := 6) c1 (by decide)
      obtain ⟨b, eb, _⟩ := zm_compares d ((zv_w (v.tdiv 6)).tmod 3) (zv_I h 358 (v.tmod 6).toNat) (zv_w (v.tdiv 18)) h
      rw [if_neg (by omega), zm_e (zm_f16 hM), zm_e (zm_f15 hM), zm_e (zm_aI hM zm_l358 rfl hm.1 (by omega)), zm_e eb, zm_w (x := top + 1) (by omega)]
      exact go (top + 1) top b t0 (by omega) (by omega) (by omega) hp2 (by omega)
    · rw [if_neg c1] at hp2
      rw [if_pos (by omega)]
      by_cases c2 : v = -1
      · rw [if_pos c2] at hp2
        obtain ⟨p1, p2⟩ := hp2
        rw [if_pos c2, zm_e (zm_f16 hM), zm_e (zm_f16 hM), zm_w (x := top - 1) (by omega), zm_e (rd (top - 1) (by omega) (by omega))]
        by_cases c3 : zv_I h 359 (top - 1).toNat = 0
        · rw [if_pos c3]
          exact go top (top - 1) 1 (by omega) (by omega) t0 (by omega) p2 (Or.inr p1)
        · rw [if_neg c3]
          exact go top (top - 1) 0 (by omega) (by omega) t0 (by omega) p2 (Or.inr p1)
      · rw [if_neg c2] at hp2
        obtain ⟨p1, p2⟩ := hp2
        have e1 : zv_w (top + -1) = top - 1 := by
          rw [zm_w (by omega)]
          omega
        have e2 : zv_w (top - 1 - 1) = top - 2 := by
          rw [zm_w (by omega)]
          omega
        rw [if_neg c2, zm_e (zm_f16 hM), e1, e2]
        have G := fun w => go (top - 1) (top - 2) w (by omega) (by omega) (by omega) (by omega) p2 (Or.inr (by omega))
        by_cases c3 : v = -2
        · rw [if_pos c3, zm_e (zm_f16 hM), zm_e (rd (top - 2) (by omega) (by omega))]
          by_cases c4 : zv_I h 359 (top - 2).toNat = 0
          · rw [if_pos c4]
            exact G 0
          · rw [if_neg c4, zm_e (zm_f16 hM), zm_e (rd (top - 1) (by omega) (by omega))]
            by_cases c5 : zv_I h 359 (top - 1).toNat = 0
            · rw [if_pos c5]
              exact G 0
            · rw [if_neg c5]
              exact G 1
        · rw [if_neg c3, zm_e (zm_f16 hM), zm_e (rd (top - 2) (by omega) (by omega))]
          by_cases c4 : zv_I h 359 (top - 2).toNat = 0
          · rw [if_pos c4, zm_e (zm_f16 hM), zm_e (rd (top - 1) (by omega) (by omega))]
            by_cases c5 : zv_I h 359 (top - 1).toNat = 0
            · rw [if_pos c5]
              exact G 0
            · rw [if_neg c5]
              exact G 1
          · rw [if_neg c4]
            exact G 1
theorem zm_holds {h : zv_H} {c : Nat → Int} (hM : zm_M h) (hc : zv_I h 348 = c) (w : zm_Wh c) (d : Nat) : zm_R (C9_holds (d + 2) 347 h) (fun q => (q.1 = 0 ∨ q.1 = 1) ∧ zm_F [359] [] h q.2) := by
  refine zm_cI (P := fun v h' => (v = 0 ∨ v = 1) ∧ zm_F [359] [] h h') (lC9_holds (zm_ob hM)) ?_
  have rf : ∀ i : Int, 0 ≤ i → i < 6 → zv_aI h 358 i = some (zv_I h 358 i.toNat) := fun i i0 i1 => zm_aI hM zm_l358 rfl i0 (by omega)
  have z0 : zm_R (some (some (zv_i 0), h)) (zm_I fun v h' => (v = 0 ∨ v = 1) ∧ zm_F [359] [] h h') := zm_iI ⟨Or.inl rfl, zm_F_r _ _ h⟩
  rw [qE9_holds, zm_e (zm_f0 hM), zm_e (zm_aI hM zm_l348 rfl (by decide) (by decide)), hc]
  by_cases c1 : c (Int.toNat 4) = 0
  · rw [if_pos c1, zm_e (zm_f15 hM), zm_e (rf 0 (by decide) (by decide))]
    refine zm_if (fun _ => ?_) (fun _ => z0)
    rw [zm_e (zm_f15 hM), zm_e (rf 3 (by decide) (by decide))]
    refine zm_if (fun _ => ?_) (fun _ => z0)
    rw [zm_e (zm_f15 hM), zm_e (rf 4 (by decide) (by decide))]
    refine zm_if (fun _ => ?_) (fun _ => z0)
    rw [zm_e (zm_f15 hM), zm_e (rf 1 (by decide) (by decide))]
    exact zm_if (fun _ => zm_iI ⟨Or.inr rfl, zm_F_r _ _ h⟩) (fun _ => z0)
  · rw [if_neg c1]
    obtain ⟨_, w2, w3, _⟩ := w
    have hph : zm_ph (zm_cd c) 0 := by
      rcases w3 with q | q
      · exact absurd q c1
      · exact q
    have hlen : (zm_cd c).length = (c 4).toNat := by
      unfold zm_cd
      rw [List.length_map, List.length_range]
    obtain ⟨v, h', e1, e2, e3⟩ := zm_holds_l d (zm_cd c) 0 0 h hM (fun j x hx => by
      have hj := zm_lt_of_get hx
      rw [hlen] at hj
      unfold zm_cd at hx
      rw [List.getElem?_map, List.getElem?_range hj] at hx
      rw [hc, Nat.zero_add]
      exact Option.some.inj hx) (by rw [hc, hlen]; omega) (by omega) (by omega) (by omega) hph (fun q => by omega)
    rw [show L9_holds_60 (d + 1) 347 0 0 h = _ from e1]
    exact zm_iI ⟨e2, e3⟩
theorem zm_isNear {h : zv_H} (hM : zm_M h) (d : Nat) (a b n : Int) {p : Int} (hp : 0 ≤ p ∧ p ≤ 48) : ∃ v : Int, C9_isNear (d + 2) 347 a b n p h = some (v, h) ∧ (v = 0 ∨ v = 1) := by
  have z0 : ∃ v : Int, (some (some (zv_i 0), h) : zv_O) = some (some (zv_i v), h) ∧ (v = 0 ∨ v = 1) := ⟨0, rfl, Or.inl rfl⟩
  have z1 : ∃ v : Int, (some (some (zv_i 1), h) : zv_O) = some (some (zv_i v), h) ∧ (v = 0 ∨ v = 1) := ⟨1, rfl, Or.inr rfl⟩
  have ife : ∀ {q : Prop} [Decidable q] {x y : zv_O}, (∃ v : Int, x = some (some (zv_i v), h) ∧ (v = 0 ∨ v = 1)) → (∃ v : Int, y = some (some (zv_i v), h) ∧ (v = 0 ∨ v = 1)) → ∃ v : Int, (if q then x else y) = some (some (zv_i v), h) ∧ (v = 0 ∨ v = 1) := by
    intro q _ x y hx hy
    by_cases hq : q
    · rw [if_pos hq]
      exact hx
    · rw [if_neg hq]
      exact hy
  have l15 : ∀ e : Int, ∃ v : Int, L9_isNear_15 (d + 1) 347 a b n p e h = some (some (zv_i v), h) ∧ (v = 0 ∨ v = 1) := by
    intro e
    rw [qL9_isNear_15, zm_e (zm_of hM d hp (by decide)), zm_e (zm_of hM d hp (by decide))]
    exact ife (ife (ife z1 z0) (ife z1 z0)) (ife (ife z1 (ife z1 z0)) (ife z1 z0))
  have main : ∃ v : Int, E9_isNear (d + 1) 347 a b n p h = some (some (zv_i v), h) ∧ (v = 0 ∨ v = 1) := by
    rw [qE9_isNear, zm_e (zm_of hM d hp (by decide))]
    exact ife (l15 1) (l15 0)
  obtain ⟨v, e, q⟩ := main
  exact ⟨v, lC9_isNear (zm_ob hM) e, q⟩
theorem zm_joins {h : zv_H} {c : Nat → Int} (hM : zm_M h) (hc : zv_I h 348 = c) (w : zm_W c) (d : Nat) (a b n : Int) : zm_R (C9_joins (d + 3) 347 a b n h) (fun q => (q.1 = 0 ∨ (q.1 = 1 ∧ c 0 ≠ 0)) ∧ zm_F [358, 359] [] h q.2) := by
  refine zm_cI (P := fun v h' => (v = 0 ∨ (v = 1 ∧ c 0 ≠ 0)) ∧ zm_F [358, 359] [] h h') (lC9_joins (zm_ob hM)) ?_
  obtain ⟨w1, w2, w3⟩ := w
  obtain ⟨l, l1, l2, l3, l4⟩ := zm_W_l w1 w2
  have hp := w2.1
  rw [qE9_joins, zm_e (zm_here hM _), hc]
  dsimp only
  rw [zm_e (zm_isEdit hM _ (by omega)), hc]
  dsimp only
  by_cases c1 : zm_ed c (c 0)
  · have h0 : c 0 ≠ 0 := by
      intro q
      rw [q] at c1
      have := w1.2.1.2.2.1
      rcases c1 with q2 | q2
      · rw [this] at q2
        cases q2
      · rw [this] at q2
        cases q2
    have hf := l1.2.2.1 h0
    rw [if_pos c1, if_neg (by decide), zm_e (zm_f15 hM), zm_e (zm_f0 hM), zm_e (zm_aI hM zm_l348 rfl (by decide) (by decide)), zm_e (zm_of hM _ (by omega) (by decide))]
    dsimp only
    generalize zv_w (zv_I h 348 (Int.toNat 1) - zm_o (zv_I h 348) (c 0) 3) = v0
    rw [zm_e (zm_wI hM zm_l358 rfl (by decide) (by decide) _)]
    have f1 : zm_F [358, 359] [] h (zv_sI h 358 (Int.toNat 0) v0) := zm_F_I (zm_F_r _ _ h) rfl _ _
    generalize zv_sI h 358 (Int.toNat 0) v0 = h1 at f1
    have hM1 := zm_F_M f1 hM
    have e1 : zv_I h1 348 = c := (zm_F_a f1 348).trans hc
    have hl1 : zm_Ln (zv_I h1 348) (c 0 :: l) (c 0) := by
      rw [e1]
      exact l1.1
    obtain ⟨n1, en1, _⟩ := zm_depth_in hM1 (d + 0) hl1 (by rw [List.length_cons]; omega) List.mem_cons_self
    obtain ⟨n2, en2, _⟩ := zm_depth_in hM1 (d + 0) hl1 (by rw [List.length_cons]; omega) hf.1
    rw [zm_e (zm_f15 hM1), zm_e en1]
    dsimp only
    rw [zm_e (zm_of hM1 _ (by omega) (by decide)), e1]
    dsimp only
    rw [zm_e en2]
    dsimp only
    rw [zm_e (zm_wI hM1 zm_l358 rfl (by decide) (by decide) _)]
    generalize zv_w (zv_w (n1 - n2) + 1) = v1
    have f2 : zm_F [358, 359] [] h (zv_sI h1 358 (Int.toNat 1) v1) := zm_F_I f1 rfl _ _
    generalize zv_sI h1 358 (Int.toNat 1) v1 = h2 at f2
    have hM2 := zm_F_M f2 hM
    rw [zm_e (zm_f15 hM2), zm_e (zm_wI hM2 zm_l358 rfl (by decide) (by decide) _)]
    have f3 : zm_F [358, 359] [] h (zv_sI h2 358 (Int.toNat 2) a) := zm_F_I f2 rfl _ _
    generalize zv_sI h2 358 (Int.toNat 2) a = h3 at f3
    have hM3 := zm_F_M f3 hM
    rw [zm_e (zm_f15 hM3), zm_e (zm_of hM3 _ (by omega) (by decide))]
    have l92 : ∀ v : Int, zm_R (L9_joins_92 (d + 2) 347 a b n (c 0) 358 3 v h3) (zm_I fun v h' => (v = 0 ∨ (v = 1 ∧ c 0 ≠ 0)) ∧ zm_F [358, 359] [] h h') := by
      intro v
      have f4 : zm_F [358, 359] [] h (zv_sI h3 358 (Int.toNat 3) v) := zm_F_I f3 rfl _ _
      rw [qL9_joins_92, zm_e (zm_wI hM3 zm_l358 rfl (by decide) (by decide) _)]
      generalize zv_sI h3 358 (Int.toNat 3) v = h4 at f4
      have hM4 := zm_F_M f4 hM
      obtain ⟨b4, eb4, _⟩ := zm_isNear hM4 d a b n (p := c 0) (by omega)
      rw [zm_e (zm_f15 hM4), zm_e eb4]
      have l115 : ∀ v : Int, zm_R (L9_joins_115 (d + 2) 347 n 358 4 v h4) (zm_I fun v h' => (v = 0 ∨ (v = 1 ∧ c 0 ≠ 0)) ∧ zm_F [358, 359] [] h h') := by
        intro v
        have f5 : zm_F [358, 359] [] h (zv_sI h4 358 (Int.toNat 4) v) := zm_F_I f4 rfl _ _
        rw [qL9_joins_115, zm_e (zm_wI hM4 zm_l358 rfl (by decide) (by decide) _)]
        generalize zv_sI h4 358 (Int.toNat 4) v = h5 at f5
        have hM5 := zm_F_M f5 hM
        have f6 : zm_F [358, 359] [] h (zv_sI h5 358 (Int.toNat 5) n) := zm_F_I f5 rfl _ _
        rw [zm_e (zm_f15 hM5), zm_e (zm_wI hM5 zm_l358 rfl (by decide) (by decide) _)]
        generalize zv_sI h5 358 (Int.toNat 5) n = h6 at f6
        have hM6 := zm_F_M f6 hM
        obtain ⟨⟨b7, h7⟩, e7, q7, f7⟩ := zm_holds hM6 ((zm_F_a f6 348).trans hc) w3 d
        rw [zm_e e7]
        dsimp only at q7 f7 ⊢
        rw [if_pos q7]
        refine zm_iI ⟨?_, zm_F_t f6 (zm_F_s f7 rfl rfl)⟩
        rcases q7 with q | q
        · exact Or.inl q
        · exact Or.inr ⟨q, h0⟩
      exact zm_if (fun _ => l115 0) (fun _ => l115 1)
    exact zm_if (fun _ => l92 1) (fun _ => l92 0)
  · rw [if_neg c1, if_pos rfl]
    exact zm_iI ⟨Or.inl rfl, zm_F_r _ _ h⟩
/-- a state's cells made anew -/
def zm_Bg (c c' : Nat → Int) (s a p m f : Int) : Prop := (zm_o c' s 0 = 1 ∧ zm_o c' s 1 = c 0 ∧ zm_o c' s 2 = a ∧ zm_o c' s 3 = c 1 ∧ zm_o c' s 4 = p ∧ zm_o c' s 5 = m ∧ zm_o c' s 6 = f) ∧ zm_o c' s 8 = -1 ∧ (∀ w : Int, 9 ≤ w → w < 76 → zm_o c' s w = 0) ∧ ∀ k : Nat, ¬ (432 + 76 * s.toNat ≤ k ∧ k < 432 + 76 * s.toNat + 76) → c' k = c k
theorem zm_os_k (c : Nat → Int) {s w : Int} (v : Int) {k : Nat} (hw : 0 ≤ w ∧ w < 76) (h : ¬ (432 + 76 * s.toNat ≤ k ∧ k < 432 + 76 * s.toNat + 76)) : zm_os c s w v k = c k := zm_u_o _ _ (by omega)
theorem zm_begins_l (d : Nat) {s : Int} (hs : 0 ≤ s ∧ s ≤ 48) (a p m j : Int) (c : Nat → Int) : ∀ (n i : Nat) (h : zv_H), i + n = 76 → zm_M h → (∀ w : Int, 0 ≤ w → w < i → zm_o (zv_I h 348) s w = 0) → (∀ k : Nat, ¬ (432 + 76 * s.toNat ≤ k ∧ k < 432 + 76 * s.toNat + 76) → zv_I h 348 k = c k) → ∃ h', L9_begins_3 (d + 1) 347 s a p m j i h = L9_begins_3 (d + 1) 347 s a p m j 76 h' ∧ zm_F [348] [] h h' ∧ (∀ w : Int, 0 ≤ w → w < 76 → zm_o (zv_I h' 348) s w = 0) ∧ (∀ k : Nat, ¬ (432 + 76 * s.toNat ≤ k ∧ k < 432 + 76 * s.toNat + 76) → zv_I h' 348 k = c k)
  | 0, i, h, hi, _, h1, h2 => by
    have e : i = 76 := by omega
    subst e
    exact ⟨h, rfl, zm_F_r _ _ h, h1, h2⟩
  | n + 1, i, h, hi, hM, h1, h2 => by
    rw [qL9_begins_3, if_pos (by omega), zm_e (zm_sets hM d hs (by omega) 0), zm_w (by omega)]
    have e0 : zv_I (zv_sI h 348 (432 + 76 * s.toNat + ((i : Nat) : Int).toNat) 0) 348 = zm_os (zv_I h 348) s i 0 := zm_ss _ _ _ _
    obtain ⟨h', i1, i2, i3⟩ := zm_begins_l d hs a p m j c n (i + 1) (zv_sI h 348 (432 + 76 * s.toNat + ((i : Nat) : Int).toNat) 0) (by omega) hM (fun w w0 w1 => by
      rw [e0]
      by_cases q : w = i
      · rw [q, zm_os_s]
      · rw [zm_os_o _ _ hs.1 (by omega) hs.1 (by omega) (fun z => q z.2)]
        exact h1 w w0 (by omega)) (fun k hk => by
      rw [e0, zm_os_k _ _ (by omega) hk]
      exact h2 k hk)
    exact ⟨h', i1, zm_F_t (zm_F_I (zm_F_r _ _ h) rfl _ _) i2, i3⟩
theorem zm_Bg_of {c z : Nat → Int} {s : Int} (hs : 0 ≤ s ∧ s ≤ 48) (a p m f : Int) (hz : ∀ w : Int, 0 ≤ w → w < 76 → zm_o z s w = 0) (hk : ∀ k : Nat, ¬ (432 + 76 * s.toNat ≤ k ∧ k < 432 + 76 * s.toNat + 76) → z k = c k) : zm_Bg c (zm_os (zm_os (zm_os (zm_os (zm_os (zm_os (zm_os (zm_os z s 0 1) s 1 (c 0)) s 2 a) s 3 (c 1)) s 4 p) s 5 m) s 6 f) s 8 (-1)) s a p m f := by
  have O : ∀ (c : Nat → Int) (w w' v : Int), 0 ≤ w ∧ w < 76 → 0 ≤ w' ∧ w' < 76 → w' ≠ w → zm_o (zm_os c s w v) s w' = zm_o c s w' := fun c w w' v h1 h2 h3 => zm_os_o c v hs.1 h1 hs.1 h2 (fun q => h3 q.2)
  refine ⟨⟨?_, ?_, ?_, ?_, ?_, ?_, ?_⟩, ?_, fun w w0 w1 => ?_, fun k q => ?_⟩
  · rw [O _ 8 0 _ (by decide) (by decide) (by decide), O _ 6 0 _ (by decide) (by decide) (by decide), O _ 5 0 _ (by decide) (by decide) (by decide), O _ 4 0 _ (by decide) (by decide) (by decide), O _ 3 0 _ (by decide) (by decide) (by decide), O _ 2 0 _ (by decide) (by decide) (by decide), O _ 1 0 _ (by decide) (by decide) (by decide), zm_os_s]
  · rw [O _ 8 1 _ (by decide) (by decide) (by decide), O _ 6 1 _ (by decide) (by decide) (by decide), O _ 5 1 _ (by decide) (by decide) (by decide), O _ 4 1 _ (by decide) (by decide) (by decide), O _ 3 1 _ (by decide) (by decide) (by decide), O _ 2 1 _ (by decide) (by decide) (by decide), zm_os_s]
  · rw [O _ 8 2 _ (by decide) (by decide) (by decide), O _ 6 2 _ (by decide) (by decide) (by decide), O _ 5 2 _ (by decide) (by decide) (by decide), O _ 4 2 _ (by decide) (by decide) (by decide), O _ 3 2 _ (by decide) (by decide) (by decide), zm_os_s]
  · rw [O _ 8 3 _ (by decide) (by decide) (by decide), O _ 6 3 _ (by decide) (by decide) (by decide), O _ 5 3 _ (by decide) (by decide) (by decide), O _ 4 3 _ (by decide) (by decide) (by decide), zm_os_s]
  · rw [O _ 8 4 _ (by decide) (by decide) (by decide), O _ 6 4 _ (by decide) (by decide) (by decide), O _ 5 4 _ (by decide) (by decide) (by decide), zm_os_s]
  · rw [O _ 8 5 _ (by decide) (by decide) (by decide), O _ 6 5 _ (by decide) (by decide) (by decide), zm_os_s]
  · rw [O _ 8 6 _ (by decide) (by decide) (by decide), zm_os_s]
  · rw [zm_os_s]
  · rw [O _ 8 w _ (by decide) (by omega) (by omega), O _ 6 w _ (by decide) (by omega) (by omega), O _ 5 w _ (by decide) (by omega) (by omega), O _ 4 w _ (by decide) (by omega) (by omega), O _ 3 w _ (by decide) (by omega) (by omega), O _ 2 w _ (by decide) (by omega) (by omega), O _ 1 w _ (by decide) (by omega) (by omega), O _ 0 w _ (by decide) (by omega) (by omega)]
    exact hz w (by omega) w1
  · rw [zm_os_k _ _ (by decide) q, zm_os_k _ _ (by decide) q, zm_os_k _ _ (by decide) q, zm_os_k _ _ (by decide) q, zm_os_k _ _ (by decide) q, zm_os_k _ _ (by decide) q, zm_os_k _ _ (by decide) q, zm_os_k _ _ (by decide) q]
    exact hk k q
theorem zm_begins {h : zv_H} {c : Nat → Int} (hM : zm_M h) (hc : zv_I h 348 = c) (d : Nat) {s : Int} (hs : 0 ≤ s ∧ s ≤ 48) (h0 : 0 ≤ c 0 ∧ c 0 ≤ 47) (hne : s ≠ c 0) (a p m j : Int) : zm_R (C9_begins (d + 2) 347 s a p m j h) (fun h' => zm_F [348] [] h h' ∧ zm_Bg c (zv_I h' 348) s a p m (if j = 0 then s else zm_o c (c 0) 6)) := by
  refine zm_cV (lC9_begins (zm_ob hM)) ?_
  obtain ⟨z, i1, i2, i3, i4⟩ := zm_begins_l d hs a p m j c 76 0 h rfl hM (fun w w0 w1 => by omega) (fun k _ => by rw [hc])
  have hMz := zm_F_M i2 hM
  have z0 : zv_I z 348 0 = c 0 := i4 0 (by omega)
  have z1 : zv_I z 348 1 = c 1 := i4 1 (by omega)
  have S : ∀ (g : zv_H) (w v : Int), zv_I (zv_sI g 348 (432 + 76 * s.toNat + w.toNat) v) 348 = zm_os (zv_I g 348) s w v := fun g w v => zm_ss _ _ _ _
  have K : ∀ (g : Nat → Int) (w v : Int) (k : Nat), 0 ≤ w ∧ w < 76 → k < 432 → zm_os g s w v k = g k := fun g w v k hw hk => zm_os_k g v hw (by omega)
  rw [qE9_begins, show L9_begins_3 (d + 1) 347 s a p m j 0 h = _ from i1, qL9_begins_3, if_neg (by decide), zm_e (zm_sets hMz d hs (by decide) _)]
  have M1 : zm_M (zv_sI z 348 (432 + 76 * s.toNat + Int.toNat 0) 1) := hMz
  rw [zm_e (zm_here M1 d), S, K _ _ _ _ (by decide) (by decide), z0]
  dsimp only
  rw [zm_e (zm_sets M1 d hs (by decide) _)]
  have M2 : zm_M (zv_sI (zv_sI z 348 (432 + 76 * s.toNat + Int.toNat 0) 1) 348 (432 + 76 * s.toNat + Int.toNat 1) (c 0)) := hMz
  rw [zm_e (zm_sets M2 d hs (by decide) _)]
  have M3 : zm_M (zv_sI (zv_sI (zv_sI z 348 (432 + 76 * s.toNat + Int.toNat 0) 1) 348 (432 + 76 * s.toNat + Int.toNat 1) (c 0)) 348 (432 + 76 * s.toNat + Int.toNat 2) a) := hMz
  rw [zm_e (zm_f0 M3), zm_e (zm_aI M3 zm_l348 rfl (by decide) (by decide)), S, S, S, K _ _ _ _ (by decide) (by decide), K _ _ _ _ (by decide) (by decide), K _ _ _ _ (by decide) (by decide), show zv_I z 348 (Int.toNat 1) = c 1 from z1, zm_e (zm_sets M3 d hs (by decide) _)]
  generalize eg4 : zv_sI (zv_sI (zv_sI (zv_sI z 348 (432 + 76 * s.toNat + Int.toNat 0) 1) 348 (432 + 76 * s.toNat + Int.toNat 1) (c 0)) 348 (432 + 76 * s.toNat + Int.toNat 2) a) 348 (432 + 76 * s.toNat + Int.toNat 3) (c 1) = g4
  have M4 : zm_M g4 := by
    rw [← eg4]
    exact hMz
  rw [zm_e (zm_sets M4 d hs (by decide) _)]
  have M5 : zm_M (zv_sI g4 348 (432 + 76 * s.toNat + Int.toNat 4) p) := M4
  rw [zm_e (zm_sets M5 d hs (by decide) _)]
  have M6 : zm_M (zv_sI (zv_sI g4 348 (432 + 76 * s.toNat + Int.toNat 4) p) 348 (432 + 76 * s.toNat + Int.toNat 5) m) := M4
  have e6 : zv_I (zv_sI (zv_sI g4 348 (432 + 76 * s.toNat + Int.toNat 4) p) 348 (432 + 76 * s.toNat + Int.toNat 5) m) 348 = zm_os (zm_os (zm_os (zm_os (zm_os (zm_os (zv_I z 348) s 0 1) s 1 (c 0)) s 2 a) s 3 (c 1)) s 4 p) s 5 m := by
    rw [S, S, ← eg4, S, S, S, S]
  have f6 : zm_F [348] [] h (zv_sI (zv_sI g4 348 (432 + 76 * s.toNat + Int.toNat 4) p) 348 (432 + 76 * s.toNat + Int.toNat 5) m) := by
    rw [← eg4]
    exact zm_F_I (zm_F_I (zm_F_I (zm_F_I (zm_F_I (zm_F_I i2 rfl _ _) rfl _ _) rfl _ _) rfl _ _) rfl _ _) rfl _ _
  generalize zv_sI (zv_sI g4 348 (432 + 76 * s.toNat + Int.toNat 4) p) 348 (432 + 76 * s.toNat + Int.toNat 5) m = g6 at M6 e6 f6
  have l98 : ∀ f : Int, zm_R (L9_begins_98 (d + 1) 347 s 347 s 6 f g6) (zm_V fun h' => zm_F [348] [] h h' ∧ zm_Bg c (zv_I h' 348) s a p m f) := by
    intro f
    rw [qL9_begins_98, zm_e (zm_sets M6 d hs (by decide) _)]
    have M7 : zm_M (zv_sI g6 348 (432 + 76 * s.toNat + Int.toNat 6) f) := M6
    rw [zm_e (zm_sets M7 d hs (by decide) _)]
    refine zm_iV ⟨zm_F_I (zm_F_I f6 rfl _ _) rfl _ _, ?_⟩
    rw [S, S, e6]
    exact zm_Bg_of hs a p m f i3 i4
  by_cases c1 : j = 0
  · rw [if_pos c1, if_pos c1]
    exact l98 s
  · have r0 : zv_I g6 348 0 = c 0 := by
      rw [e6, K _ _ _ _ (by decide) (by decide), K _ _ _ _ (by decide) (by decide), K _ _ _ _ (by decide) (by decide), K _ _ _ _ (by decide) (by decide), K _ _ _ _ (by decide) (by decide), K _ _ _ _ (by decide) (by decide), z0]
    have r6 : zm_o (zv_I g6 348) (c 0) 6 = zm_o c (c 0) 6 := by
      have B : ∀ (g : Nat → Int) (w v : Int), 0 ≤ w ∧ w < 76 → zm_o (zm_os g s w v) (c 0) 6 = zm_o g (c 0) 6 := fun g w v hw => zm_os_o g v hs.1 hw h0.1 (by decide) (fun q => hne q.1.symm)
      rw [e6, B _ _ _ (by decide), B _ _ _ (by decide), B _ _ _ (by decide), B _ _ _ (by decide), B _ _ _ (by decide), B _ _ _ (by decide)]
      exact i4 _ (by omega)
    rw [if_neg c1, if_neg c1, zm_e (zm_here M6 d), r0]
    dsimp only
    rw [zm_e (zm_of M6 d (by omega) (by decide)), r6]
    exact l98 _
end
/-! 62.wnew -/
section
/-! ===== the reference: a new state keeps what must hold ===== -/
def zm_Nw (c c' : Nat → Int) (s : Int) : Prop := (∀ k : Nat, k < 432 ∨ 4156 ≤ k → k < 4236 → c' k = zm_vc c s k) ∧ (∀ t w : Int, 0 ≤ t → t ≤ 48 → t ≠ s → 0 ≤ w → w < 76 → zm_o c' t w = zm_o c t w) ∧ zm_o c' s 0 = 1 ∧ zm_o c' s 1 = c 0
theorem zm_Nw_ag {c c' : Nat → Int} {s : Int} (n : zm_Nw c c' s) {t : Int} (h0 : 0 ≤ t) (h1 : t ≤ 48) (hn : t ≠ s) : zm_ag c c' t := fun w w0 w1 _ => n.2.1 t w h0 h1 hn (by omega) w1
theorem zm_Nw_hd {c c' : Nat → Int} {s : Int} (hs : 0 ≤ s ∧ s ≤ 47) (n : zm_Nw c c' s) : zm_hd c c' := by
  have v := zm_vc_hd c hs
  refine ⟨(n.1 3 (Or.inl (by decide)) (by decide)).trans v.1, (n.1 4 (Or.inl (by decide)) (by decide)).trans v.2.1, fun k h1 h2 => (n.1 k (Or.inl h2) (by omega)).trans (v.2.2.1 k h1 h2), fun q => ?_⟩
  rw [n.1 5 (Or.inl (by decide)) (by decide)]
  exact v.2.2.2 q
theorem zm_Nw_st {c c' : Nat → Int} {s : Int} (hs : 0 ≤ s ∧ s ≤ 47) (n : zm_Nw c c' s) {t : Int} : zm_st c' t ↔ t = s ∨ (t ≠ s ∧ zm_st c t) := by
  constructor
  · intro q
    by_cases e : t = s
    · exact Or.inl e
    · refine Or.inr ⟨e, q.1, ?_⟩
      rw [← n.2.1 t 0 q.1.1 (by omega) e (by decide) (by decide)]
      exact q.2
  · rintro (q | ⟨q1, q2⟩)
    · rw [q]
      exact ⟨hs, n.2.2.1⟩
    · refine ⟨q2.1, ?_⟩
      rw [n.2.1 t 0 q2.1.1 (by omega) q1 (by decide) (by decide)]
      exact q2.2
theorem zm_W_new {c c' : Nat → Int} {s : Int} {l : List Int} (w : zm_W c) (hs : 0 ≤ s ∧ s ≤ 47) (hd : zm_o c s 0 ≠ 1) (n : zm_Nw c c' s) (hl : zm_W1 c (c 0) l) (hf : zm_o c' s 6 = s ∨ (zm_o c' s 6 = zm_o c (c 0) 6 ∧ c 0 ≠ 0)) (hm : zm_ed c' s → 0 ≤ zm_o c' s 5 ∧ zm_o c' s 5 ≤ 12) (ht : zm_o c' s 2 = 1 → ∀ p ∈ zm_tk c' s, p ∈ zm_row c (c 0 :: l)) (hb : -1 ≤ zm_o c' s 8 ∧ zm_o c' s 8 ≤ 47) (hn : ((zm_row c' (s :: c 0 :: l)).filter (zm_sn c' (s :: c 0 :: l))).length ≤ 120) : zm_W c' ∧ zm_W1 c' s (c 0 :: l) := by
  obtain ⟨⟨w1, ⟨w2, w3, w4, w5⟩, w6⟩, w7, w8⟩ := id w
  have hst : ∀ {t : Int}, zm_st c' t ↔ t = s ∨ (t ≠ s ∧ zm_st c t) := zm_Nw_st hs n
  have hns : ¬ zm_st c s := fun q => hd q.2
  have hne : ∀ {t : Int}, zm_st c t → t ≠ s := fun q e => hns (by rw [← e]; exact q)
  have s0 : s ≠ 0 := (hne w2).symm
  have hag : ∀ {t : Int}, zm_st c t → zm_ag c c' t := fun q => zm_Nw_ag n q.1.1 (by omega) (hne q)
  have hlh : ∀ t ∈ c 0 :: l, zm_st c t := hl.2.1.2.2
  have hagl : ∀ t ∈ c 0 :: l, zm_ag c c' t := fun t ht => hag (hlh t ht)
  have W1s : zm_W1 c' s (c 0 :: l) := by
    refine ⟨⟨⟨rfl, hs.1, by omega⟩, ?_⟩, ⟨List.nodup_cons.mpr ⟨fun q => hns (hlh s q), hl.2.1.1⟩, ?_, fun t ht => ?_⟩, fun _ => ⟨?_, ?_⟩, fun _ => hm, fun q p hp => ?_, hb, hn⟩
    · rw [n.2.2.2]
      exact zm_Ln_cg hagl hl.1
    · rw [List.getLast?_cons_cons]
      exact hl.2.1.2.1
    · rcases List.mem_cons.mp ht with q | q
      · rw [q]
        exact hst.mpr (Or.inl rfl)
      · exact hst.mpr (Or.inr ⟨hne (hlh t q), hlh t q⟩)
    · rcases hf with q | q
      · rw [q]
        exact List.mem_cons_self
      · rw [q.1]
        exact List.mem_cons_of_mem _ (hl.2.2.1 q.2).1
    · rcases hf with q | q
      · rw [q]
        exact s0
      · rw [q.1]
        exact (hl.2.2.1 q.2).2
    · rw [zm_row_cg hagl]
      exact ht q p hp
  refine ⟨⟨⟨fun t t0 t1 => ?_, ⟨hst.mpr (Or.inr ⟨hne w2, w2⟩), ?_, ?_, ?_⟩, fun t ht => ?_⟩, ?_, zm_Wh_hd w8 (zm_Nw_hd hs n)⟩, W1s⟩
  · by_cases e : t = s
    · rw [e]
      exact Or.inr n.2.2.1
    · rw [n.2.1 t 0 t0 (by omega) e (by decide) (by decide)]
      exact w1 t t0 t1
  · rw [hag w2 1 (by decide) (by decide) (by decide)]
    exact w3
  · rw [hag w2 2 (by decide) (by decide) (by decide)]
    exact w4
  · rw [hag w2 5 (by decide) (by decide) (by decide)]
    exact w5
  · rcases hst.mp ht with q | ⟨_, q⟩
    · rw [q]
      exact ⟨_, W1s⟩
    · obtain ⟨l', l1, l2, l3, l4⟩ := zm_W_l w.1 q
      exact ⟨l', zm_W1_cg l1 l3 (fun u hu => hag (l1.2.1.2.2 u hu)) (fun u hu => hst.mpr (Or.inr ⟨hne (l1.2.1.2.2 u hu), l1.2.1.2.2 u hu⟩))⟩
  · rw [n.1 0 (Or.inl (by decide)) (by decide), zm_vc_0 c hs]
    exact hst.mpr (Or.inl rfl)
/-! what one sees there -/
theorem zm_fc_ned {c c' : Nat → Int} {s : Int} {lh : List Int} (hne : lh ≠ []) (he : zm_ed c' s) (ha : ∀ t ∈ lh, zm_ag c c' t) (x : Int) : zm_fc c' (s :: lh) x = if x = s then 1 else zm_fc c lh x := by
  rw [zm_fc_c c' s hne, if_neg (show ¬ (¬ zm_ed c' s ∧ zm_nm c' s x) from fun q => q.1 he), if_pos he, zm_fc_cg x ha]
theorem zm_cb_ned {c c' : Nat → Int} {s : Int} {lh : List Int} (hne : lh ≠ []) (he : zm_ed c' s) (ha : ∀ t ∈ lh, zm_ag c c' t) (hns : ¬ s ∈ lh) (hm : ∀ t ∈ lh, zm_o c t 2 = 1 → zm_o c t 5 ≤ 12) (p : Int × Int) : zm_cb c' (s :: lh) lh p = zm_cb c lh lh p := by
  refine zm_any_cg ?_
  intro t ht
  have hts : t ≠ s := fun e => hns (by rw [← e]; exact ht)
  rw [ha t ht 2 (by decide) (by decide) (by decide), zm_fc_ned hne he ha t, if_neg hts]
  by_cases h1 : zm_o c t 2 = 1
  · rw [zm_tk_cg (ha t ht) (hm t ht h1)]
  · rw [decide_eq_false h1, Bool.false_and, Bool.false_and]
theorem zm_sn_ned {c c' : Nat → Int} {s : Int} {lh : List Int} (hne : lh ≠ []) (he : zm_ed c' s) (ha : ∀ t ∈ lh, zm_ag c c' t) (hns : ¬ s ∈ lh) (hm : ∀ t ∈ lh, zm_o c t 2 = 1 → zm_o c t 5 ≤ 12) {p : Int × Int} (hp : p.1 ∈ lh) : zm_sn c' (s :: lh) p = (zm_sn c lh p && !(decide (zm_o c' s 2 = 1) && (zm_tk c' s).contains p)) := by
  have hps : p.1 ≠ s := fun e => hns (by rw [← e]; exact hp)
  unfold zm_sn
  rw [zm_cb_c, zm_cb_ned hne he ha hns hm, zm_fc_ned hne he ha, zm_fc_ned hne he ha, if_neg hps, if_pos rfl]
  cases decide (zm_fc c lh p.1 = 1)
  · rfl
  · cases zm_cb c lh lh p
    · cases decide (zm_o c' s 2 = 1)
      · rfl
      · cases (zm_tk c' s).contains p
        · rfl
        · rfl
    · cases decide (zm_o c' s 2 = 1)
      · rfl
      · cases (zm_tk c' s).contains p
        · rfl
        · rfl
theorem zm_fl_split (f : Int × Int → Bool) (row r : List (Int × Int)) (n : Nat) : ((row.take n ++ (r ++ row.drop n)).filter f).length = (row.filter f).length + (r.filter f).length := by
  have e : row.filter f = (row.take n).filter f ++ (row.drop n).filter f := by rw [← List.filter_append, List.take_append_drop]
  rw [e, List.filter_append, List.filter_append, List.length_append, List.length_append, List.length_append]
  omega
theorem zm_fl_all {α : Type} (f : α → Bool) {l : List α} (h : ∀ x ∈ l, f x = true) : l.filter f = l := List.filter_eq_self.mpr h
/-- of a put: what was there, and the word -/
theorem zm_cnt_put {c c' : Nat → Int} {s : Int} {lh : List Int} (hne : lh ≠ []) (ha : ∀ t ∈ lh, zm_ag c c' t) (hns : ¬ s ∈ lh) (g : zm_G0 c lh) (gt : ∀ t ∈ lh, zm_o c t 2 = 1 → ∀ p ∈ zm_tk c t, p ∈ zm_row c lh) (hp : zm_o c' s 2 = 0) : zm_row c' (s :: lh) = zm_ins c' s (zm_row c lh) ∧ (∀ p ∈ zm_row c lh, zm_sn c' (s :: lh) p = zm_sn c lh p) ∧ (∀ p ∈ zm_rs s (zm_o c' s 5), zm_sn c' (s :: lh) p = true) ∧ ((zm_row c' (s :: lh)).filter (zm_sn c' (s :: lh))).length = ((zm_row c lh).filter (zm_sn c lh)).length + (zm_o c' s 5).toNat := by
  have he : zm_ed c' s := Or.inl hp
  have hm := zm_cut12 g
  have r1 : zm_row c' (s :: lh) = zm_ins c' s (zm_row c lh) := by
    rw [zm_row_c c' s hne, if_pos hp, zm_row_cg ha]
  have r2 : ∀ p ∈ zm_row c lh, zm_sn c' (s :: lh) p = zm_sn c lh p := by
    intro p hpm
    rw [zm_sn_ned hne he ha hns hm (zm_row_mem hpm).1, decide_eq_false (by rw [hp]; decide), Bool.false_and, Bool.not_false, Bool.and_true]
  have r3 : ∀ p ∈ zm_rs s (zm_o c' s 5), zm_sn c' (s :: lh) p = true := by
    intro p hpm
    have e1 := (zm_rs_mem.mp hpm).1
    unfold zm_sn
    rw [zm_cb_c, zm_cb_ned hne he ha hns hm, zm_fc_ned hne he ha, if_pos e1, decide_eq_false (show ¬ zm_o c' s 2 = 1 by rw [hp]; decide), Bool.false_and, Bool.false_or]
    have e2 : zm_cb c lh lh p = false := by
      unfold zm_cb
      rw [List.any_eq_false]
      intro t ht q
      rw [Bool.and_eq_true, Bool.and_eq_true] at q
      have h1 := gt t ht (of_decide_eq_true q.1) p (List.contains_iff_mem.mp q.2.2)
      exact hns (by rw [← e1]; exact (zm_row_mem h1).1)
    rw [e2]
    rfl
  refine ⟨r1, r2, r3, ?_⟩
  rw [r1, zm_ins_e, zm_fl_split, zm_fl_cg r2, zm_fl_all _ r3, zm_rs_len]
/-- of a cut: no more than was there -/
theorem zm_cnt_cut {c c' : Nat → Int} {s : Int} {lh : List Int} (hne : lh ≠ []) (ha : ∀ t ∈ lh, zm_ag c c' t) (hns : ¬ s ∈ lh) (g : zm_G0 c lh) (hp : zm_o c' s 2 = 1) : zm_row c' (s :: lh) = zm_row c lh ∧ (∀ p ∈ zm_row c lh, zm_sn c' (s :: lh) p = (zm_sn c lh p && !((zm_tk c' s).contains p))) ∧ ((zm_row c' (s :: lh)).filter (zm_sn c' (s :: lh))).length ≤ ((zm_row c lh).filter (zm_sn c lh)).length := by
  have he : zm_ed c' s := Or.inr hp
  have hm := zm_cut12 g
  have r1 : zm_row c' (s :: lh) = zm_row c lh := by
    rw [zm_row_c c' s hne, if_neg (by rw [hp]; decide), zm_row_cg ha]
  have r2 : ∀ p ∈ zm_row c lh, zm_sn c' (s :: lh) p = (zm_sn c lh p && !((zm_tk c' s).contains p)) := by
    intro p hpm
    rw [zm_sn_ned hne he ha hns hm (zm_row_mem hpm).1, decide_eq_true hp, Bool.true_and]
  refine ⟨r1, r2, ?_⟩
  rw [r1, zm_fl_cg r2]
  have key : ∀ r : List (Int × Int), (r.filter fun p => zm_sn c lh p && !((zm_tk c' s).contains p)).length ≤ (r.filter (zm_sn c lh)).length := by
    intro r
    induction r with
    | nil => exact Nat.le_refl _
    | cons p r ih =>
      rw [List.filter_cons, List.filter_cons]
      cases e : zm_sn c lh p
      · rw [Bool.false_and, if_neg (by decide), if_neg (by decide)]
        exact ih
      · rw [if_pos rfl, List.length_cons]
        cases e2 : (zm_tk c' s).contains p
        · rw [Bool.not_false, Bool.and_true, if_pos rfl, List.length_cons]
          omega
        · rw [Bool.not_true, Bool.and_false, if_neg (by decide)]
          omega
  exact key _
/-- of two that name the same: the same -/
theorem zm_cnt_nam {c c1 c2 : Nat → Int} {s u : Int} {lh : List Int} (hne : lh ≠ []) (ha1 : ∀ t ∈ lh, zm_ag c c1 t) (ha2 : ∀ t ∈ lh, zm_ag c c2 t) (hs : ¬ s ∈ lh) (hu : ¬ u ∈ lh) (g : zm_G0 c lh) (e1 : zm_o c1 s 2 = 2 ∨ zm_o c1 s 2 = 3) (e2 : zm_o c2 u 2 = zm_o c1 s 2) (el : zm_o c2 u 10 = zm_o c1 s 10) (eh : zm_o c2 u 11 = zm_o c1 s 11) : zm_row c1 (s :: lh) = zm_row c lh ∧ zm_row c2 (u :: lh) = zm_row c lh ∧ ((zm_row c1 (s :: lh)).filter (zm_sn c1 (s :: lh))).length = ((zm_row c2 (u :: lh)).filter (zm_sn c2 (u :: lh))).length := by
  have hm := zm_cut12 g
  have n0 : zm_o c1 s 2 ≠ 0 := by omega
  have n1 : zm_o c1 s 2 ≠ 1 := by omega
  have r1 : zm_row c1 (s :: lh) = zm_row c lh := by
    rw [zm_row_c c1 s hne, if_neg n0, zm_row_cg ha1]
  have r2 : zm_row c2 (u :: lh) = zm_row c lh := by
    rw [zm_row_c c2 u hne, if_neg (by rw [e2]; exact n0), zm_row_cg ha2]
  have d1 : ¬ zm_ed c1 s := fun q => q.elim n0 n1
  have d2 : ¬ zm_ed c2 u := fun q => by
    rcases q with q | q
    · rw [e2] at q
      exact n0 q
    · rw [e2] at q
      exact n1 q
  have hnm : ∀ x, zm_nm c2 u x ↔ zm_nm c1 s x := by
    intro x
    show zv_and (zv_shr (zm_o c2 u (if x < 24 then 10 else 11)) (x.tmod 24)) 1 = 1 ↔ zv_and (zv_shr (zm_o c1 s (if x < 24 then 10 else 11)) (x.tmod 24)) 1 = 1
    split
    · rw [el]
    · rw [eh]
  have hfc : ∀ x ∈ lh, zm_fc c1 (s :: lh) x = zm_fc c2 (u :: lh) x := by
    intro x hx
    have x1 : x ≠ s := fun e => hs (by rw [← e]; exact hx)
    have x2 : x ≠ u := fun e => hu (by rw [← e]; exact hx)
    rw [zm_fc_c c1 s hne, zm_fc_c c2 u hne, if_neg x1, if_neg x2, zm_fc_cg x ha1, zm_fc_cg x ha2]
    exact zm_ic ⟨fun q => ⟨d2, (hnm x).mpr q.2⟩, fun q => ⟨d1, (hnm x).mp q.2⟩⟩ (zm_ic (by rw [e2]) rfl rfl) rfl
  have hcb : ∀ p, zm_cb c1 (s :: lh) (s :: lh) p = zm_cb c2 (u :: lh) (u :: lh) p := by
    intro p
    rw [zm_cb_c, zm_cb_c, decide_eq_false n1, decide_eq_false (show ¬ zm_o c2 u 2 = 1 by rw [e2]; exact n1), Bool.false_and, Bool.false_and, Bool.false_or, Bool.false_or]
    refine zm_any_cg ?_
    intro t ht
    rw [ha1 t ht 2 (by decide) (by decide) (by decide), ha2 t ht 2 (by decide) (by decide) (by decide), hfc t ht]
    by_cases h1 : zm_o c t 2 = 1
    · rw [zm_tk_cg (ha1 t ht) (hm t ht h1), zm_tk_cg (ha2 t ht) (hm t ht h1)]
    · rw [decide_eq_false h1, Bool.false_and, Bool.false_and]
  refine ⟨r1, r2, ?_⟩
  rw [r1, r2, zm_fl_cg (g := zm_sn c2 (u :: lh))]
  intro p hp
  unfold zm_sn
  rw [hfc _ (zm_row_mem hp).1, hcb]
end
/-! 63.put -/
section
/-! ===== the reference: put and cut ===== -/
theorem zm_vc_cg {c c4 : Nat → Int} {s : Int} (hs : 0 ≤ s ∧ s ≤ 47) (hk : ∀ k : Nat, ¬ (432 + 76 * s.toNat ≤ k ∧ k < 432 + 76 * s.toNat + 76) → c4 k = c k) {k : Nat} (h1 : k < 432 ∨ 4156 ≤ k) (h2 : k < 4236) : zm_vc c4 s k = zm_vc c s k := by
  unfold zm_vc
  rw [hk 5 (by omega), hk 1 (by omega), hk 2 (by omega), hk k (by omega)]
  by_cases q : 4158 ≤ k ∧ k < 4236
  · rw [hk (k - 2) (by omega)]
  · rw [if_neg q, if_neg q]
theorem zm_Nw_of {c c4 : Nat → Int} {s : Int} (hs : 0 ≤ s ∧ s ≤ 47) (hk : ∀ k : Nat, ¬ (432 + 76 * s.toNat ≤ k ∧ k < 432 + 76 * s.toNat + 76) → c4 k = c k) (e0 : zm_o c4 s 0 = 1) (e1 : zm_o c4 s 1 = c 0) : zm_Nw c (zm_vc c4 s) s ∧ ∀ w : Int, 0 ≤ w → w < 76 → w ≠ 7 → zm_o (zm_vc c4 s) s w = zm_o c4 s w := by
  have r : ∀ w : Int, 0 ≤ w → w < 76 → w ≠ 7 → zm_o (zm_vc c4 s) s w = zm_o c4 s w := fun w w0 w1 w7 => zm_vc_o hs (by omega) ⟨w0, w1⟩ (fun q => w7 q.2)
  refine ⟨⟨fun k h1 h2 => zm_vc_cg hs hk h1 h2, fun t w t0 t1 ht w0 w1 => ?_, ?_, ?_⟩, r⟩
  · rw [zm_vc_o hs ⟨t0, t1⟩ ⟨w0, w1⟩ (fun q => ht q.1)]
    unfold zm_o
    exact hk _ (by omega)
  · rw [r 0 (by decide) (by decide) (by decide)]
    exact e0
  · rw [r 1 (by decide) (by decide) (by decide)]
    exact e1
/-- a put's cells -/
def zm_Pt (c c' : Nat → Int) (l : List Int) (s place m : Int) (wd : Nat → Int) : Prop := zm_o c' s 2 = 0 ∧ zm_o c' s 3 = c 1 ∧ zm_o c' s 4 = place ∧ zm_o c' s 5 = m ∧ (zm_o c' s 6 = s ∨ (zm_o c' s 6 = zm_o c (c 0) 6 ∧ c 0 ≠ 0)) ∧ (∀ k : Nat, (k : Int) < m → zm_o c' s (12 + k) = wd k) ∧ (place = 0 → zm_o c' s 8 = -1) ∧ (place ≠ 0 → ∃ x : Int × Int, ((zm_row c l).filter (zm_sn c l))[(place - 1).toNat]? = some x ∧ zm_o c' s 8 = x.1 ∧ zm_o c' s 9 = x.2)
theorem zm_put110 (d : Nat) {s : Int} (hs : 0 ≤ s ∧ s ≤ 48) (row : Int) (g : Nat → Int) (wd : Nat → Int) (m : Nat) (hm : m ≤ 12) : ∀ (n i : Nat) (h : zv_H), i + n = m → zm_M h → zv_I h 347 19 = m → zv_I h 360 = wd → (∀ w : Int, 0 ≤ w → w < 76 → ¬ (12 ≤ w ∧ w < 12 + m) → zm_o (zv_I h 348) s w = zm_o g s w) → (∀ k : Nat, k < i → zm_o (zv_I h 348) s (12 + k) = wd k) → (∀ k : Nat, ¬ (432 + 76 * s.toNat ≤ k ∧ k < 432 + 76 * s.toNat + 76) → zv_I h 348 k = g k) → ∃ h', L9_putNow_110 (d + 1) 347 s row i h = L9_putNow_110 (d + 1) 347 s row m h' ∧ zm_F [348] [] h h' ∧ (∀ w : Int, 0 ≤ w → w < 76 → ¬ (12 ≤ w ∧ w < 12 + m) → zm_o (zv_I h' 348) s w = zm_o g s w) ∧ (∀ k : Nat, k < m → zm_o (zv_I h' 348) s (12 + k) = wd k) ∧ (∀ k : Nat, ¬ (432 + 76 * s.toNat ≤ k ∧ k < 432 + 76 * s.toNat + 76) → zv_I h' 348 k = g k)
  | 0, i, h, hi, _, _, _, h1, h2, h3 => by
    have e : i = m := by omega
    subst e
    exact ⟨h, rfl, zm_F_r _ _ h, h1, h2, h3⟩
  | n + 1, i, h, hi, hM, h19, hw, h1, h2, h3 => by
    have S : zv_I (zv_sI h 348 (432 + 76 * s.toNat + (12 + (i : Int)).toNat) (wd i)) 348 = zm_os (zv_I h 348) s (12 + (i : Int)) (wd i) := zm_ss _ _ _ _
    rw [qL9_putNow_110, zm_e (zm_gI hM 19), h19, if_pos (by omega), zm_e (zm_f17 hM), zm_e (zm_aI hM zm_l360 rfl (by omega) (by omega)), show ((i : Int)).toNat = i by omega, hw, zm_w (x := 12 + (i : Int)) (by omega), zm_e (zm_sets hM d hs (by omega) _), zm_w (by omega)]
    obtain ⟨h', i1, i2, i3⟩ := zm_put110 d hs row g wd m hm n (i + 1) (zv_sI h 348 (432 + 76 * s.toNat + (12 + (i : Int)).toNat) (wd i)) (by omega) hM h19 (by rw [zm_so h _ _]; exact hw) (fun w w0 w1 wn => by
      rw [S, zm_os_o _ _ hs.1 (by omega) hs.1 ⟨w0, w1⟩ (fun q => by omega)]
      exact h1 w w0 w1 wn) (fun k hk => by
      rw [S]
      by_cases q : k = i
      · rw [q, zm_os_s]
      · rw [zm_os_o _ _ hs.1 (by omega) hs.1 (by omega) (fun z => by omega)]
        exact h2 k (by omega)) (fun k hk => by
      rw [S, zm_os_k _ _ (by omega) hk]
      exact h3 k hk)
    exact ⟨h', i1, zm_F_t (zm_F_I (zm_F_r _ _ h) rfl _ _) i2, i3⟩
def zm_PA : List Nat := [348, 351, 352, 353, 354, 355, 358, 359]
def zm_PB : List Nat := [3, 10, 11, 12]
/-- what putting does, where it does -/
theorem zm_put84 {h : zv_H} {c : Nat → Int} {l : List Int} (hM : zm_M h) (hc : zv_I h 348 = c) (w : zm_W c) (d : Nat) (hl : zm_W1 c (c 0) l) (g : zm_G0 c (c 0 :: l)) (gt : ∀ t ∈ c 0 :: l, zm_o c t 2 = 1 → ∀ p ∈ zm_tk c t, p ∈ zm_row c (c 0 :: l)) (hSn : zm_Sn h c (c 0 :: l)) {s place row : Int} (hs : 0 ≤ s ∧ s ≤ 47) (hd : zm_o c s 0 ≠ 1) {m : Nat} (hm : m ≤ 12) (h19 : zv_I h 347 19 = m) (hp : 0 ≤ place ∧ place ≤ ((zm_row c (c 0 :: l)).filter (zm_sn c (c 0 :: l))).length) (hcnt : ((zm_row c (c 0 :: l)).filter (zm_sn c (c 0 :: l))).length + m ≤ 120) (hrow : (place = 0 ∧ row = -1) ∨ (place ≠ 0 ∧ row = zm_rp (zm_sn c (c 0 :: l)) (zm_row c (c 0 :: l)) (place - 1))) :
    zm_R (L9_putNow_84 (d + 4) 347 place s row h) (zm_I fun v h' => zm_F [348, 351, 352, 353, 354, 355, 358, 359] [3, 10, 11, 12] h h' ∧ zm_W (zv_I h' 348) ∧ v = s ∧ zm_Nw c (zv_I h' 348) s ∧ zm_Pt c (zv_I h' 348) (c 0 :: l) s place m (zv_I h 360)) := by
  have h0 : 0 ≤ c 0 ∧ c 0 ≤ 47 := w.2.1.1
  have hns : ¬ zm_st c s := fun q => hd q.2
  have hne : s ≠ c 0 := fun e => hns (by rw [e]; exact w.2.1)
  rw [qL9_putNow_84, zm_e (zm_gI hM 19), zm_e (zm_gI hM 19), h19]
  obtain ⟨⟨j, h2⟩, e2, q2, f2⟩ := zm_joins hM hc w (d + 1) 0 place m
  dsimp only at q2 f2
  have hM2 := zm_F_M f2 hM
  have c2 : zv_I h2 348 = c := (zm_F_a f2 348).trans hc
  rw [zm_e e2]
  dsimp only
  obtain ⟨h3, e3, f3, b3⟩ := zm_begins hM2 c2 (d + 2) (s := s) (by omega) h0 hne 0 place m j
  have hM3 := zm_F_M f3 hM2
  obtain ⟨⟨b30, b31, b32, b33, b34, b35, b36⟩, b38, b39, b3k⟩ := b3
  rw [zm_e e3]
  have w3 : zv_I h3 360 = zv_I h 360 := (zm_F_a f3 360).trans (zm_F_a f2 360)
  have n3 : zv_I h3 347 19 = m := (zm_F_g f3 19).trans ((zm_F_g f2 19).trans h19)
  obtain ⟨h4, i1, i2, i3, i4, i5⟩ := zm_put110 (d + 3) (s := s) (by omega) row (zv_I h3 348) (zv_I h 360) m hm m 0 h3 (by omega) hM3 n3 w3 (fun _ _ _ _ => rfl) (fun k hk => by omega) (fun _ _ => rfl)
  have hM4 := zm_F_M i2 hM3
  have f4 : zm_F [348, 351, 352, 353, 354, 355, 358, 359] [3, 10, 11, 12] h h4 := zm_F_t (zm_F_s f2 rfl rfl) (zm_F_t (zm_F_s f3 rfl rfl) (zm_F_s i2 rfl rfl))
  rw [show L9_putNow_110 (d + 4) 347 s row 0 h3 = _ from i1, qL9_putNow_110, zm_e (zm_gI hM4 19), show zv_I h4 347 19 = (m : Int) from (zm_F_g i2 19).trans n3, if_neg (by omega)]
  have k4 : ∀ k : Nat, ¬ (432 + 76 * s.toNat ≤ k ∧ k < 432 + 76 * s.toNat + 76) → zv_I h4 348 k = c k := fun k hk => (i5 k hk).trans (b3k k hk)
  have o4 : ∀ w : Int, 0 ≤ w → w < 12 → zm_o (zv_I h4 348) s w = zm_o (zv_I h3 348) s w := fun w w0 w1 => i3 w w0 (by omega) (by omega)
  -- the visit and what then stands
  have fin : ∀ h5 : zv_H, zm_F [348, 351, 352, 353, 354, 355, 358, 359] [3, 10, 11, 12] h h5 → (∀ k : Nat, ¬ (432 + 76 * s.toNat ≤ k ∧ k < 432 + 76 * s.toNat + 76) → zv_I h5 348 k = c k) → (∀ w : Int, 0 ≤ w → w < 8 → zm_o (zv_I h5 348) s w = zm_o (zv_I h3 348) s w) → (∀ k : Nat, k < m → zm_o (zv_I h5 348) s (12 + k) = zv_I h 360 k) → (-1 ≤ zm_o (zv_I h5 348) s 8 ∧ zm_o (zv_I h5 348) s 8 ≤ 47) → (place = 0 → zm_o (zv_I h5 348) s 8 = -1) → (place ≠ 0 → ∃ x : Int × Int, ((zm_row c (c 0 :: l)).filter (zm_sn c (c 0 :: l)))[(place - 1).toNat]? = some x ∧ zm_o (zv_I h5 348) s 8 = x.1 ∧ zm_o (zv_I h5 348) s 9 = x.2) → zm_R (L9_putNow_175 (d + 4) 347 s h5) (zm_I fun v h' => zm_F [348, 351, 352, 353, 354, 355, 358, 359] [3, 10, 11, 12] h h' ∧ zm_W (zv_I h' 348) ∧ v = s ∧ zm_Nw c (zv_I h' 348) s ∧ zm_Pt c (zv_I h' 348) (c 0 :: l) s place m (zv_I h 360)) := by
    intro h5 f5 k5 o5 l5 b5 p0 p1
    have hM5 := zm_F_M f5 hM
    obtain ⟨h6, e6, f6, c6⟩ := zm_visits hM5 rfl (d + 2) hs
    have c50 : zv_I h5 348 0 = c 0 := k5 0 (by omega)
    rw [if_neg (by rw [c50]; exact hne)] at c6
    obtain ⟨nw, rw6⟩ := zm_Nw_of hs k5 (by rw [o5 0 (by decide) (by decide)]; exact b30) (by rw [o5 1 (by decide) (by decide), b31])
    rw [qL9_putNow_175, zm_e e6]
    rw [← c6] at nw rw6
    have a2 : zm_o (zv_I h6 348) s 2 = 0 := by rw [rw6 2 (by decide) (by decide) (by decide), o5 2 (by decide) (by decide), b32]
    have a5 : zm_o (zv_I h6 348) s 5 = m := by rw [rw6 5 (by decide) (by decide) (by decide), o5 5 (by decide) (by decide), b35]
    have a6 : zm_o (zv_I h6 348) s 6 = s ∨ (zm_o (zv_I h6 348) s 6 = zm_o c (c 0) 6 ∧ c 0 ≠ 0) := by
      rw [rw6 6 (by decide) (by decide) (by decide), o5 6 (by decide) (by decide), b36]
      rcases q2 with q | q
      · rw [if_pos q]
        exact Or.inl rfl
      · rw [if_neg (by rw [q.1]; decide)]
        exact Or.inr ⟨rfl, q.2⟩
    have a8 : zm_o (zv_I h6 348) s 8 = zm_o (zv_I h5 348) s 8 := rw6 8 (by decide) (by decide) (by decide)
    have hagl : ∀ t ∈ c 0 :: l, zm_ag c (zv_I h6 348) t := fun t ht => by
      have hst := hl.2.1.2.2 t ht
      exact zm_Nw_ag nw hst.1.1 (by omega) (fun e => hns (by rw [← e]; exact hst))
    have hnl : ¬ s ∈ c 0 :: l := fun q => hns (hl.2.1.2.2 s q)
    obtain ⟨_, _, _, cnt⟩ := zm_cnt_put (List.cons_ne_nil _ _) hagl hnl g gt a2
    obtain ⟨W6, _⟩ := zm_W_new w hs hd nw hl a6 (fun _ => by omega) (fun q => by rw [a2] at q; cases q) (by rw [a8]; exact b5) (by rw [cnt]; omega)
    refine zm_iI ⟨zm_F_t f5 (zm_F_s f6 rfl rfl), W6, rfl, nw, a2, ?_, ?_, a5, a6, fun k hk => ?_, fun q => ?_, fun q => ?_⟩
    · rw [rw6 3 (by decide) (by decide) (by decide), o5 3 (by decide) (by decide), b33]
    · rw [rw6 4 (by decide) (by decide) (by decide), o5 4 (by decide) (by decide), b34]
    · rw [rw6 _ (by omega) (by omega) (by omega)]
      exact l5 k (by omega)
    · rw [a8]
      exact p0 q
    · obtain ⟨x, x1, x2, x3⟩ := p1 q
      exact ⟨x, x1, by rw [a8]; exact x2, by rw [rw6 9 (by decide) (by decide) (by decide)]; exact x3⟩
  have b48 : zm_o (zv_I h4 348) s 8 = -1 := by rw [o4 8 (by decide) (by decide), b38]
  rcases hrow with ⟨r1, r2⟩ | ⟨r1, r2⟩
  · rw [if_pos (by omega)]
    exact fin h4 f4 k4 (fun w w0 w1 => o4 w w0 (by omega)) i4 (by omega) (fun _ => b48) (fun q => absurd r1 q)
  · obtain ⟨p, ep⟩ : ∃ p : Nat, place - 1 = p := ⟨(place - 1).toNat, by omega⟩
    have hrp := zm_rp_in (zm_sn c (c 0 :: l)) (zm_row c (c 0 :: l)) p (by omega)
    have hrp2 := zm_rp_ge (zm_sn c (c 0 :: l)) (zm_row c (c 0 :: l)) p
    rw [ep] at r2
    obtain ⟨x, hx⟩ : ∃ x, ((zm_row c (c 0 :: l)).filter (zm_sn c (c 0 :: l)))[p]? = some x := ⟨_, List.getElem?_eq_getElem (by omega)⟩
    have hx2 := hrp.2.trans hx
    have hrl := zm_row_le g
    have hll : (c 0 :: l).length ≤ 48 := zm_nd_le (n := 48) hl.2.1.1 (fun t ht => by have := (hl.2.1.2.2 t ht).1; omega)
    have Sn4 : zm_rw h4 (zm_row c (c 0 :: l)) := by
      have := zm_Sn_F (zm_Sn_F (zm_Sn_F hSn f2) f3) i2
      exact this.2.1
    have hxx := Sn4.2 _ x hx2
    have hxst : zm_st c x.1 := hl.2.1.2.2 _ (zm_row_mem (List.mem_of_getElem? hx2)).1
    rw [← r2] at hxx
    rw [if_neg (by omega), zm_e (zm_f6 hM4), zm_e (zm_aI hM4 zm_l352 rfl (by omega) (by omega)), hxx.1, zm_e (zm_sets hM4 _ (by omega) (by decide) _)]
    have f5 : zm_F [348, 351, 352, 353, 354, 355, 358, 359] [3, 10, 11, 12] h (zv_sI h4 348 (432 + 76 * s.toNat + Int.toNat 8) x.1) := zm_F_I f4 rfl _ _
    have c5 : zv_I (zv_sI h4 348 (432 + 76 * s.toNat + Int.toNat 8) x.1) 348 = zm_os (zv_I h4 348) s 8 x.1 := zm_ss _ _ _ _
    have y5 : zv_I (zv_sI h4 348 (432 + 76 * s.toNat + Int.toNat 8) x.1) 353 = zv_I h4 353 := zm_so _ _ _
    generalize zv_sI h4 348 (432 + 76 * s.toNat + Int.toNat 8) x.1 = h5 at f5 c5 y5
    have hM5 := zm_F_M f5 hM
    rw [zm_e (zm_f7 hM5), zm_e (zm_aI hM5 zm_l353 rfl (by omega) (by omega)), y5, hxx.2, zm_e (zm_sets hM5 _ (by omega) (by decide) _)]
    have c6 : zv_I (zv_sI h5 348 (432 + 76 * s.toNat + Int.toNat 9) x.2) 348 = zm_os (zm_os (zv_I h4 348) s 8 x.1) s 9 x.2 := by
      rw [← c5]
      exact zm_ss _ _ _ _
    have O : ∀ w : Int, 0 ≤ w → w < 76 → w ≠ 8 → w ≠ 9 → zm_o (zm_os (zm_os (zv_I h4 348) s 8 x.1) s 9 x.2) s w = zm_o (zv_I h4 348) s w := by
      intro w w0 w1 w8 w9
      rw [zm_os_o _ _ hs.1 (by decide) hs.1 ⟨w0, w1⟩ (fun q => w9 q.2), zm_os_o _ _ hs.1 (by decide) hs.1 ⟨w0, w1⟩ (fun q => w8 q.2)]
    have v8 : zm_o (zm_os (zm_os (zv_I h4 348) s 8 x.1) s 9 x.2) s 8 = x.1 := by
      rw [zm_os_o _ _ hs.1 (by decide) hs.1 (by decide) (fun q => by cases q.2), zm_os_s]
    refine fin _ (zm_F_I f5 rfl _ _) (fun k hk => ?_) (fun w w0 w1 => ?_) (fun k hk => ?_) ?_ (fun q => absurd q r1) (fun _ => ⟨x, ?_, ?_, ?_⟩)
    · rw [c6, zm_os_k _ _ (by decide) hk, zm_os_k _ _ (by decide) hk]
      exact k4 k hk
    · rw [c6, O w w0 (by omega) (by omega) (by omega)]
      exact o4 w w0 (by omega)
    · rw [c6, O _ (by omega) (by omega) (by omega) (by omega)]
      exact i4 k hk
    · rw [c6, v8]
      have := hxst.1
      omega
    · rw [show (place - 1).toNat = p by omega]
      exact hx
    · rw [c6, v8]
    · rw [c6, zm_os_s]
end
