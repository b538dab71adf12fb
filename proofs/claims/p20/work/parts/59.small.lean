/-! ===== the reference: counts, the free state, visits ===== -/
theorem zm_sum_b {f : Nat → Int} {a b : Int} : ∀ n : Nat, (∀ k, k < n → a ≤ f k ∧ f k ≤ b) → n * a ≤ zm_sum f n ∧ zm_sum f n ≤ n * b
  | 0, _ => by
    show ((0 : Nat) : Int) * a ≤ 0 ∧ 0 ≤ ((0 : Nat) : Int) * b
    omega
  | n + 1, hf => by
    have h1 := zm_sum_b n (fun k hk => hf k (by omega))
    have h2 := hf n (by omega)
    show ((n + 1 : Nat) : Int) * a ≤ zm_sum f n + f n ∧ zm_sum f n + f n ≤ ((n + 1 : Nat) : Int) * b
    rw [Int.natCast_add, Int.add_mul, Int.add_mul]
    omega
theorem zm_sum_cg {f g : Nat → Int} : ∀ n : Nat, (∀ k, k < n → f k = g k) → zm_sum f n = zm_sum g n
  | 0, _ => rfl
  | n + 1, h => by
    show zm_sum f n + f n = zm_sum g n + g n
    rw [zm_sum_cg n (fun k hk => h k (by omega)), h n (by omega)]
theorem zm_sum_0 {f : Nat → Int} : ∀ n : Nat, (∀ k, k < n → 0 ≤ f k) → zm_sum f n = 0 → ∀ k, k < n → f k = 0
  | 0, _, _, k, hk => by omega
  | n + 1, hf, h, k, hk => by
    have h1 : zm_sum f n + f n = 0 := h
    have h2 := hf n (by omega)
    have h4 : 0 ≤ zm_sum f n := by
      clear h1 h h2
      have : ∀ m : Nat, m ≤ n → 0 ≤ zm_sum f m := by
        intro m
        induction m with
        | zero => exact fun _ => Int.le_refl _
        | succ m ih =>
          intro hm
          have a1 := ih (by omega)
          have a2 := hf m (by omega)
          show 0 ≤ zm_sum f m + f m
          omega
      exact this n (Nat.le_refl _)
    by_cases e : k = n
    · rw [e]
      omega
    · exact zm_sum_0 n (fun j hj => hf j (by omega)) (by omega) k (by omega)
/-- how many states -/
def zm_nst (c : Nat → Int) : Int := zm_sum (fun k => zm_o c k 0) 48
theorem zm_states_l {h : zv_H} (hM : zm_M h) (d : Nat) (h01 : ∀ s, 0 ≤ s → s ≤ 47 → zm_o (zv_I h 348) s 0 = 0 ∨ zm_o (zv_I h 348) s 0 = 1) : ∀ m i : Nat, i + m = 48 → L9_states_4 (d + 1) 347 (zm_sum (fun k => zm_o (zv_I h 348) k 0) i) i h = some (some (zv_i (zm_nst (zv_I h 348))), h)
  | 0, i, hi => by
    have e : i = 48 := by omega
    rw [qL9_states_4, if_neg (by omega), e]
    rfl
  | m + 1, i, hi => by
    have b1 := zm_sum_b (f := fun k => zm_o (zv_I h 348) k 0) (a := 0) (b := 1) i (fun k hk => by
      rcases h01 k (by omega) (by omega) with q | q
      · rw [q]
        omega
      · rw [q]
        omega)
    have b2 := h01 i (by omega) (by omega)
    rw [qL9_states_4, if_pos (by omega), zm_e (zm_of hM d (by omega) (by decide)), zm_w (x := (i : Int) + 1) (by omega)]
    dsimp only
    rw [zm_w (by omega)]
    exact zm_states_l hM d h01 m (i + 1) (by omega)
theorem zm_states {h : zv_H} (hM : zm_M h) (d : Nat) (h01 : ∀ s, 0 ≤ s → s ≤ 47 → zm_o (zv_I h 348) s 0 = 0 ∨ zm_o (zv_I h 348) s 0 = 1) : C9_states (d + 2) 347 h = some (zm_nst (zv_I h 348), h) := by
  refine lC9_states (zm_ob hM) ?_
  rw [qE9_states]
  exact zm_states_l hM d h01 48 0 rfl
theorem zm_freeState_l {h : zv_H} (hM : zm_M h) (d : Nat) : ∀ m i : Nat, i + m = 48 → (∀ j : Int, 0 ≤ j → j < i → zm_o (zv_I h 348) j 0 = 1) → ∃ v : Int, L9_freeState_2 (d + 1) 347 i h = some (some (zv_i v), h) ∧ (0 ≤ v ∧ v ≤ 48) ∧ (∀ j : Int, 0 ≤ j → j < v → zm_o (zv_I h 348) j 0 = 1) ∧ (v ≤ 47 → zm_o (zv_I h 348) v 0 ≠ 1)
  | 0, i, hi, hj => by
    rw [qL9_freeState_2, if_neg (by omega)]
    exact ⟨i, rfl, by omega, hj, fun q => by omega⟩
  | m + 1, i, hi, hj => by
    rw [qL9_freeState_2, if_pos (by omega), zm_e (zm_of hM d (by omega) (by decide))]
    dsimp only
    by_cases c1 : zm_o (zv_I h 348) i 0 = 1
    · rw [if_pos c1, zm_w (by omega)]
      exact zm_freeState_l hM d m (i + 1) (by omega) (fun j h0 h1 => by
        by_cases e : j = i
        · rw [e]
          exact c1
        · exact hj j h0 (by omega))
    · rw [if_neg c1]
      exact ⟨i, rfl, by omega, hj, fun _ => c1⟩
theorem zm_freeState {h : zv_H} (hM : zm_M h) (d : Nat) : ∃ v : Int, C9_freeState (d + 2) 347 h = some (v, h) ∧ (0 ≤ v ∧ v ≤ 48) ∧ (∀ j : Int, 0 ≤ j → j < v → zm_o (zv_I h 348) j 0 = 1) ∧ (v ≤ 47 → zm_o (zv_I h 348) v 0 ≠ 1) := by
  obtain ⟨v, e, r⟩ := zm_freeState_l hM d 48 0 rfl (fun j h0 h1 => by omega)
  refine ⟨v, lC9_freeState (zm_ob hM) ?_, r⟩
  rw [qE9_freeState]
  exact e
theorem zm_nst_48 {c : Nat → Int} (h : ∀ j : Int, 0 ≤ j → j < 48 → zm_o c j 0 = 1) : zm_nst c = 48 := by
  have : zm_nst c = zm_sum (fun _ => 1) 48 := zm_sum_cg 48 (fun k hk => h k (by omega) (by omega))
  rw [this]
  rfl
/-- a state that lives not, where there is one -/
theorem zm_free {h : zv_H} (hM : zm_M h) (d : Nat) (hn : zm_nst (zv_I h 348) ≠ 48) : ∃ v : Int, C9_freeState (d + 2) 347 h = some (v, h) ∧ (0 ≤ v ∧ v ≤ 47) ∧ (∀ j : Int, 0 ≤ j → j < v → zm_o (zv_I h 348) j 0 = 1) ∧ zm_o (zv_I h 348) v 0 ≠ 1 := by
  obtain ⟨v, e, r1, r2, r3⟩ := zm_freeState hM d
  have : v ≠ 48 := fun q => hn (zm_nst_48 (by rw [q] at r2; exact r2))
  exact ⟨v, e, by omega, r2, r3 (by omega)⟩
/-- how many children -/
def zm_nch (c : Nat → Int) (s : Int) : Int := zm_sum (fun k => if zm_st c k ∧ zm_o c k 1 = s then 1 else 0) 48
theorem zm_childrenOf_l {h : zv_H} (hM : zm_M h) (d : Nat) (s : Int) : ∀ m i : Nat, i + m = 48 → L9_childrenOf_4 (d + 2) 347 s (zm_sum (fun k => if zm_st (zv_I h 348) k ∧ zm_o (zv_I h 348) k 1 = s then 1 else 0) i) i h = some (some (zv_i (zm_nch (zv_I h 348) s)), h)
  | 0, i, hi => by
    have e : i = 48 := by omega
    rw [qL9_childrenOf_4, if_neg (by omega), e]
    rfl
  | m + 1, i, hi => by
    have b1 := zm_sum_b (f := fun k => if zm_st (zv_I h 348) k ∧ zm_o (zv_I h 348) k 1 = s then (1 : Int) else 0) (a := 0) (b := 1) i (fun k hk => by
      split
      · omega
      · omega)
    have ih := zm_childrenOf_l hM d s m (i + 1) (by omega)
    have ex : zm_sum (fun k => if zm_st (zv_I h 348) k ∧ zm_o (zv_I h 348) k 1 = s then (1 : Int) else 0) (i + 1) = zm_sum (fun k => if zm_st (zv_I h 348) k ∧ zm_o (zv_I h 348) k 1 = s then (1 : Int) else 0) i + (if zm_st (zv_I h 348) i ∧ zm_o (zv_I h 348) i 1 = s then 1 else 0) := rfl
    rw [ex] at ih
    rw [qL9_childrenOf_4, if_pos (by omega), zm_e (zm_isState hM d i), zm_w (x := (i : Int) + 1) (by omega)]
    dsimp only
    by_cases c1 : zm_st (zv_I h 348) i
    · rw [if_pos c1, if_neg (by decide), zm_e (zm_of hM _ (by omega) (by decide))]
      dsimp only
      by_cases c2 : zm_o (zv_I h 348) i 1 = s
      · rw [if_pos c2, zm_w (by omega)]
        rw [if_pos (show zm_st (zv_I h 348) i ∧ zm_o (zv_I h 348) i 1 = s from ⟨c1, c2⟩)] at ih
        exact ih
      · rw [if_neg c2, zm_w (by omega)]
        rw [if_neg (show ¬ (zm_st (zv_I h 348) i ∧ zm_o (zv_I h 348) i 1 = s) from fun q => c2 q.2)] at ih
        exact ih
    · rw [if_neg c1, if_pos rfl, zm_w (by omega)]
      rw [if_neg (show ¬ (zm_st (zv_I h 348) i ∧ zm_o (zv_I h 348) i 1 = s) from fun q => c1 q.1)] at ih
      exact ih
theorem zm_childrenOf {h : zv_H} (hM : zm_M h) (d : Nat) (s : Int) : C9_childrenOf (d + 3) 347 s h = some (zm_nch (zv_I h 348) s, h) := by
  refine lC9_childrenOf (zm_ob hM) ?_
  rw [qE9_childrenOf]
  exact zm_childrenOf_l hM d s 48 0 rfl
theorem zm_nch_0 {c : Nat → Int} {s : Int} (h : zm_nch c s ≤ 0) {t : Int} (ht : zm_st c t) : zm_o c t 1 ≠ s := by
  intro e
  have hp : ∀ k : Nat, k < 48 → (0 : Int) ≤ (fun k : Nat => if zm_st c k ∧ zm_o c k 1 = s then (1 : Int) else 0) k := by
    intro k _
    dsimp only
    split
    · omega
    · omega
  have h0 : (0 : Int) ≤ zm_nch c s := by
    have := (zm_sum_b (f := fun k : Nat => if zm_st c k ∧ zm_o c k 1 = s then (1 : Int) else 0) (a := 0) (b := 1) 48 (fun k _ => by
      split
      · omega
      · omega)).1
    unfold zm_nch
    omega
  have h2 := zm_sum_0 48 hp (by show zm_nch c s = 0; omega) t.toNat (by omega)
  rw [show ((t.toNat : Nat) : Int) = t by omega, if_pos (show zm_st c t ∧ zm_o c t 1 = s from ⟨ht, e⟩)] at h2
  cases h2
/-! a visit -/
def zm_vc (c : Nat → Int) (s : Int) : Nat → Int := fun k => if k = 5 then (if c 5 < 40 then zv_w (c 5 + 1) else 40) else if k = 4157 then c 1 else if k = 4156 then s else if 4158 ≤ k ∧ k < 4236 then c (k - 2) else if k = 432 + 76 * s.toNat + 7 then zv_w (c 2 + 1) else if k = 2 then zv_w (c 2 + 1) else if k = 0 then s else c k
theorem zm_visits_l (d : Nat) (s : Int) (c : Nat → Int) : ∀ (m : Nat) (h : zv_H), m ≤ 78 → zm_M h → zv_I h 348 = (fun k => if 4158 + m ≤ k ∧ k < 4236 then c (k - 2) else c k) → ∃ h', L9_visits_42 d 347 s ((m : Int) + 1) h = L9_visits_42 d 347 s 1 h' ∧ zm_F [348] [] h h' ∧ zv_I h' 348 = (fun k => if 4158 ≤ k ∧ k < 4236 then c (k - 2) else c k)
  | 0, h, _, _, hc => ⟨h, rfl, zm_F_r _ _ h, hc⟩
  | m + 1, h, hm, hM, hc => by
    have w1 : zv_w (zv_w (4156 + (((m + 1 : Nat) : Int) + 1)) - 2) = 4156 + (m : Int) := by
      rw [zm_w (x := 4156 + (((m + 1 : Nat) : Int) + 1)) (by omega), zm_w (by omega)]
      omega
    have w2 : zv_w (4156 + (((m + 1 : Nat) : Int) + 1)) = 4158 + (m : Int) := by
      rw [zm_w (by omega)]
      omega
    have w3 : zv_w (((m + 1 : Nat) : Int) + 1 + -1) = (m : Int) + 1 := by
      rw [zm_w (by omega)]
      omega
    have rd : zv_I h 348 (4156 + (m : Int)).toNat = c (4156 + m) := by
      rw [hc]
      dsimp only
      rw [if_neg (by omega), show (4156 + (m : Int)).toNat = 4156 + m by omega]
    rw [qL9_visits_42, if_neg (by omega), zm_e (zm_f0 hM), zm_e (zm_f0 hM), w1, zm_e (zm_aI hM zm_l348 rfl (by omega) (by omega)), rd, w2, zm_e (zm_wI hM zm_l348 rfl (by omega) (by omega) _), w3]
    obtain ⟨h', i1, i2, i3⟩ := zm_visits_l d s c m (zv_sI h 348 (4158 + (m : Int)).toNat (c (4156 + m))) (by omega) hM (by
      rw [zm_ss, hc]
      funext k
      unfold zm_u
      dsimp only
      by_cases q : k = (4158 + (m : Int)).toNat
      · rw [if_pos q, if_pos (by omega), show k - 2 = 4156 + m by omega]
      · rw [if_neg q]
        by_cases q2 : 4158 + (m + 1) ≤ k ∧ k < 4236
        · rw [if_pos q2, if_pos (by omega)]
        · rw [if_neg q2, if_neg (by omega)])
    exact ⟨h', i1, zm_F_t (zm_F_I (zm_F_r _ _ h) rfl _ _) i2, i3⟩
theorem zm_visits {h : zv_H} {c : Nat → Int} (hM : zm_M h) (hc : zv_I h 348 = c) (d : Nat) {s : Int} (hs : 0 ≤ s ∧ s ≤ 47) : zm_R (C9_visits (d + 2) 347 s h) (fun h' => zm_F [348] [] h h' ∧ zv_I h' 348 = if s = c 0 then c else zm_vc c s) := by
  refine zm_cV (lC9_visits (zm_ob hM)) ?_
  rw [qE9_visits, zm_e (zm_here hM d), hc]
  dsimp only
  by_cases c1 : s = c 0
  · rw [if_pos c1, if_pos c1]
    exact zm_iV ⟨zm_F_r _ _ h, hc⟩
  · rw [if_neg c1, if_neg c1, zm_e (zm_f0 hM), zm_e (zm_wI hM zm_l348 rfl (by decide) (by decide) _)]
    have hM1 : zm_M (zv_sI h 348 (Int.toNat 0) s) := hM
    rw [zm_e (zm_f0 hM1), zm_e (zm_aI hM1 zm_l348 rfl (by decide) (by decide)), zm_ss, hc, zm_u_o _ _ (by decide), zm_e (zm_wI hM1 zm_l348 rfl (by decide) (by decide) _)]
    have hM2 : zm_M (zv_sI (zv_sI h 348 (Int.toNat 0) s) 348 (Int.toNat 2) (zv_w (c (Int.toNat 2) + 1))) := hM
    rw [zm_e (zm_f0 hM2), zm_e (zm_aI hM2 zm_l348 rfl (by decide) (by decide)), zm_ss, zm_u_s, zm_e (zm_sets hM2 _ (by omega) (by decide) _)]
    have hM3 : zm_M (zv_sI (zv_sI (zv_sI h 348 (Int.toNat 0) s) 348 (Int.toNat 2) (zv_w (c (Int.toNat 2) + 1))) 348 (432 + 76 * s.toNat + Int.toNat 7) (zv_w (c (Int.toNat 2) + 1))) := hM
    have f3 : zm_F [348] [] h (zv_sI (zv_sI (zv_sI h 348 (Int.toNat 0) s) 348 (Int.toNat 2) (zv_w (c (Int.toNat 2) + 1))) 348 (432 + 76 * s.toNat + Int.toNat 7) (zv_w (c (Int.toNat 2) + 1))) := zm_F_I (zm_F_I (zm_F_I (zm_F_r _ _ h) rfl _ _) rfl _ _) rfl _ _
    generalize e3 : zv_sI (zv_sI (zv_sI h 348 (Int.toNat 0) s) 348 (Int.toNat 2) (zv_w (c (Int.toNat 2) + 1))) 348 (432 + 76 * s.toNat + Int.toNat 7) (zv_w (c (Int.toNat 2) + 1)) = h3 at hM3 f3
    have c3 : zv_I h3 348 = zm_u (zm_u (zm_u c 0 s) 2 (zv_w (c 2 + 1))) (432 + 76 * s.toNat + 7) (zv_w (c 2 + 1)) := by
      rw [← e3, zm_ss, zm_ss, zm_ss, hc]
      rfl
    obtain ⟨h4, i1, i2, i3⟩ := zm_visits_l (d + 1) s (zv_I h3 348) 78 h3 (by decide) hM3 (by
      funext k
      rw [if_neg (by omega)])
    have hM4 := zm_F_M i2 hM3
    have r5 : zv_I h4 348 5 = c 5 := by
      rw [i3]
      dsimp only
      rw [if_neg (by decide), c3, zm_u_o _ _ (by omega), zm_u_o _ _ (by decide), zm_u_o _ _ (by decide)]
    have r1 : zv_I h4 348 1 = c 1 := by
      rw [i3]
      dsimp only
      rw [if_neg (by decide), c3, zm_u_o _ _ (by omega), zm_u_o _ _ (by decide), zm_u_o _ _ (by decide)]
    rw [show L9_visits_42 (d + 1) 347 s 79 h3 = _ from i1, qL9_visits_42, if_pos (by decide), zm_e (zm_f0 hM4), zm_e (zm_wI hM4 zm_l348 rfl (by decide) (by decide) _)]
    have hM5 : zm_M (zv_sI h4 348 (Int.toNat 4156) s) := hM4
    rw [zm_e (zm_f0 hM5), zm_e (zm_f0 hM5), zm_e (zm_aI hM5 zm_l348 rfl (by decide) (by decide)), zm_ss, zm_u_o _ _ (by decide), show zv_I h4 348 (Int.toNat 1) = c 1 from r1, zm_e (zm_wI hM5 zm_l348 rfl (by decide) (by decide) _)]
    have hM6 : zm_M (zv_sI (zv_sI h4 348 (Int.toNat 4156) s) 348 (Int.toNat 4157) (c 1)) := hM4
    have f6 : zm_F [348] [] h4 (zv_sI (zv_sI h4 348 (Int.toNat 4156) s) 348 (Int.toNat 4157) (c 1)) := zm_F_I (zm_F_I (zm_F_r _ _ h4) rfl _ _) rfl _ _
    have c6 : zv_I (zv_sI (zv_sI h4 348 (Int.toNat 4156) s) 348 (Int.toNat 4157) (c 1)) 348 = zm_u (zm_u (zv_I h4 348) 4156 s) 4157 (c 1) := by
      rw [zm_ss, zm_ss]
      rfl
    rw [zm_e (zm_f0 hM6), zm_e (zm_f0 hM6), zm_e (zm_aI hM6 zm_l348 rfl (by decide) (by decide)), c6, zm_u_o _ _ (by decide), zm_u_o _ _ (by decide), show zv_I h4 348 (Int.toNat 5) = c 5 from r5]
    have fin : ∀ v : Int, v = (if c 5 < 40 then zv_w (c 5 + 1) else 40) → zm_R (some ((none : Option zv_V), zv_sI (zv_sI (zv_sI h4 348 (Int.toNat 4156) s) 348 (Int.toNat 4157) (c 1)) 348 (Int.toNat 5) v)) (zm_V fun h' => zm_F [348] [] h h' ∧ zv_I h' 348 = zm_vc c s) := by
      intro v hv
      refine zm_iV ⟨zm_F_I (zm_F_t f3 (zm_F_t i2 f6)) rfl _ _, ?_⟩
      rw [zm_ss, c6, i3, c3, hv]
      funext k
      unfold zm_vc zm_u
      dsimp only
      by_cases q1 : k = 5
      · rw [if_pos q1, if_pos (show k = Int.toNat 5 from q1)]
      · rw [if_neg q1, if_neg (show ¬ k = Int.toNat 5 from q1)]
        by_cases q2 : k = 4157
        · rw [if_pos q2, if_pos q2]
        · rw [if_neg q2, if_neg q2]
          by_cases q3 : k = 4156
          · rw [if_pos q3, if_pos q3]
          · rw [if_neg q3, if_neg q3]
            by_cases q4 : 4158 ≤ k ∧ k < 4236
            · rw [if_pos q4, if_pos q4, if_neg (by omega), if_neg (by omega), if_neg (by omega)]
            · rw [if_neg q4, if_neg q4]
    by_cases c5 : c 5 < 40
    · rw [if_pos c5, zm_e (zm_f0 hM6), zm_e (zm_aI hM6 zm_l348 rfl (by decide) (by decide)), c6, zm_u_o _ _ (by decide), zm_u_o _ _ (by decide), show zv_I h4 348 (Int.toNat 5) = c 5 from r5, zm_e (zm_wI hM6 zm_l348 rfl (by decide) (by decide) _)]
      exact fin _ (by rw [if_pos c5])
    · rw [if_neg c5, zm_e (zm_wI hM6 zm_l348 rfl (by decide) (by decide) _)]
      exact fin _ (by rw [if_neg c5])
