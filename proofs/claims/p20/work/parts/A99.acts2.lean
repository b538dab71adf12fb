/-! ===== the tie: acts, as they are called: words, names, time, on paper ===== -/
section
variable {a b m : Nat} {g k : zv_H}
theorem zt_GG_m {m' : Nat} (S : zt_GG m a b g k) (h : m ≤ m') : zt_GG m' a b g k := by
  have n1 := zt_GG_n1 S
  have n2 := zt_GG_n2 S
  exact ⟨zt_GG_r S, zt_GG_s S, zt_GG_ab S, zt_GG_H S, zt_GG_N S, zt_GG_tp S, by omega, by omega, zt_GG_fl S, zt_GG_wt S⟩
theorem zt_hand_l (d : Nat) {m : Nat} (hm : m ≤ 12) : ∀ (n i : Nat) (h : zv_H), i + n = m → zm_M h → zv_I h 347 20 = m → ∃ h', L9_hand_2 d 347 i h = L9_hand_2 d 347 m h' ∧ zm_F [360] [] h h' ∧ (∀ j, j < i → zv_I h' 360 j = zv_I h 360 j) ∧ ∀ j, i ≤ j → j < m → zv_I h' 360 j = zv_I h 361 j := by
  intro n
  induction n with
  | zero =>
    intro i h hi hM h20
    have e : i = m := hi
    subst e
    exact ⟨h, rfl, zm_F_r _ _ h, fun _ _ => rfl, fun j h1 h2 => absurd h1 (Nat.not_le.mpr h2)⟩
  | succ n ih =>
    intro i h hi hM h20
    have im : i < m := by omega
    have w1 : zv_w ((i : Int) + 1) = ((i + 1 : Nat) : Int) := zt_tkw (by omega)
    have F1 : zm_F [360] [] h (zv_sI h 360 i (zv_I h 361 i)) := zm_F_I (zm_F_r _ _ h) rfl _ _
    have top : L9_hand_2 d 347 i h = L9_hand_2 d 347 ((i + 1 : Nat) : Int) (zv_sI h 360 i (zv_I h 361 i)) := by
      rw [qL9_hand_2, zm_e (zm_gI hM 20), h20, if_pos (by omega), zm_e (zm_f17 hM), zm_e (zm_gR hM rfl rfl : zv_gR h 347 9 18 = some 361), zm_e (zm_aI hM zm_l361 rfl (by omega) (by omega)), Int.toNat_natCast, zm_e (zm_wI hM zm_l360 rfl (by omega) (by omega) _), Int.toNat_natCast, w1]
    have c1 : ∀ x, zv_I (zv_sI h 360 i (zv_I h 361 i)) 360 x = if x = i then zv_I h 361 i else zv_I h 360 x := fun x => by
      by_cases q : x = i
      · rw [q, zy_I, if_pos rfl]
      · rw [zy_In _ _ (fun z => q z.2), if_neg q]
    generalize zv_sI h 360 i (zv_I h 361 i) = h1 at F1 top c1
    obtain ⟨h', y1, y2, y3, y4⟩ := ih (i + 1) h1 (by omega) (zm_F_M F1 hM) ((zm_F_g F1 20).trans h20)
    refine ⟨h', top.trans y1, zm_F_t F1 y2, fun j hj => ?_, fun j h1 h2 => ?_⟩
    · rw [y3 j (by omega), c1, if_neg (by omega)]
    · by_cases c : j = i
      · rw [c, y3 i (by omega), c1, if_pos rfl]
      · rw [y4 j (by omega) h2, zm_F_a F1 361]
theorem zt_hand {x : Nat} (hM : zm_M k) (h20 : zv_I k 347 20 = x) (hx : x ≤ 12) (D : Nat) : ∃ k', C9_hand (D + 1) 347 k = some k' ∧ zm_F [360] [19] k k' ∧ zv_I k' 347 19 = x ∧ ∀ j, j < x → zv_I k' 360 j = zv_I k 361 j := by
  obtain ⟨k1, e1, F1, _, l1⟩ := zt_hand_l D hx x 0 k (Nat.zero_add x) hM h20
  have hM1 := zm_F_M F1 hM
  have e20 : zv_I k1 347 20 = x := (zm_F_g F1 20).trans h20
  have F2 : zm_F [360] [19] k1 (zv_sI k1 347 19 (x : Int)) := zm_F_f (zm_F_r _ _ k1) rfl _
  refine ⟨_, lC9_hand (zm_ob hM) ?_, zm_F_t (zm_F_s F1 rfl rfl) F2, zy_I _ _ _ _, fun j hj => l1 j (Nat.zero_le _) hj⟩
  rw [qE9_hand, show L9_hand_2 D 347 0 k = _ from e1, qL9_hand_2, zm_e (zm_gI hM1 20), e20, if_neg (Int.lt_irrefl _), zm_e (zm_gI hM1 20), e20, zm_e (zm_pI hM1 19 _)]
/-- half a changed on both sides alike -/
theorem zp_core (S : zt_GG m a b g k) {A B : List Nat} {g' k' : zv_H} (K : zt_k a g g') (H : zt_H a (zv_I k' 348) g') (F : zm_F A B k k') (n1 : zv_I k 348 1 ≤ zv_I k' 348 1 ∧ zv_I k' 348 1 ≤ zv_I k 348 1 + 1000) (n2 : zv_I k' 348 2 ≤ zv_I k 348 2 + 100) (h2 : A.contains 366 = false := by rfl) (h3 : A.contains 361 = false := by rfl) (b0 : B.contains 20 = false := by rfl) (b1 : B.contains 27 = false := by rfl) (b2 : B.contains 28 = false := by rfl) (b3 : B.contains 29 = false := by rfl) : zt_GG (m + 1) a b g' k' := by
  have lab := zt_lab (zt_GG_ab S)
  have lo := zt_k_lo lab.1 K
  have m1 := zt_GG_n1 S
  have m2 := zt_GG_n2 S
  refine ⟨(lo.2.2.2 3).trans (zt_GG_r S), (lo.2.2.2 4).trans (zt_GG_s S), zt_GG_ab S, H, fun i hi => ?_, fun i hi => ?_, by omega, by omega, ?_, zt_wt_k (zt_GG_wt S) (fun r i hr => zt_k_34 K hr i) (zm_F_g F 20 b0) (zm_F_a F 361 h3)⟩
  · have sl := zc_stl lab.2.1 hi
    exact (K.2.2.1 _ 0 (zt_x5 sl.1 (by decide)) (fun q => lab.2.2 (q.2.2.symm.trans sl.2.1))).trans (zt_GG_N S i hi)
  · rw [zm_F_g F 27 b1] at hi
    rw [lo.2.1 i, zm_F_a F 366 h2]
    exact zt_GG_tp S i hi
  · rw [lo.2.2.1 7 (by decide), lo.1 8, lo.1 9, zm_F_g F 28 b2, zm_F_g F 29 b3]
    exact zt_GG_fl S
/-- a refusal at once -/
theorem zp_no (hA : zc_A g) (S : zt_GG m a b g k) (v : Int) {B : List Nat} {k' : zv_H} (F : zm_F [] B k k') (b0 : B.contains 20 = false := by rfl) (b1 : B.contains 27 = false := by rfl) (b2 : B.contains 28 = false := by rfl) (b3 : B.contains 29 = false := by rfl) : zt_GG (m + 1) a b (zv_sI g 1 6 v) k' := by
  have _ := hA
  exact zt_GG_m (zt_GG_st S v F b0 b1 b2 b3) (Nat.le_succ m)
theorem zp_e1 (hA : zc_A g) : zv_gR g 1 8 1 = some 3 := zl_gF (zt_L_A hA) (show zv_lay 1 = (1, 8) from rfl) 1 2
theorem zp_put {d D : Nat} (hA : zc_A g) (I : zm_MI k) (S : zt_GG m a b g k) (hm : m ≤ 100000) {p : Int} (rp : zv_rg p) : ∃ v g' k', C8_put (d + 28) 1 p g = some (v, g') ∧ C9_put (D + 28) 347 p k = some (v, k') ∧ zt_GG (m + 1) a b g' k' := by
  obtain ⟨k1, i1, F1⟩ := zp_is I.1
  obtain ⟨x, w1, w2, w3, w4⟩ := zt_GG_wt S
  have hM1 := zm_F_M F1 I.1
  obtain ⟨k2, i2, F2, h19, l2⟩ := zt_hand hM1 ((zm_F_g F1 20).trans w1) w2 (D + 26)
  have F12 : zm_F [360] [3, 4, 19] k k2 := zm_F_t (zm_F_s F1 rfl rfl) (zm_F_s F2 rfl rfl)
  have S2 := zt_GG_F S F12
  have hM2 := zm_F_M F12 I.1
  have b0 := (zp_b2 S2 hm).1
  have b2 : zv_I k2 348 2 < 2000000000 := by omega
  have wd : zt_wd 3 x (zv_I k2 360) g := ⟨zt_wd_l7 w3, zt_wd_la w3, zt_wd_m12 w3, zt_wd_sz w3, fun j hj => by rw [l2 j hj, zm_F_a F1 361]; exact zt_wd_lt w3 j hj⟩
  obtain ⟨q, q', h1, h2, Z, _⟩ := zj_put (d := d + 23) (D := D + 21) hA (zt_GG_H S2) hM2 rfl b2 wd w2 (Or.inl rfl) h19 rp
  refine zp_act hA S F12 Z (by decide) (d := d) (D := D) ?_ (fun h => lC8_put (zl_ob (zt_L_A hA) (show zv_lay 1 = (1, 8) from rfl)) h) ?_ (fun h => lC9_put (zm_ob I.1) h)
  · rw [qE8_put, zm_e (zp_e3 hA S), zm_e (zp_e1 hA), zm_e h1]
  · rw [qE9_put, zm_e (i1 (D + 26))]
    dsimp only
    rw [zm_e i2, zm_e h2]
theorem zp_name {d D : Nat} (hA : zc_A g) (I : zm_MI k) (S : zt_GG m a b g k) (hm : m ≤ 100000) : ∃ v g' k', C8_name (d + 28) 1 g = some (v, g') ∧ C9_name (D + 28) 347 k = some (v, k') ∧ zt_GG (m + 1) a b g' k' := by
  have _ := hm
  obtain ⟨k1, i1, F1⟩ := zp_is I.1
  obtain ⟨x, w1, w2, w3, w4⟩ := zt_GG_wt S
  have hM1 := zm_F_M F1 I.1
  obtain ⟨k2, i2, F2, h19, l2⟩ := zt_hand hM1 ((zm_F_g F1 20).trans w1) w2 (D + 26)
  have F12 : zm_F [360] [3, 4, 19] k k2 := zm_F_t (zm_F_s F1 rfl rfl) (zm_F_s F2 rfl rfl)
  have S2 := zt_GG_F S F12
  have hM2 := zm_F_M F12 I.1
  have ek := zt_C7_key (d := d + 25) (zt_L_A hA) w3 w4
  obtain ⟨q, q', h1, h2, Z⟩ := zj_name (d := d + 24) (D := D + 24) hA (zt_GG_H S2) hM2 rfl h19 (by omega) w4 (fun j hj => by rw [l2 j hj, zm_F_a F1 361])
  refine zp_act hA S F12 Z (by decide) (d := d) (D := D) ?_ (fun h => lC8_name (zl_ob (zt_L_A hA) (show zv_lay 1 = (1, 8) from rfl)) h) ?_ (fun h => lC9_name (zm_ob I.1) h)
  · rw [qE8_name, zm_e (zp_e3 hA S), zm_e (zp_e1 hA), zm_e ek]
    dsimp only
    rw [zm_e h1]
  · rw [qE9_name, zm_e (i1 (D + 26))]
    dsimp only
    rw [zm_e i2, zm_e h2]
theorem zp_wait {d D : Nat} (hA : zc_A g) (I : zm_MI k) (S : zt_GG m a b g k) (hm : m ≤ 100000) {x : Int} : ∃ v g' k', C8_wait (d + 28) 1 x g = some (v, g') ∧ C9_wait (D + 28) 347 x k = some (v, k') ∧ zt_GG (m + 1) a b g' k' := by
  have gL := zt_L_A hA
  have l1 : zv_lay 1 = (1, 8) := rfl
  have lab := zt_lab (zt_GG_ab S)
  have qC := qE8_wait (d + 27) 1 x g
  rw [zm_e (zp_e3 hA S)] at qC
  have qR := qE9_wait (D + 27) 347 x k
  rw [zm_e (zm_isIn (d := D + 26) x 0 999)] at qR
  dsimp only at qR
  by_cases c : 0 ≤ x ∧ x ≤ 999
  · obtain ⟨k1, i1, F1⟩ := zp_is I.1
    have S1 := zt_GG_F S F1
    have hM1 := zm_F_M F1 I.1
    have bb := (zp_b2 S1 hm).2
    obtain ⟨p1, p2, p3, p4⟩ := zt_pass (d := d + 25) hA (zt_GG_H S1) c ⟨bb.1, by omega⟩
    have r1 : zv_I k1 348 (Int.toNat 1) = zv_I k1 348 1 := rfl
    have F2 : zm_F [348, 351, 352, 353, 354, 355, 358, 359, 360, 362, 363, 364, 365] [3, 10, 11, 12, 19, 24] k1 (zv_sI k1 348 (Int.toNat 1) (zv_w (zv_I k1 348 (Int.toNat 1) + x))) := zm_F_I (zm_F_r _ _ k1) rfl _ _
    have es : zv_I (zv_sI k1 348 (Int.toNat 1) (zv_w (zv_I k1 348 (Int.toNat 1) + x))) 348 = zm_u (zv_I k1 348) 1 (zv_I k1 348 1 + x) := by
      rw [zm_ss, r1, zm_w (by omega)]
      rfl
    rw [if_pos c, if_neg (by decide), qL9_wait_17, zm_e (i1 (D + 26))] at qR
    dsimp only at qR
    rw [if_neg (by decide), zm_e (zm_f0 hM1), zm_e (zm_aI hM1 zm_l348 rfl (by decide) (by decide)), zm_e (zm_wI hM1 zm_l348 rfl (by decide) (by decide) _)] at qR
    generalize zv_sI k1 348 (Int.toNat 1) (zv_w (zv_I k1 348 (Int.toNat 1) + x)) = k2 at es F2 qR
    have hM2 := zm_F_M F2 hM1
    have r2 : zv_I k2 348 (Int.toNat 1) = zv_I k1 348 1 + x := by
      rw [es]
      exact zm_u_s _ _ _
    rw [zm_e (zm_f0 hM2), zm_e (zm_aI hM2 zm_l348 rfl (by decide) (by decide)), r2] at qR
    obtain ⟨st, ea⟩ := zt_answered (d := d + 25) (zt_L_A p2.2) (zv_I k1 348 1 + x)
    rw [zm_e p1] at qC
    dsimp only at qC
    rw [zm_e ea] at qC
    dsimp only at qC
    rw [if_neg (by omega)] at qC
    refine ⟨_, _, k2, lC8_wait (zl_ob gL l1) qC, lC9_wait (zm_ob I.1) qR, zt_GG_st (zp_core S1 p3 (by rw [es]; exact p4) F2 ?_ ?_) st (zm_F_r [] [] _) rfl rfl rfl rfl⟩
    · rw [es, zm_u_s]
      omega
    · rw [es, zm_u_o _ _ (by decide)]
      omega
  · have F : zm_F [] [3, 4] k (zv_sI (zv_sI k 347 4 0) 347 3 1) := zm_F_f (zm_F_f (zm_F_r _ _ k) rfl _) rfl _
    rw [if_neg c, if_pos rfl, qL9_wait_17, zm_e (zm_is I.1 (D + 26) 1)] at qR
    dsimp only at qR
    rw [if_neg (show ¬ (1 : Int) = 0 by decide), if_pos rfl] at qR
    obtain ⟨st, ea⟩ := zt_answered (d := d + 25) gL (-1)
    rw [zm_e (zt_pass_no (d := d + 25) gL lab.1 c)] at qC
    dsimp only at qC
    rw [zm_e ea] at qC
    dsimp only at qC
    rw [if_pos (by decide)] at qC
    exact ⟨-1, _, _, lC8_wait (zl_ob gL l1) qC, lC9_wait (zm_ob I.1) qR, zp_no hA S st F⟩
theorem zp_merges {d D : Nat} (hA : zc_A g) (I : zm_MI k) (S : zt_GG m a b g k) (hm : m ≤ 100000) {s w : Int} (rs : zv_rg s) : ∃ v g' k', C8_merges (d + 28) 1 s w g = some (v, g') ∧ C9_merges (D + 28) 347 s w k = some (v, k') ∧ zt_GG (m + 1) a b g' k' := by
  have gL := zt_L_A hA
  have l1 : zv_lay 1 = (1, 8) := rfl
  have qC := qE8_merges (d + 27) 1 s w g
  rw [zm_e (zc_within (d := d + 26) g w 0 2)] at qC
  dsimp only at qC
  have qR := qE9_merges (D + 27) 347 s w k
  rw [zm_e (zm_isIn (d := D + 26) w 0 2)] at qR
  dsimp only at qR
  by_cases c : 0 ≤ w ∧ w ≤ 2
  · obtain ⟨k1, i1, F1⟩ := zp_is I.1
    have S1 := zt_GG_F S F1
    have hM1 := zm_F_M F1 I.1
    rw [if_pos c, if_neg (by decide), zm_e (zp_e3 hA S)] at qC
    rw [if_pos c, if_neg (by decide), qL9_merges_15, zm_e (i1 (D + 26))] at qR
    dsimp only at qR
    rw [if_neg (by decide)] at qR
    obtain ⟨v, g2, v', k2, h1, h2, P⟩ := zj_paper (d := d + 20) (D := D + 18) hA (zt_GG_H S1) hM1 rfl (zp_b2 S1 hm).1 rs w
    obtain ⟨st, ea⟩ := zt_answered (d := d + 25) (zt_L_A (zt_pp_X P).2) v
    rw [zm_e h1] at qC
    dsimp only at qC
    rw [zm_e ea] at qC
    dsimp only at qC
    rw [zt_a1_e (zt_pp_a1 P)] at qC
    have g12 := zt_pp_g P
    exact ⟨v', _, k2, lC8_merges (zl_ob gL l1) qC, lC9_merges (zm_ob I.1) (qR.trans h2), zt_GG_st (zp_core S1 (zt_pp_k P) (zt_pp_H P) (zt_pp_F P) (by rw [g12.1]; omega) (by rw [g12.2]; omega)) st (zm_F_r [] [] _) rfl rfl rfl rfl⟩
  · have F : zm_F [] [3, 4] k (zv_sI (zv_sI k 347 4 0) 347 3 1) := zm_F_f (zm_F_f (zm_F_r _ _ k) rfl _) rfl _
    rw [if_neg c, if_pos rfl, zm_e (zt_refused (d := d + 26) gL 1)] at qC
    rw [if_neg c, if_pos rfl, qL9_merges_15, zm_e (zm_is I.1 (D + 26) 1)] at qR
    dsimp only at qR
    rw [if_neg (show ¬ (1 : Int) = 0 by decide), if_pos rfl] at qR
    exact ⟨-1, _, _, lC8_merges (zl_ob gL l1) qC, lC9_merges (zm_ob I.1) qR, zp_no hA S 1 F⟩
end
