/-! A99.acts2 -/
section
/-! ===== the tie: acts, as they are called: words, names, time, on paper ===== -/
section
variable {a b m : Nat} {g k : zv_H}
theorem zt_GG_m {m' : Nat} (S : zt_GG m a b g k) (h : m ≤ m') : zt_GG m' a b g k := by
  have n1 := zt_GG_n1 S
  have n2 := zt_GG_n2 S
  exact ⟨zt_GG_r S, zt_GG_s S, zt_GG_ab S, zt_GG_H S, zt_GG_N S, zt_GG_tp S, by omega, by omega, zt_GG_fl S, zt_GG_wt S⟩
theorem zt_hand_l (d : Nat) {m : Nat} (hm : m ≤ 12) : ∀ (n i : Nat) (h : zv_H), i + n = m → zm_M h → zv_I h 347 20 = m → ∃ h', L9_hand_2 d 347 i h = L9_hand_2 d 347 m h' ∧ zm_F [360] [] h h' ∧ (∀ j, j < i → zv_I h' 360 j = zv_I h 360 j) ∧ ∀ j, i ≤ j → j < m → zv_I h' 360 j = zv_I h 361 j := by
  intro n
  induction n with
  | zero =>
    intro i h hi hM h20
    have e : i = m := hi
    subst e
    exact ⟨h, rfl, zm_F_r _ _ h, fun _ _ => rfl, fun j h1 h2 => absurd h1 (Nat.not_le.mpr h2)⟩
  | succ n ih =>
    intro i h hi hM h20
    have im : i < m := by omega
    have w1 : zv_w ((i : Int) + 1) = ((i + 1 : Nat) : Int) := zt_tkw (by omega)
    have F1 : zm_F [360] [] h (zv_sI h 360 i (zv_I h 361 i)) := zm_F_I (zm_F_r _ _ h) rfl _ _
    have top : L9_hand_2 d 347 i h = L9_hand_2 d 347 ((i + 1 : Nat) : Int) (zv_sI h 360 i (zv_I h 361 i)) := by
      rw [qL9_hand_2, zm_e (zm_gI hM 20), h20, if_pos (by omega), zm_e (zm_f17 hM), zm_e (zm_gR hM rfl rfl : zv_gR h 347 9 18 = some 361), zm_e (zm_aI hM zm_l361 rfl (by omega) (by omega)), Int.toNat_natCast, zm_e (zm_wI hM zm_l360 rfl (by omega) (by omega) _), Int.toNat_natCast, w1]
    have c1 : ∀ x, zv_I (zv_sI h 360 i (zv_I h 361 i)) 360 x = if x = i then zv_I h 361 i else zv_I h 360 x := fun x => by
      by_cases q : x = i
      · rw [q, zy_I, if_pos rfl]
      · rw [zy_In _ _ (fun z => q z.2), if_neg q]
    generalize zv_sI h 360 i (zv_I h 361 i) = h1 at F1 top c1
    obtain ⟨h', y1, y2, y3, y4⟩ := ih (i + 1) h1 (by omega) (zm_F_M F1 hM) ((zm_F_g F1 20).trans h20)
    refine ⟨h', top.trans y1, zm_F_t F1 y2, fun j hj => ?_, fun j h1 h2 => ?_⟩
    · rw [y3 j (by omega), c1, if_neg (by omega)]
    · by_cases c : j = i
      · rw [c, y3 i (by omega), c1, if_pos rfl]
      · rw [y4 j (by omega) h2, zm_F_a F1 361]
theorem zt_hand {x : Nat} (hM : zm_M k) (h20 : zv_I k 347 20 = x) (hx : x ≤ 12) (D : Nat) : ∃ k', C9_hand (D + 1) 347 k = some k' ∧ zm_F [360] [19] k k' ∧ zv_I k' 347 19 = x ∧ ∀ j, j < x → zv_I k' 360 j = zv_I k 361 j := by
  obtain ⟨k1, e1, F1, _, l1⟩ := zt_hand_l D hx x 0 k (Nat.zero_add x) hM h20
  have hM1 := zm_F_M F1 hM
  have e20 : zv_I k1 347 20 = x := (zm_F_g F1 20).trans h20
  have F2 : zm_F [360] [19] k1 (zv_sI k1 347 19 (x : Int)) := zm_F_f (zm_F_r _ _ k1) rfl _
  refine ⟨_, lC9_hand (zm_ob hM) ?_, zm_F_t (zm_F_s F1 rfl rfl) F2, zy_I _ _ _ _, fun j hj => l1 j (Nat.zero_le _) hj⟩
  rw [qE9_hand, show L9_hand_2 D 347 0 k = _ from e1, qL9_hand_2, zm_e (zm_gI hM1 20), e20, if_neg (Int.lt_irrefl _), zm_e (zm_gI hM1 20), e20, zm_e (zm_pI hM1 19 _)]
/-- half a changed on both sides alike -/
theorem zp_core (S : zt_GG m a b g k) {A B : List Nat} {g' k' : zv_H} (K : zt_k a g g') (H : zt_H a (zv_I k' 348) g') (F : zm_F A B k k') (n1 : zv_I k 348 1 ≤ zv_I k' 348 1 ∧ zv_I k' 348 1 ≤ zv_I k 348 1 + 1000) (n2 : zv_I k' 348 2 ≤ zv_I k 348 2 + 100) (h2 : A.contains 366 = false := by rfl) (h3 : A.contains 361 = false := by rfl) (b0 : B.contains 20 = false := by rfl) (b1 : B.contains 27 = false := by rfl) (b2 : B.contains 28 = false := by rfl) (b3 : B.contains 29 = false := by rfl) : zt_GG (m + 1) a b g' k' := by
  have lab := zt_lab (zt_GG_ab S)
  have lo := zt_k_lo lab.1 K
  have m1 := zt_GG_n1 S
  have m2 := zt_GG_n2 S
  refine ⟨(lo.2.2.2 3).trans (zt_GG_r S), (lo.2.2.2 4).trans (zt_GG_s S), zt_GG_ab S, H, fun i hi => ?_, fun i hi => ?_, by omega, by omega, ?_, zt_wt_k (zt_GG_wt S) (fun r i hr => zt_k_34 K hr i) (zm_F_g F 20 b0) (zm_F_a F 361 h3)⟩
  · have sl := zc_stl lab.2.1 hi
    exact (K.2.2.1 _ 0 (zt_x5 sl.1 (by decide)) (fun q => lab.2.2 (q.2.2.symm.trans sl.2.1))).trans (zt_GG_N S i hi)
  · rw [zm_F_g F 27 b1] at hi
    rw [lo.2.1 i, zm_F_a F 366 h2]
    exact zt_GG_tp S i hi
  · rw [lo.2.2.1 7 (by decide), lo.1 8, lo.1 9, zm_F_g F 28 b2, zm_F_g F 29 b3]
    exact zt_GG_fl S
/-- a refusal at once -/
theorem zp_no (hA : zc_A g) (S : zt_GG m a b g k) (v : Int) {B : List Nat} {k' : zv_H} (F : zm_F [] B k k') (b0 : B.contains 20 = false := by rfl) (b1 : B.contains 27 = false := by rfl) (b2 : B.contains 28 = false := by rfl) (b3 : B.contains 29 = false := by rfl) : zt_GG (m + 1) a b (zv_sI g 1 6 v) k' := by
  have _ := hA
  exact zt_GG_m (zt_GG_st S v F b0 b1 b2 b3) (Nat.le_succ m)
theorem zp_e1 (hA : zc_A g) : zv_gR g 1 8 1 = some 3 := zl_gF (zt_L_A hA) (show zv_lay 1 = (1, 8) from rfl) 1 2
theorem zp_put {d D : Nat} (hA : zc_A g) (I : zm_MI k) (S : zt_GG m a b g k) (hm : m ≤ 100000) {p : Int} (rp : zv_rg p) : ∃ v g' k', C8_put (d + 28) 1 p g = some (v, g') ∧ C9_put (D + 28) 347 p k = some (v, k') ∧ zt_GG (m + 1) a b g' k' := by
  obtain ⟨k1, i1, F1⟩ := zp_is I.1
  obtain ⟨x, w1, w2, w3, w4⟩ := zt_GG_wt S
  have hM1 := zm_F_M F1 I.1
  obtain ⟨k2, i2, F2, h19, l2⟩ := zt_hand hM1 ((zm_F_g F1 20).trans w1) w2 (D + 26)
  have F12 : zm_F [360] [3, 4, 19] k k2 := zm_F_t (zm_F_s F1 rfl rfl) (zm_F_s F2 rfl rfl)
  have S2 := zt_GG_F S F12
  have hM2 := zm_F_M F12 I.1
  have b0 := (zp_b2 S2 hm).1
  have b2 : zv_I k2 348 2 < 2000000000 := by omega
  have wd : zt_wd 3 x (zv_I k2 360) g := ⟨zt_wd_l7 w3, zt_wd_la w3, zt_wd_m12 w3, zt_wd_sz w3, fun j hj => by rw [l2 j hj, zm_F_a F1 361]; exact zt_wd_lt w3 j hj⟩
  obtain ⟨q, q', h1, h2, Z, _⟩ := zj_put (d := d + 23) (D := D + 21) hA (zt_GG_H S2) hM2 rfl b2 wd w2 (Or.inl rfl) h19 (fun j hj => by rw [l2 j hj, zm_F_a F1 361]; exact (w4 j hj).1) rp
  refine zp_act hA S F12 Z (by decide) (d := d) (D := D) ?_ (fun h => lC8_put (zl_ob (zt_L_A hA) (show zv_lay 1 = (1, 8) from rfl)) h) ?_ (fun h => lC9_put (zm_ob I.1) h)
  · rw [qE8_put, zm_e (zp_e3 hA S), zm_e (zp_e1 hA), zm_e h1]
  · rw [qE9_put, zm_e (i1 (D + 26))]
    dsimp only
    rw [zm_e i2, zm_e h2]
theorem zp_name {d D : Nat} (hA : zc_A g) (I : zm_MI k) (S : zt_GG m a b g k) (hm : m ≤ 100000) : ∃ v g' k', C8_name (d + 28) 1 g = some (v, g') ∧ C9_name (D + 28) 347 k = some (v, k') ∧ zt_GG (m + 1) a b g' k' := by
  have _ := hm
  obtain ⟨k1, i1, F1⟩ := zp_is I.1
  obtain ⟨x, w1, w2, w3, w4⟩ := zt_GG_wt S
  have hM1 := zm_F_M F1 I.1
  obtain ⟨k2, i2, F2, h19, l2⟩ := zt_hand hM1 ((zm_F_g F1 20).trans w1) w2 (D + 26)
  have F12 : zm_F [360] [3, 4, 19] k k2 := zm_F_t (zm_F_s F1 rfl rfl) (zm_F_s F2 rfl rfl)
  have S2 := zt_GG_F S F12
  have hM2 := zm_F_M F12 I.1
  have ek := zt_C7_key (d := d + 25) (zt_L_A hA) w3 w4
  obtain ⟨q, q', h1, h2, Z⟩ := zj_name (d := d + 24) (D := D + 24) hA (zt_GG_H S2) hM2 rfl h19 (by omega) w4 (fun j hj => by rw [l2 j hj, zm_F_a F1 361])
  refine zp_act hA S F12 Z (by decide) (d := d) (D := D) ?_ (fun h => lC8_name (zl_ob (zt_L_A hA) (show zv_lay 1 = (1, 8) from rfl)) h) ?_ (fun h => lC9_name (zm_ob I.1) h)
  · rw [qE8_name, zm_e (zp_e3 hA S), zm_e (zp_e1 hA), zm_e ek]
    dsimp only
    rw [zm_e h1]
  · rw [qE9_name, zm_e (i1 (D + 26))]
    dsimp only
    rw [zm_e i2, zm_e h2]
theorem zp_wait {d D : Nat} (hA : zc_A g) (I : zm_MI k) (S : zt_GG m a b g k) (hm : m ≤ 100000) {x : Int} : ∃ v g' k', C8_wait (d + 28) 1 x g = some (v, g') ∧ C9_wait (D + 28) 347 x k = some (v, k') ∧ zt_GG (m + 1) a b g' k' := by
  have gL := zt_L_A hA
  have l1 : zv_lay 1 = (1, 8) := rfl
  have lab := zt_lab (zt_GG_ab S)
  have qC := qE8_wait (d + 27) 1 x g
  rw [zm_e (zp_e3 hA S)] at qC
  have qR := qE9_wait (D + 27) 347 x k
  rw [zm_e (zm_isIn (d := D + 26) x 0 999)] at qR
  dsimp only at qR
  by_cases c : 0 ≤ x ∧ x ≤ 999
  · obtain ⟨k1, i1, F1⟩ := zp_is I.1
    have S1 := zt_GG_F S F1
    have hM1 := zm_F_M F1 I.1
    have bb := (zp_b2 S1 hm).2
    obtain ⟨p1, p2, p3, p4⟩ := zt_pass (d := d + 25) hA (zt_GG_H S1) c ⟨bb.1, by omega⟩
    have r1 : zv_I k1 348 (Int.toNat 1) = zv_I k1 348 1 := rfl
    have F2 : zm_F [348, 351, 352, 353, 354, 355, 358, 359, 360, 362, 363, 364, 365] [3, 10, 11, 12, 19, 24] k1 (zv_sI k1 348 (Int.toNat 1) (zv_w (zv_I k1 348 (Int.toNat 1) + x))) := zm_F_I (zm_F_r _ _ k1) rfl _ _
    have es : zv_I (zv_sI k1 348 (Int.toNat 1) (zv_w (zv_I k1 348 (Int.toNat 1) + x))) 348 = zm_u (zv_I k1 348) 1 (zv_I k1 348 1 + x) := by
      rw [zm_ss, r1, zm_w (by omega)]
      rfl
    rw [if_pos c, if_neg (by decide), qL9_wait_17, zm_e (i1 (D + 26))] at qR
    dsimp only at qR
    rw [if_neg (by decide), zm_e (zm_f0 hM1), zm_e (zm_aI hM1 zm_l348 rfl (by decide) (by decide)), zm_e (zm_wI hM1 zm_l348 rfl (by decide) (by decide) _)] at qR
    generalize zv_sI k1 348 (Int.toNat 1) (zv_w (zv_I k1 348 (Int.toNat 1) + x)) = k2 at es F2 qR
    have hM2 := zm_F_M F2 hM1
    have r2 : zv_I k2 348 (Int.toNat 1) = zv_I k1 348 1 + x := by
      rw [es]
      exact zm_u_s _ _ _
    rw [zm_e (zm_f0 hM2), zm_e (zm_aI hM2 zm_l348 rfl (by decide) (by decide)), r2] at qR
    obtain ⟨st, ea⟩ := zt_answered (d := d + 25) (zt_L_A p2.2) (zv_I k1 348 1 + x)
    rw [zm_e p1] at qC
    dsimp only at qC
    rw [zm_e ea] at qC
    dsimp only at qC
    rw [if_neg (by omega)] at qC
    refine ⟨_, _, k2, lC8_wait (zl_ob gL l1) qC, lC9_wait (zm_ob I.1) qR, zt_GG_st (zp_core S1 p3 (by rw [es]; exact p4) F2 ?_ ?_) st (zm_F_r [] [] _) rfl rfl rfl rfl⟩
    · rw [es, zm_u_s]
      omega
    · rw [es, zm_u_o _ _ (by decide)]
      omega
  · have F : zm_F [] [3, 4] k (zv_sI (zv_sI k 347 4 0) 347 3 1) := zm_F_f (zm_F_f (zm_F_r _ _ k) rfl _) rfl _
    rw [if_neg c, if_pos rfl, qL9_wait_17, zm_e (zm_is I.1 (D + 26) 1)] at qR
    dsimp only at qR
    rw [if_neg (show ¬ (1 : Int) = 0 by decide), if_pos rfl] at qR
    obtain ⟨st, ea⟩ := zt_answered (d := d + 25) gL (-1)
    rw [zm_e (zt_pass_no (d := d + 25) gL lab.1 c)] at qC
    dsimp only at qC
    rw [zm_e ea] at qC
    dsimp only at qC
    rw [if_pos (by decide)] at qC
    exact ⟨-1, _, _, lC8_wait (zl_ob gL l1) qC, lC9_wait (zm_ob I.1) qR, zp_no hA S st F⟩
theorem zp_merges {d D : Nat} (hA : zc_A g) (I : zm_MI k) (S : zt_GG m a b g k) (hm : m ≤ 100000) {s w : Int} (rs : zv_rg s) : ∃ v g' k', C8_merges (d + 28) 1 s w g = some (v, g') ∧ C9_merges (D + 28) 347 s w k = some (v, k') ∧ zt_GG (m + 1) a b g' k' := by
  have gL := zt_L_A hA
  have l1 : zv_lay 1 = (1, 8) := rfl
  have qC := qE8_merges (d + 27) 1 s w g
  rw [zm_e (zc_within (d := d + 26) g w 0 2)] at qC
  dsimp only at qC
  have qR := qE9_merges (D + 27) 347 s w k
  rw [zm_e (zm_isIn (d := D + 26) w 0 2)] at qR
  dsimp only at qR
  by_cases c : 0 ≤ w ∧ w ≤ 2
  · obtain ⟨k1, i1, F1⟩ := zp_is I.1
    have S1 := zt_GG_F S F1
    have hM1 := zm_F_M F1 I.1
    rw [if_pos c, if_neg (by decide), zm_e (zp_e3 hA S)] at qC
    rw [if_pos c, if_neg (by decide), qL9_merges_15, zm_e (i1 (D + 26))] at qR
    dsimp only at qR
    rw [if_neg (by decide)] at qR
    obtain ⟨v, g2, v', k2, h1, h2, P⟩ := zj_paper (d := d + 20) (D := D + 18) hA (zt_GG_H S1) hM1 rfl (zp_b2 S1 hm).1 rs w
    obtain ⟨st, ea⟩ := zt_answered (d := d + 25) (zt_L_A (zt_pp_X P).2) v
    rw [zm_e h1] at qC
    dsimp only at qC
    rw [zm_e ea] at qC
    dsimp only at qC
    rw [zt_a1_e (zt_pp_a1 P)] at qC
    have g12 := zt_pp_g P
    exact ⟨v', _, k2, lC8_merges (zl_ob gL l1) qC, lC9_merges (zm_ob I.1) (qR.trans h2), zt_GG_st (zp_core S1 (zt_pp_k P) (zt_pp_H P) (zt_pp_F P) (by rw [g12.1]; omega) (by rw [g12.2]; omega)) st (zm_F_r [] [] _) rfl rfl rfl rfl⟩
  · have F : zm_F [] [3, 4] k (zv_sI (zv_sI k 347 4 0) 347 3 1) := zm_F_f (zm_F_f (zm_F_r _ _ k) rfl _) rfl _
    rw [if_neg c, if_pos rfl, zm_e (zt_refused (d := d + 26) gL 1)] at qC
    rw [if_neg c, if_pos rfl, qL9_merges_15, zm_e (zm_is I.1 (D + 26) 1)] at qR
    dsimp only at qR
    rw [if_neg (show ¬ (1 : Int) = 0 by decide), if_pos rfl] at qR
    exact ⟨-1, _, _, lC8_merges (zl_ob gL l1) qC, lC9_merges (zm_ob I.1) qR, zp_no hA S 1 F⟩
end
end
/-! B01.unname -/
section
/-! ===== the tie: a name is taken away, as it is called ===== -/
section
variable {a b m : Nat} {g k : zv_H}
theorem zp_unname {d D : Nat} (hA : zc_A g) (I : zm_MI k) (S : zt_GG m a b g k) : ∃ v g' k', C8_unname (d + 28) 1 g = some (v, g') ∧ C9_unname (D + 28) 347 k = some (v, k') ∧ zt_GG (m + 1) a b g' k' := by
  have gL := zt_L_A hA
  have l1 : zv_lay 1 = (1, 8) := rfl
  have lab := zt_lab (zt_GG_ab S)
  have la := lab.1
  obtain ⟨x, w1, w2, w3, w4⟩ := zt_GG_wt S
  have ek := zt_C7_key (d := d + 25) gL w3 w4
  have qC := qE8_unname (d + 27) 1 g
  rw [zm_e (zp_e3 hA S), zm_e (zp_e1 hA), zm_e ek] at qC
  dsimp only at qC
  have qR := qE9_unname (D + 27) 347 k
  rw [zm_e (zm_gI I.1 20), w1, zm_e (zm_isIn (d := D + 26) (x : Int) 1 6)] at qR
  dsimp only at qR
  by_cases c6 : 1 ≤ x ∧ x ≤ 6
  rotate_left
  · have F : zm_F [] [3, 4] k (zv_sI (zv_sI k 347 4 0) 347 3 1) := zm_F_f (zm_F_f (zm_F_r _ _ k) rfl _) rfl _
    have cI : ¬ ((1 : Int) ≤ (x : Int) ∧ (x : Int) ≤ 6) := fun q => c6 (by omega)
    rw [if_neg c6] at qC
    rw [if_neg cI, if_pos rfl, qL9_unname_19, zm_e (zm_is I.1 (D + 26) 1)] at qR
    dsimp only at qR
    rw [if_neg (show ¬ (1 : Int) = 0 by decide), if_pos rfl] at qR
    have ed : C0_dropName (d + 27) a 0 g = some (-1, g) := lC0_dropName (zl_ob gL la) (by rw [qE0_dropName, if_pos rfl])
    obtain ⟨st, ea⟩ := zt_answered (d := d + 25) gL (-1)
    rw [zm_e ed] at qC
    dsimp only at qC
    rw [zm_e ea] at qC
    dsimp only at qC
    rw [if_pos (by decide)] at qC
    exact ⟨-1, _, _, lC8_unname (zl_ob gL l1) qC, lC9_unname (zm_ob I.1) qR, zp_no hA S st F⟩
  have cI : (1 : Int) ≤ (x : Int) ∧ (x : Int) ≤ 6 := by omega
  obtain ⟨k1, i1, F1⟩ := zp_is I.1
  have S1 := zt_GG_F S F1
  have hM1 := zm_F_M F1 I.1
  have H := zt_GG_H S1
  have W := zt_U_W (zt_H_U H)
  have b3 := W.2.2.1
  have e361 : zv_I k1 361 = zv_I k 361 := zm_F_a F1 361
  have ep := zt_packed hM1 (D + 26) zm_l361 rfl w2 c6.2 w4 (fun j _ => congrFun e361 j)
  obtain ⟨l14, l15, l16⟩ := zt_nm_l la
  have hnw : zt_nw (zt_ls x (zv_I k 361)) := ⟨by rw [zt_ls_len]; exact c6, zt_lw_m w4⟩
  have kr := zt_key_lt (zt_ls x (zv_I k 361)) (zt_lw_m w4)
  have k0 : ¬ zt_key (zt_ls x (zv_I k 361)) = 0 := fun e => by
    have e2 : zt_ls x (zv_I k 361) = [] := zt_key_inj _ [] (zt_lw_m w4) (fun x hx => by cases hx) e
    have := congrArg List.length e2
    rw [zt_ls_len] at this
    simp only [List.length_nil] at this
    omega
  have kb : zv_rg (zt_key (zt_ls x (zv_I k 361))) := by
    have p : 32 ^ (zt_ls x (zv_I k 361)).length ≤ 32 ^ 6 := Nat.pow_le_pow_right (by decide) (by rw [zt_ls_len]; exact c6.2)
    have e6 : (32 : Nat) ^ 6 = 1073741824 := by decide
    unfold zv_rg
    omega
  obtain ⟨u, e1, u1⟩ := zt_indexOf (d := d + 25) gL H (zt_key (zt_ls x (zv_I k 361)))
  obtain ⟨u', e2, u2⟩ := zt_nameAt hM1 rfl W (D + 26) (zt_pkd (zt_ls x (zv_I k 361)))
  have eu := zt_ix_u u2 (zt_ix_N (zt_H_N H) hnw u1)
  subst eu
  rw [if_pos c6] at qC
  rw [if_pos cI, if_neg (by decide), qL9_unname_19, zm_e (i1 (D + 26))] at qR
  dsimp only at qR
  rw [if_neg (by decide), zm_e (zm_gR hM1 rfl rfl : zv_gR k1 347 9 18 = some 361), zm_e (zm_gI hM1 20), zm_F_g F1 20, w1, zm_e ep] at qR
  dsimp only at qR
  rw [zm_e e2] at qR
  dsimp only at qR
  rcases u1 with ⟨q1, q2⟩ | ⟨j, q1, q2, q3, q4⟩
  · -- there is none
    have ed : C0_dropName (d + 27) a (zt_key (zt_ls x (zv_I k 361))) g = some (-5, g) := lC0_dropName (zl_ob gL la) (by
      rw [qE0_dropName, if_neg k0, zm_e (zl_gF gL la 6 14), zm_e e1]
      dsimp only
      rw [if_pos q1])
    obtain ⟨st, ea⟩ := zt_answered (d := d + 25) gL (-5)
    rw [zm_e ed] at qC
    dsimp only at qC
    rw [zm_e ea] at qC
    dsimp only at qC
    rw [if_pos (by decide)] at qC
    rw [if_pos (by rw [q1]; decide), zm_e (zm_refuse hM1 (D + 26) 5)] at qR
    have F2 : zm_F [] [3, 4] k (zv_sI k1 347 3 5) := zm_F_f F1 rfl _
    exact ⟨-1, _, _, lC8_unname (zl_ob gL l1) qC, lC9_unname (zm_ob I.1) qR, zp_no hA S st F2⟩
  · -- it goes
    obtain ⟨n, en⟩ : ∃ n : Nat, zv_I k1 348 3 = ((n + 1 : Nat) : Int) := ⟨(zv_I k1 348 3 - 1).toNat, by omega⟩
    have jn : j ≤ n := by omega
    have n11 : n ≤ 11 := by omega
    obtain ⟨g1, y1, Dr⟩ := zt_dropName (d := d + 25) gL H k0 (Or.inr ⟨j, q1, q2, q3, q4⟩) q1 jn en
    obtain ⟨qd, y2, Qd, _⟩ := zc_C0_dropName (d := d + 25) hA la kb
    have eqd := Option.some.inj (y1.symm.trans y2)
    subst eqd
    have A2 : zc_A (zv_sI g1 (a + 14) 2 n) := Qd.2
    have r3 : zv_I k1 348 (Int.toNat 3) = ((n + 1 : Nat) : Int) := en
    have F2 : zm_F [348] [] k1 (zv_sI k1 348 (Int.toNat 3) (zv_w (zv_I k1 348 (Int.toNat 3) - 1))) := zm_F_I (zm_F_r _ _ k1) rfl _ _
    have c2 : ∀ z, zv_I (zv_sI k1 348 (Int.toNat 3) (zv_w (zv_I k1 348 (Int.toNat 3) - 1))) 348 z = if z = 3 then (n : Int) else zv_I k1 348 z := fun z => by
      by_cases q : z = 3
      · rw [q, if_pos rfl]
        refine (zy_I _ _ _ _).trans ?_
        rw [r3, zm_w (by omega)]
        omega
      · rw [if_neg q]
        exact zy_In _ _ (fun w => q w.2)
    rw [if_neg (by rw [q1]; omega), zm_e (zm_f0 hM1), zm_e (zm_aI hM1 zm_l348 rfl (by decide) (by decide)), zm_e (zm_wI hM1 zm_l348 rfl (by decide) (by decide) _)] at qR
    generalize zv_sI k1 348 (Int.toNat 3) (zv_w (zv_I k1 348 (Int.toNat 3) - 1)) = k2 at F2 c2 qR
    have w2j : zv_w (2 * u') = ((2 * j : Nat) : Int) := by
      rw [q1, zm_w (by omega)]
      omega
    rw [w2j] at qR
    obtain ⟨k3, y3, F3, co3, cx3⟩ := zt_un67 (D + 27) n11 jn (zv_I k1 348) (2 * n - 2 * j) (2 * j) k2 (by omega) (Nat.le_refl _) (zm_F_M F2 hM1) (by rw [c2, if_pos rfl]) (fun z => by rw [c2, if_neg (by omega), if_neg (by omega)])
    rw [y3] at qR
    have F13 : zm_F [348] [] k1 k3 := zm_F_t F2 F3
    have eC9 := lC9_unname (zm_ob I.1) qR
    have W' : zm_W (zv_I k3 348) := by
      obtain ⟨⟨z1, z2⟩, z3, z4⟩ := zm_unname I (D + 18)
      have := (Prod.mk.inj (Option.some.inj (z3.symm.trans eC9))).2
      have z4' : zm_X k z2 := z4
      rw [this] at z4'
      exact z4'.2.2.1
    have k33 : zv_I k3 348 3 = n := by
      rw [co3 3 (Or.inl (by decide)), c2, if_pos rfl]
    have co : ∀ z : Nat, (z < 408 ∨ 432 ≤ z) → z ≠ 3 → zv_I k3 348 z = zv_I k1 348 z := fun z hz h3 => by
      rw [co3 z hz, c2, if_neg h3]
    obtain ⟨H', kk⟩ := zt_H_un (c' := zv_I k3 348) H Dr A2 W' en k33 co cx3
    obtain ⟨st, ea⟩ := zt_answered (d := d + 25) (zt_L_A A2) (n : Int)
    rw [zm_e y1] at qC
    dsimp only at qC
    rw [zm_e ea] at qC
    dsimp only at qC
    rw [if_neg (by omega)] at qC
    exact ⟨(n : Int), _, k3, lC8_unname (zl_ob gL l1) qC, eC9, zt_GG_st (zp_core S1 kk H' F13 (by rw [co 1 (Or.inl (by decide)) (by decide)]; omega) (by rw [co 2 (Or.inl (by decide)) (by decide)]; omega)) st (zm_F_r [] [] _) rfl rfl rfl rfl⟩
end
end
/-! B02.rest -/
section
/-! ===== the tie: what is asked leaves it standing ===== -/
theorem zd_x_lo {r k : Nat} (hr : r < 9) (h2 : r ≠ 2) (h1 : ¬ (r = 1 ∧ (k = 5 ∨ k = 6))) : ¬ zd_x r k := by
  have nx : ¬ zt_x r k := fun q => by
    rcases q with q | q | q | ⟨x, hx, q⟩
    · exact h1 ⟨q.1, Or.inr q.2⟩
    · have := zc_l4 q.1
      omega
    · obtain ⟨i, hi, e⟩ := zc_l5i q.1
      have := zc_sttb (a := zc_hf r) hi
      have l := zc_hl r
      have := zc_lh l
      omega
    · omega
  intro q
  rcases q with q | q | q
  · exact nx q
  · exact h1 ⟨q.1, Or.inl q.2⟩
  · exact h2 q
section
variable {a b m : Nat} {g k : zv_H}
theorem zt_H_d {c : Nat → Int} {g' : zv_H} (H : zt_H a c g) (Q : zd_Q g g') : zt_H a c g' := by
  have q := Q.1.1
  have dq := Q.1.2
  have f : zt_q g ((g'.1, ((fun r i => if (r = 1 ∧ i = 5) ∨ r = 2 then zv_I g r i else zv_I g' r i), g'.2.2)) : zv_H) := by
    refine ⟨q.1, q.2.1, fun r i n _ => ?_, fun r n _ => dq.2 r n, fun r n1 n2 _ => q.2.2.2.1 r n1 n2⟩
    show (if (r = 1 ∧ i = 5) ∨ r = 2 then zv_I g r i else zv_I g' r i) = zv_I g r i
    by_cases c : (r = 1 ∧ i = 5) ∨ r = 2
    · rw [if_pos c]
    · rw [if_neg c]
      exact dq.1 r i (fun z => by
        rcases z with z | z
        · exact n z
        · exact c z)
  refine zt_H_9 (zt_H_q H f) (fun r i hr => ?_) (fun _ _ _ => rfl) (fun _ _ _ => rfl)
  show zv_I g' r i = (if (r = 1 ∧ i = 5) ∨ r = 2 then zv_I g r i else zv_I g' r i)
  rw [if_neg (by omega)]
theorem zt_GG_d (S : zt_GG m a b g k) {g' : zv_H} (Q : zd_Q g g') : zt_GG m a b g' k := by
  have q := Q.1.1
  have dq := Q.1.2
  have lab := zt_lab (zt_GG_ab S)
  have lo : ∀ r i, r < 9 → r ≠ 2 → ¬ (r = 1 ∧ (i = 5 ∨ i = 6)) → zv_I g' r i = zv_I g r i := fun r i hr h2 h1 => dq.1 r i (zd_x_lo hr h2 h1)
  have r1 : ∀ i, zv_R g' 1 i = zv_R g 1 i := fun i => congrFun (q.2.2.2.1 1 (by decide) (by decide)) i
  refine ⟨(r1 3).trans (zt_GG_r S), (r1 4).trans (zt_GG_s S), zt_GG_ab S, zt_H_d (zt_GG_H S) Q, fun i hi => ?_, fun i hi => ?_, zt_GG_n1 S, zt_GG_n2 S, ?_, zt_wt_k (zt_GG_wt S) (fun r i hr => lo r i (by omega) (by omega) (by omega)) rfl rfl⟩
  · rw [(q.2.2.2.2.1 _ (zc_stl lab.2.1 hi).1).1]
    exact zt_GG_N S i hi
  · rw [lo 6 i (by decide) (by decide) (fun z => absurd z.1 (by decide))]
    exact zt_GG_tp S i hi
  · rw [lo 1 7 (by decide) (by decide) (fun z => by omega), lo 5 8 (by decide) (by decide) (fun z => by omega), lo 5 9 (by decide) (by decide) (fun z => by omega)]
    exact zt_GG_fl S
theorem zt_H_n {c c' : Nat → Int} (H : zt_H a c g) (hA : zc_A g) (W : zm_W c') (e : zn_e c c') : zt_H a c' g := by
  have e1 : ∀ x : Nat, x < 4080 → c' x = c x := fun x hx => e x (by omega) (by omega)
  refine zt_H_hd H hA W (fun x h1 h2 h3 => e x h2 h3) (e1 0 (by decide)) (e1 2 (by decide)) (e1 4 (by decide)) (e1 5 (by decide)) (fun x h1 h2 => e1 x (by omega)) (fun _ _ _ _ _ _ => rfl) (fun _ _ => rfl) (fun _ _ => rfl) ((zt_U_nw (zt_H_U H)).trans (e1 1 (by decide)).symm) (zt_N_c (zt_H_N H) ((zt_U_W (zt_H_U H)).2.2.1.2) (e1 3 (by decide)) (fun x h1 h2 => e1 x (by omega)) (fun _ _ _ _ => rfl))
theorem zt_GG_n (S : zt_GG m a b g k) (hA : zc_A g) {k' : zv_H} (X : zn_X k k') : zt_GG m a b g k' := by
  have F := X.1.1
  have e1 : ∀ x : Nat, x < 4080 → zv_I k' 348 x = zv_I k 348 x := fun x hx => X.1.2 x (by omega) (by omega)
  refine ⟨zt_GG_r S, zt_GG_s S, zt_GG_ab S, zt_H_n (zt_GG_H S) hA X.2.2.1 X.1.2, zt_GG_N S, fun i hi => ?_, ?_, ?_, ?_, zt_wt_k (zt_GG_wt S) (fun _ _ _ => rfl) (zm_F_g F 20) (zm_F_a F 361)⟩
  · rw [zm_F_g F 27] at hi
    rw [zm_F_a F 366]
    exact zt_GG_tp S i hi
  · rw [e1 1 (by decide)]
    exact zt_GG_n1 S
  · rw [e1 2 (by decide)]
    exact zt_GG_n2 S
  · rw [zm_F_g F 28, zm_F_g F 29]
    exact zt_GG_fl S
/-- the class's cells are those below 347, the reference's the others -/
theorem zt_GG_k (S : zt_GG m a b g k) {k' : zv_H} (o : ∀ r, 347 ≤ r → k'.2.1 r = k.2.1 r) : zt_GG m a b g k' := by
  have e : ∀ r i, 347 ≤ r → zv_I k' r i = zv_I k r i := fun r i hr => congrFun (o r hr) i
  have e348 : zv_I k' 348 = zv_I k 348 := o 348 (by decide)
  refine ⟨zt_GG_r S, zt_GG_s S, zt_GG_ab S, by rw [e348]; exact zt_GG_H S, zt_GG_N S, fun i hi => ?_, by rw [e348]; exact zt_GG_n1 S, by rw [e348]; exact zt_GG_n2 S, ?_, zt_wt_k (zt_GG_wt S) (fun _ _ _ => rfl) (e 347 20 (by decide)) (o 361 (by decide))⟩
  · rw [e 347 27 (by decide)] at hi
    rw [e 366 i (by decide)]
    exact zt_GG_tp S i hi
  · rw [e 347 28 (by decide), e 347 29 (by decide)]
    exact zt_GG_fl S
theorem zt_U_m {c : Nat → Int} {h h' : zv_H} (t : zt_U a c h) (fI : ∀ r k, r < 347 → zv_I h' r k = zv_I h r k) (fJ : ∀ r k, r < 347 → zv_J h' r k = zv_J h r k) (fR : ∀ r k, r < 347 → zv_R h' r k = zv_R h r k) : zt_U a c h' := by
  have la := zt_U_la t
  have a9 := zc_lh la
  have r9 : ∀ s, zm_st c s → zt_r a s + 2 < 347 := fun s hs => by
    rw [zt_r_p hs.1.1]
    have := zc_sttb (a := a) (show s.toNat < 48 by have := hs.1; omega)
    omega
  have eI : ∀ s, zm_st c s → ∀ k, zv_I h' (zt_r a s) k = zv_I h (zt_r a s) k := fun s hs k => fI _ _ (by have := r9 s hs; omega)
  have eJ : ∀ s, zm_st c s → ∀ k, zv_J h' (zt_r a s) k = zv_J h (zt_r a s) k := fun s hs k => fJ _ _ (by have := r9 s hs; omega)
  have eR : ∀ s, zm_st c s → ∀ k, zv_R h' (zt_r a s) k = zv_R h (zt_r a s) k := fun s hs k => fR _ _ (by have := r9 s hs; omega)
  have eA : ∀ s, zm_st c s → ∀ x k, x ≤ 2 → zv_I h' (zt_r a s + x) k = zv_I h (zt_r a s + x) k := fun s hs x k hx => fI _ _ (by have := r9 s hs; omega)
  have eS : ∀ i, i < 48 → ∀ k, zv_I h' (zc_stt a i) k = zv_I h (zc_stt a i) k := fun i hi k => fI _ _ (by have := zc_sttb (a := a) hi; omega)
  refine ⟨la, zt_U_W t, fun i hi => (eS i hi 3).trans (zt_U_lv t i hi), fun i hi => (eS i hi 0).trans (zt_U_nr t i hi), fun s hs => ?_, ?_, ?_, ?_⟩
  · have u := zt_U_st t s hs
    exact ⟨(eR s hs 4).trans (zt_S_pa u), (eR s hs 5).trans (zt_S_fi u), (eI s hs 6).trans (zt_S_ac u), (eI s hs 7).trans (zt_S_ti u), (eI s hs 8).trans (zt_S_pl u), (eI s hs 9).trans (zt_S_sz u), (eI s hs 13).trans (zt_S_vi u), (eI s hs 15).trans (zt_S_an u), fun k hk => by rw [eJ s hs]; exact zt_S_nm u k hk, fun k hk => by rw [eJ s hs]; exact zt_S_bs u k hk, fun q k x hx => (eA s hs 1 k (by decide)).trans (zt_S_tk u q k x hx), fun q k hk => (fI _ _ (by omega)).trans (zt_S_gl u q k hk), fun l hl => (eI s hs 12).trans (zt_S_ln u l hl), fun l hl n x hx => (eA s hs 2 n (by decide)).trans (zt_S_dc u l hl n x hx), fun l hl => (eI s hs 10).trans (zt_S_de u l hl), (eI s hs 11).trans (zt_S_ch u), zt_S_cw u⟩
  · exact (fR _ _ (by omega)).trans (zt_U_he t)
  · exact (fI _ _ (by omega)).trans (zt_U_nw t)
  · exact (fI _ _ (by omega)).trans (zt_U_ct t)
theorem zt_H_m {c : Nat → Int} {h h' : zv_H} (H : zt_H a c h) (fI : ∀ r k, r < 347 → zv_I h' r k = zv_I h r k) (fJ : ∀ r k, r < 347 → zv_J h' r k = zv_J h r k) (fR : ∀ r k, r < 347 → zv_R h' r k = zv_R h r k) : zt_H a c h' := by
  have la := zt_U_la (zt_H_U H)
  have a9 := zc_lh la
  have V := zt_H_V H
  refine ⟨zt_U_m (zt_H_U H) fI fJ fR, zt_J_cg (zt_H_J H) (fun r k r1 r2 => fI r k (by omega)), ⟨?_, zt_V_c0 V, zt_V_c5 V, fun j hj => ?_, fun j hj => ?_, zt_V_vb V, zt_V_vd V⟩, zt_N_c (zt_H_N H) ((zt_U_W (zt_H_U H)).2.2.1.2) rfl (fun _ _ _ => rfl) (fun r k r1 r2 => fI r k (by omega))⟩
  · rw [fI _ _ (by omega)]; exact zt_V_ct V
  · rw [fI _ _ (by omega)]; exact zt_V_ls V j hj
  · rw [fI _ _ (by omega)]; exact zt_V_lt V j hj
theorem zt_GG_g (S : zt_GG m a b g k) {g' : zv_H} (o : ∀ r, r < 347 → g'.2.1 r = g.2.1 r ∧ g'.2.2.1 r = g.2.2.1 r ∧ g'.2.2.2.1 r = g.2.2.2.1 r) : zt_GG m a b g' k := by
  have eI : ∀ r i, r < 347 → zv_I g' r i = zv_I g r i := fun r i hr => congrFun (o r hr).1 i
  have eJ : ∀ r i, r < 347 → zv_J g' r i = zv_J g r i := fun r i hr => congrFun (o r hr).2.1 i
  have eR : ∀ r i, r < 347 → zv_R g' r i = zv_R g r i := fun r i hr => congrFun (o r hr).2.2 i
  have lab := zt_lab (zt_GG_ab S)
  refine ⟨(eR 1 3 (by decide)).trans (zt_GG_r S), (eR 1 4 (by decide)).trans (zt_GG_s S), zt_GG_ab S, zt_H_m (zt_GG_H S) eI eJ eR, fun i hi => ?_, fun i hi => ?_, zt_GG_n1 S, zt_GG_n2 S, ?_, zt_wt_k (zt_GG_wt S) (fun r i hr => eI r i (by omega)) rfl rfl⟩
  · rw [eI _ _ (by have := zc_sttb (a := b) hi; have := zc_lh lab.2.1; omega)]
    exact zt_GG_N S i hi
  · rw [eI 6 i (by decide)]
    exact zt_GG_tp S i hi
  · rw [eI 1 7 (by decide), eI 5 8 (by decide), eI 5 9 (by decide)]
    exact zt_GG_fl S
end
/-- between two calls of the law: the class beside the reference, in one heap -/
def zl_J (L : Nat) (X : Nat → Int) (m : Nat) (h : zv_H) : Prop := zl_I L X h ∧ ∃ a b, zt_GG m a b h h
section
variable {L : Nat} {X : Nat → Int} {m m' : Nat} {h : zv_H}
/-- both have done a call -/
theorem zl_J_of {a' b' : Nat} {h1 h2 : zv_H} (I2 : zl_I L X h2) {A B : List Nat} (F : zm_F A B h1 h2) (S : zt_GG m' a' b' h1 h2) (hl : (A.all fun x => Nat.ble 347 x) = true := by decide) : zl_J L X m' h2 := by
  refine ⟨I2, a', b', zt_GG_g S (fun r hr => ⟨zm_F_a' F hr hl, ?_, congrFun F.2.1 r⟩)⟩
  funext i
  exact F.2.2.2.2.2 r i (fun q => by omega)
/-- what the class leaves to the reference -/
theorem zl_J_c {a b : Nat} (S : zt_GG m a b h h) {h1 : zv_H} (P : zc_P' h h1) : zt_GG m a b h h1 := zt_GG_k S (fun r hr => (P.2.2 r hr).1)
/-- an act of both -/
theorem zl_act (J : zl_J L X m h) {C : Option (Int × zv_H)} {C' : zv_H → Option (Int × zv_H)} (eC : zm_R C (fun q => zc_X h q.2)) (eR : ∀ h1, zl_I L X h1 → zm_R (C' h1) (fun q => zm_X h1 q.2)) (z : ∀ (a b : Nat) (k : zv_H), zm_MI k → zt_GG m a b h k → ∃ (v : Int) (g' k' : zv_H) (a' b' : Nat), C = some (v, g') ∧ C' k = some (v, k') ∧ zt_GG m' a' b' g' k') : ∃ (v : Int) (h1 h2 : zv_H), C = some (v, h1) ∧ C' h1 = some (v, h2) ∧ zl_S L X h1 ∧ zl_J L X m' h2 := by
  obtain ⟨I, a, b, S⟩ := J
  obtain ⟨⟨v, h1⟩, e1, x1⟩ := eC
  have x1' : zc_X h h1 := x1
  have I1 := zl_cI I x1'
  obtain ⟨⟨v2, h2⟩, e2, x2⟩ := eR h1 I1
  have x2' : zm_X h1 h2 := x2
  obtain ⟨w, g', k', a', b', y1, y2, S'⟩ := z a b h1 I1.2.1 (zl_J_c S (zc_PP' x1'.1))
  have z1 := Prod.mk.inj (Option.some.inj (y1.symm.trans e1))
  have z2 := Prod.mk.inj (Option.some.inj (y2.symm.trans e2))
  refine ⟨w, h1, h2, by rw [e1, z1.1], by rw [e2, z2.1], I1.2.2.2, ?_⟩
  rw [z1.2, z2.2] at S'
  exact zl_J_of (zl_rI I1 x2') x2'.1 S'
/-- what is asked of both -/
theorem zl_ask (J : zl_J L X m h) {C : Option (Int × zv_H)} {C' : zv_H → Option (Int × zv_H)} (eC : zm_R C (fun q => zd_Q h q.2)) (eR : ∀ h1, zm_MI h1 → zm_R (C' h1) (fun q => zn_X h1 q.2)) (eX : ∀ h1, zm_MI h1 → zm_R (C' h1) (fun q => zm_X h1 q.2)) : ∃ (v1 : Int) (h1 : zv_H) (v2 : Int) (h2 : zv_H), C = some (v1, h1) ∧ C' h1 = some (v2, h2) ∧ zl_S L X h1 ∧ zl_J L X m h2 := by
  obtain ⟨I, a, b, S⟩ := J
  obtain ⟨⟨v, h1⟩, e1, q1⟩ := eC
  have q1' : zd_Q h h1 := q1
  have I1 := zl_cI I (zc_QX (zd_c q1'))
  obtain ⟨⟨v2, h2⟩, e2, x2⟩ := eX h1 I1.2.1
  have x2' : zm_X h1 h2 := x2
  obtain ⟨⟨v3, h3⟩, e3, x3⟩ := eR h1 I1.2.1
  have z2 := Prod.mk.inj (Option.some.inj (e3.symm.trans e2))
  have x3' : zn_X h1 h3 := x3
  rw [z2.2] at x3'
  have S1 : zt_GG m a b h h1 := zt_GG_k S (fun r hr => (q1'.1.1.2.2.1 r hr).1)
  exact ⟨v, h1, v2, h2, e1, e2, I1.2.2.2, zl_J_of (zl_rI I1 x2') x2'.1 (zt_GG_n (zt_GG_d S1 q1') I1.1 x3')⟩
end
end
/-! B03.feed -/
section
/-! ===== the tie: bytes fed ===== -/
theorem zt_i2b (y : Int) : zv_i2b y = (y.bmod (2 ^ 32)).bmod (2 ^ 8) := by
  unfold zv_i2b
  rw [Int8.toInt_toInt32, Int32.toInt_toInt8, Int32.toInt_ofInt]
theorem zt_i2b_id {y : Int} (h : -128 ≤ y ∧ y ≤ 127) : zv_i2b y = y := by
  rw [zt_i2b, Int.bmod_def, Int.bmod_def]
  split <;> split <;> omega
/-- the low byte behind a shift, on both sides -/
theorem zt_lob (x : Int) {s : Int} {n : Nat} (hs : (s = 0 ∧ n = 0) ∨ (s = 8 ∧ n = 8) ∨ (s = 16 ∧ n = 16) ∨ (s = 24 ∧ n = 24)) : ∃ v : BitVec 8, zv_i2b (zv_shr x s) = v.toInt ∧ zv_and (zv_ushr x s) 255 = (v.toNat : Int) := by
  have n24 : n ≤ 24 := by omega
  refine ⟨((BitVec.ofInt 32 x) >>> n).setWidth 8, ?_, ?_⟩
  · have e1 : (Int32.ofInt x >>> (Int32.ofInt s &&& 31)).toBitVec = (BitVec.ofInt 32 x).sshiftRight n := by
      rcases hs with ⟨rfl, rfl⟩ | ⟨rfl, rfl⟩ | ⟨rfl, rfl⟩ | ⟨rfl, rfl⟩ <;> rfl
    have e2 : ((Int32.ofInt x >>> (Int32.ofInt s &&& 31)).toInt8).toBitVec = ((BitVec.ofInt 32 x) >>> n).setWidth 8 := by
      show BitVec.signExtend 8 (Int32.ofInt x >>> (Int32.ofInt s &&& 31)).toBitVec = _
      rw [e1]
      refine BitVec.eq_of_getLsbD_eq (fun i hi => ?_)
      rw [BitVec.getLsbD_signExtend, BitVec.getLsbD_sshiftRight, BitVec.getLsbD_setWidth, BitVec.getLsbD_ushiftRight]
      have h1 : i < 32 := by omega
      have h2 : n + i < 32 := by omega
      have h3 : ¬ 32 ≤ i := by omega
      simp only [h1, h2, h3, hi, decide_true, decide_false, Bool.not_false, Bool.true_and, if_true]
    unfold zv_i2b zv_shr
    rw [Int32.ofInt_toInt, Int8.toInt_toInt32]
    exact congrArg BitVec.toInt e2
  · have e4 : (((Int32.ofInt x).toUInt32 >>> ((Int32.ofInt s).toUInt32 &&& Int32.toUInt32 31)).toInt32).toBitVec = (BitVec.ofInt 32 x) >>> n := by
      rcases hs with ⟨rfl, rfl⟩ | ⟨rfl, rfl⟩ | ⟨rfl, rfl⟩ | ⟨rfl, rfl⟩ <;> rfl
    unfold zv_and zv_ushr
    rw [Int32.ofInt_toInt]
    refine zc_toInt ((((Int32.ofInt x).toUInt32 >>> ((Int32.ofInt s).toUInt32 &&& Int32.toUInt32 31)).toInt32) &&& Int32.ofInt 255).toBitVec ?_ ?_
    · rw [Int32.toBitVec_and, e4, BitVec.toNat_and, BitVec.toNat_setWidth]
      exact Nat.and_two_pow_sub_one_eq_mod _ 8
    · have := (((BitVec.ofInt 32 x) >>> n).setWidth 8).isLt
      omega
theorem zt_fb (x : Int) {s : Int} (hs : s = 0 ∨ s = 8 ∨ s = 16 ∨ s = 24) : zv_i2b (zv_i2b (zv_shr x s)) = zt_sb (zv_and (zv_ushr x s) 255) ∧ 0 ≤ zv_and (zv_ushr x s) 255 ∧ zv_and (zv_ushr x s) 255 ≤ 255 := by
  obtain ⟨v, e1, e2⟩ : ∃ v : BitVec 8, zv_i2b (zv_shr x s) = v.toInt ∧ zv_and (zv_ushr x s) 255 = (v.toNat : Int) := by
    rcases hs with e | e | e | e
    · exact zt_lob x (n := 0) (Or.inl ⟨e, rfl⟩)
    · exact zt_lob x (n := 8) (Or.inr (Or.inl ⟨e, rfl⟩))
    · exact zt_lob x (n := 16) (Or.inr (Or.inr (Or.inl ⟨e, rfl⟩)))
    · exact zt_lob x (n := 24) (Or.inr (Or.inr (Or.inr ⟨e, rfl⟩)))
  have l := v.isLt
  have l2 : v.toNat < 256 := l
  have ev : v.toInt = zt_sb (v.toNat : Int) := by
    rw [BitVec.toInt_eq_toNat_cond]
    unfold zt_sb
    split <;> split <;> omega
  have r : -128 ≤ v.toInt ∧ v.toInt ≤ 127 := by
    rw [ev]
    unfold zt_sb
    split <;> omega
  rw [e1, e2, zt_i2b_id r, ev]
  exact ⟨rfl, by omega, by omega⟩
/-- the bytes on both tapes -/
def zt_tp (g k : zv_H) (p : Nat) : Prop := ∀ i : Nat, i < p → (0 ≤ zv_I g 6 i ∧ zv_I g 6 i ≤ 255) ∧ zv_I k 366 i = zt_sb (zv_I g 6 i)
/-- but for the class's tape -/
def zt_wt5 (g g' : zv_H) : Prop := g'.1 = g.1 ∧ g'.2.2 = g.2.2 ∧ ∀ r i, r ≠ 6 → ¬ (r = 5 ∧ i = 2) → zv_I g' r i = zv_I g r i
theorem zt_wt5_L {g g' : zv_H} (gL : zt_L g) (f : zt_wt5 g g') : zt_L g' := by
  refine ⟨?_, fun r i h1 h2 => ?_, fun x i h1 h2 => ?_⟩
  · unfold zv_n
    rw [f.1]
    exact gL.1
  · unfold zv_R
    rw [f.2.1]
    exact gL.2.1 r i h1 h2
  · unfold zv_R
    rw [f.2.1]
    exact gL.2.2 x i h1 h2
theorem zt_wt5_t {g g1 g2 : zv_H} (f : zt_wt5 g g1) (h : zt_wt5 g1 g2) : zt_wt5 g g2 := ⟨h.1.trans f.1, h.2.1.trans f.2.1, fun r i q1 q2 => (h.2.2 r i q1 q2).trans (f.2.2 r i q1 q2)⟩
theorem zt_addByte {d : Nat} {g : zv_H} (gL : zt_L g) {p : Nat} (hp : zv_I g 5 2 = p) (h7 : p < 700) (v : Int) : C3_addByte (d + 1) 5 v g = some (zv_sI (zv_sI g 6 p v) 5 2 ((p + 1 : Nat) : Int)) := by
  refine lC3_addByte (zl_ob gL zt_lay5) ?_
  have e6 : zv_gR g 5 3 0 = some 6 := zl_gF gL zt_lay5 0 1
  have L1 : zt_L (zv_sI g 6 p v) := gL
  have e2 : zv_I (zv_sI g 6 p v) 5 2 = p := (zy_In _ _ (fun q => absurd q.1 (by decide))).trans hp
  rw [qE3_addByte, zm_e (zl_gI gL zt_lay5 2), hp, if_neg (by omega), zm_e (zl_gI gL zt_lay5 2), hp, if_pos (by omega), zm_e e6, zm_e (zl_gI gL zt_lay5 2), hp, zm_e (zl_wI gL zt_lay6 (by omega) (by omega) v)]
  rw [Int.toNat_natCast, zm_e (zl_gI L1 zt_lay5 2), e2, zm_w (by omega), zm_e (zl_pI L1 zt_lay5 2 _)]
  rfl
/-- some bytes of one int -/
theorem zj_lays {d D : Nat} (x : Int) : ∀ (m : Nat) (g k : zv_H) (p : Nat), m ≤ 4 → zt_L g → zm_M k → zv_I g 5 2 = p → zv_I k 347 27 = p → p + m ≤ 700 → zt_tp g k p → ∃ g' k', L8_feedInt_3 (d + 1) 1 x (8 * (m : Int) - 8) g = some (none, g') ∧ L9_lays_3 D 347 x (8 * (m : Int) - 8) k = some (none, k') ∧ zt_wt5 g g' ∧ zm_F [366] [27] k k' ∧ zv_I g' 5 2 = ((p + m : Nat) : Int) ∧ zv_I k' 347 27 = ((p + m : Nat) : Int) ∧ zt_tp g' k' (p + m)
  | 0, g, k, p, hm, gL, hM, hp, hq, h7, tp => ⟨g, k, by rw [qL8_feedInt_3, if_pos (by omega)], by rw [qL9_lays_3, if_pos (by omega)], ⟨rfl, rfl, fun _ _ _ _ => rfl⟩, zm_F_r _ _ k, hp, hq, tp⟩
  | m + 1, g, k, p, hm, gL, hM, hp, hq, h7, tp => by
    have w1 : zv_w (8 * ((m + 1 : Nat) : Int) - 8 + -8) = 8 * (m : Int) - 8 := by
      rw [zm_w (by omega)]
      omega
    have e5 : zv_gR g 1 8 2 = some 5 := zl_gF gL (show zv_lay 1 = (1, 8) from rfl) 2 4
    obtain ⟨b1, b2, b3⟩ := zt_fb x (s := 8 * ((m + 1 : Nat) : Int) - 8) (by omega)
    rw [qL8_feedInt_3, if_neg (by omega), zm_e e5, zm_e (zt_addByte (d := d) gL hp (by omega) _), qL9_lays_3, if_neg (by omega), zm_e (zm_f26 hM), zm_e (zm_gI hM 27), hq, zm_e (zm_wB4 hM zm_l366 rfl (by omega) (by omega) _), w1, Int.toNat_natCast, b1]
    generalize zv_and (zv_ushr x (8 * ((m + 1 : Nat) : Int) - 8)) 255 = y at b2 b3
    have f1 : zm_F [366] [27] k (zv_sI k 366 p (zt_sb y)) := zm_F_I (zm_F_r _ _ k) rfl _ _
    have hM1 := zm_F_M f1 hM
    have e1 : zv_I (zv_sI k 366 p (zt_sb y)) 347 27 = p := (zy_In _ _ (fun q => absurd q.1 (by decide))).trans hq
    rw [zm_e (zm_gI hM1 27), e1, zm_w (by omega), zm_e (zm_pI hM1 27 _)]
    have f2 : zm_F [366] [27] k (zv_sI (zv_sI k 366 p (zt_sb y)) 347 27 ((p : Int) + 1)) := zm_F_f f1 rfl _
    have L2 : zt_L (zv_sI (zv_sI g 6 p y) 5 2 ((p + 1 : Nat) : Int)) := gL
    have c1 : zt_wt5 g (zv_sI (zv_sI g 6 p y) 5 2 ((p + 1 : Nat) : Int)) := ⟨rfl, rfl, fun r i q1 q2 => (zy_In _ _ q2).trans (zy_In _ _ (fun q => q1 q.1))⟩
    have p1 : zv_I (zv_sI (zv_sI g 6 p y) 5 2 ((p + 1 : Nat) : Int)) 5 2 = ((p + 1 : Nat) : Int) := zy_I _ _ _ _
    have p2 : zv_I (zv_sI (zv_sI k 366 p (zt_sb y)) 347 27 ((p : Int) + 1)) 347 27 = ((p + 1 : Nat) : Int) := (zy_I _ _ _ _).trans (by omega)
    have t1 : zt_tp (zv_sI (zv_sI g 6 p y) 5 2 ((p + 1 : Nat) : Int)) (zv_sI (zv_sI k 366 p (zt_sb y)) 347 27 ((p : Int) + 1)) (p + 1) := fun i hi => by
      have ek : zv_I (zv_sI (zv_sI k 366 p (zt_sb y)) 347 27 ((p : Int) + 1)) 366 i = zv_I (zv_sI k 366 p (zt_sb y)) 366 i := zy_In _ _ (fun q => absurd q.1 (by decide))
      have eg : zv_I (zv_sI (zv_sI g 6 p y) 5 2 ((p + 1 : Nat) : Int)) 6 i = zv_I (zv_sI g 6 p y) 6 i := zy_In _ _ (fun q => absurd q.1 (by decide))
      rw [ek, eg]
      by_cases c : i = p
      · subst c
        rw [zy_I, zy_I]
        exact ⟨⟨b2, b3⟩, rfl⟩
      · rw [zy_In _ _ (fun q => c q.2), zy_In _ _ (fun q => c q.2)]
        exact tp i (by omega)
    generalize zv_sI (zv_sI g 6 p y) 5 2 ((p + 1 : Nat) : Int) = g1 at L2 c1 p1 t1
    generalize zv_sI (zv_sI k 366 p (zt_sb y)) 347 27 ((p : Int) + 1) = k1 at f2 p2 t1
    obtain ⟨g', k', i1, i2, i3, i4, i5, i6, i7⟩ := zj_lays (d := d) (D := D) x m g1 k1 (p + 1) (by omega) L2 (zm_F_M f2 hM) p1 p2 (by omega) t1
    have ep : p + 1 + m = p + (m + 1) := by omega
    rw [ep] at i5 i6 i7
    exact ⟨g', k', i1, i2, zt_wt5_t c1 i3, zm_F_t f2 i4, i5, i6, i7⟩
theorem zj_feed1 {d D : Nat} (x : Int) {g k : zv_H} {p : Nat} (gL : zt_L g) (hM : zm_M k) (hp : zv_I g 5 2 = p) (hq : zv_I k 347 27 = p) (h7 : p + 4 ≤ 700) (tp : zt_tp g k p) : ∃ g' k', C8_feedInt (d + 2) 1 x g = some g' ∧ C9_lays (D + 1) 347 x k = some k' ∧ zt_wt5 g g' ∧ zm_F [366] [27] k k' ∧ zv_I g' 5 2 = ((p + 4 : Nat) : Int) ∧ zv_I k' 347 27 = ((p + 4 : Nat) : Int) ∧ zt_tp g' k' (p + 4) := by
  obtain ⟨g', k', i1, i2, i3⟩ := zj_lays (d := d) (D := D) x 4 g k p (Nat.le_refl _) gL hM hp hq h7 tp
  refine ⟨g', k', lC8_feedInt (zl_ob gL (show zv_lay 1 = (1, 8) from rfl)) ?_, lC9_lays (zm_ob hM) ?_, i3⟩
  · rw [qE8_feedInt]
    exact i1
  · rw [qE9_lays]
    exact i2
section
variable {a b m : Nat} {g k : zv_H}
theorem zp_feed {d D : Nat} (hA : zc_A g) (I : zm_MI k) (S : zt_GG m a b g k) (ts : zv_I g 5 2 = zv_I k 347 27) (x1 x2 x3 x4 x5 : Int) : ∃ v g' k', C8_feed (d + 10) 1 x1 x2 x3 x4 x5 g = some (v, g') ∧ C9_feed (D + 10) 347 x1 x2 x3 x4 x5 k = some (v, k') ∧ zt_GG m a b g' k' := by
  have gL := zt_L_A hA
  have hM := I.1
  have l1 : zv_lay 1 = (1, 8) := rfl
  have i4 := I.2.2.2.1
  obtain ⟨p, hq⟩ : ∃ p : Nat, zv_I k 347 27 = p := ⟨(zv_I k 347 27).toNat, by omega⟩
  have hp : zv_I g 5 2 = p := ts.trans hq
  have e5 : ∀ {g : zv_H}, zt_L g → zv_gR g 1 8 2 = some 5 := fun {g} h => zl_gF h l1 2 4
  have f0 : zm_F [366] [4, 27] k (zv_sI k 347 4 0) := zm_F_f (zm_F_r _ _ k) rfl _
  have q0 : zv_I (zv_sI k 347 4 0) 347 27 = p := (zy_In _ _ (fun q => absurd q.2 (by decide))).trans hq
  have t0 : zt_tp g (zv_sI k 347 4 0) p := fun i hi => by
    rw [show zv_I (zv_sI k 347 4 0) 366 i = zv_I k 366 i from zy_In _ _ (fun q => absurd q.1 (by decide))]
    exact zt_GG_tp S i (by rw [hq]; omega)
  have qC := qE8_feed (d + 9) 1 x1 x2 x3 x4 x5 g
  rw [zm_e (e5 gL), zm_e (zl_gI gL zt_lay5 2), hp, zm_w (by omega)] at qC
  have qR := qE9_feed (D + 9) 347 x1 x2 x3 x4 x5 k
  rw [zm_e (zm_pI hM 4 0)] at qR
  generalize zv_sI k 347 4 0 = k0 at f0 q0 t0 qR
  have M0 := zm_F_M f0 hM
  rw [zm_e (zm_gI M0 27), q0, zm_w (by omega)] at qR
  by_cases c : (p : Int) + 20 ≤ 700
  · obtain ⟨g1, k1, a1, b1, c1, F1, p1, r1, t1⟩ := zj_feed1 (d := d + 7) (D := D + 8) x1 gL M0 hp q0 (by omega) t0
    have L1 := zt_wt5_L gL c1
    have M1 := zm_F_M F1 M0
    obtain ⟨g2, k2, a2, b2, c2, F2, p2, r2, t2⟩ := zj_feed1 (d := d + 7) (D := D + 8) x2 L1 M1 p1 r1 (by omega) t1
    have L2 := zt_wt5_L L1 c2
    have M2 := zm_F_M F2 M1
    obtain ⟨g3, k3, a3, b3, c3, F3, p3, r3, t3⟩ := zj_feed1 (d := d + 7) (D := D + 8) x3 L2 M2 p2 r2 (by omega) t2
    have L3 := zt_wt5_L L2 c3
    have M3 := zm_F_M F3 M2
    obtain ⟨g4, k4, a4, b4, c4, F4, p4, r4, t4⟩ := zj_feed1 (d := d + 7) (D := D + 8) x4 L3 M3 p3 r3 (by omega) t3
    have L4 := zt_wt5_L L3 c4
    have M4 := zm_F_M F4 M3
    obtain ⟨g5, k5, a5, b5, c5, F5, p5, r5, t5⟩ := zj_feed1 (d := d + 7) (D := D + 8) x5 L4 M4 p4 r4 (by omega) t4
    have L5 := zt_wt5_L L4 c5
    have M5 := zm_F_M F5 M4
    rw [if_pos c, zm_e a1, zm_e a2, zm_e a3, zm_e a4, zm_e a5, zm_e (e5 L5), zm_e (zl_gI L5 zt_lay5 2), p5] at qC
    rw [if_pos c, zm_e b1, zm_e b2, zm_e b3, zm_e b4, zm_e b5, zm_e (zm_gI M5 27), r5] at qR
    have cc : zt_wt5 g g5 := zt_wt5_t c1 (zt_wt5_t c2 (zt_wt5_t c3 (zt_wt5_t c4 c5)))
    have F : zm_F [366] [4, 27] k k5 := zm_F_t f0 (zm_F_t (zm_F_s F1 rfl rfl) (zm_F_t (zm_F_s F2 rfl rfl) (zm_F_t (zm_F_s F3 rfl rfl) (zm_F_t (zm_F_s F4 rfl rfl) (zm_F_s F5 rfl rfl)))))
    refine ⟨_, g5, k5, lC8_feed (zl_ob gL l1) qC, lC9_feed (zm_ob hM) qR, ?_⟩
    have eR : ∀ r i, zv_R g5 r i = zv_R g r i := fun r i => by unfold zv_R; rw [cc.2.1]
    have eJ : ∀ r i, zv_J g5 r i = zv_J g r i := fun r i => by unfold zv_J; rw [cc.2.1]
    have lab := zt_lab (zt_GG_ab S)
    refine ⟨(eR 1 3).trans (zt_GG_r S), (eR 1 4).trans (zt_GG_s S), zt_GG_ab S, ?_, fun i hi => ?_, fun i hi => ?_, ?_, ?_, ?_, zt_wt_k (zt_GG_wt S) (fun r i hr => cc.2.2 r i (by omega) (by omega)) (zm_F_g F 20) (zm_F_a F 361)⟩
    · rw [zm_F_a F 348]
      exact zt_H_9 (zt_GG_H S) (fun r i hr => cc.2.2 r i (by omega) (by omega)) (fun r i _ => eJ r i) (fun r i _ => eR r i)
    · exact (cc.2.2 _ _ (fun q => by have := zc_sttb (a := b) hi; have := zc_lh lab.2.1; omega) (fun q => by have := zc_sttb (a := b) hi; have := zc_lh lab.2.1; omega)).trans (zt_GG_N S i hi)
    · rw [r5] at hi
      exact t5 i (by omega)
    · rw [zm_F_a F 348]
      exact zt_GG_n1 S
    · rw [zm_F_a F 348]
      exact zt_GG_n2 S
    · rw [cc.2.2 1 7 (by decide) (by decide), cc.2.2 5 8 (by decide) (by decide), cc.2.2 5 9 (by decide) (by decide), zm_F_g F 28, zm_F_g F 29]
      exact zt_GG_fl S
  · rw [if_neg c] at qC qR
    refine ⟨_, g, k0, lC8_feed (zl_ob gL l1) qC, lC9_feed (zm_ob hM) qR, ?_⟩
    refine ⟨zt_GG_r S, zt_GG_s S, zt_GG_ab S, ?_, zt_GG_N S, fun i hi => t0 i (by rw [q0] at hi; omega), ?_, ?_, ?_, zt_wt_k (zt_GG_wt S) (fun _ _ _ => rfl) (zm_F_g f0 20) (zm_F_a f0 361)⟩
    · rw [zm_F_a f0 348]
      exact zt_GG_H S
    · rw [zm_F_a f0 348]
      exact zt_GG_n1 S
    · rw [zm_F_a f0 348]
      exact zt_GG_n2 S
    · rw [zm_F_g f0 28, zm_F_g f0 29]
      exact zt_GG_fl S
end
end
/-! B04.type -/
section
/-! ===== the tie: a word typed ===== -/
theorem zm_tl_r (a b : Int) (k : Nat) : 0 ≤ zm_tl a b k ∧ zm_tl a b k ≤ 31 := zc_and31 (zv_ushr (if (k : Int) < 6 then a else b) (zv_w (5 * ((k : Int).tmod 6))))
/-- its letters -/
def zu_w (a b : Int) (i : Nat) : Int := zm_tl a b i - 1
/-- how many letters are told, or that one is none -/
theorem zu_n (a b : Int) : ∀ (m k : Nat), zm_ty a b m k = -1 ∨ ∃ n : Nat, zm_ty a b m k = n ∧ k ≤ n ∧ n ≤ k + m ∧ ∀ i, k ≤ i → i < n → 1 ≤ zm_tl a b i ∧ zm_tl a b i ≤ 26
  | 0, k => Or.inr ⟨k, rfl, Nat.le_refl _, Nat.le_refl _, fun i h1 h2 => by omega⟩
  | m + 1, k => by
    have e : zm_ty a b (m + 1) k = if zm_tl a b k ≤ 26 then (if zm_tl a b k ≤ 0 then (k : Int) else zm_ty a b m (k + 1)) else -1 := rfl
    rw [e]
    by_cases c1 : zm_tl a b k ≤ 26
    · rw [if_pos c1]
      by_cases c2 : zm_tl a b k ≤ 0
      · rw [if_pos c2]
        exact Or.inr ⟨k, rfl, Nat.le_refl _, by omega, fun i h1 h2 => by omega⟩
      · rw [if_neg c2]
        rcases zu_n a b m (k + 1) with h | ⟨n, h1, h2, h3, h4⟩
        · exact Or.inl h
        · refine Or.inr ⟨n, h1, by omega, by omega, fun i h5 h6 => ?_⟩
          by_cases c3 : i = k
          · rw [c3]
            omega
          · exact h4 i (by omega) h6
    · rw [if_neg c1]
      exact Or.inl rfl
/-- the class: but for the typed word -/
def zt_w34 (g g' : zv_H) : Prop := g'.1 = g.1 ∧ g'.2.2 = g.2.2 ∧ ∀ r i, ¬ (r = 3 ∧ i = 1) → r ≠ 4 → zv_I g' r i = zv_I g r i
section
variable {d : Nat} {g : zv_H}
theorem zt_lay3 : zv_lay 3 = (1, 7) := rfl
theorem zt_lay4 : zv_lay 4 = (2, 40) := rfl
theorem zt_type46 (a b : Int) {n : Nat} (hn : n ≤ 12) : ∀ (m i : Nat) (g : zv_H), i + m = n → zt_L g → zv_I g 3 1 = i → (∀ j, j < i → zv_I g 4 j = zu_w a b j) → ∃ g', L8_type_46 (d + 1) 1 a b n i g = some (some (zv_i n), g') ∧ zt_w34 g g' ∧ zv_I g' 3 1 = n ∧ ∀ j, j < n → zv_I g' 4 j = zu_w a b j
  | 0, i, g, hi, gL, h1, h2 => by
    have e : i = n := by omega
    subst e
    exact ⟨g, by rw [qL8_type_46, if_neg (by omega)], ⟨rfl, rfl, fun _ _ _ _ => rfl⟩, h1, h2⟩
  | m + 1, i, g, hi, gL, h1, h2 => by
    have e3 : zv_gR g 1 8 1 = some 3 := zl_gF gL (show zv_lay 1 = (1, 8) from rfl) 1 2
    have tr := zm_tl_r a b i
    rw [qL8_type_46, if_pos (by omega), zm_e e3, zm_e (zc_letter a b (show i < 12 by omega))]
    dsimp only
    rw [zm_w (show -2147483648 ≤ zm_tl a b i - 1 ∧ zm_tl a b i - 1 < 2147483648 by omega), zm_e (zt_C7_add (d := d) gL zt_lay3 zt_lay4 (i := i) (by omega) h1 (zm_tl a b i - 1)), zm_w (by omega)]
    have L2 : zt_L (zv_sI (zv_sI g (3 + 1) i (zm_tl a b i - 1)) 3 1 ((i + 1 : Nat) : Int)) := gL
    have f : zt_w34 g (zv_sI (zv_sI g (3 + 1) i (zm_tl a b i - 1)) 3 1 ((i + 1 : Nat) : Int)) := ⟨rfl, rfl, fun r j q1 q2 => (zy_In _ _ q1).trans (zy_In _ _ (fun q => q2 q.1))⟩
    have p1 : zv_I (zv_sI (zv_sI g (3 + 1) i (zm_tl a b i - 1)) 3 1 ((i + 1 : Nat) : Int)) 3 1 = ((i + 1 : Nat) : Int) := zy_I _ _ _ _
    have p2 : ∀ j, j < i + 1 → zv_I (zv_sI (zv_sI g (3 + 1) i (zm_tl a b i - 1)) 3 1 ((i + 1 : Nat) : Int)) 4 j = zu_w a b j := fun j hj => by
      rw [zy_In _ _ (fun q => absurd q.1 (by decide))]
      by_cases c : j = i
      · subst c
        exact zy_I _ _ _ _
      · rw [zy_In _ _ (fun q => c q.2)]
        exact h2 j (by omega)
    generalize zv_sI (zv_sI g (3 + 1) i (zm_tl a b i - 1)) 3 1 ((i + 1 : Nat) : Int) = g1 at L2 f p1 p2
    obtain ⟨g', y1, y2, y3, y4⟩ := zt_type46 a b hn m (i + 1) g1 (by omega) L2 p1 p2
    have ei : ((i : Int) + 1) = ((i + 1 : Nat) : Int) := by omega
    rw [ei]
    exact ⟨g', y1, ⟨y2.1.trans f.1, y2.2.1.trans f.2.1, fun r j q1 q2 => (y2.2.2 r j q1 q2).trans (f.2.2 r j q1 q2)⟩, y3, y4⟩
theorem zt_type36 (a b : Int) {n : Nat} (hn : n ≤ 12) (gL : zt_L g) : ∃ g', L8_type_36 (d + 1) 1 a b n g = some (some (zv_i n), g') ∧ zt_w34 g g' ∧ zv_I g' 3 1 = n ∧ ∀ j, j < n → zv_I g' 4 j = zu_w a b j := by
  have e3 : zv_gR g 1 8 1 = some 3 := zl_gF gL (show zv_lay 1 = (1, 8) from rfl) 1 2
  have L1 : zt_L (zv_sI g 3 1 0) := gL
  obtain ⟨g', y1, y2, y3, y4⟩ := zt_type46 (d := d) a b hn n 0 (zv_sI g 3 1 0) (Nat.zero_add _) L1 (zy_I _ _ _ _) (fun j hj => absurd hj (Nat.not_lt_zero j))
  refine ⟨g', ?_, ⟨y2.1, y2.2.1, fun r j q1 q2 => (y2.2.2 r j q1 q2).trans (zy_In _ _ q1)⟩, y3, y4⟩
  rw [qL8_type_36, zm_e e3, zm_e (zt_C7_clear (d := d) gL zt_lay3)]
  exact y1
theorem zt_type2 (a b : Int) (gL : zt_L g) : ∀ (m k : Nat), k + m = 12 → ∃ g', L8_type_2 (d + 1) 1 a b k g = some (some (zv_i (zm_ty a b m k)), g') ∧ ((zm_ty a b m k = -1 ∧ g' = g) ∨ ∃ n : Nat, zm_ty a b m k = n ∧ n ≤ 12 ∧ zt_w34 g g' ∧ zv_I g' 3 1 = n ∧ ∀ j, j < n → zv_I g' 4 j = zu_w a b j) := by
  intro m
  induction m with
  | zero =>
    intro k hk
    have ek : k = 12 := by omega
    subst ek
    obtain ⟨g', y1, y2, y3, y4⟩ := zt_type36 (d := d) a b (n := 12) (by decide) gL
    exact ⟨g', by rw [qL8_type_2, if_neg (by omega)]; exact y1, Or.inr ⟨12, rfl, by decide, y2, y3, y4⟩⟩
  | succ m ih =>
    intro k hk
    have e1 : zm_ty a b (m + 1) k = if zm_tl a b k ≤ 26 then (if zm_tl a b k ≤ 0 then (k : Int) else zm_ty a b m (k + 1)) else -1 := rfl
    have t' := zm_tl_r a b k
    rw [qL8_type_2, if_pos (by omega), zm_e (zc_letter a b (show k < 12 by omega)), e1]
    dsimp only
    by_cases c : zm_tl a b k = 0
    · rw [if_pos c, if_pos (by omega), if_pos (by omega)]
      obtain ⟨g', y1, y2, y3, y4⟩ := zt_type36 (d := d) a b (n := k) (by omega) gL
      exact ⟨g', y1, Or.inr ⟨k, rfl, by omega, y2, y3, y4⟩⟩
    · rw [if_neg c, zm_e (zc_letter a b (show k < 12 by omega))]
      dsimp only
      by_cases c1 : zm_tl a b k ≤ 26
      · rw [if_pos c1, if_pos c1, if_neg (by omega), zm_w (by omega)]
        exact ih (k + 1) (by omega)
      · rw [if_neg c1, if_neg c1]
        exact ⟨g, rfl, Or.inl ⟨rfl, rfl⟩⟩
end
/-! the reference -/
theorem zt_type103 (D : Nat) {n : Nat} (hn : n ≤ 12) : ∀ (m i : Nat) (k : zv_H), i + m = n → zm_M k → (∀ j, j < i → zv_I k 361 j = zv_I k 360 j) → ∃ k', L9_type_103 D 347 n i k = some (some (zv_i n), k') ∧ zm_F [361] [20] k k' ∧ zv_I k' 347 20 = n ∧ ∀ j, j < n → zv_I k' 361 j = zv_I k 360 j
  | 0, i, k, hi, hM, h => by
    have e : i = n := by omega
    subst e
    rw [qL9_type_103, if_neg (by omega), zm_e (zm_pI hM 20 _)]
    exact ⟨_, rfl, zm_F_f (zm_F_r _ _ k) rfl _, zy_I _ _ _ _, fun j hj => (zy_In _ _ (fun q => absurd q.1 (by decide))).trans (h j hj)⟩
  | m + 1, i, k, hi, hM, h => by
    rw [qL9_type_103, if_pos (by omega), zm_e (zm_f18 hM), zm_e (zm_f17 hM), zm_e (zm_aI hM zm_l360 rfl (by omega) (by omega)), zm_e (zm_wI hM zm_l361 rfl (by omega) (by omega) _), zm_w (by omega), Int.toNat_natCast]
    have f1 : zm_F [361] [20] k (zv_sI k 361 i (zv_I k 360 i)) := zm_F_I (zm_F_r _ _ k) rfl _ _
    have e360 : zv_I (zv_sI k 361 i (zv_I k 360 i)) 360 = zv_I k 360 := zm_F_a f1 360
    have hj : ∀ j, j < i + 1 → zv_I (zv_sI k 361 i (zv_I k 360 i)) 361 j = zv_I (zv_sI k 361 i (zv_I k 360 i)) 360 j := fun j hj => by
      rw [e360]
      by_cases c : j = i
      · subst c
        exact zy_I _ _ _ _
      · rw [zy_In _ _ (fun q => c q.2)]
        exact h j (by omega)
    generalize zv_sI k 361 i (zv_I k 360 i) = k1 at f1 e360 hj
    obtain ⟨k', y1, y2, y3, y4⟩ := zt_type103 D hn m (i + 1) k1 (by omega) (zm_F_M f1 hM) hj
    have ei : ((i : Int) + 1) = ((i + 1 : Nat) : Int) := by omega
    rw [ei]
    exact ⟨k', y1, zm_F_t f1 y2, y3, fun j hj => by rw [y4 j hj, e360]⟩
theorem zt_type13 (D : Nat) (a b : Int) : ∀ (m i : Nat) (k : zv_H), i + m = 12 → zm_M k → (∀ j, j < i → zv_I k 360 j = zu_w a b j) → ∃ k', L9_type_13 D 347 a b i 1 i k = some (some (zv_i (zm_ty a b m i)), k') ∧ zm_F [360, 361] [20] k k' ∧ ((zm_ty a b m i = -1 ∧ zm_F [360] [] k k') ∨ ∃ n : Nat, zm_ty a b m i = n ∧ n ≤ 12 ∧ zv_I k' 347 20 = n ∧ ∀ j, j < n → zv_I k' 361 j = zu_w a b j)
  | 0, i, k, hi, hM, h => by
    have ei : i = 12 := by omega
    subst ei
    obtain ⟨k', y1, y2, y3, y4⟩ := zt_type103 D (n := 12) (by decide) 12 0 k rfl hM (fun j hj => absurd hj (Nat.not_lt_zero j))
    rw [qL9_type_13, if_neg (by omega)]
    exact ⟨k', y1, zm_F_s y2 rfl rfl, Or.inr ⟨12, rfl, by decide, y3, fun j hj => (y4 j hj).trans (h j hj)⟩⟩
  | m + 1, i, k, hi, hM, h => by
    have w1 : zv_w ((i : Int) + 1) = ((i + 1 : Nat) : Int) := by
      rw [zm_w (by omega)]
      rfl
    have w0 : zv_w ((i : Int) + 0) = (i : Int) := by
      rw [zm_w (by omega), Int.add_zero]
    have t' := zm_tl_r a b i
    have l37 : ∀ e : Int, e = (if (i : Int) < 6 then a else b) → ∃ k', L9_type_37 D 347 a b i i e k = some (some (zv_i (zm_ty a b (m + 1) i)), k') ∧ zm_F [360, 361] [20] k k' ∧ ((zm_ty a b (m + 1) i = -1 ∧ zm_F [360] [] k k') ∨ ∃ n : Nat, zm_ty a b (m + 1) i = n ∧ n ≤ 12 ∧ zv_I k' 347 20 = n ∧ ∀ j, j < n → zv_I k' 361 j = zu_w a b j) := by
      intro e he
      have ev : zv_and (zv_ushr e (zv_w (5 * ((i : Int).tmod 6)))) 31 = zm_tl a b i := by
        rw [he]
        rfl
      have et : zm_ty a b (m + 1) i = if zm_tl a b i ≤ 26 then (if zm_tl a b i ≤ 0 then (i : Int) else zm_ty a b m (i + 1)) else -1 := rfl
      rw [qL9_type_37, ev, et]
      by_cases c1 : zm_tl a b i ≤ 26
      · rw [if_pos c1, if_pos c1]
        have f1 : zm_F [360] [] k (zv_sI k 360 i (zm_tl a b i - 1)) := zm_F_I (zm_F_r _ _ k) rfl _ _
        have M1 := zm_F_M f1 hM
        have lt : ∀ j, j < i + 1 → zv_I (zv_sI k 360 i (zm_tl a b i - 1)) 360 j = zu_w a b j := fun j hj => by
          by_cases c : j = i
          · subst c
            exact zy_I _ _ _ _
          · rw [zy_In _ _ (fun q => c q.2)]
            exact h j (by omega)
        by_cases c2 : zm_tl a b i ≤ 0
        · rw [if_pos c2, if_pos c2, qL9_type_69, zm_e (zm_f17 hM), zm_e (zm_wI hM zm_l360 rfl (by omega) (by omega) _), if_pos rfl, w0, w1, Int.toNat_natCast, zm_w (show -2147483648 ≤ zm_tl a b i - 1 ∧ zm_tl a b i - 1 < 2147483648 by omega)]
          generalize zv_sI k 360 i (zm_tl a b i - 1) = k1 at f1 M1 lt
          obtain ⟨k', y1, y2, y3, y4⟩ := zt_type103 D (n := i) (by omega) i 0 k1 (Nat.zero_add _) M1 (fun j hj => absurd hj (Nat.not_lt_zero j))
          refine ⟨k', ?_, zm_F_t (zm_F_s f1 rfl rfl) (zm_F_s y2 rfl rfl), Or.inr ⟨i, rfl, by omega, y3, fun j hj => (y4 j hj).trans (lt j (by omega))⟩⟩
          rw [qL9_type_13, if_pos rfl, ite_self]
          exact y1
        · rw [if_neg c2, if_neg c2, qL9_type_69, zm_e (zm_f17 hM), zm_e (zm_wI hM zm_l360 rfl (by omega) (by omega) _), if_neg (by decide), w1, Int.toNat_natCast, zm_w (show -2147483648 ≤ zm_tl a b i - 1 ∧ zm_tl a b i - 1 < 2147483648 by omega)]
          generalize zv_sI k 360 i (zm_tl a b i - 1) = k1 at f1 M1 lt
          obtain ⟨k', y1, y2, y3⟩ := zt_type13 D a b m (i + 1) k1 (by omega) M1 lt
          refine ⟨k', y1, zm_F_t (zm_F_s f1 rfl rfl) y2, ?_⟩
          rcases y3 with ⟨z1, z2⟩ | z
          · exact Or.inl ⟨z1, zm_F_t f1 z2⟩
          · exact Or.inr z
      · rw [if_neg c1, if_neg c1]
        exact ⟨k, rfl, zm_F_r _ _ k, Or.inl ⟨rfl, zm_F_r _ _ k⟩⟩
    rw [qL9_type_13, if_pos (by omega), if_neg (by decide)]
    by_cases c1 : (i : Int) < 6
    · rw [if_pos c1]
      exact l37 a (by rw [if_pos c1])
    · rw [if_neg c1]
      exact l37 b (by rw [if_neg c1])
section
variable {a b m : Nat} {g k : zv_H}
theorem zp_type {d D : Nat} (hA : zc_A g) (I : zm_MI k) (S : zt_GG m a b g k) (x y : Int) : ∃ v g' k', C8_type (d + 10) 1 x y g = some (v, g') ∧ C9_type (D + 10) 347 x y k = some (v, k') ∧ zt_GG m a b g' k' := by
  have gL := zt_L_A hA
  have hM := I.1
  have lab := zt_lab (zt_GG_ab S)
  obtain ⟨g', y1, y2⟩ := zt_type2 (d := d + 8) x y gL 12 0 rfl
  have f0 : zm_F [] [4] k (zv_sI k 347 4 0) := zm_F_f (zm_F_r _ _ k) rfl _
  obtain ⟨k', z1, z2, z3⟩ := zt_type13 (D + 9) x y 12 0 (zv_sI k 347 4 0) rfl (zm_F_M f0 hM) (fun j hj => absurd hj (Nat.not_lt_zero j))
  have eC : C8_type (d + 10) 1 x y g = some (zm_ty x y 12 0, g') := lC8_type (zl_ob gL (show zv_lay 1 = (1, 8) from rfl)) (by rw [qE8_type]; exact y1)
  have eR : C9_type (D + 10) 347 x y k = some (zm_ty x y 12 0, k') := lC9_type (zm_ob hM) (by rw [qE9_type, zm_e (zm_pI hM 4 0)]; exact z1)
  refine ⟨_, g', k', eC, eR, ?_⟩
  have tn := zu_n x y 12 0
  generalize zm_ty x y 12 0 = v at y2 z3 tn
  rcases z3 with ⟨e1, z4⟩ | ⟨n, e1, e2, e3, e4⟩
  · rcases y2 with ⟨_, w⟩ | ⟨n, w, _⟩
    · rw [w]
      exact zt_GG_F S (zm_F_t (zm_F_s f0 rfl rfl) (zm_F_s z4 rfl rfl) : zm_F [360] [4] k k')
    · omega
  · rcases y2 with ⟨w, _⟩ | ⟨n', w1, w2, w3, w4, w5⟩
    · omega
    · have en : n' = n := by omega
      subst en
      have F : zm_F [360, 361] [4, 20] k k' := zm_F_t (zm_F_s f0 rfl rfl) (zm_F_s z2 rfl rfl)
      have eR : ∀ r i, zv_R g' r i = zv_R g r i := fun r i => by unfold zv_R; rw [w3.2.1]
      have eJ : ∀ r i, zv_J g' r i = zv_J g r i := fun r i => by unfold zv_J; rw [w3.2.1]
      have eI : ∀ r i, r ≠ 3 → r ≠ 4 → zv_I g' r i = zv_I g r i := fun r i q1 q2 => w3.2.2 r i (fun q => q1 q.1) q2
      have lw : zt_lw n' (zu_w x y) := fun j hj => by
        rcases tn with q | ⟨n2, q1, q2, q3, q4⟩
        · omega
        · have := q4 j (Nat.zero_le _) (by omega)
          unfold zu_w
          omega
      refine ⟨(eR 1 3).trans (zt_GG_r S), (eR 1 4).trans (zt_GG_s S), zt_GG_ab S, ?_, fun i hi => ?_, fun i hi => ?_, ?_, ?_, ?_, ⟨n', e3, e2, ⟨zt_lay3, zt_lay4, by omega, w4, fun j hj => (w5 j hj).trans (e4 j hj).symm⟩, fun j hj => by rw [e4 j hj]; exact lw j hj⟩⟩
      · rw [zm_F_a F 348]
        exact zt_H_9 (zt_GG_H S) (fun r i hr => eI r i (by omega) (by omega)) (fun r i _ => eJ r i) (fun r i _ => eR r i)
      · have := zc_sttb (a := b) hi
        have := zc_lh lab.2.1
        exact (eI _ _ (by omega) (by omega)).trans (zt_GG_N S i hi)
      · rw [zm_F_g F 27] at hi
        rw [eI 6 i (by decide) (by decide), zm_F_a F 366]
        exact zt_GG_tp S i hi
      · rw [zm_F_a F 348]
        exact zt_GG_n1 S
      · rw [zm_F_a F 348]
        exact zt_GG_n2 S
      · rw [eI 1 7 (by decide) (by decide), eI 5 8 (by decide) (by decide), eI 5 9 (by decide) (by decide), zm_F_g F 28, zm_F_g F 29]
        exact zt_GG_fl S
/-- the fault of the latest load -/
theorem zp_fault {d D : Nat} (hA : zc_A g) (I : zm_MI k) (S : zt_GG m a b g k) (x : Int) : ∃ v k', C8_fault (d + 2) 1 x g = some (v, g) ∧ C9_fault (D + 2) 347 x k = some (v, k') ∧ zm_F [] [4] k k' := by
  have gL := zt_L_A hA
  have hM := I.1
  have l1 : zv_lay 1 = (1, 8) := rfl
  have e5 : zv_gR g 1 8 2 = some 5 := zl_gF gL l1 2 4
  have f0 : zm_F [] [4] k (zv_sI k 347 4 0) := zm_F_f (zm_F_r _ _ k) rfl _
  have M0 := zm_F_M f0 hM
  have g28 : zv_I (zv_sI k 347 4 0) 347 28 = zv_I k 347 28 := zm_F_g f0 28
  have g29 : zv_I (zv_sI k 347 4 0) 347 29 = zv_I k 347 29 := zm_F_g f0 29
  have qC := qE8_fault (d + 1) 1 x g
  rw [zm_e (zl_gI gL l1 7)] at qC
  have qR := qE9_fault (D + 1) 347 x k
  rw [zm_e (zm_pI hM 4 0)] at qR
  generalize zv_sI k 347 4 0 = k0 at f0 M0 g28 g29 qR
  rcases zt_GG_fl S with ⟨h7, h28, h29⟩ | ⟨h7, h28, h29⟩
  · rw [h7, if_pos rfl] at qC
    refine ⟨-1, k0, lC8_fault (zl_ob gL l1) qC, lC9_fault (zm_ob hM) ?_, f0⟩
    by_cases c0 : x = 0
    · rw [if_pos c0, zm_e (zm_gI M0 28), g28, h28] at qR
      exact qR
    · rw [if_neg c0] at qR
      by_cases c1 : x = 1
      · rw [if_pos c1, zm_e (zm_gI M0 29), g29, h29] at qR
        exact qR
      · rw [if_neg c1] at qR
        exact qR
  · rw [h7, if_neg (by decide), zm_e (zc_within (d := d) g x 0 1)] at qC
    dsimp only at qC
    by_cases c0 : x = 0
    · rw [if_pos (show 0 ≤ x ∧ x ≤ 1 by omega), if_neg (by decide), if_pos c0, zm_e e5, zm_e (zl_gI gL zt_lay5 8)] at qC
      rw [if_pos c0, zm_e (zm_gI M0 28), g28, ← h28] at qR
      exact ⟨_, k0, lC8_fault (zl_ob gL l1) qC, lC9_fault (zm_ob hM) qR, f0⟩
    · by_cases c1 : x = 1
      · rw [if_pos (show 0 ≤ x ∧ x ≤ 1 by omega), if_neg (by decide), if_neg c0, zm_e e5, zm_e (zl_gI gL zt_lay5 9)] at qC
        rw [if_neg c0, if_pos c1, zm_e (zm_gI M0 29), g29, ← h29] at qR
        exact ⟨_, k0, lC8_fault (zl_ob gL l1) qC, lC9_fault (zm_ob hM) qR, f0⟩
      · rw [if_neg (show ¬ (0 ≤ x ∧ x ≤ 1) by omega), if_pos rfl] at qC
        rw [if_neg c0, if_neg c1] at qR
        exact ⟨_, k0, lC8_fault (zl_ob gL l1) qC, lC9_fault (zm_ob hM) qR, f0⟩
end
end
/-! B05.steps -/
section
/-! ===== each call of the law, on both (genzq.py) ===== -/
section
variable {L : Nat} {X : Nat → Int} {m : Nat} {h : zv_H}
theorem zl_J_m {m' : Nat} (J : zl_J L X m h) (hm : m ≤ m') : zl_J L X m' h := by
  obtain ⟨I, a, b, S⟩ := J
  exact ⟨I, a, b, zt_GG_m S hm⟩
theorem zl_q {h : zv_H} {o : Option (Int × zv_H)} (e : zm_R o (zc_pX h)) : zm_R o (fun q => zc_X h q.2) := zm_mono e (fun _ w => w.1)
/-- what is asked of both, and answered alike -/
theorem zl_askx (J : zl_J L X m h) {C : Option (Int × zv_H)} {C' : zv_H → Option (Int × zv_H)} (q : ∃ (v1 : Int) (h1 : zv_H) (v2 : Int) (h2 : zv_H), C = some (v1, h1) ∧ C' h1 = some (v2, h2) ∧ zl_S L X h1 ∧ zl_J L X m h2) (eC : zm_R C (fun q => zc_X h q.2)) (z : ∀ (a b : Nat) (k : zv_H), zm_MI k → zt_GG m a b h k → ∃ (v : Int) (g' k' : zv_H), C = some (v, g') ∧ C' k = some (v, k')) : ∃ (v : Int) (h1 h2 : zv_H), C = some (v, h1) ∧ C' h1 = some (v, h2) ∧ zl_S L X h1 ∧ zl_J L X m h2 := by
  obtain ⟨I, a, b, S⟩ := J
  obtain ⟨v1, h1, v2, h2, e1, e2, S1, J2⟩ := q
  obtain ⟨⟨w, g⟩, e3, x⟩ := eC
  have z3 := Prod.mk.inj (Option.some.inj (e3.symm.trans e1))
  have x' : zc_X h g := x
  rw [z3.2] at x'
  have I1 := zl_cI I x'
  obtain ⟨v, g', k', y1, y2⟩ := z a b h1 I1.2.1 (zl_J_c S (zc_PP' x'.1))
  have z1 := Prod.mk.inj (Option.some.inj (y1.symm.trans e1))
  have z2 := Prod.mk.inj (Option.some.inj (y2.symm.trans e2))
  exact ⟨v, h1, h2, by rw [e1, z1.1], by rw [e2, z2.1], S1, J2⟩
theorem zq_feed (J : zl_J L X m h) (d : Nat) (x1 x2 x3 x4 x5 : Int) : ∃ (v : Int) (h1 h2 : zv_H), C8_feed (d + 28) 1 x1 x2 x3 x4 x5 h = some (v, h1) ∧ C9_feed (d + 28) 347 x1 x2 x3 x4 x5 h1 = some (v, h2) ∧ zl_S L X h1 ∧ zl_J L X m h2 := by
  obtain ⟨I, a, b, S⟩ := J
  have i4 := I.2.1.2.2.2.1
  have ie := I.2.2.1
  obtain ⟨h1, h2, e1, e2, S1, I2⟩ := zl_feed I ⟨d + 18, rfl⟩ x1 x2 x3 x4 x5
  obtain ⟨⟨v, h3⟩, y1, _, _, P1, _⟩ := zc_C8_feed (d := d + 25) I.1 x1 x2 x3 x4 x5 (by omega) (by omega)
  have z1 := Prod.mk.inj (Option.some.inj (y1.symm.trans e1))
  have P1' : zc_P' h h3 := P1
  rw [z1.2] at P1'
  have M1 := zm_MI_P I.2.1 P1'
  have o27 : zv_I h1 347 27 = zv_I h 347 27 := congrFun (P1'.2.2 347 (by decide)).1 27
  obtain ⟨h4, y4, F4, _⟩ := zm_feed M1 (d + 18) x1 x2 x3 x4 x5
  have z4 := Prod.mk.inj (Option.some.inj (y4.symm.trans e2))
  rw [z4.2] at F4
  obtain ⟨w, g', k', w1, w2, S'⟩ := zp_feed (d := d + 18) (D := d + 18) I.1 M1 (zl_J_c S P1') (ie.trans o27.symm) x1 x2 x3 x4 x5
  have z2 := Prod.mk.inj (Option.some.inj (w1.symm.trans e1))
  have z3 := Prod.mk.inj (Option.some.inj (w2.symm.trans e2))
  rw [z2.2, z3.2] at S'
  exact ⟨_, h1, h2, e1, e2, S1, zl_J_of I2 F4 S'⟩
theorem zq_load (J : zl_J L X m h) (d : Nat) {n : Int} (rn : zv_rg n) : ∃ (v : Int) (h1 h2 : zv_H), C8_load (d + 28) 1 n h = some (v, h1) ∧ C9_load (d + 28) 347 n h1 = some (v, h2) ∧ zl_S L X h1 ∧ zl_J L X m h2 := by
  obtain ⟨I, a, b, S⟩ := J
  have i4 := I.2.1.2.2.2.1
  have ie := I.2.2.1
  obtain ⟨v1, h1, v2, h2, e1, e2, S1, I2⟩ := zl_load I ⟨d, rfl⟩ rn
  obtain ⟨⟨v, h3⟩, y1, _, P1, _⟩ := zc_C8_load (d := d) I.1 rn (by omega)
  have z1 := Prod.mk.inj (Option.some.inj (y1.symm.trans e1))
  have P1' : zc_P' h h3 := P1
  rw [z1.2] at P1'
  have M1 := zm_MI_P I.2.1 P1'
  have o27 : zv_I h1 347 27 = zv_I h 347 27 := congrFun (P1'.2.2 347 (by decide)).1 27
  obtain ⟨⟨v4, h4⟩, y4, F4, _⟩ := zm_load M1.1 M1.2.1 M1.2.2.1 M1.2.2.2.1 M1.2.2.2.2.1 d n
  have z4 := Prod.mk.inj (Option.some.inj (y4.symm.trans e2))
  have F4' : zm_F [348, 349, 351, 352, 353, 354, 355, 358, 359, 360, 362, 363, 364, 365] [3, 4, 10, 11, 12, 19, 24, 27, 28, 29, 30, 31, 32, 33, 34, 35, 36, 37, 38, 42, 43] h1 h4 := F4
  rw [z4.2] at F4'
  obtain ⟨w, g', k', a', b', w1, w2, S'⟩ := zj_load (d := d) (D := d) I.1 M1 (zl_J_c S P1') (ie.trans o27.symm) rn
  have z2 := Prod.mk.inj (Option.some.inj (w1.symm.trans e1))
  have z3 := Prod.mk.inj (Option.some.inj (w2.symm.trans e2))
  rw [z2.2, z3.2] at S'
  exact ⟨w, h1, h2, by rw [e1, z2.1], by rw [e2, z3.1], S1, zl_J_of I2 F4' S'⟩
theorem zq_type (J : zl_J L X m h) (d : Nat) (x1 x2 : Int) : ∃ (v : Int) (h1 h2 : zv_H), C8_type (d + 28) 1 x1 x2 h = some (v, h1) ∧ C9_type (d + 28) 347 x1 x2 h1 = some (v, h2) ∧ zl_S L X h1 ∧ zl_J L X m h2 := zl_act J (C' := fun h1 => C9_type (d + 28) 347 x1 x2 h1) (zm_mono (zc_C8_type J.1.1 x1 x2) (fun _ w => zc_QX w.1)) (fun h1 I1 => zm_mono (zm_type I1.2.1 _ _ _) (fun _ w => w.1)) (fun a b k I S => by
  obtain ⟨v, g', k', e1, e2, S'⟩ := zp_type (d := d + 18) (D := d + 18) J.1.1 I S x1 x2
  exact ⟨v, g', k', a, b, e1, e2, S'⟩)

theorem zq_status (J : zl_J L X m h) (d : Nat) : ∃ (v1 : Int) (h1 : zv_H) (v2 : Int) (h2 : zv_H), C8_status (d + 28) 1 h = some (v1, h1) ∧ C9_status (d + 28) 347 h1 = some (v2, h2) ∧ zl_S L X h1 ∧ zl_J L X m h2 := zl_ask J (C' := fun h1 => C9_status (d + 28) 347 h1) (zm_mono (zc_C8_status J.1.1 zc_h8 ) (fun _ w => by rw [w.1]; exact zd_Q_r J.1.1)) (fun h1 i => zn_status i _ ) (fun h1 i => zm_status i _ )
theorem zq_fault (J : zl_J L X m h) (d : Nat) {x1 : Int} (r1 : zv_rg x1) : ∃ (v1 : Int) (h1 : zv_H) (v2 : Int) (h2 : zv_H), C8_fault (d + 28) 1 x1 h = some (v1, h1) ∧ C9_fault (d + 28) 347 x1 h1 = some (v2, h2) ∧ zl_S L X h1 ∧ zl_J L X m h2 := zl_ask J (C' := fun h1 => C9_fault (d + 28) 347 x1 h1) (zm_mono (zc_C8_fault J.1.1 zc_h8 r1) (fun _ w => by rw [w.1]; exact zd_Q_r J.1.1)) (fun h1 i => zn_fault i _ _) (fun h1 i => zm_fault i _ _)
theorem zq_many (J : zl_J L X m h) (d : Nat) {x1 : Int} (r1 : zv_rg x1) : ∃ (v1 : Int) (h1 : zv_H) (v2 : Int) (h2 : zv_H), C8_many (d + 28) 1 x1 h = some (v1, h1) ∧ C9_many (d + 28) 347 x1 h1 = some (v2, h2) ∧ zl_S L X h1 ∧ zl_J L X m h2 := zl_ask J (C' := fun h1 => C9_many (d + 28) 347 x1 h1) (zm_mono (zd_C8_many J.1.1 zc_h8 r1) (fun _ w => w.1)) (fun h1 i => zn_many i _ _) (fun h1 i => zm_many i _ _)
theorem zq_letter (J : zl_J L X m h) (d : Nat) {x1 : Int} (r1 : zv_rg x1) {x2 : Int} (r2 : zv_rg x2) : ∃ (v1 : Int) (h1 : zv_H) (v2 : Int) (h2 : zv_H), C8_letter (d + 28) 1 x1 x2 h = some (v1, h1) ∧ C9_letter (d + 28) 347 x1 x2 h1 = some (v2, h2) ∧ zl_S L X h1 ∧ zl_J L X m h2 := zl_ask J (C' := fun h1 => C9_letter (d + 28) 347 x1 x2 h1) (zm_mono (zd_C8_letter J.1.1 zc_h8 r1 r2) (fun _ w => w.1)) (fun h1 i => zn_letter i _ _ _) (fun h1 i => zm_letter i _ _ _)
theorem zq_state (J : zl_J L X m h) (d : Nat) {x1 : Int} (r1 : zv_rg x1) {x2 : Int} (r2 : zv_rg x2) : ∃ (v1 : Int) (h1 : zv_H) (v2 : Int) (h2 : zv_H), C8_state (d + 28) 1 x1 x2 h = some (v1, h1) ∧ C9_state (d + 28) 347 x1 x2 h1 = some (v2, h2) ∧ zl_S L X h1 ∧ zl_J L X m h2 := zl_ask J (C' := fun h1 => C9_state (d + 28) 347 x1 x2 h1) (zm_mono (zd_C8_state J.1.1 zc_h8 r1 r2) (fun _ w => w.1)) (fun h1 i => zn_state i _ _ _) (fun h1 i => zm_state i _ _ _)
theorem zq_child (J : zl_J L X m h) (d : Nat) {x1 : Int} (r1 : zv_rg x1) {x2 : Int} (r2 : zv_rg x2) : ∃ (v1 : Int) (h1 : zv_H) (v2 : Int) (h2 : zv_H), C8_child (d + 28) 1 x1 x2 h = some (v1, h1) ∧ C9_child (d + 28) 347 x1 x2 h1 = some (v2, h2) ∧ zl_S L X h1 ∧ zl_J L X m h2 := zl_ask J (C' := fun h1 => C9_child (d + 28) 347 x1 x2 h1) (zm_mono (zd_C8_child J.1.1 zc_h8 r1 r2) (fun _ w => w.1)) (fun h1 i => zn_child i _ _ _) (fun h1 i => zm_child i _ _ _)
theorem zq_force (J : zl_J L X m h) (d : Nat) {x1 : Int} (r1 : zv_rg x1) {x2 : Int} (r2 : zv_rg x2) : ∃ (v1 : Int) (h1 : zv_H) (v2 : Int) (h2 : zv_H), C8_force (d + 28) 1 x1 x2 h = some (v1, h1) ∧ C9_force (d + 28) 347 x1 x2 h1 = some (v2, h2) ∧ zl_S L X h1 ∧ zl_J L X m h2 := zl_ask J (C' := fun h1 => C9_force (d + 28) 347 x1 x2 h1) (zm_mono (zd_C8_force J.1.1 zc_h8 r1 r2) (fun _ w => w.1)) (fun h1 i => zn_force i _ _ _) (fun h1 i => zm_force i _ _ _)
theorem zq_blame (J : zl_J L X m h) (d : Nat) {x1 : Int} (r1 : zv_rg x1) {x2 : Int} (r2 : zv_rg x2) : ∃ (v1 : Int) (h1 : zv_H) (v2 : Int) (h2 : zv_H), C8_blame (d + 28) 1 x1 x2 h = some (v1, h1) ∧ C9_blame (d + 28) 347 x1 x2 h1 = some (v2, h2) ∧ zl_S L X h1 ∧ zl_J L X m h2 := zl_ask J (C' := fun h1 => C9_blame (d + 28) 347 x1 x2 h1) (zm_mono (zd_C8_blame J.1.1 zc_h8 r1 r2) (fun _ w => w.1)) (fun h1 i => zn_blame i _ _ _) (fun h1 i => zm_blame i _ _ _)
theorem zq_row (J : zl_J L X m h) (d : Nat) {x1 : Int} (r1 : zv_rg x1) {x2 : Int} (r2 : zv_rg x2) : ∃ (v1 : Int) (h1 : zv_H) (v2 : Int) (h2 : zv_H), C8_row (d + 28) 1 x1 x2 h = some (v1, h1) ∧ C9_row (d + 28) 347 x1 x2 h1 = some (v2, h2) ∧ zl_S L X h1 ∧ zl_J L X m h2 := zl_ask J (C' := fun h1 => C9_row (d + 28) 347 x1 x2 h1) (zm_mono (zd_C8_row J.1.1 zc_h8 r1 r2) (fun _ w => w.1)) (fun h1 i => zn_row_ i _ _ _) (fun h1 i => zm_row_ i _ _ _)
theorem zq_visit (J : zl_J L X m h) (d : Nat) {x1 : Int} (r1 : zv_rg x1) {x2 : Int} (r2 : zv_rg x2) : ∃ (v1 : Int) (h1 : zv_H) (v2 : Int) (h2 : zv_H), C8_visit (d + 28) 1 x1 x2 h = some (v1, h1) ∧ C9_visit (d + 28) 347 x1 x2 h1 = some (v2, h2) ∧ zl_S L X h1 ∧ zl_J L X m h2 := zl_ask J (C' := fun h1 => C9_visit (d + 28) 347 x1 x2 h1) (zm_mono (zd_C8_visit J.1.1 zc_h8 r1 r2) (fun _ w => w.1)) (fun h1 i => zn_visit i _ _ _) (fun h1 i => zm_visit i _ _ _)
theorem zq_named (J : zl_J L X m h) (d : Nat) : ∃ (v1 : Int) (h1 : zv_H) (v2 : Int) (h2 : zv_H), C8_named (d + 28) 1 h = some (v1, h1) ∧ C9_named (d + 28) 347 h1 = some (v2, h2) ∧ zl_S L X h1 ∧ zl_J L X m h2 := zl_ask J (C' := fun h1 => C9_named (d + 28) 347 h1) (zm_mono (zd_C8_named J.1.1 zc_h8 ) (fun _ w => w.1)) (fun h1 i => zn_named i _ ) (fun h1 i => zm_named i _ )
theorem zq_leans (J : zl_J L X m h) (d : Nat) {x1 : Int} (r1 : zv_rg x1) {x2 : Int} (r2 : zv_rg x2) : ∃ (v1 : Int) (h1 : zv_H) (v2 : Int) (h2 : zv_H), C8_leans (d + 28) 1 x1 x2 h = some (v1, h1) ∧ C9_leans (d + 28) 347 x1 x2 h1 = some (v2, h2) ∧ zl_S L X h1 ∧ zl_J L X m h2 := zl_ask J (C' := fun h1 => C9_leans (d + 28) 347 x1 x2 h1) (zm_mono (zd_C8_leans J.1.1 zc_h8 r1 r2) (fun _ w => w.1)) (fun h1 i => zn_leans i _ _ _) (fun h1 i => zm_leans i _ _ _)
theorem zq_put (J : zl_J L X m h) (hm : m ≤ 600) (d : Nat) {x1 : Int} (r1 : zv_rg x1) : ∃ (v : Int) (h1 h2 : zv_H), C8_put (d + 28) 1 x1 h = some (v, h1) ∧ C9_put (d + 28) 347 x1 h1 = some (v, h2) ∧ zl_S L X h1 ∧ zl_J L X (m + 1) h2 := by
  exact zl_act J (C' := fun h1 => C9_put (d + 28) 347 x1 h1) (zl_q (zc_C8_put J.1.1 r1)) (fun h1 I1 => (zm_put I1.2.1 _ _)) (fun a b k I S => by
    obtain ⟨v, g', k', e1, e2, S'⟩ := zp_put (d := d) (D := d) J.1.1 I S (show m ≤ 100000 by omega) r1
    exact ⟨v, g', k', a, b, e1, e2, S'⟩)
theorem zq_cut (J : zl_J L X m h) (hm : m ≤ 600) (d : Nat) {x1 : Int} (r1 : zv_rg x1) {x2 : Int} (r2 : zv_rg x2) : ∃ (v : Int) (h1 h2 : zv_H), C8_cut (d + 28) 1 x1 x2 h = some (v, h1) ∧ C9_cut (d + 28) 347 x1 x2 h1 = some (v, h2) ∧ zl_S L X h1 ∧ zl_J L X (m + 1) h2 := by
  exact zl_act J (C' := fun h1 => C9_cut (d + 28) 347 x1 x2 h1) (zl_q (zc_C8_cut J.1.1 r1 r2)) (fun h1 I1 => (zm_cut I1.2.1 _ _ _ r1.2)) (fun a b k I S => by
    obtain ⟨v, g', k', e1, e2, S'⟩ := zp_cut (d := d) (D := d) J.1.1 I S (show m ≤ 100000 by omega) r1 r2
    exact ⟨v, g', k', a, b, e1, e2, S'⟩)
theorem zq_wait (J : zl_J L X m h) (hm : m ≤ 600) (d : Nat) {x1 : Int} (r1 : zv_rg x1) : ∃ (v : Int) (h1 h2 : zv_H), C8_wait (d + 28) 1 x1 h = some (v, h1) ∧ C9_wait (d + 28) 347 x1 h1 = some (v, h2) ∧ zl_S L X h1 ∧ zl_J L X (m + 1) h2 := by
  exact zl_act J (C' := fun h1 => C9_wait (d + 28) 347 x1 h1) (zl_q (zc_Qp (K := fun _ => True) (zc_C8_wait J.1.1 zc_h8 r1))) (fun h1 I1 => (zm_wait I1.2.1 _ _)) (fun a b k I S => by
    obtain ⟨v, g', k', e1, e2, S'⟩ := zp_wait (d := d) (D := d) J.1.1 I S (show m ≤ 100000 by omega)
    exact ⟨v, g', k', a, b, e1, e2, S'⟩)
theorem zq_undo (J : zl_J L X m h) (hm : m ≤ 600) (d : Nat) : ∃ (v : Int) (h1 h2 : zv_H), C8_undo (d + 28) 1 h = some (v, h1) ∧ C9_undo (d + 28) 347 h1 = some (v, h2) ∧ zl_S L X h1 ∧ zl_J L X (m + 1) h2 := by
  exact zl_act J (C' := fun h1 => C9_undo (d + 28) 347 h1) (zl_q (zc_C8_undo J.1.1 )) (fun h1 I1 => (zm_undo I1.2.1 _ )) (fun a b k I S => by
    obtain ⟨v, g', k', e1, e2, S'⟩ := zp_undo (d := d) (D := d) J.1.1 I S (show m ≤ 100000 by omega)
    exact ⟨v, g', k', a, b, e1, e2, S'⟩)
theorem zq_redo (J : zl_J L X m h) (hm : m ≤ 600) (d : Nat) : ∃ (v : Int) (h1 h2 : zv_H), C8_redo (d + 28) 1 h = some (v, h1) ∧ C9_redo (d + 28) 347 h1 = some (v, h2) ∧ zl_S L X h1 ∧ zl_J L X (m + 1) h2 := by
  exact zl_act J (C' := fun h1 => C9_redo (d + 28) 347 h1) (zl_q (zc_C8_redo J.1.1 )) (fun h1 I1 => (zm_redo I1.2.1 _ )) (fun a b k I S => by
    obtain ⟨v, g', k', e1, e2, S'⟩ := zp_redo (d := d) (D := d) J.1.1 I S (show m ≤ 100000 by omega)
    exact ⟨v, g', k', a, b, e1, e2, S'⟩)
theorem zq_go (J : zl_J L X m h) (hm : m ≤ 600) (d : Nat) {x1 : Int} (r1 : zv_rg x1) : ∃ (v : Int) (h1 h2 : zv_H), C8_go (d + 28) 1 x1 h = some (v, h1) ∧ C9_go (d + 28) 347 x1 h1 = some (v, h2) ∧ zl_S L X h1 ∧ zl_J L X (m + 1) h2 := by
  exact zl_act J (C' := fun h1 => C9_go (d + 28) 347 x1 h1) (zl_q (zc_C8_go J.1.1 r1)) (fun h1 I1 => (zm_go I1.2.1 _ _)) (fun a b k I S => by
    obtain ⟨v, g', k', e1, e2, S'⟩ := zp_go (d := d) (D := d) J.1.1 I S (show m ≤ 100000 by omega)
    exact ⟨v, g', k', a, b, e1, e2, S'⟩)
theorem zq_name (J : zl_J L X m h) (hm : m ≤ 600) (d : Nat) : ∃ (v : Int) (h1 h2 : zv_H), C8_name (d + 28) 1 h = some (v, h1) ∧ C9_name (d + 28) 347 h1 = some (v, h2) ∧ zl_S L X h1 ∧ zl_J L X (m + 1) h2 := by
  exact zl_act J (C' := fun h1 => C9_name (d + 28) 347 h1) (zl_q (zc_Qp (K := fun _ => True) (zc_C8_name J.1.1 zc_h8 ))) (fun h1 I1 => (zm_name I1.2.1 _ )) (fun a b k I S => by
    obtain ⟨v, g', k', e1, e2, S'⟩ := zp_name (d := d) (D := d) J.1.1 I S (show m ≤ 100000 by omega)
    exact ⟨v, g', k', a, b, e1, e2, S'⟩)
theorem zq_unname (J : zl_J L X m h) (hm : m ≤ 600) (d : Nat) : ∃ (v : Int) (h1 h2 : zv_H), C8_unname (d + 28) 1 h = some (v, h1) ∧ C9_unname (d + 28) 347 h1 = some (v, h2) ∧ zl_S L X h1 ∧ zl_J L X (m + 1) h2 := by
  have _ := hm
  exact zl_act J (C' := fun h1 => C9_unname (d + 28) 347 h1) (zl_q (zc_Qp (K := fun _ => True) (zc_C8_unname J.1.1 zc_h8 ))) (fun h1 I1 => (zm_unname I1.2.1 _ )) (fun a b k I S => by
    obtain ⟨v, g', k', e1, e2, S'⟩ := zp_unname (d := d) (D := d) J.1.1 I S
    exact ⟨v, g', k', a, b, e1, e2, S'⟩)
theorem zq_withdraw (J : zl_J L X m h) (hm : m ≤ 600) (d : Nat) {x1 : Int} (r1 : zv_rg x1) : ∃ (v : Int) (h1 h2 : zv_H), C8_withdraw (d + 28) 1 x1 h = some (v, h1) ∧ C9_withdraw (d + 28) 347 x1 h1 = some (v, h2) ∧ zl_S L X h1 ∧ zl_J L X (m + 1) h2 := by
  exact zl_act J (C' := fun h1 => C9_withdraw (d + 28) 347 x1 h1) (zl_q (zc_C8_withdraw J.1.1 r1)) (fun h1 I1 => (zm_withdraw I1.2.1 _ _)) (fun a b k I S => by
    obtain ⟨v, g', k', e1, e2, S'⟩ := zp_withdraw (d := d) (D := d) J.1.1 I S (show m ≤ 100000 by omega) r1
    exact ⟨v, g', k', a, b, e1, e2, S'⟩)
theorem zq_restore (J : zl_J L X m h) (hm : m ≤ 600) (d : Nat) {x1 : Int} (r1 : zv_rg x1) : ∃ (v : Int) (h1 h2 : zv_H), C8_restore (d + 28) 1 x1 h = some (v, h1) ∧ C9_restore (d + 28) 347 x1 h1 = some (v, h2) ∧ zl_S L X h1 ∧ zl_J L X (m + 1) h2 := by
  exact zl_act J (C' := fun h1 => C9_restore (d + 28) 347 x1 h1) (zl_q (zc_C8_restore J.1.1 r1)) (fun h1 I1 => (zm_restore I1.2.1 _ _)) (fun a b k I S => by
    obtain ⟨v, g', k', e1, e2, S'⟩ := zp_restore (d := d) (D := d) J.1.1 I S (show m ≤ 100000 by omega) r1
    exact ⟨v, g', k', a, b, e1, e2, S'⟩)
theorem zq_carry (J : zl_J L X m h) (hm : m ≤ 600) (d : Nat) {x1 : Int} (r1 : zv_rg x1) : ∃ (v : Int) (h1 h2 : zv_H), C8_carry (d + 28) 1 x1 h = some (v, h1) ∧ C9_carry (d + 28) 347 x1 h1 = some (v, h2) ∧ zl_S L X h1 ∧ zl_J L X (m + 1) h2 := by
  exact zl_act J (C' := fun h1 => C9_carry (d + 28) 347 x1 h1) (zl_q (zc_C8_carry J.1.1 r1)) (fun h1 I1 => (zm_carry I1.2.1 _ _)) (fun a b k I S => by
    obtain ⟨v, g', k', e1, e2, S'⟩ := zp_carry (d := d) (D := d) J.1.1 I S (show m ≤ 100000 by omega) r1
    exact ⟨v, g', k', a, b, e1, e2, S'⟩)
theorem zq_merge (J : zl_J L X m h) (hm : m ≤ 600) (d : Nat) {x1 : Int} (r1 : zv_rg x1) : ∃ (v : Int) (h1 h2 : zv_H), C8_merge (d + 28) 1 x1 h = some (v, h1) ∧ C9_merge (d + 28) 347 x1 h1 = some (v, h2) ∧ zl_S L X h1 ∧ zl_J L X (m + 1) h2 := by
  exact zl_act J (C' := fun h1 => C9_merge (d + 28) 347 x1 h1) (zl_q (zc_C8_merge J.1.1 r1)) (fun h1 I1 => (zm_merge I1.2.1 _ _)) (fun a b k I S => by
    obtain ⟨v, g', k', e1, e2, S'⟩ := zp_merge (d := d) (D := d) J.1.1 I S (show m ≤ 100000 by omega) r1
    exact ⟨v, g', k', a, b, e1, e2, S'⟩)
theorem zq_prune (J : zl_J L X m h) (hm : m ≤ 600) (d : Nat) {x1 : Int} (r1 : zv_rg x1) : ∃ (v : Int) (h1 h2 : zv_H), C8_prune (d + 28) 1 x1 h = some (v, h1) ∧ C9_prune (d + 28) 347 x1 h1 = some (v, h2) ∧ zl_S L X h1 ∧ zl_J L X (m + 1) h2 := by
  exact zl_act J (C' := fun h1 => C9_prune (d + 28) 347 x1 h1) (zl_q (zc_C8_prune J.1.1 r1)) (fun h1 I1 => (zm_prune I1.2.1 _ _)) (fun a b k I S => by
    obtain ⟨v, g', k', e1, e2, S'⟩ := zp_prune (d := d) (D := d) J.1.1 I S (show m ≤ 100000 by omega) r1
    exact ⟨v, g', k', a, b, e1, e2, S'⟩)
theorem zq_common (J : zl_J L X m h) (d : Nat) {x1 : Int} (r1 : zv_rg x1) {x2 : Int} (r2 : zv_rg x2) : ∃ (v1 : Int) (h1 : zv_H) (v2 : Int) (h2 : zv_H), C8_common (d + 28) 1 x1 x2 h = some (v1, h1) ∧ C9_common (d + 28) 347 x1 x2 h1 = some (v2, h2) ∧ zl_S L X h1 ∧ zl_J L X m h2 := zl_ask J (C' := fun h1 => C9_common (d + 28) 347 x1 x2 h1) (zm_mono (zd_C8_common J.1.1 zc_h8 r1 r2) (fun _ w => w.1)) (fun h1 i => zn_common i _ _ _) (fun h1 i => zm_common i _ _ _)
theorem zq_way (J : zl_J L X m h) (d : Nat) {x1 : Int} (r1 : zv_rg x1) {x2 : Int} (r2 : zv_rg x2) {x3 : Int} (r3 : zv_rg x3) : ∃ (v1 : Int) (h1 : zv_H) (v2 : Int) (h2 : zv_H), C8_way (d + 28) 1 x1 x2 x3 h = some (v1, h1) ∧ C9_way (d + 28) 347 x1 x2 x3 h1 = some (v2, h2) ∧ zl_S L X h1 ∧ zl_J L X m h2 := zl_ask J (C' := fun h1 => C9_way (d + 28) 347 x1 x2 x3 h1) (zm_mono (zd_C8_way J.1.1 zc_h8 r1 r2 r3) (fun _ w => w.1)) (fun h1 i => zn_way i _ _ _ _) (fun h1 i => zm_way i _ _ _ _)
theorem zq_between (J : zl_J L X m h) (d : Nat) {x1 : Int} (r1 : zv_rg x1) {x2 : Int} (r2 : zv_rg x2) {x3 : Int} (r3 : zv_rg x3) : ∃ (v1 : Int) (h1 : zv_H) (v2 : Int) (h2 : zv_H), C8_between (d + 28) 1 x1 x2 x3 h = some (v1, h1) ∧ C9_between (d + 28) 347 x1 x2 x3 h1 = some (v2, h2) ∧ zl_S L X h1 ∧ zl_J L X m h2 := zl_ask J (C' := fun h1 => C9_between (d + 28) 347 x1 x2 x3 h1) (zm_mono (zd_C8_between J.1.1 zc_h8 r1 r2 r3) (fun _ w => w.1)) (fun h1 i => zn_between i _ _ _ _) (fun h1 i => zm_between i _ _ _ _)
theorem zq_least (J : zl_J L X m h) (d : Nat) {x1 : Int} (r1 : zv_rg x1) {x2 : Int} (r2 : zv_rg x2) : ∃ (v1 : Int) (h1 : zv_H) (v2 : Int) (h2 : zv_H), C8_least (d + 28) 1 x1 x2 h = some (v1, h1) ∧ C9_least (d + 28) 347 x1 x2 h1 = some (v2, h2) ∧ zl_S L X h1 ∧ zl_J L X m h2 := zl_ask J (C' := fun h1 => C9_least (d + 28) 347 x1 x2 h1) (zm_mono (zd_C8_least J.1.1 zc_h8 r1 r2) (fun _ w => w.1)) (fun h1 i => zn_least i _ _ _) (fun h1 i => zm_least i _ _ _)
theorem zq_merges (J : zl_J L X m h) (hm : m ≤ 600) (d : Nat) {x1 : Int} (r1 : zv_rg x1) {x2 : Int} (r2 : zv_rg x2) : ∃ (v : Int) (h1 h2 : zv_H), C8_merges (d + 28) 1 x1 x2 h = some (v, h1) ∧ C9_merges (d + 28) 347 x1 x2 h1 = some (v, h2) ∧ zl_S L X h1 ∧ zl_J L X (m + 1) h2 := by
  exact zl_act J (C' := fun h1 => C9_merges (d + 28) 347 x1 x2 h1) (zl_q (zc_C8_merges J.1.1 r1 r2)) (fun h1 I1 => (zm_merges I1.2.1 _ _ _)) (fun a b k I S => by
    obtain ⟨v, g', k', e1, e2, S'⟩ := zp_merges (d := d) (D := d) J.1.1 I S (show m ≤ 100000 by omega) r1
    exact ⟨v, g', k', a, b, e1, e2, S'⟩)
theorem zq_tell (J : zl_J L X m h) (d : Nat) {x1 : Int} (r1 : zv_rg x1) : ∃ (v1 : Int) (h1 : zv_H) (v2 : Int) (h2 : zv_H), C8_tell (d + 28) 1 x1 h = some (v1, h1) ∧ C9_tell (d + 28) 347 x1 h1 = some (v2, h2) ∧ zl_S L X h1 ∧ zl_J L X m h2 := zl_ask J (C' := fun h1 => C9_tell (d + 28) 347 x1 h1) (zm_mono (zd_C8_tell J.1.1 r1) (fun _ w => w.1)) (fun h1 i => zn_tell i _ _) (fun h1 i => zm_tell i _ _)
theorem zq_out (J : zl_J L X m h) (d : Nat) {x1 : Int} (r1 : zv_rg x1) : ∃ (v1 : Int) (h1 : zv_H) (v2 : Int) (h2 : zv_H), C8_out (d + 28) 1 x1 h = some (v1, h1) ∧ C9_out (d + 28) 347 x1 h1 = some (v2, h2) ∧ zl_S L X h1 ∧ zl_J L X m h2 := zl_ask J (C' := fun h1 => C9_out (d + 28) 347 x1 h1) (zm_mono (zd_C8_out J.1.1 zc_h8 r1) (fun _ w => w.1)) (fun h1 i => zn_out i _ _) (fun h1 i => zm_out i _ _)
theorem zq_leaning (J : zl_J L X m h) (d : Nat) {x1 : Int} (r1 : zv_rg x1) {x2 : Int} (r2 : zv_rg x2) : ∃ (v1 : Int) (h1 : zv_H) (v2 : Int) (h2 : zv_H), C8_leaning (d + 28) 1 x1 x2 h = some (v1, h1) ∧ C9_leaning (d + 28) 347 x1 x2 h1 = some (v2, h2) ∧ zl_S L X h1 ∧ zl_J L X m h2 := zl_ask J (C' := fun h1 => C9_leaning (d + 28) 347 x1 x2 h1) (zm_mono (zd_C8_leaning J.1.1 zc_h8 r1 r2) (fun _ w => w.1)) (fun h1 i => zn_leaning i _ _ _) (fun h1 i => zm_leaning i _ _ _)
theorem zq_find (J : zl_J L X m h) (d : Nat) {x1 : Int} (r1 : zv_rg x1) : ∃ (v1 : Int) (h1 : zv_H) (v2 : Int) (h2 : zv_H), C8_find (d + 28) 1 x1 h = some (v1, h1) ∧ C9_find (d + 28) 347 x1 h1 = some (v2, h2) ∧ zl_S L X h1 ∧ zl_J L X m h2 := zl_ask J (C' := fun h1 => C9_find (d + 28) 347 x1 h1) (zm_mono (zd_C8_find J.1.1 zc_h8 r1) (fun _ w => w.1)) (fun h1 i => zn_find i _ _) (fun h1 i => zm_find i _ _)
theorem zq_first (J : zl_J L X m h) (d : Nat) : ∃ (v1 : Int) (h1 : zv_H) (v2 : Int) (h2 : zv_H), C8_first (d + 28) 1 h = some (v1, h1) ∧ C9_first (d + 28) 347 h1 = some (v2, h2) ∧ zl_S L X h1 ∧ zl_J L X m h2 := zl_ask J (C' := fun h1 => C9_first (d + 28) 347 h1) (zm_mono (zd_C8_first J.1.1 zc_h8 ) (fun _ w => w.1)) (fun h1 i => zn_first i _ ) (fun h1 i => zm_first i _ )
theorem zq_twin (J : zl_J L X m h) (d : Nat) {x1 : Int} (r1 : zv_rg x1) : ∃ (v1 : Int) (h1 : zv_H) (v2 : Int) (h2 : zv_H), C8_twin (d + 28) 1 x1 h = some (v1, h1) ∧ C9_twin (d + 28) 347 x1 h1 = some (v2, h2) ∧ zl_S L X h1 ∧ zl_J L X m h2 := zl_ask J (C' := fun h1 => C9_twin (d + 28) 347 x1 h1) (zm_mono (zd_C8_twin J.1.1 zc_h8 r1) (fun _ w => w.1)) (fun h1 i => zn_twin i _ _) (fun h1 i => zm_twin i _ _)
theorem zq_back (J : zl_J L X m h) (d : Nat) {x1 : Int} (r1 : zv_rg x1) : ∃ (v1 : Int) (h1 : zv_H) (v2 : Int) (h2 : zv_H), C8_back (d + 28) 1 x1 h = some (v1, h1) ∧ C9_back (d + 28) 347 x1 h1 = some (v2, h2) ∧ zl_S L X h1 ∧ zl_J L X m h2 := zl_ask J (C' := fun h1 => C9_back (d + 28) 347 x1 h1) (zm_mono (zd_C8_back J.1.1 zc_h8 r1) (fun _ w => w.1)) (fun h1 i => zn_back i _ _) (fun h1 i => zm_back i _ _)
theorem zx_fault (J : zl_J L X m h) (d : Nat) {x1 : Int} (r1 : zv_rg x1) : ∃ (v : Int) (h1 h2 : zv_H), C8_fault (d + 28) 1 x1 h = some (v, h1) ∧ C9_fault (d + 28) 347 x1 h1 = some (v, h2) ∧ zl_S L X h1 ∧ zl_J L X m h2 := zl_askx J (C' := fun h1 => C9_fault (d + 28) 347 x1 h1) (zq_fault J d r1) (zl_q (zl_p J.1.1 (zc_C8_fault J.1.1 zc_h8 r1))) (fun a b k I S => by
  obtain ⟨v, k', e1, e2, _⟩ := zp_fault (d := d + 26) (D := d + 26) J.1.1 I S x1
  exact ⟨v, h, k', e1, e2⟩)
end
end
/-! B06.init -/
section
/-! ===== the tie: the object and the reference, as they are made ===== -/
theorem zt_sc_o {b m : Nat} {wd : Nat → Int} {h h' : zv_H} (S : zt_sc b m wd h) (o : ∀ r, b ≤ r → r < b + 169 → zk_o h h' r) : zt_sc b m wd h' := by
  have hb := zt_sc_la S
  have eI : ∀ x i, x < 169 → zv_I h' (b + x) i = zv_I h (b + x) i := fun x i hx => congrFun (o (b + x) (by omega) (by omega)).1 i
  have eJ : ∀ x i, x < 169 → zv_J h' (b + x) i = zv_J h (b + x) i := fun x i hx => congrFun (o (b + x) (by omega) (by omega)).2.1 i
  have eR : ∀ x i, x < 169 → zv_R h' (b + x) i = zv_R h (b + x) i := fun x i hx => congrFun (o (b + x) (by omega) (by omega)).2.2 i
  have eS : ∀ j i, j < 48 → zv_I h' (zc_stt b j) i = zv_I h (zc_stt b j) i := fun j i hj => by
    have := zc_sttb (a := b) hj
    exact congrFun (o (zc_stt b j) (by omega) (by omega)).1 i
  have l1 : (1 : Nat) < 169 := by decide
  exact ⟨hb, fun i hi => (eS i 0 hi).trans (zt_sc_nr S i hi), fun i hi => (eS i 3 hi).trans (zt_sc_lv S i hi), (eR 1 _ l1).trans (zt_sc_pa S), (eR 1 _ l1).trans (zt_sc_fi S), (eI 1 _ l1).trans (zt_sc_i6 S), (eI 1 _ l1).trans (zt_sc_i7 S), (eI 1 _ l1).trans (zt_sc_i8 S), (eI 1 _ l1).trans (zt_sc_i9 S), (eI 1 _ l1).trans (zt_sc_ia S), (eI 1 _ l1).trans (zt_sc_ib S), (eI 1 _ l1).trans (zt_sc_ic S), (eI 1 _ l1).trans (zt_sc_id S), (eI 1 _ l1).trans (zt_sc_ie S), (eJ 1 _ l1).trans (zt_sc_jg S), (eJ 1 _ l1).trans (zt_sc_jh S), fun i hi => (eI 5 i (by decide)).trans (zt_sc_gl S i hi), fun i hi => (eI 3 i (by decide)).trans (zt_sc_dc S i hi), (eR 0 _ (by decide)).trans (zt_sc_he S), (eI 0 _ (by decide)).trans (zt_sc_nw S), (eI 0 _ (by decide)).trans (zt_sc_ct S), (eI 14 _ (by decide)).trans (zt_sc_ns S), (eI 17 _ (by decide)).trans (zt_sc_vs S)⟩
/-- a History that was made all anew -/
theorem zt_from {a : Nat} {h : zv_H} (ha : zv_lay a = (1, 0)) (f : zk_from a h) : zt_sc a 0 (fun _ => 0) h ∧ zt_T0 a zt_usual h := by
  obtain ⟨d, z, hb, B, n0, e, o⟩ := f
  obtain ⟨hb', e', x⟩ := zt_begin (d := d) ha B
  have eb : hb' = hb := Option.some.inj (e'.symm.trans e)
  subst eb
  refine ⟨zt_sc_o (zt_sc_bx ha x n0) o, ?_⟩
  have T := zt_bx_T x
  have eI : ∀ y i, y < 169 → zv_I h (a + y) i = zv_I hb' (a + y) i := fun y i hy => congrFun (o (a + y) (by omega) (by omega)).1 i
  refine ⟨(eI 22 3 (by decide)).trans (zt_T0_sz T), fun k v hk => ?_, zt_T0_rg T⟩
  rw [eI 23 k (by decide), eI 24 k (by decide)]
  exact zt_T0_st T k v hk
/-- both as they are made -/
theorem zk_GG {g2 g4 z : zv_H} {d : Nat} (b8 : zk_ob8 g2) (o : ∀ r, r < 347 → zk_o g2 g4 r) (M4 : zm_MI g4) (t4 : zv_I g4 347 27 = 0) (hz : zm_M z) (e : C9_clears (d + 2) 347 z = some g4) (hk : ∀ k, zv_I z 347 k = if k = 29 then -1 else if k = 28 then -1 else 0) : zt_GG 0 9 178 g4 g4 := by
  obtain ⟨i0, q1, q2, q3, f9, f178, q4, q5, fr9, fr178⟩ := b8
  have l9 : zv_lay 9 = (1, 0) := rfl
  have l178 : zv_lay 178 = (1, 0) := rfl
  obtain ⟨S, T⟩ := zt_from l9 (zk_from_o fr9 (fun r h1 h2 => o r (by omega)))
  obtain ⟨g5, e5, F5, A, c4⟩ := zt_clears hz d
  have eg : g5 = g4 := Option.some.inj (e5.symm.trans e)
  subst eg
  have W : zm_W (zv_I g5 348) := M4.2.1
  obtain ⟨U, V, N⟩ := zt_alone A (by decide) S W (fun i hi => absurd hi (Nat.not_lt_zero i))
  have J : zt_J 9 (zv_I g5 348) g5 := ⟨zt_usual, ⟨zt_T0_sz T, by decide, zt_T0_st T, zt_T0_rg T, zt_us_ph⟩, Or.inl ⟨c4, rfl⟩⟩
  have eR : ∀ i, zv_R g5 1 i = zv_R g2 1 i := fun i => congrFun (o 1 (by decide)).2.2 i
  have F178 := zk_fresh_o (Or.inr rfl) f178 (fun r h1 h2 => o r (by omega))
  refine ⟨(eR 3).trans q2, (eR 4).trans q3, Or.inl ⟨rfl, rfl⟩, ⟨U, J, V, N⟩, fun i hi => (F178.2 i hi).2.1, fun i hi => ?_, ?_, ?_, Or.inl ⟨(congrFun (o 1 (by decide)).1 7).trans q5, ?_, ?_⟩, ⟨0, ?_, by decide, ⟨rfl, rfl, by decide, ?_, fun j hj => absurd hj (Nat.not_lt_zero j)⟩, fun j hj => absurd hj (Nat.not_lt_zero j)⟩⟩
  · rw [t4] at hi
    omega
  · rw [zt_sa_e1 A]
    omega
  · rw [zt_sa_e2 A]
    omega
  · rw [zm_F_g F5 28, hk]
    rfl
  · rw [zm_F_g F5 29, hk]
    rfl
  · rw [zm_F_g F5 20, hk]
    rfl
  · exact (congrFun (o 3 (by decide)).1 1).trans (i0.2.1 3 7 1 40 rfl rfl)
end
