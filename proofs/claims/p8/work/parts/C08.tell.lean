/-! ===== what is asked, answered alike: telling ===== -/
/-- so many bytes told, the same on both sides -/
def zo (g k : zv_H) (n : Nat) : Prop := zv_I g 1 5 = n ∧ zv_I k 347 47 = n ∧ ∀ i : Nat, i < n → zv_I g 2 i = zv_I k 372 i
/-- but for what is told -/
def zo_f (g g' : zv_H) : Prop := g'.1 = g.1 ∧ g'.2.2 = g.2.2 ∧ ∀ r i, ¬ (r = 1 ∧ i = 5) → r ≠ 2 → zv_I g' r i = zv_I g r i
theorem zo_f_r (g : zv_H) : zo_f g g := ⟨rfl, rfl, fun _ _ _ _ => rfl⟩
theorem zo_f_t {g g1 g2 : zv_H} (f : zo_f g g1) (h : zo_f g1 g2) : zo_f g g2 := ⟨h.1.trans f.1, h.2.1.trans f.2.1, fun r i q1 q2 => (h.2.2 r i q1 q2).trans (f.2.2 r i q1 q2)⟩
theorem zo_f_L {g g' : zv_H} (f : zo_f g g') (gL : zt_L g) : zt_L g' := by
  refine ⟨?_, fun r i h1 h2 => ?_, fun x i h1 h2 => ?_⟩
  · unfold zv_n
    rw [f.1]
    exact gL.1
  · unfold zv_R
    rw [f.2.1]
    exact gL.2.1 r i h1 h2
  · unfold zv_R
    rw [f.2.1]
    exact gL.2.2 x i h1 h2
theorem zo_f_9 {g g' : zv_H} (f : zo_f g g') : ∀ r i, 9 ≤ r → zv_I g' r i = zv_I g r i := fun r i hr => f.2.2 r i (fun q => by omega) (by omega)
theorem zo_f_R {g g' : zv_H} (f : zo_f g g') (r i : Nat) : zv_R g' r i = zv_R g r i := by
  unfold zv_R
  rw [f.2.1]
theorem zo_f_J {g g' : zv_H} (f : zo_f g g') (r i : Nat) : zv_J g' r i = zv_J g r i := by
  unfold zv_J
  rw [f.2.1]
theorem zo_f_U {a : Nat} {c : Nat → Int} {g g' : zv_H} (f : zo_f g g') (U : zt_U a c g) : zt_U a c g' := zt_U_9 U (zo_f_9 f) (fun r i _ => zo_f_J f r i) (fun r i _ => zo_f_R f r i)
section
variable {a b m : Nat} {g k : zv_H}
theorem zo_1 {d D n : Nat} (gL : zt_L g) (hM : zm_M k) (O : zo g k n) (hn : n < 160) (v : Int) : ∃ g' k', C8_tellByte (d + 1) 1 v g = some g' ∧ C9_tells (D + 1) 347 v k = some k' ∧ zo g' k' (n + 1) ∧ zo_f g g' ∧ zm_F [372] [47] k k' := by
  have l1 : zv_lay 1 = (1, 8) := rfl
  have l2 : zv_lay 2 = (2, 160) := rfl
  obtain ⟨o1, o2, o3⟩ := O
  have e2 : zv_gR g 1 8 0 = some 2 := zl_gF gL l1 0 1
  have L2 : zt_L (zv_sI g 2 n v) := gL
  have g5 : zv_I (zv_sI g 2 n v) 1 5 = n := (zy_In _ _ (fun q => absurd q.1 (by decide))).trans o1
  have f1 : zm_F [372] [47] k (zv_sI k 372 n v) := zm_F_I (zm_F_r _ _ k) rfl _ _
  have M1 := zm_F_M f1 hM
  have k47 : zv_I (zv_sI k 372 n v) 347 47 = n := (zy_In _ _ (fun q => absurd q.1 (by decide))).trans o2
  refine ⟨zv_sI (zv_sI g 2 n v) 1 5 ((n + 1 : Nat) : Int), zv_sI (zv_sI k 372 n v) 347 47 ((n + 1 : Nat) : Int), lC8_tellByte (zl_ob gL l1) ?_, lC9_tells (zm_ob hM) ?_, ⟨zy_I _ _ _ _, zy_I _ _ _ _, fun i hi => ?_⟩, ⟨rfl, rfl, fun r i q1 q2 => (zy_In _ _ q1).trans (zy_In _ _ (fun q => q2 q.1))⟩, zm_F_f f1 rfl _⟩
  · rw [qE8_tellByte, zm_e (zl_gI gL l1 5), o1, if_neg (by omega), zm_e (zl_gI gL l1 5), o1, zm_e e2, zm_e (zl_al gL l2), if_pos (by omega), zm_e e2, zm_e (zl_gI gL l1 5), o1, zm_e (zl_wI gL l2 (by omega) (by omega) v), Int.toNat_natCast, zm_e (zl_gI L2 l1 5), g5, zm_w (by omega), zm_e (zl_pI L2 l1 5 _)]
    rfl
  · rw [qE9_tells, zm_e (zm_gR hM rfl rfl : zv_gR k 347 9 46 = some 372), zm_e (zm_gI hM 47), o2, zm_e (zm_wI hM (show zv_lay 372 = (2, 200) from rfl) rfl (by omega) (by omega) v), Int.toNat_natCast, zm_e (zm_gI M1 47), k47, zm_w (by omega), zm_e (zm_pI M1 47 _)]
    rfl
  · refine (zy_In _ _ (fun q => absurd q.1 (by decide))).trans (Eq.trans ?_ (zy_In _ _ (fun q => absurd q.1 (by decide))).symm)
    by_cases c : i = n
    · rw [c, zy_I, zy_I]
    · rw [zy_In _ _ (fun q => c q.2), zy_In _ _ (fun q => c q.2)]
      exact o3 i (by omega)
/-- a number of one digit or two -/
theorem zo_num {d D n : Nat} (gL : zt_L g) (hM : zm_M k) (O : zo g k n) (hn : n + 1 < 160) (v : Int) : ∃ g' k' n', C8_tellNumber (d + 2) 1 v g = some g' ∧ C9_tellsNumber (D + 2) 347 v k = some k' ∧ zo g' k' n' ∧ n' ≤ n + 2 ∧ zo_f g g' ∧ zm_F [372] [47] k k' := by
  have l1 : zv_lay 1 = (1, 8) := rfl
  by_cases c : v < 10
  · obtain ⟨g1, k1, a1, b1, O1, f1, F1⟩ := zo_1 (d := d) (D := D) gL hM O (by omega) (zv_w (48 + v.tmod 10))
    refine ⟨g1, k1, n + 1, lC8_tellNumber (zl_ob gL l1) ?_, lC9_tellsNumber (zm_ob hM) ?_, O1, by omega, f1, F1⟩
    · rw [qE8_tellNumber, if_pos c, qL8_tellNumber_17, zm_e a1]
    · rw [qE9_tellsNumber, if_pos (by omega), qL9_tellsNumber_17, zm_e b1]
  · obtain ⟨g1, k1, a1, b1, O1, f1, F1⟩ := zo_1 (d := d) (D := D) gL hM O (by omega) (zv_w (48 + zv_w (v.tdiv 10)))
    have L1 := zo_f_L f1 gL
    have M1 := zm_F_M F1 hM
    obtain ⟨g2, k2, a2, b2, O2, f2, F2⟩ := zo_1 (d := d) (D := D) L1 M1 O1 (by omega) (zv_w (48 + v.tmod 10))
    refine ⟨g2, k2, n + 2, lC8_tellNumber (zl_ob gL l1) ?_, lC9_tellsNumber (zm_ob hM) ?_, O2, by omega, zo_f_t f1 f2, zm_F_t F1 F2⟩
    · rw [qE8_tellNumber, if_neg c, zm_e a1, qL8_tellNumber_17, zm_e a2]
    · rw [qE9_tellsNumber, if_neg (by omega), zm_e b1, qL9_tellsNumber_17, zm_e b2]
/-- the document -/
theorem zo_doc {d D : Nat} {c : Nat → Int} {g0 : zv_H} {l : List Int} (S0 : zv_R g0 1 3 = a) (U0 : zt_U a c g0) (W : zm_W c) (hl : zm_Ln c (c 0 :: l) (c 0)) : ∀ (r q : List (Int × Int)), q ++ r = zm_row c (c 0 :: l) → ∀ (g k : zv_H), zt_L g → zo_f g0 g → zm_M k → zv_I k 348 = c → zm_Sn k c (c 0 :: l) → zo g k (q.filter (zm_sn c (c 0 :: l))).length → ∃ g' k', L8_tellDocument_10 (d + 2) 1 (zt_r a (c 0)) ((q.filter (zm_sn c (c 0 :: l))).length : Int) g = some (none, g') ∧ L9_tell_38 (D + 2) 347 0 (q.length : Int) k = L9_tell_79 (D + 2) 347 0 0 k' ∧ zo g' k' (zt_dc c (c 0 :: l)).length ∧ zo_f g0 g' ∧ zm_F [372] [47] k k' := by
  have hs := W.2.1
  obtain ⟨ok, G, _, W1⟩ := zt_line_u W hs hl
  have rl := zm_row_le G
  have dp := zt_dep W hs hl
  have d120 : (zt_dc c (c 0 :: l)).length ≤ 120 := W1.2.2.2.2.2.2
  have la := zt_U_la U0
  have lr := zt_r_l la hs.1
  have hD : za_D c (c 0) ((zt_dc c (c 0 :: l)).map (zm_lt c)) := ⟨l, hl, rfl⟩
  rw [List.length_cons] at rl
  intro r
  induction r with
  | nil =>
    intro q hq g k gL f hM hc sn O
    rw [List.append_nil] at hq
    have U := zo_f_U f U0
    have en := zt_S_ln (zt_U_st U (c 0) hs) l hl
    subst hq
    refine ⟨g, k, ?_, ?_, O, f, zm_F_r _ _ k⟩
    · rw [qL8_tellDocument_10, zm_e (zl_gI gL lr 12), en]
      exact if_neg (Int.lt_irrefl _)
    · rw [qL9_tell_38, zm_e (zm_gI hM 11), sn.2.1.1, if_neg (Int.lt_irrefl _)]
  | cons x r ih =>
    intro q hq g k gL f hM hc sn O
    have U := zo_f_U f U0
    have en := zt_S_ln (zt_U_st U (c 0) hs) l hl
    have hlen := congrArg List.length hq
    rw [List.length_append, List.length_cons] at hlen
    have hx : (zm_row c (c 0 :: l))[q.length]? = some x := by
      rw [← hq, List.getElem?_append_right (Nat.le_refl _), Nat.sub_self]
      rfl
    have hm : x ∈ zm_row c (c 0 :: l) := List.mem_of_getElem? hx
    have w1 : zv_w ((q.length : Int) + 1) = ((q ++ [x]).length : Int) := by
      rw [List.length_append, List.length_singleton, zm_w (by omega)]
      omega
    have hq' : (q ++ [x]) ++ r = zm_row c (c 0 :: l) := by rw [List.append_assoc]; exact hq
    have s355 := sn.2.2.2.1 q.length x hx
    rw [qL9_tell_38, zm_e (zm_gI hM 11), sn.2.1.1, if_pos (by omega), if_pos rfl, zm_e (zm_gR hM rfl rfl : zv_gR k 347 9 9 = some 355), zm_e (zm_aB hM (show zv_lay 355 = (3, 640) from rfl) (Or.inl rfl) rfl (by omega) (by omega)), Int.toNat_natCast, s355, w1]
    by_cases cs : zm_sn c (c 0 :: l) x = true
    · have ef : ((q ++ [x]).filter (zm_sn c (c 0 :: l))).length = (q.filter (zm_sn c (c 0 :: l))).length + 1 := by
        rw [List.filter_append, List.length_append, List.filter_cons_of_pos cs]
        rfl
      have ed : (zt_dc c (c 0 :: l))[(q.filter (zm_sn c (c 0 :: l))).length]? = some x := by
        unfold zt_dc
        rw [← hq, List.filter_append, List.getElem?_append_right (Nat.le_refl _), Nat.sub_self, List.filter_cons_of_pos cs]
        rfl
      have fl : (q.filter (zm_sn c (c 0 :: l))).length < (zt_dc c (c 0 :: l)).length := by
        by_cases z : (q.filter (zm_sn c (c 0 :: l))).length < (zt_dc c (c 0 :: l)).length
        · exact z
        · rw [List.getElem?_eq_none (by omega)] at ed
          cases ed
      generalize (q.filter (zm_sn c (c 0 :: l))).length = i at O ef ed fl
      have el := za_letterAt (d := d) gL U hs hD i
      have ev : za_nth ((zt_dc c (c 0 :: l)).map (zm_lt c)) i = zm_lt c x := by
        rw [za_nth_in (by rw [List.length_map]; exact fl), List.getElem_map]
        rw [List.getElem?_eq_getElem fl] at ed
        rw [Option.some.inj ed]
      have xok := zm_row_ok (fun t ht => zm_st48 (ok.2.2.1 t ht)) G x hm
      have li := zm_letterIn hM hc D sn.2.1 (by omega) hx xok.1 (by omega)
      have e3 : zv_gR g 1 8 3 = some a := (zl_gR gL (show zv_lay 1 = (1, 8) from rfl) 3).trans (by rw [zo_f_R f, S0])
      obtain ⟨g1, k1, a1, b1, O1, f1, F1⟩ := zo_1 (d := d + 1) (D := D + 1) gL hM O (by omega) (zv_w (97 + zm_lt c x))
      have hM1 := zm_F_M F1 hM
      obtain ⟨g', k', y1, y2, y3, y4, y5⟩ := ih (q ++ [x]) hq' g1 k1 (zo_f_L f1 gL) (zo_f_t f f1) hM1 ((zm_F_a F1 348).trans hc) (zm_Sn_F sn F1) (by rw [ef]; exact O1)
      rw [ef] at y1
      refine ⟨g', k', ?_, ?_, y3, y4, zm_F_t F1 y5⟩
      · rw [qL8_tellDocument_10, zm_e (zl_gI gL lr 12), en, if_pos (by omega), zm_e e3, zm_e el, ev]
        dsimp only
        rw [zm_e a1, zm_w (by omega)]
        exact y1
      · rw [if_pos cs, if_neg (by decide), zm_e li]
        dsimp only
        rw [zm_e b1]
        exact y2
    · have ef : ((q ++ [x]).filter (zm_sn c (c 0 :: l))).length = (q.filter (zm_sn c (c 0 :: l))).length := by
        rw [List.filter_append, List.length_append, List.filter_cons_of_neg cs]
        rfl
      obtain ⟨g', k', y1, y2, y3, y4, y5⟩ := ih (q ++ [x]) hq' g k gL f hM hc sn (by rw [ef]; exact O)
      rw [ef] at y1
      refine ⟨g', k', y1, ?_, y3, y4, y5⟩
      rw [if_neg cs, if_pos rfl]
      exact y2
/-- the line -/
theorem zo_line {d D : Nat} {c : Nat → Int} {g0 : zv_H} {L : List Int} (U0 : zt_U a c g0) (wk : zt_wk a c L g0) (hst : ∀ t ∈ L, zm_st c t) (h48 : L.length ≤ 48) : ∀ (r i n : Nat) (g k : zv_H), i + r = L.length → n ≤ 3 * i → zt_L g → zo_f g0 g → zm_M k → zm_lh c L k → zo g k n → ∃ g' k' n', L8_tellLine_10 (d + 3) 1 (a + 8) (i : Int) g = some (none, g') ∧ L9_tell_79 (D + 3) 347 1 (i : Int) k = L9_tell_118 (D + 3) 347 1 k' ∧ zo g' k' n' ∧ n' ≤ 144 ∧ zo_f g0 g' ∧ zm_F [372] [47] k k' := by
  have la := zt_U_la U0
  have l8 := (zt_row_l la).1
  have l9 := (zt_row_l la).2.1
  intro r
  induction r with
  | zero =>
    intro i n g k hi hn gL f hM lh O
    have e5 : zv_I g (a + 8) 5 = L.length := by rw [zo_f_9 f _ _ (by have := zc_lh la; omega)]; exact zt_wk_ln wk
    refine ⟨g, k, n, ?_, ?_, O, by omega, f, zm_F_r _ _ k⟩
    · rw [qL8_tellLine_10, zm_e (zl_gI gL l8 5), e5, if_neg (by omega)]
    · rw [qL9_tell_79, zm_e (zm_gI hM 10), lh.2.2.1, if_neg (by omega)]
  | succ r ih =>
    intro i n g k hi hn gL f hM lh O
    have a9 := zc_lh la
    have e5 : zv_I g (a + 8) 5 = L.length := by rw [zo_f_9 f _ _ (by omega)]; exact zt_wk_ln wk
    have ir : i < L.reverse.length := by rw [List.length_reverse]; omega
    have ht : L.reverse[i] ∈ L := List.mem_reverse.mp (List.getElem_mem ir)
    have ex := List.getElem?_eq_getElem ir
    generalize L.reverse[i] = t at ht ex
    have hs := hst t ht
    have w1 : zv_w ((i : Int) + 1) = ((i + 1 : Nat) : Int) := by
      rw [zm_w (by omega)]
      omega
    -- the sign ahead of it, if it is not the first
    obtain ⟨g1, k1, n1, O1, f1, F1, n1', c1, c2⟩ : ∃ g1 k1 n1, zo g1 k1 n1 ∧ zo_f g g1 ∧ zm_F [372] [47] k k1 ∧ n1 ≤ n + 1 ∧ L8_tellLine_10 (d + 3) 1 (a + 8) (i : Int) g = L8_tellLine_28 (d + 3) 1 (a + 8) (i : Int) g1 ∧ L9_tell_79 (D + 3) 347 1 (i : Int) k = L9_tell_102 (D + 3) 347 1 (i : Int) k1 := by
      by_cases i0 : i = 0
      · refine ⟨g, k, n, O, zo_f_r g, zm_F_r _ _ k, by omega, ?_, ?_⟩
        · rw [qL8_tellLine_10, zm_e (zl_gI gL l8 5), e5, if_pos (by omega), if_pos (by omega)]
        · rw [qL9_tell_79, zm_e (zm_gI hM 10), lh.2.2.1, if_pos (by omega), if_pos rfl, if_pos (by omega)]
      · obtain ⟨g1, k1, a1, b1, O1, f1, F1⟩ := zo_1 (d := d + 2) (D := D + 2) gL hM O (by omega) 60
        refine ⟨g1, k1, n + 1, O1, f1, F1, Nat.le_refl _, ?_, ?_⟩
        · rw [qL8_tellLine_10, zm_e (zl_gI gL l8 5), e5, if_pos (by omega), if_neg (by omega), zm_e a1]
        · rw [qL9_tell_79, zm_e (zm_gI hM 10), lh.2.2.1, if_pos (by omega), if_pos rfl, if_neg (by omega), zm_e b1]
    have L1 := zo_f_L f1 gL
    have M1 := zm_F_M F1 hM
    have f01 := zo_f_t f f1
    have lh1 := zm_lh_F lh F1
    have U1 := zo_f_U f01 U0
    have e5' : zv_I g1 (a + 8) 5 = L.length := by rw [zo_f_9 f01 _ _ (by omega)]; exact zt_wk_ln wk
    have pa : zv_R g1 (a + 9) i = zt_r a t := by rw [zo_f_R f01]; exact zt_wk_pa wk i t ex
    have lr := zt_r_l la hs.1
    have aR : zv_aR g1 (a + 9) (i : Int) = some (zt_r a t) := (zl_aR L1 l9 (by omega) (by omega)).trans (by rw [Int.toNat_natCast, pa])
    have e9 : zv_gR g1 (a + 8) 4 0 = some (a + 9) := zl_gF L1 l8 0 1
    have en : C4_numberAt (d + 3) (a + 8) (i : Int) g1 = some (t, g1) := lC4_numberAt (zl_ob L1 l8) (by
      rw [qE4_numberAt, if_neg (by omega), zm_e (zl_gI L1 l8 5), e5', if_pos (by omega), if_pos (by omega), zm_e e9, zm_e aR, if_neg (zt_r0 U1 hs), zm_e e9, zm_e aR, zm_e (zl_gI L1 lr 0), zt_num U1 hs])
    obtain ⟨g2, k2, n2, a2, b2, O2, n2', f2, F2⟩ := zo_num (d := d + 1) (D := D + 1) L1 M1 O1 (by omega) t
    have M2 := zm_F_M F2 M1
    obtain ⟨g', k', n', y1, y2, y3, y6, y4, y5⟩ := ih (i + 1) n2 g2 k2 (by omega) (by omega) (zo_f_L f2 L1) (zo_f_t f01 f2) M2 (zm_lh_F lh1 F2) O2
    refine ⟨g', k', n', ?_, ?_, y3, y6, y4, zm_F_t F1 (zm_F_t F2 y5)⟩
    · rw [c1, qL8_tellLine_28, zm_e en]
      dsimp only
      rw [zm_e a2, w1]
      exact y1
    · rw [c2, qL9_tell_102, zm_e (zm_f5 M1), zm_e (zm_aI M1 (show zv_lay 351 = (2, 49) from rfl) rfl (by omega) (by omega)), Int.toNat_natCast, lh1.2.2.2 i t ex, zm_e b2, w1]
      exact y2
/-! names: their letters -/
theorem zo_and31 {x : Int} (h0 : 0 ≤ x) (h1 : x < 2147483648) : zv_and x 31 = x % 32 := by
  have e : (Int32.ofInt x &&& Int32.ofInt 31).toBitVec.toNat = x.toNat % 32 := by
    rw [Int32.toBitVec_and, BitVec.toNat_and]
    have e1 : (Int32.ofInt x).toBitVec.toNat = x.toNat := by
      show (BitVec.ofInt 32 x).toNat = x.toNat
      rw [BitVec.toNat_ofInt]
      omega
    rw [e1]
    exact Nat.and_two_pow_sub_one_eq_mod _ 5
  have := zc_toInt (Int32.ofInt x &&& Int32.ofInt 31).toBitVec e (by omega)
  refine Eq.trans this ?_
  omega
theorem zo_shr5 {x : Int} {j : Nat} (hj : j ≤ 5) (h0 : 0 ≤ x) (h1 : x < 2147483648) : zv_shr x (5 * (j : Int)) = x / ((32 ^ j : Nat) : Int) := by
  have e1 : ∀ j : Nat, j ≤ 5 → (Int32.ofInt x >>> (Int32.ofInt (5 * (j : Int)) &&& 31)).toBitVec = (BitVec.ofInt 32 x).sshiftRight (5 * j) := fun j hj => by
    have : j = 0 ∨ j = 1 ∨ j = 2 ∨ j = 3 ∨ j = 4 ∨ j = 5 := by omega
    rcases this with rfl | rfl | rfl | rfl | rfl | rfl <;> rfl
  have ex : (BitVec.ofInt 32 x).toInt = x := by
    rw [BitVec.toInt_ofInt, Int.bmod_def]
    split <;> omega
  show (Int32.ofInt x >>> (Int32.ofInt (5 * (j : Int)) &&& 31)).toBitVec.toInt = _
  rw [e1 j hj, BitVec.toInt_sshiftRight, ex, Int.shiftRight_eq_div_pow]
  have : (2 : Nat) ^ (5 * j) = 32 ^ j := by rw [Nat.pow_mul]
  rw [this]
theorem zo_key (x : Int) (w : List Int) : zt_key (x :: w) = (x + 1) + 32 * zt_key w := rfl
theorem zo_pkd_take {w : List Int} (hw : ∀ x ∈ w, 0 ≤ x ∧ x < 26) : ∀ j : Nat, j ≤ w.length → zt_pkd w / ((32 ^ j : Nat) : Int) = zt_pkd (w.take (w.length - j))
  | 0, _ => by
    rw [Nat.sub_zero, List.take_length]
    show zt_pkd w / 1 = _
    rw [Int.ediv_one]
  | j + 1, hj => by
    have ih := zo_pkd_take hw j (by omega)
    have hl : w.length - (j + 1) < w.length := by omega
    have et : w.take (w.length - j) = w.take (w.length - (j + 1)) ++ [w[w.length - (j + 1)]] := by
      rw [show w.length - j = (w.length - (j + 1)) + 1 by omega, List.take_succ_eq_append_getElem hl]
    have hx := hw _ (List.getElem_mem hl)
    rw [et, zt_pkd_a] at ih
    rw [Nat.pow_succ, Int.natCast_mul, ← Int.ediv_ediv_of_nonneg (show (0 : Int) ≤ ((32 ^ j : Nat) : Int) from Int.natCast_nonneg _), ih]
    have p0 : 0 ≤ zt_pkd (w.take (w.length - (j + 1))) := (zt_key_lt _ (fun x hx => hw x (List.mem_of_mem_take (List.mem_reverse.mp hx)))).1
    generalize zt_pkd (w.take (w.length - (j + 1))) = y at p0
    generalize w[w.length - (j + 1)] = x at hx
    omega
theorem zo_pkd_lt {w : List Int} (hw : zt_nw w) : 0 ≤ zt_pkd w ∧ zt_pkd w < ((32 ^ w.length : Nat) : Int) ∧ zt_pkd w < 2147483648 := by
  have h := zt_key_lt w.reverse (fun x hx => hw.2 x (List.mem_reverse.mp hx))
  rw [List.length_reverse] at h
  have p : 32 ^ w.length ≤ 32 ^ 6 := Nat.pow_le_pow_right (by decide) hw.1.2
  have e6 : (32 : Nat) ^ 6 = 1073741824 := by decide
  have h2 : zt_pkd w < ((32 ^ w.length : Nat) : Int) := h.2
  exact ⟨h.1, h2, by omega⟩
/-- the letters of a name -/
theorem zo_let {d D : Nat} {w : List Int} (hw : zt_nw w) (r : Nat) (i : Int) : ∀ j : Nat, j ≤ w.length → ∀ (g k : zv_H) (n : Nat), zt_L g → zm_M k → zo g k n → n + j ≤ 150 → ∃ g' k', L8_tellNames_34 (d + 1) 1 r i (zt_key (w.drop (w.length - j))) g = L8_tellNames_34 (d + 1) 1 r i 0 g' ∧ L9_tellsNames_38 (D + 1) 347 i (zt_pkd w) (5 * (j : Int) - 5) k = L9_tellsNames_38 (D + 1) 347 i (zt_pkd w) (-5) k' ∧ zo g' k' (n + j) ∧ zo_f g g' ∧ zm_F [372] [47] k k'
  | 0, _, g, k, n, _, _, O, _ => by
    refine ⟨g, k, ?_, rfl, O, zo_f_r g, zm_F_r _ _ k⟩
    rw [Nat.sub_zero, List.drop_length]
    rfl
  | j + 1, hj, g, k, n, gL, hM, O, hn => by
    have hl : w.length - (j + 1) < w.length := by omega
    have hx := hw.2 _ (List.getElem_mem hl)
    have ed := List.drop_eq_getElem_cons hl
    rw [show w.length - (j + 1) + 1 = w.length - j by omega] at ed
    have et : w.take (w.length - j) = w.take (w.length - (j + 1)) ++ [w[w.length - (j + 1)]] := by
      rw [show w.length - j = (w.length - (j + 1)) + 1 by omega, List.take_succ_eq_append_getElem hl]
    have pt := zo_pkd_take hw.2 j (by omega)
    have pl := zo_pkd_lt hw
    have h6 := hw.1.2
    have es := zo_shr5 (x := zt_pkd w) (j := j) (by omega) pl.1 pl.2.2
    rw [pt, et, zt_pkd_a] at es
    have y0 := (zt_key_lt (w.drop (w.length - j)) (fun x hx => hw.2 x (List.mem_of_mem_drop hx))).1
    have y1 : zt_key (w.drop (w.length - (j + 1))) < 2147483648 := by
      have z := (zt_key_lt (w.drop (w.length - (j + 1))) (fun x hx => hw.2 x (List.mem_of_mem_drop hx))).2
      have p : 32 ^ (w.drop (w.length - (j + 1))).length ≤ 32 ^ 6 := Nat.pow_le_pow_right (by decide) (by rw [List.length_drop]; omega)
      have e6 : (32 : Nat) ^ 6 = 1073741824 := by decide
      omega
    have z0 : 0 ≤ zt_pkd (w.take (w.length - (j + 1))) := (zt_key_lt _ (fun x hx => hw.2 x (List.mem_of_mem_take (List.mem_reverse.mp hx)))).1
    have z1 : (w[w.length - (j + 1)] + 1) + 32 * zt_pkd (w.take (w.length - (j + 1))) < 2147483648 := by
      rw [← zt_pkd_a, ← et, ← pt]
      have := Int.ediv_le_self ((32 ^ j : Nat) : Int) pl.1
      omega
    rw [ed, zo_key] at y1
    obtain ⟨g1, k1, a1, b1, O1, f1, F1⟩ := zo_1 (d := d) (D := D) gL hM O (by omega) (zv_w (96 + (w[w.length - (j + 1)] + 1)))
    obtain ⟨g', k', c1, c2, O2, f2, F2⟩ := zo_let (d := d) (D := D) hw r i j (by omega) g1 k1 (n + 1) (zo_f_L f1 gL) (zm_F_M F1 hM) O1 (by omega)
    refine ⟨g', k', ?_, ?_, by rw [show n + (j + 1) = n + 1 + j by omega]; exact O2, zo_f_t f1 f2, zm_F_t F1 F2⟩
    · rw [ed, zo_key, qL8_tellNames_34]
      generalize zt_key (w.drop (w.length - j)) = y at y0 y1 c1 ⊢
      generalize w[w.length - (j + 1)] = x at hx a1 y1 ⊢
      rw [if_neg (by omega), zo_and31 (by omega) y1, show (x + 1 + 32 * y) % 32 = x + 1 by omega, zm_e a1, zc_ushr5 (by omega) y1, show (x + 1 + 32 * y) / 32 = y by omega]
      exact c1
    · rw [qL9_tellsNames_38, if_neg (by omega), show 5 * ((j + 1 : Nat) : Int) - 5 = 5 * (j : Int) by omega, es]
      generalize zt_pkd (w.take (w.length - (j + 1))) = z at z0 z1 ⊢
      generalize w[w.length - (j + 1)] = x at hx b1 z1 ⊢
      rw [if_neg (by omega), zo_and31 (by omega) z1, show (x + 1 + 32 * z) % 32 = x + 1 by omega, zm_e b1, zm_w (by omega), show 5 * (j : Int) + -5 = 5 * (j : Int) - 5 by omega]
      exact c2
/-- no letters there -/
theorem zo_skip {D : Nat} {w : List Int} (hw : zt_nw w) (i : Int) (k : zv_H) : ∀ e : Nat, w.length + e ≤ 6 → L9_tellsNames_38 (D + 1) 347 i (zt_pkd w) (5 * ((w.length + e : Nat) : Int) - 5) k = L9_tellsNames_38 (D + 1) 347 i (zt_pkd w) (5 * (w.length : Int) - 5) k
  | 0, _ => rfl
  | e + 1, he => by
    have h1 := hw.1.1
    have pl := zo_pkd_lt hw
    have es := zo_shr5 (x := zt_pkd w) (j := w.length + e) (by omega) pl.1 pl.2.2
    have p : 32 ^ w.length ≤ 32 ^ (w.length + e) := Nat.pow_le_pow_right (by decide) (by omega)
    rw [Int.ediv_eq_zero_of_lt pl.1 (by omega)] at es
    rw [qL9_tellsNames_38, if_neg (by omega), show 5 * ((w.length + (e + 1) : Nat) : Int) - 5 = 5 * ((w.length + e : Nat) : Int) by omega, es, if_pos (by decide), zm_w (by omega), show 5 * ((w.length + e : Nat) : Int) + -5 = 5 * ((w.length + e : Nat) : Int) - 5 by omega]
    exact zo_skip hw i k e (by omega)
/-- the names -/
theorem zo_names {d D : Nat} {g0 : zv_H} {c : Nat → Int} (S0 : zv_R g0 1 3 = a) (la : zv_lay a = (1, 0)) (N : zt_N a c g0) (h12 : c 3 ≤ 12) : ∀ (r i n : Nat) (g k : zv_H), (i : Int) + r = c 3 → n ≤ 10 * i → zt_L g → zo_f g0 g → zm_M k → zv_I k 348 = c → zo g k n → ∃ g' k' n', L8_tellNames_10 (d + 3) 1 (a + 14) (i : Int) g = some (none, g') ∧ L9_tellsNames_2 (D + 3) 347 (i : Int) k = some (none, k') ∧ zo g' k' n' ∧ n' ≤ 150 ∧ zo_f g0 g' ∧ zm_F [372] [47] k k' := by
  have a9 := zc_lh la
  have l14 := (zt_nm_l la).1
  have l15 := (zt_nm_l la).2.1
  have l16 := (zt_nm_l la).2.2
  have l1 : zv_lay 1 = (1, 8) := rfl
  intro r
  induction r with
  | zero =>
    intro i n g k hi hn gL f hM hc O
    have e2 : zv_I g (a + 14) 2 = c 3 := by rw [zo_f_9 f _ _ (by omega)]; exact zt_N_sz N
    refine ⟨g, k, n, ?_, ?_, O, by omega, f, zm_F_r _ _ k⟩
    · rw [qL8_tellNames_10, zm_e (zl_gI gL l14 2), e2, if_neg (by omega)]
    · rw [qL9_tellsNames_2, zm_e (zm_f0 hM), zm_e (zm_aI hM zm_l348 rfl (by decide) (by decide)), hc, show Int.toNat 3 = 3 from rfl, if_neg (by omega)]
  | succ r ih =>
    intro i n g k hi hn gL f hM hc O
    have e2 : ∀ {g1 : zv_H}, zo_f g0 g1 → zv_I g1 (a + 14) 2 = c 3 := fun f => by rw [zo_f_9 f _ _ (by omega)]; exact zt_N_sz N
    obtain ⟨w, hw, w1', w2'⟩ := zt_N_ky N i (by omega)
    have w1 : Unit → zv_I g0 (a + 15) i = zt_key w := fun _ => w1'
    have w2 : Unit → c (408 + 2 * i) = zt_pkd w := fun _ => w2'
    clear w1' w2'
    have wi : zv_w ((i : Int) + 1) = ((i + 1 : Nat) : Int) := by
      rw [zm_w (by omega)]
      omega
    have v2 : zv_w (408 + zv_w (2 * (i : Int))) = 408 + 2 * (i : Int) := by
      rw [zm_w (x := 2 * (i : Int)) (by omega), zm_w (by omega)]
    have v3 : zv_w (408 + 2 * (i : Int) + 1) = 408 + 2 * (i : Int) + 1 := zm_w (by omega)
    -- ahead of it
    obtain ⟨g1, k1, n1, O1, f1, F1, hn1, c1, c2⟩ : ∃ g1 k1 n1, zo g1 k1 n1 ∧ zo_f g g1 ∧ zm_F [372] [47] k k1 ∧ n1 ≤ n + 1 ∧ L8_tellNames_10 (d + 3) 1 (a + 14) (i : Int) g = L8_tellNames_28 (d + 3) 1 (a + 14) (i : Int) g1 ∧ L9_tellsNames_2 (D + 3) 347 (i : Int) k = L9_tellsNames_38 (D + 3) 347 (i : Int) (zt_pkd w) 25 k1 := by
      by_cases i0 : i = 0
      · refine ⟨g, k, n, O, zo_f_r g, zm_F_r _ _ k, by omega, ?_, ?_⟩
        · rw [qL8_tellNames_10, zm_e (zl_gI gL l14 2), e2 f, if_pos (by omega), if_pos (by omega)]
        · rw [qL9_tellsNames_2, zm_e (zm_f0 hM), zm_e (zm_aI hM zm_l348 rfl (by decide) (by decide)), hc, show Int.toNat 3 = 3 from rfl, if_pos (by omega), if_pos (by omega), zm_e (zm_f0 hM), v2, zm_e (zm_aI hM zm_l348 rfl (by omega) (by omega)), hc, show (408 + 2 * (i : Int)).toNat = 408 + 2 * i by omega, w2 ()]
      · obtain ⟨g1, k1, a1, b1, O1, f1, F1⟩ := zo_1 (d := d + 2) (D := D + 2) gL hM O (by omega) 32
        have M1 := zm_F_M F1 hM
        have hc1 : zv_I k1 348 = c := (zm_F_a F1 348).trans hc
        refine ⟨g1, k1, n + 1, O1, f1, F1, Nat.le_refl _, ?_, ?_⟩
        · rw [qL8_tellNames_10, zm_e (zl_gI gL l14 2), e2 f, if_pos (by omega), if_neg (by omega), zm_e a1]
        · rw [qL9_tellsNames_2, zm_e (zm_f0 hM), zm_e (zm_aI hM zm_l348 rfl (by decide) (by decide)), hc, show Int.toNat 3 = 3 from rfl, if_pos (by omega), if_neg (by omega), zm_e b1, zm_e (zm_f0 M1), v2, zm_e (zm_aI M1 zm_l348 rfl (by omega) (by omega)), hc1, show (408 + 2 * (i : Int)).toNat = 408 + 2 * i by omega, w2 ()]
    have L1 := zo_f_L f1 gL
    have M1 := zm_F_M F1 hM
    have f01 := zo_f_t f f1
    have hc1 : zv_I k1 348 = c := (zm_F_a F1 348).trans hc
    -- its letters
    have hwl := hw.1
    obtain ⟨g2, k2, d1, d2, O2, f2, F2⟩ := zo_let (d := d + 2) (D := D + 2) hw (a + 14) (i : Int) w.length (Nat.le_refl _) g1 k1 n1 L1 M1 O1 (by omega)
    rw [Nat.sub_self, List.drop_zero] at d1
    have sk := zo_skip (D := D + 2) hw (i : Int) k1 (6 - w.length) (by omega)
    rw [show w.length + (6 - w.length) = 6 by omega, show 5 * ((6 : Nat) : Int) - 5 = 25 from rfl] at sk
    have L2 := zo_f_L f2 L1
    have M2 := zm_F_M F2 M1
    have f02 := zo_f_t f01 f2
    have hc2 : zv_I k2 348 = c := (zm_F_a F2 348).trans hc1
    -- the sign, the State
    obtain ⟨g3, k3, a3, b3, O3, f3, F3⟩ := zo_1 (d := d + 2) (D := D + 2) L2 M2 O2 (by omega) 61
    have L3 := zo_f_L f3 L2
    have M3 := zm_F_M F3 M2
    have f03 := zo_f_t f02 f3
    have hc3 : zv_I k3 348 = c := (zm_F_a F3 348).trans hc2
    obtain ⟨g4, k4, n4, a4, b4, O4, hn4, f4, F4⟩ := zo_num (d := d + 1) (D := D + 1) L3 M3 O3 (by omega) (c (409 + 2 * i))
    obtain ⟨g', k', n', y1, y2, y3, y4, y5, y6⟩ := ih (i + 1) n4 g4 k4 (by omega) (by omega) (zo_f_L f4 L3) (zo_f_t f03 f4) (zm_F_M F4 M3) ((zm_F_a F4 348).trans hc3) O4
    have ky : C2_keyAt (d + 3) (a + 14) (i : Int) g1 = some (zt_key w, g1) := lC2_keyAt (zl_ob L1 l14) (by
      rw [qE2_keyAt, if_neg (by omega), zm_e (zl_gI L1 l14 2), e2 f01, if_pos (by omega), if_pos (by omega), zm_e (zl_gF L1 l14 0 1), zm_e (zl_aI L1 l15 (by omega) (by omega)), Int.toNat_natCast, zo_f_9 f01 _ _ (by omega), w1 ()])
    have ow : C2_ownerAt (d + 3) (a + 14) (i : Int) g3 = some (c (409 + 2 * i), g3) := lC2_ownerAt (zl_ob L3 l14) (by
      rw [qE2_ownerAt, if_neg (by omega), zm_e (zl_gI L3 l14 2), e2 f03, if_pos (by omega), if_pos (by omega), zm_e (zl_gF L3 l14 1 2), zm_e (zl_aI L3 l16 (by omega) (by omega)), Int.toNat_natCast, zo_f_9 f03 _ _ (by omega), zt_N_ow N i (by omega)])
    refine ⟨g', k', n', ?_, ?_, y3, y4, y5, zm_F_t F1 (zm_F_t F2 (zm_F_t F3 (zm_F_t F4 y6)))⟩
    · rw [c1, qL8_tellNames_28, zm_e ky]
      dsimp only
      rw [d1, qL8_tellNames_34, if_pos (by decide), zm_e a3, zm_e ow]
      dsimp only
      rw [zm_e a4, wi]
      exact y1
    · rw [c2, sk, d2, qL9_tellsNames_38, if_pos (by decide), zm_e b3, zm_e (zm_f0 M3), v2, v3, zm_e (zm_aI M3 zm_l348 rfl (by omega) (by omega)), hc3, show (408 + 2 * (i : Int) + 1).toNat = 409 + 2 * i by omega, zm_e b4, wi]
      exact y2
theorem zo_nx {r i : Nat} (h : (r = 1 ∧ i = 5) ∨ r = 2) : ¬ zt_x r i := by
  intro x
  rcases x with x | x | x | ⟨a, q, x⟩
  · omega
  · rcases h with h | h
    · rw [h.1] at x
      exact absurd x.1 (by decide)
    · rw [h] at x
      exact absurd x.1 (by decide)
  · rcases h with h | h
    · omega
    · rw [h] at x
      exact absurd x.1 (by decide)
  · omega
theorem zo_N {g g' : zv_H} {c : Nat → Int} (f : zo_f g g') (la : zv_lay a = (1, 0)) (h12 : c 3 ≤ 12) (N : zt_N a c g) : zt_N a c g' := zt_N_c N h12 rfl (fun _ _ _ => rfl) (fun r k r1 r2 => zo_f_9 f r k (by have := zc_lh la; omega))
/-- telling -/
theorem zp_tell {d D : Nat} (hA : zc_A g) (I : zm_MI k) (S : zt_GG m a b g k) (w : Int) : ∃ v g' k', C8_tell (d + 28) 1 w g = some (v, g') ∧ C9_tell (D + 28) 347 w k = some (v, k') ∧ ((∃ n, n ≤ 160 ∧ zo g k n) → ∃ n, n ≤ 160 ∧ zo g' k' n) := by
  have gL := zt_L_A hA
  have hM := I.1
  have l1 : zv_lay 1 = (1, 8) := rfl
  have qC := qE8_tell (d + 27) 1 w g
  have qR := qE9_tell (D + 27) 347 w k
  rw [zm_e (zc_within (d := d + 26) g w 0 2)] at qC
  rw [zm_e (zm_isIn (h := k) (D + 26) w 0 2)] at qR
  dsimp only at qC qR
  by_cases cw : 0 ≤ w ∧ w ≤ 2
  rotate_left
  · rw [if_neg cw, if_pos rfl, za_ref gL] at qC
    rw [if_neg cw, if_pos rfl, qL9_tell_15, za_isn hM (by decide)] at qR
    refine ⟨_, _, _, lC8_tell (zl_ob gL l1) qC, lC9_tell (zm_ob hM) qR, fun ⟨n, n0, o1, o2, o3⟩ => ⟨n, n0, ?_, ?_, fun i hi => ?_⟩⟩
    · exact (zy_In _ _ (fun q => absurd q.2 (by decide))).trans o1
    · exact (zy_In _ _ (fun q => absurd q.2 (by decide))).trans ((zy_In _ _ (fun q => absurd q.2 (by decide))).trans o2)
    · rw [zy_In _ _ (fun q => absurd q.1 (by decide)), zy_In _ _ (fun q => absurd q.1 (by decide)), zy_In _ _ (fun q => absurd q.1 (by decide))]
      exact o3 i hi
  obtain ⟨k1, i1, F1⟩ := zp_is hM
  have S1 := zt_GG_F S F1
  have M1 := zm_F_M F1 hM
  have H := zt_GG_H S1
  have U := zt_H_U H
  have la := zt_U_la U
  have W := zt_U_W U
  have hs := W.2.1
  have e348 : zv_I k1 348 = zv_I k 348 := zm_F_a F1 348
  -- made empty
  generalize eg2 : zv_sI g 1 5 (0 : Int) = g2
  generalize ek2 : zv_sI k1 347 47 (0 : Int) = k2
  have p2 : zv_pI g 1 8 5 0 = some g2 := by rw [zl_pI gL l1 5 0, eg2]
  have f2 : zo_f g g2 := by
    rw [← eg2]
    exact ⟨rfl, rfl, fun r i q1 q2 => zy_In _ _ q1⟩
  have F2 : zm_F [] [47] k1 k2 := by
    rw [← ek2]
    exact zm_F_f (zm_F_r _ _ _) rfl _
  have M2 := zm_F_M F2 M1
  have hc2 : zv_I k2 348 = zv_I k 348 := (zm_F_a F2 348).trans e348
  have L2 := zo_f_L f2 gL
  obtain ⟨l, hl1, hl2, hl3, hl4⟩ := zm_W_l W.1 hs
  rw [e348] at hl1 hl3 hl4 hs U W
  have hW1 := hl1
  have eh := zm_here M2 (D + 26)
  rw [hc2] at eh
  obtain ⟨k3, s1, F3, sn⟩ := zm_sees_st (c := zv_I k 348) M2 hc2 (D + 23) hW1 hl2 hl3 hl4
  have M3 := zm_F_M F3 M2
  have hc3 : zv_I k3 348 = zv_I k 348 := (zm_F_a F3 348).trans hc2
  have O3 : zo g2 k3 0 := by
    refine ⟨?_, ?_, fun i hi => absurd hi (by omega)⟩
    · rw [← eg2]
      exact zy_I _ _ _ _
    · rw [zm_F_g F3 47, ← ek2]
      exact zy_I _ _ _ _
  have qR2 : E9_tell (D + 27) 347 w k = L9_tell_38 (D + 27) 347 w 0 k3 := by
    rw [qR, if_pos cw, if_neg (by decide), qL9_tell_15, za_isy i1]
    dsimp only
    rw [zm_e (zm_pI M1 47 0), ek2, zm_e eh]
    dsimp only
    rw [zm_e s1]
  rw [if_pos cw, if_neg (by decide), zm_e p2] at qC
  have r3 : ∀ {g1 : zv_H}, zo_f g g1 → zv_gR g1 1 8 3 = some a := fun {g1} f => (zl_gR (zo_f_L f gL) l1 3).trans (by rw [zo_f_R f]; rw [zt_GG_r S])
  -- what is left of the class's
  have fin : ∀ (g4 k4 : zv_H) (n : Nat), n ≤ 160 → zo g4 k4 n → zt_L g4 → zm_M k4 → E8_tell (d + 27) 1 w g = L8_tell_47 (d + 27) 1 g4 → E9_tell (D + 27) 347 w k = ((zv_gI k4 347 9 47).bind fun v3 => (some (some (zv_i v3), k4))) → ∃ v g' k', C8_tell (d + 28) 1 w g = some (v, g') ∧ C9_tell (D + 28) 347 w k = some (v, k') ∧ ((∃ n, n ≤ 160 ∧ zo g k n) → ∃ n, n ≤ 160 ∧ zo g' k' n) := fun g4 k4 n n0 O L4 M4 q1 q2 => by
    rw [qL8_tell_47, zm_e (zl_gI L4 l1 5), O.1, za_giv (d := d + 26) L4] at q1
    rw [zm_e (zm_gI M4 47), O.2.1] at q2
    refine ⟨_, _, _, lC8_tell (zl_ob gL l1) q1, lC9_tell (zm_ob hM) q2, fun _ => ⟨n, n0, ?_, O.2.1, fun i hi => ?_⟩⟩
    · exact (zy_In _ _ (fun q => absurd q.2 (by decide))).trans O.1
    · rw [zy_In _ _ (fun q => absurd q.1 (by decide))]
      exact O.2.2 i hi
  have lh : zm_lh (zv_I k 348) (zv_I k 348 0 :: l) k3 := by
    have := zm_Sn_lh (l := zv_I k 348 0 :: l) M3 (by rw [hc3]; exact sn)
    rw [hc3] at this
    exact this
  by_cases w0 : w = 0
  · -- the document
    subst w0
    obtain ⟨g4, k4, t1, t2, O4, f4, F4⟩ := zo_doc (d := d + 24) (D := D + 25) (zt_GG_r S) U W hW1.1 (zm_row (zv_I k 348) (zv_I k 348 0 :: l)) [] rfl g2 k3 L2 f2 M3 hc3 sn O3
    have he := zt_U_he (zo_f_U f2 U)
    have e10 : zv_gR g2 a 0 10 = some (zt_r a (zv_I k 348 0)) := (zl_gR L2 la 10).trans (by rw [he])
    have td : C8_tellDocument (d + 27) 1 g2 = some g4 := lC8_tellDocument (zl_ob L2 l1) (by
      rw [qE8_tellDocument, zm_e (r3 f2), zm_e e10]
      exact t1)
    have M4 := zm_F_M F4 M3
    have lh4 := zm_lh_F lh F4
    refine fin g4 k4 _ (Nat.le_trans hW1.2.2.2.2.2.2 (by decide)) O4 (zo_f_L f4 gL) M4 ?_ ?_
    · rw [qC, if_pos rfl, zm_e td]
    · rw [qR2]
      refine (show L9_tell_38 (D + 27) 347 0 0 k3 = _ from t2).trans ?_
      rw [qL9_tell_79, zm_e (zm_gI M4 10), lh4.2.2.1, if_pos (by rw [List.length_cons]; omega), if_neg (by decide), qL9_tell_118, if_neg (by decide)]
  have t38 : L9_tell_38 (D + 27) 347 w 0 k3 = L9_tell_79 (D + 27) 347 w 0 k3 := by
    rw [qL9_tell_38, zm_e (zm_gI M3 11), if_neg w0]
    split <;> rfl
  by_cases w1 : w = 1
  · -- the line
    subst w1
    have U2 := zo_f_U f2 U
    obtain ⟨g3, e3, B3, _, _⟩ := za_row (d := d + 21) L2 U2 hW1.1
    have q3 := zt_B_q B3
    have x15 : ∀ r i, (r = 1 ∧ i = 5) ∨ r = 2 → zv_I g3 r i = zv_I g2 r i := fun r i hr => q3.2.2.1 r i (zo_nx hr) (zt_in0 r)
    have O3' : zo g3 k3 0 := ⟨(x15 1 5 (Or.inl ⟨rfl, rfl⟩)).trans O3.1, O3.2.1, fun i hi => absurd hi (by omega)⟩
    have L3 := zt_B_L B3
    have ok := (zt_line_u W hs hW1.1).1
    obtain ⟨g4, k4, n4, t1, t2, O4, n4', f4, F4⟩ := zo_line (d := d + 23) (D := D + 24) (zt_B_U B3) (zt_B_wk B3) ok.2.2.1 (by rw [List.length_cons]; omega) (zv_I k 348 0 :: l).length 0 0 g3 k3 (Nat.zero_add _) (Nat.le_refl _) L3 (zo_f_r g3) M3 lh O3'
    have tl : C8_tellLine (d + 27) 1 g2 = some g4 := lC8_tellLine (zl_ob L2 l1) (by
      rw [qE8_tellLine, zm_e (r3 f2), zm_e e3]
      exact t1)
    have M4 := zm_F_M F4 M3
    refine fin g4 k4 n4 (by omega) O4 (zo_f_L f4 L3) M4 ?_ ?_
    · rw [qC, if_neg (by decide), if_pos rfl, zm_e tl]
    · rw [qR2, t38]
      refine (show L9_tell_79 (D + 27) 347 1 0 k3 = _ from t2).trans ?_
      rw [qL9_tell_118, if_neg (by decide)]
  · -- the names
    have w2 : w = 2 := by omega
    subst w2
    have N := zt_H_N H
    rw [e348] at N
    have c3 := W.2.2.1
    obtain ⟨g4, k4, n4, t1, t2, O4, n4', f4, F4⟩ := zo_names (d := d + 23) (D := D + 23) (g0 := g2) (c := zv_I k 348) (a := a) (by rw [zo_f_R f2]; exact zt_GG_r S) la (zo_N f2 la c3.2 N) c3.2 (zv_I k 348 3).toNat 0 0 g2 k3 (by omega) (by omega) L2 (zo_f_r g2) M3 hc3 O3
    have e6 : zv_gR g2 a 0 6 = some (a + 14) := zl_gF L2 la 6 14
    have tn : C8_tellNames (d + 27) 1 g2 = some g4 := lC8_tellNames (zl_ob L2 l1) (by
      rw [qE8_tellNames, zm_e (r3 f2), zm_e e6]
      exact t1)
    have rn : C9_tellsNames (D + 27) 347 k3 = some k4 := lC9_tellsNames (zm_ob M3) (by
      rw [qE9_tellsNames]
      exact t2)
    have M4 := zm_F_M F4 M3
    refine fin g4 k4 n4 (by omega) O4 (zo_f_L f4 L2) M4 ?_ ?_
    · rw [qC, if_neg (by decide), if_neg (by decide), zm_e tn]
    · rw [qR2, t38, qL9_tell_79, zm_e (zm_gI M3 10), lh.2.2.1, if_pos (by rw [List.length_cons]; omega), if_neg (by decide), qL9_tell_118, if_pos rfl, zm_e rn]
end
