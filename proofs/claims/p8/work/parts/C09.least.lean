/-! ===== what is asked, answered alike: the least that leads from one document to the other ===== -/
/-- one row of the table out of the row above -/
def zb_nx (x : Int) (y P : Nat → Int) : Nat → Int
  | 0 => 0
  | j + 1 => if x = y j then P j + 1 else max (P (j + 1)) (zb_nx x y P j)
/-- the table -/
def zb_T (x y : Nat → Int) : Nat → Nat → Int
  | 0 => fun _ => 0
  | i + 1 => zb_nx (x i) y (zb_T x y i)
section
variable {x y : Nat → Int}
theorem zb_T_0 (i : Nat) : zb_T x y i 0 = 0 := by cases i <;> rfl
theorem zb_T_s (i j : Nat) : zb_T x y (i + 1) (j + 1) = if x i = y j then zb_T x y i j + 1 else max (zb_T x y i (j + 1)) (zb_T x y (i + 1) j) := rfl
theorem zb_T_r : ∀ i j : Nat, 0 ≤ zb_T x y i j ∧ zb_T x y i j ≤ i
  | 0, _ => ⟨Int.le_refl _, Int.le_refl _⟩
  | i + 1, 0 => ⟨Int.le_refl _, by rw [zb_T_0]; omega⟩
  | i + 1, j + 1 => by
    have h1 := zb_T_r i j
    have h2 := zb_T_r i (j + 1)
    have h3 := zb_T_r (i + 1) j
    rw [zb_T_s]
    split <;> omega
end
/-- such a table -/
def zb_ok (x y : Nat → Int) (T : Nat → Nat → Int) : Prop := (∀ i, T i 0 = 0) ∧ (∀ j, T 0 j = 0) ∧ (∀ i j, T (i + 1) (j + 1) = if x i = y j then T i j + 1 else max (T i (j + 1)) (T (i + 1) j)) ∧ ∀ i j, 0 ≤ T i j ∧ T i j ≤ (i : Int)
theorem zb_T_ok (x y : Nat → Int) : zb_ok x y (zb_T x y) := ⟨zb_T_0, fun _ => rfl, zb_T_s, zb_T_r⟩
/-! numbers -/
theorem zb_wm {n : Nat} (h : n < 100000) : zv_w (((n + 1 : Nat) : Int) - 1) = (n : Int) := by
  rw [zm_w (by omega)]
  omega
theorem zb_wp {n : Nat} (h : n < 100000) : zv_w ((n : Int) + 1) = ((n + 1 : Nat) : Int) := by
  rw [zm_w (by omega)]
  rfl
theorem zb_w121 {r q : Nat} (hr : r ≤ 121) (hq : q ≤ 121) : zv_w (zv_w (121 * (r : Int)) + (q : Int)) = ((121 * r + q : Nat) : Int) := by
  rw [zm_w (x := 121 * (r : Int)) (by omega), zm_w (by omega)]
  omega
theorem zb_wq {r q : Nat} (hr : r ≤ 121) (hq : q ≤ 121) : zv_w (((121 * r + (q + 1) : Nat) : Int) - 1) = ((121 * r + q : Nat) : Int) := by
  rw [zm_w (by omega)]
  omega
theorem zb_wT {t : Int} (h : 0 ≤ t) (h1 : t ≤ 100000) : zv_w (t + 1) = t + 1 := zm_w (by omega)
theorem zb_ix {r q : Nat} (hr : r ≤ 120) (hq : q ≤ 120) : (0 : Int) ≤ ((121 * r + q : Nat) : Int) ∧ ((121 * r + q : Nat) : Int) < ((14641 : Nat) : Int) := by omega
theorem zb_ne {r q i j : Nat} (hi : i < r) (hj : j ≤ 120) : ¬ (371 = 371 ∧ 121 * i + j = 121 * r + q) := by omega
theorem zb_ne2 {r q j : Nat} (hj : j ≠ q) : ¬ (371 = 371 ∧ 121 * r + j = 121 * r + q) := by omega
section
variable {a b m : Nat} {g k : zv_H}
theorem zb_l7 (la : zv_lay a = (1, 0)) : zv_lay (a + 7) = (2, 121) := by rcases zc_lh la with e | e <;> rw [e] <;> rfl
/-- a cell of the class's row written -/
theorem zb_w7 {c : Nat → Int} {g0 : zv_H} (gL : zt_L g) (U : zt_U a c g) (q : zt_q g0 g) (j : Nat) (v : Int) : zt_L (zv_sI g (a + 7) j v) ∧ zt_U a c (zv_sI g (a + 7) j v) ∧ zt_q g0 (zv_sI g (a + 7) j v) := by
  have q1 := zt_q_sI (h := g) (k := j) v (zt_xa (k := j) (zt_U_la U) (Or.inl rfl))
  exact ⟨gL, zt_U_q U q1, zt_q_t q q1⟩
theorem zb_lc2 {d : Nat} {c : Nat → Int} {g0 : zv_H} (ra rb : Nat) : ∀ (r n : Nat) (g : zv_H), n + r = 121 → zt_L g → zt_U a c g → zt_q g0 g → (∀ j : Nat, j < n → zv_I g (a + 7) j = 0) → ∃ g', L0_longestCommon_2 d a ra rb (n : Int) g = L0_longestCommon_2 d a ra rb 121 g' ∧ zt_L g' ∧ zt_U a c g' ∧ zt_q g0 g' ∧ ∀ j : Nat, j < 121 → zv_I g' (a + 7) j = 0
  | 0, n, g, hn, gL, U, q, z => ⟨g, by rw [show n = 121 by omega]; rfl, gL, U, q, fun j hj => z j (by omega)⟩
  | r + 1, n, g, hn, gL, U, q, z => by
    have la := zt_U_la U
    obtain ⟨L1, U1, q1⟩ := zb_w7 gL U q n 0
    obtain ⟨g', y1, y2⟩ := zb_lc2 (d := d) ra rb r (n + 1) (zv_sI g (a + 7) n 0) (by omega) L1 U1 q1 (fun j hj => by
      by_cases e : j = n
      · rw [e, zy_I]
      · rw [zy_In _ _ (fun w => e w.2)]
        exact z j (by omega))
    refine ⟨g', ?_, y2⟩
    rw [qL0_longestCommon_2, if_pos (by omega), zm_e (zl_gF gL la 4 7), zm_e (zl_wI gL (zb_l7 la) (by omega) (by omega) 0), Int.toNat_natCast, zm_w (by omega), show (n : Int) + 1 = ((n + 1 : Nat) : Int) by omega]
    exact y1
theorem zb_lc58 {d : Nat} {c : Nat → Int} {g0 : zv_H} {s t : Int} {A B : List Int} {T : Nat → Nat → Int} (hT : zb_ok (za_nth A) (za_nth B) T) (ht : zm_st c t) (hB : za_D c t B) (hb : B.length ≤ 120) {i : Nat} (ra : Nat) (hi : i < 100000) : ∀ (r n : Nat) (g : zv_H), n + r = B.length → zt_L g → zt_U a c g → zt_q g0 g → (∀ j : Nat, j ≤ n → zv_I g (a + 7) j = T (i + 1) j) → (∀ j : Nat, n < j → j ≤ B.length → zv_I g (a + 7) j = T i j) → ∃ g', L0_longestCommon_58 (d + 2) a ra (zt_r a t) (B.length : Int) (i : Int) (za_nth A i) (T i n) ((n + 1 : Nat) : Int) g = L0_longestCommon_34 (d + 2) a ra (zt_r a t) (B.length : Int) ((i + 1 : Nat) : Int) g' ∧ zt_L g' ∧ zt_U a c g' ∧ zt_q g0 g' ∧ ∀ j : Nat, j ≤ B.length → zv_I g' (a + 7) j = T (i + 1) j
  | 0, n, g, hn, gL, U, q, z1, z2 => by
    refine ⟨g, ?_, gL, U, q, fun j hj => z1 j (by omega)⟩
    rw [qL0_longestCommon_58, if_neg (by omega), zm_w (by omega)]
    rfl
  | r + 1, n, g, hn, gL, U, q, z1, z2 => by
    have la := zt_U_la U
    have n100 : n < 100000 := by omega
    have n1100 : n + 1 < 100000 := by omega
    have nB : ((n + 1 : Nat) : Int) ≤ (B.length : Int) := by omega
    have i0 : (0 : Int) ≤ ((n + 1 : Nat) : Int) := by omega
    have i1 : ((n + 1 : Nat) : Int) < ((121 : Nat) : Int) := by omega
    have j0 : (0 : Int) ≤ (n : Int) := by omega
    have j1 : (n : Int) < ((121 : Nat) : Int) := by omega
    have el := za_letterAt (d := d) gL U ht hB n
    obtain ⟨L1, U1, q1⟩ := zb_w7 gL U q (n + 1) (T (i + 1) (n + 1))
    obtain ⟨g', y1, y2⟩ := zb_lc58 (d := d) (s := s) hT ht hB hb ra hi r (n + 1) (zv_sI g (a + 7) (n + 1) (T (i + 1) (n + 1))) (by omega) L1 U1 q1 (fun j hj => by
      by_cases e : j = n + 1
      · rw [e, zy_I]
      · rw [zy_In _ _ (fun w => e w.2)]
        exact z1 j (by omega)) (fun j h1 h2 => by
      rw [zy_In _ _ (fun w => absurd w.2 (Nat.ne_of_gt h1))]
      exact z2 j (Nat.lt_of_succ_lt h1) h2)
    refine ⟨g', ?_, y2⟩
    have hle : n + 1 ≤ B.length := by omega
    have e1 := z2 (n + 1) (Nat.lt_succ_self n) hle
    have e0 := z1 n (Nat.le_refl _)
    have b1 := hT.2.2.2 i n
    have wT := zb_wT b1.1 (Int.le_trans b1.2 (Int.ofNat_le.mpr (Nat.le_of_lt hi)))
    have ts := hT.2.2.1 i n
    rw [qL0_longestCommon_58, if_pos nB, zm_e (zl_gF gL la 4 7), zm_e (zl_aI gL (zb_l7 la) i0 i1), Int.toNat_natCast, e1, zm_e (zl_gF gL la 4 7), zb_wm n100, zm_e el]
    dsimp only
    by_cases ce : za_nth A i = za_nth B n
    · rw [if_pos ce] at ts
      rw [if_pos ce, wT, ← ts, zm_e (zl_wI gL (zb_l7 la) i0 i1 _), Int.toNat_natCast, zb_wp n1100]
      exact y1
    · rw [if_neg ce] at ts
      rw [if_neg ce, zm_e (zl_gF gL la 4 7), zm_e (zl_aI gL (zb_l7 la) j0 j1), Int.toNat_natCast, e0, ← ts, zm_e (zl_wI gL (zb_l7 la) i0 i1 _), Int.toNat_natCast, zb_wp n1100]
      exact y1
theorem zb_lc34 {d : Nat} {c : Nat → Int} {g0 : zv_H} {s t : Int} {A B : List Int} {T : Nat → Nat → Int} (hT : zb_ok (za_nth A) (za_nth B) T) (hs : zm_st c s) (ht : zm_st c t) (hA : za_D c s A) (hB : za_D c t B) (ha : A.length ≤ 120) (hb : B.length ≤ 120) (eA : ∀ g, zt_U a c g → zv_I g (zt_r a s) 12 = A.length) : ∀ (r i : Nat) (g : zv_H), i + r = A.length → zt_L g → zt_U a c g → zt_q g0 g → (∀ j : Nat, j ≤ B.length → zv_I g (a + 7) j = T i j) → ∃ g', L0_longestCommon_34 (d + 2) a (zt_r a s) (zt_r a t) (B.length : Int) (i : Int) g = some (some (zv_i (T A.length B.length)), g') ∧ zt_L g'
  | 0, i, g, hi, gL, U, q, z => by
    have la := zt_U_la U
    refine ⟨g, ?_, gL⟩
    rw [qL0_longestCommon_34, zm_e (zl_gI gL (zt_r_l la hs.1) 12), eA g U, if_neg (by omega), zm_e (zl_gF gL la 4 7), show max ((B.length : Nat) : Int) 0 = B.length by omega, zm_e (zl_aI gL (zb_l7 la) (by omega) (by omega)), Int.toNat_natCast, z _ (Nat.le_refl _), show i = A.length by omega]
  | r + 1, i, g, hi, gL, U, q, z => by
    have la := zt_U_la U
    have el := za_letterAt (d := d) gL U hs hA i
    obtain ⟨g1, y1, L1, U1, q1, z1⟩ := zb_lc58 (d := d) (s := s) (g0 := g0) (A := A) hT ht hB hb (i := i) (zt_r a s) (by omega) B.length 0 g (Nat.zero_add _) gL U q (fun j hj => by
      rw [show j = 0 by omega, hT.1, z 0 (Nat.zero_le _), hT.1]) (fun j _ h2 => z j h2)
    obtain ⟨g', y2, L2⟩ := zb_lc34 (d := d) (g0 := g0) hT hs ht hA hB ha hb eA r (i + 1) g1 (by omega) L1 U1 q1 z1
    refine ⟨g', ?_, L2⟩
    rw [hT.1] at y1
    rw [qL0_longestCommon_34, zm_e (zl_gI gL (zt_r_l la hs.1) 12), eA g U, if_pos (by omega), zm_e el]
    dsimp only
    exact (show L0_longestCommon_58 (d + 2) a (zt_r a s) (zt_r a t) (B.length : Int) (i : Int) (za_nth A i) 0 1 g = _ from y1).trans y2
theorem zb_lc {d : Nat} {c : Nat → Int} {s t : Int} (gL : zt_L g) (U : zt_U a c g) (hs : zm_st c s) (ht : zm_st c t) {A B : List Int} (hA : za_D c s A) (hB : za_D c t B) (ha : A.length ≤ 120) (hb : B.length ≤ 120) : ∃ g', C0_longestCommon (d + 3) a (zt_r a s) (zt_r a t) g = some (zb_T (za_nth A) (za_nth B) A.length B.length, g') ∧ zt_L g' := by
  have la := zt_U_la U
  have eA : ∀ {s : Int} {A : List Int}, zm_st c s → za_D c s A → ∀ g, zt_U a c g → zv_I g (zt_r a s) 12 = A.length := fun hs hA g U => by
    obtain ⟨l, h1, h2⟩ := hA
    rw [zt_S_ln (zt_U_st U _ hs) l h1, h2, List.length_map]
  obtain ⟨g1, y1, L1, U1, q1, z1⟩ := zb_lc2 (d := d + 2) (g0 := g) (c := c) (a := a) (zt_r a s) (zt_r a t) 121 0 g rfl gL U (zt_q_r g) (fun j hj => absurd hj (by omega))
  obtain ⟨g', y2, L2⟩ := zb_lc34 (d := d) (g0 := g) (zb_T_ok _ _) hs ht hA hB ha hb (eA hs hA) A.length 0 g1 (Nat.zero_add _) L1 U1 q1 (fun j hj => z1 j (by omega))
  refine ⟨g', lC0_longestCommon (zl_ob gL la) ?_, L2⟩
  rw [qE0_longestCommon]
  refine (show L0_longestCommon_2 (d + 2) a (zt_r a s) (zt_r a t) 0 g = _ from y1).trans ?_
  rw [qL0_longestCommon_2, if_neg (by decide), zm_e (zl_gI L1 (zt_r_l la ht.1) 12), eA ht hB g1 U1, show min ((B.length : Nat) : Int) 120 = B.length by omega]
  exact y2
/-! the reference -/
theorem zb_67 {D na nb : Nat} (ha : na ≤ 120) (hb : nb ≤ 120) {x y : Nat → Int} {T : Nat → Nat → Int} (hT : zb_ok x y T) {r : Nat} (hr : r ≤ na) : ∀ (n q : Nat) (h : zv_H), q + n = nb + 1 → zm_M h → (∀ i : Nat, i < na → zv_I h 356 i = x i) → (∀ j : Nat, j < nb → zv_I h 357 j = y j) → (∀ i j : Nat, i < r → j ≤ nb → zv_I h 371 (121 * i + j) = T i j) → (∀ j : Nat, j < q → zv_I h 371 (121 * r + j) = T r j) → ∃ h', L9_least_67 D 347 na nb 121 r q h = L9_least_58 D 347 na nb 121 ((r + 1 : Nat) : Int) h' ∧ zm_F [371] [] h h' ∧ ∀ i j : Nat, i < r + 1 → j ≤ nb → zv_I h' 371 (121 * i + j) = T i j
  | 0, q, h, hq, hM, hx, hy, t1, t2 => by
    refine ⟨h, by rw [qL9_least_67, if_neg (by omega), zm_w (by omega)]; rfl, zm_F_r _ _ h, fun i j hi hj => ?_⟩
    by_cases e : i = r
    · rw [e]
      exact t2 j (by omega)
    · exact t1 i j (by omega) hj
  | n + 1, q, h, hq, hM, hx, hy, t1, t2 => by
    have qb : q ≤ nb := by omega
    have q120 : q ≤ 120 := by omega
    have r120 : r ≤ 120 := by omega
    have qi : (q : Int) ≤ (nb : Int) := by omega
    have ix := zb_ix r120 q120
    have wr : ∀ v : Int, v = T r q → ∃ h', ((zv_wI h 371 ((121 * r + q : Nat) : Int) v).bind fun g => L9_least_67 D 347 na nb 121 r ((q + 1 : Nat) : Int) g) = L9_least_58 D 347 na nb 121 ((r + 1 : Nat) : Int) h' ∧ zm_F [371] [] h h' ∧ ∀ i j : Nat, i < r + 1 → j ≤ nb → zv_I h' 371 (121 * i + j) = T i j := by
      intro v hv
      rw [zm_e (zm_wI hM zm_l371 rfl ix.1 ix.2 v), Int.toNat_natCast]
      obtain ⟨h', i1, i2, i3⟩ := zb_67 (D := D) ha hb hT hr n (q + 1) (zv_sI h 371 (121 * r + q) v) (by omega) hM (fun i hi => (zy_In _ _ (fun w => absurd w.1 (by decide))).trans (hx i hi)) (fun j hj => (zy_In _ _ (fun w => absurd w.1 (by decide))).trans (hy j hj)) (fun i j hi hj => (zy_In _ _ (zb_ne hi (Nat.le_trans hj hb))).trans (t1 i j hi hj)) (fun j hj => by
        by_cases e : j = q
        · rw [e, zy_I]
          exact hv
        · exact (zy_In _ _ (zb_ne2 e)).trans (t2 j (by omega)))
      exact ⟨h', i1, zm_F_t (zm_F_I (zm_F_r _ _ h) rfl _ _) i2, i3⟩
    rw [qL9_least_67, if_pos qi, zb_wp (by omega), zb_w121 (Nat.le_succ_of_le r120) (Nat.le_succ_of_le q120)]
    by_cases c1 : (r : Int) ≤ 0
    · rw [if_pos c1, zm_e (zm_f45 hM)]
      exact wr 0 (by rw [show r = 0 by omega, hT.2.1])
    · rw [if_neg c1]
      by_cases c2 : (q : Int) ≤ 0
      · rw [if_pos c2, zm_e (zm_f45 hM)]
        exact wr 0 (by rw [show q = 0 by omega, hT.1])
      · obtain ⟨r', rfl⟩ : ∃ r' : Nat, r = r' + 1 := ⟨r - 1, by omega⟩
        obtain ⟨q', rfl⟩ : ∃ q' : Nat, q = q' + 1 := ⟨q - 1, by omega⟩
        have r1 : r' ≤ 120 := by omega
        have q1 : q' ≤ 120 := by omega
        have rn : r' < na := by omega
        have qn : q' < nb := by omega
        have r100 : r' < 100000 := by omega
        have q100 : q' < 100000 := by omega
        have ra : (0 : Int) ≤ (r' : Int) ∧ (r' : Int) < ((640 : Nat) : Int) := by omega
        have qa : (0 : Int) ≤ (q' : Int) ∧ (q' : Int) < ((640 : Nat) : Int) := by omega
        have x1 := zb_ix r1 q120
        have x2 := zb_ix r1 q1
        have x3 := zb_ix r120 q1
        rw [if_neg c2, zb_wm r100, zb_wm q100, zb_w121 (Nat.le_succ_of_le r1) (Nat.le_succ_of_le q120), zb_wq (Nat.le_succ_of_le r120) (Nat.le_succ_of_le q1), zb_wq (Nat.le_succ_of_le r1) (Nat.le_succ_of_le q1)]
        rw [zm_e (zm_f45 hM), zm_e (zm_aI hM zm_l371 rfl x1.1 x1.2), Int.toNat_natCast, t1 r' (q' + 1) (Nat.lt_succ_self _) qb, zm_e (zm_f45 hM), zm_e (zm_aI hM zm_l371 rfl x3.1 x3.2), Int.toNat_natCast, t2 q' (Nat.lt_succ_self _), zm_e (zm_f13 hM), zm_e (zm_aI hM zm_l356 rfl ra.1 ra.2), Int.toNat_natCast, hx r' rn, zm_e (zm_f14 hM), zm_e (zm_aI hM zm_l357 rfl qa.1 qa.2), Int.toNat_natCast, hy q' qn]
        have ts := hT.2.2.1 r' q'
        have b1 := hT.2.2.2 r' q'
        have wT := zb_wT b1.1 (Int.le_trans b1.2 (Int.ofNat_le.mpr (Nat.le_of_lt r100)))
        by_cases c3 : x r' = y q'
        · rw [if_pos c3] at ts
          rw [if_pos c3, zm_e (zm_f45 hM), zm_e (zm_aI hM zm_l371 rfl x2.1 x2.2), Int.toNat_natCast, t1 r' q' (Nat.lt_succ_self _) (Nat.le_of_lt qn), zm_e (zm_f45 hM), wT]
          exact wr _ ts.symm
        · rw [if_neg c3] at ts
          rw [if_neg c3]
          by_cases c4 : T r' (q' + 1) ≤ T (r' + 1) q'
          · rw [if_pos c4, zm_e (zm_f45 hM)]
            exact wr _ (ts.trans (Int.max_eq_right c4)).symm
          · rw [if_neg c4, zm_e (zm_f45 hM)]
            exact wr _ (ts.trans (Int.max_eq_left (Int.le_of_lt (Int.not_le.mp c4)))).symm
theorem zb_58 {D na nb : Nat} (ha : na ≤ 120) (hb : nb ≤ 120) {x y : Nat → Int} {T : Nat → Nat → Int} (hT : zb_ok x y T) : ∀ (n r : Nat) (h : zv_H), r + n = na + 1 → zm_M h → (∀ i : Nat, i < na → zv_I h 356 i = x i) → (∀ j : Nat, j < nb → zv_I h 357 j = y j) → (∀ i j : Nat, i < r → j ≤ nb → zv_I h 371 (121 * i + j) = T i j) → ∃ h', L9_least_58 D 347 na nb 121 r h = some (some (zv_i (zv_w (zv_w ((na : Int) + nb) - zv_w (2 * T na nb)))), h')
  | 0, r, h, hr, hM, hx, hy, t1 => by
    have w2 : zv_w (zv_w (121 * (na : Int)) + nb) = ((121 * na + nb : Nat) : Int) := by
      rw [zm_w (x := 121 * (na : Int)) (by omega), zm_w (by omega)]
      omega
    refine ⟨h, ?_⟩
    rw [qL9_least_58, if_neg (by omega), zm_e (zm_f45 hM), w2, zm_e (zm_aI hM zm_l371 rfl (by omega) (by omega)), Int.toNat_natCast, t1 na nb (by omega) (Nat.le_refl _)]
  | n + 1, r, h, hr, hM, hx, hy, t1 => by
    obtain ⟨h1, i1, f1, t2⟩ := zb_67 (D := D) ha hb hT (r := r) (by omega) (nb + 1) 0 h (by omega) hM hx hy t1 (fun j hj => absurd hj (by omega))
    obtain ⟨h2, i2⟩ := zb_58 (D := D) ha hb hT n (r + 1) h1 (by omega) (zm_F_M f1 hM) (fun i hi => by rw [zm_F_a f1 356]; exact hx i hi) (fun j hj => by rw [zm_F_a f1 357]; exact hy j hj) t2
    refine ⟨h2, ?_⟩
    rw [qL9_least_58, if_pos (by omega)]
    exact (show L9_least_67 D 347 na nb 121 r 0 h = _ from i1).trans i2
theorem zp_least {d D : Nat} (hA : zc_A g) (I : zm_MI k) (S : zt_GG m a b g k) (s t : Int) : ∃ v g' k', C8_least (d + 28) 1 s t g = some (v, g') ∧ C9_least (D + 28) 347 s t k = some (v, k') := by
  have gL := zt_L_A hA
  have hM := I.1
  have l1 : zv_lay 1 = (1, 8) := rfl
  have la := (zt_lab (zt_GG_ab S)).1
  have qC := qE8_least (d + 27) 1 s t g
  have qR := qE9_least (D + 27) 347 s t k
  rw [zm_e (zp_e3 hA S), zm_e (za_at (d := d + 26) hA S s)] at qC
  dsimp only at qC
  rw [zm_e (zp_e3 hA S), zm_e (za_at (d := d + 26) hA S t)] at qC
  dsimp only at qC
  rw [zm_e (zm_isState hM (D + 25) s)] at qR
  dsimp only at qR
  by_cases hs : zm_st (zv_I k 348) s
  rotate_left
  · rw [if_neg hs, if_pos rfl, qL8_least_28, za_ref gL] at qC
    rw [if_neg hs, if_pos rfl, qL9_least_21, qL9_least_22, za_isn hM (by decide)] at qR
    exact ⟨_, _, _, lC8_least (zl_ob gL l1) qC, lC9_least (zm_ob hM) qR⟩
  rw [if_pos hs, if_neg (za_r0 S hs)] at qC
  rw [if_pos hs, if_neg (by decide), zm_e (zm_isState hM (D + 25) t)] at qR
  dsimp only at qR
  by_cases ht : zm_st (zv_I k 348) t
  rotate_left
  · rw [if_neg ht, if_pos rfl, qL8_least_28, za_ref gL] at qC
    rw [if_neg ht, if_pos rfl, qL9_least_21, qL9_least_22, za_isn hM (by decide)] at qR
    exact ⟨_, _, _, lC8_least (zl_ob gL l1) qC, lC9_least (zm_ob hM) qR⟩
  obtain ⟨k1, i1, F1⟩ := zp_is hM
  have S1 := zt_GG_F S F1
  have M1 := zm_F_M F1 hM
  have U := zt_H_U (zt_GG_H S1)
  have W := zt_U_W U
  have e348 : zv_I k1 348 = zv_I k 348 := zm_F_a F1 348
  have hs1 : zm_st (zv_I k1 348) s := by rw [e348]; exact hs
  have ht1 : zm_st (zv_I k1 348) t := by rw [e348]; exact ht
  obtain ⟨A, hDA, na⟩ := za_D_ex S1 hs1
  obtain ⟨B, hDB, nb⟩ := za_D_ex S1 ht1
  have eA := (za_D_n S1 hs1 hDA).1
  have eB := (za_D_n S1 ht1 hDB).1
  obtain ⟨k2, e2, F2, x2⟩ := za_copies (D := D + 22) M1 rfl W hs1 hDA (Or.inl rfl)
  have M2 := zm_F_M F2 M1
  obtain ⟨k3, e3, F3, x3⟩ := za_copies (D := D + 22) M2 (zm_F_a F2 348) W ht1 hDB (Or.inr rfl)
  have M3 := zm_F_M F3 M2
  obtain ⟨k4, e4⟩ := zb_58 (D := D + 27) na nb (zb_T_ok (za_nth A) (za_nth B)) (A.length + 1) 0 k3 (Nat.zero_add _) M3 (fun i hi => by
    rw [zm_F_a F3 356, za_nth_in hi]
    exact x2 i hi) (fun j hj => by
    rw [za_nth_in hj]
    exact x3 j hj) (fun i j hi _ => absurd hi (by omega))
  obtain ⟨g', y1, L1⟩ := zb_lc (d := d + 24) gL U hs1 ht1 hDA hDB na nb
  rw [if_pos ht, if_neg (za_r0 S ht), zm_e (zl_gI gL (zt_r_l la hs.1) 12), eA, zm_e (zl_gI gL (zt_r_l la ht.1) 12), eB, zm_e (zp_e3 hA S), zm_e y1] at qC
  dsimp only at qC
  rw [za_giv L1] at qC
  rw [if_pos ht, if_neg (by decide), qL9_least_22, za_isy i1] at qR
  dsimp only at qR
  rw [zm_e (zm_f13 M1), zm_e e2] at qR
  dsimp only at qR
  rw [zm_e (zm_f14 M2), zm_e e3] at qR
  dsimp only at qR
  rw [show L9_least_58 (D + 27) 347 (A.length : Int) (B.length : Int) 121 0 k3 = _ from e4] at qR
  exact ⟨_, _, _, lC8_least (zl_ob gL l1) qC, lC9_least (zm_ob hM) qR⟩
end
