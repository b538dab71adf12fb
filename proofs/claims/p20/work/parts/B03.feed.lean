/-! ===== the tie: bytes fed ===== -/
theorem zt_i2b (y : Int) : zv_i2b y = (y.bmod (2 ^ 32)).bmod (2 ^ 8) := by
  unfold zv_i2b
  rw [Int8.toInt_toInt32, Int32.toInt_toInt8, Int32.toInt_ofInt]
theorem zt_i2b_id {y : Int} (h : -128 ≤ y ∧ y ≤ 127) : zv_i2b y = y := by
  rw [zt_i2b, Int.bmod_def, Int.bmod_def]
  split <;> split <;> omega
/-- the low byte behind a shift, on both sides -/
theorem zt_lob (x : Int) {s : Int} {n : Nat} (hs : (s = 0 ∧ n = 0) ∨ (s = 8 ∧ n = 8) ∨ (s = 16 ∧ n = 16) ∨ (s = 24 ∧ n = 24)) : ∃ v : BitVec 8, zv_i2b (zv_shr x s) = v.toInt ∧ zv_and (zv_ushr x s) 255 = (v.toNat : Int) := by
  have n24 : n ≤ 24 := by omega
  refine ⟨((BitVec.ofInt 32 x) >>> n).setWidth 8, ?_, ?_⟩
  · have e1 : (Int32.ofInt x >>> (Int32.ofInt s &&& 31)).toBitVec = (BitVec.ofInt 32 x).sshiftRight n := by
      rcases hs with ⟨rfl, rfl⟩ | ⟨rfl, rfl⟩ | ⟨rfl, rfl⟩ | ⟨rfl, rfl⟩ <;> rfl
    have e2 : ((Int32.ofInt x >>> (Int32.ofInt s &&& 31)).toInt8).toBitVec = ((BitVec.ofInt 32 x) >>> n).setWidth 8 := by
      show BitVec.signExtend 8 (Int32.ofInt x >>> (Int32.ofInt s &&& 31)).toBitVec = _
      rw [e1]
      refine BitVec.eq_of_getLsbD_eq (fun i hi => ?_)
      rw [BitVec.getLsbD_signExtend, BitVec.getLsbD_sshiftRight, BitVec.getLsbD_setWidth, BitVec.getLsbD_ushiftRight]
      have h1 : i < 32 := by omega
      have h2 : n + i < 32 := by omega
      have h3 : ¬ 32 ≤ i := by omega
      simp only [h1, h2, h3, hi, decide_true, decide_false, Bool.not_false, Bool.true_and, if_true]
    unfold zv_i2b zv_shr
    rw [Int32.ofInt_toInt, Int8.toInt_toInt32]
    exact congrArg BitVec.toInt e2
  · have e4 : (((Int32.ofInt x).toUInt32 >>> ((Int32.ofInt s).toUInt32 &&& Int32.toUInt32 31)).toInt32).toBitVec = (BitVec.ofInt 32 x) >>> n := by
      rcases hs with ⟨rfl, rfl⟩ | ⟨rfl, rfl⟩ | ⟨rfl, rfl⟩ | ⟨rfl, rfl⟩ <;> rfl
    unfold zv_and zv_ushr
    rw [Int32.ofInt_toInt]
    refine zc_toInt ((((Int32.ofInt x).toUInt32 >>> ((Int32.ofInt s).toUInt32 &&& Int32.toUInt32 31)).toInt32) &&& Int32.ofInt 255).toBitVec ?_ ?_
    · rw [Int32.toBitVec_and, e4, BitVec.toNat_and, BitVec.toNat_setWidth]
      exact Nat.and_two_pow_sub_one_eq_mod _ 8
    · have := (((BitVec.ofInt 32 x) >>> n).setWidth 8).isLt
      omega
theorem zt_fb (x : Int) {s : Int} (hs : s = 0 ∨ s = 8 ∨ s = 16 ∨ s = 24) : zv_i2b (zv_i2b (zv_shr x s)) = zt_sb (zv_and (zv_ushr x s) 255) ∧ 0 ≤ zv_and (zv_ushr x s) 255 ∧ zv_and (zv_ushr x s) 255 ≤ 255 := by
  obtain ⟨v, e1, e2⟩ : ∃ v : BitVec 8, zv_i2b (zv_shr x s) = v.toInt ∧ zv_and (zv_ushr x s) 255 = (v.toNat : Int) := by
    rcases hs with e | e | e | e
    · exact zt_lob x (n := 0) (Or.inl ⟨e, rfl⟩)
    · exact zt_lob x (n := 8) (Or.inr (Or.inl ⟨e, rfl⟩))
    · exact zt_lob x (n := 16) (Or.inr (Or.inr (Or.inl ⟨e, rfl⟩)))
    · exact zt_lob x (n := 24) (Or.inr (Or.inr (Or.inr ⟨e, rfl⟩)))
  have l := v.isLt
  have l2 : v.toNat < 256 := l
  have ev : v.toInt = zt_sb (v.toNat : Int) := by
    rw [BitVec.toInt_eq_toNat_cond]
    unfold zt_sb
    split <;> split <;> omega
  have r : -128 ≤ v.toInt ∧ v.toInt ≤ 127 := by
    rw [ev]
    unfold zt_sb
    split <;> omega
  rw [e1, e2, zt_i2b_id r, ev]
  exact ⟨rfl, by omega, by omega⟩
/-- the bytes on both tapes -/
def zt_tp (g k : zv_H) (p : Nat) : Prop := ∀ i : Nat, i < p → (0 ≤ zv_I g 6 i ∧ zv_I g 6 i ≤ 255) ∧ zv_I k 366 i = zt_sb (zv_I g 6 i)
/-- but for the class's tape -/
def zt_wt5 (g g' : zv_H) : Prop := g'.1 = g.1 ∧ g'.2.2 = g.2.2 ∧ ∀ r i, r ≠ 6 → ¬ (r = 5 ∧ i = 2) → zv_I g' r i = zv_I g r i
theorem zt_wt5_L {g g' : zv_H} (gL : zt_L g) (f : zt_wt5 g g') : zt_L g' := by
  refine ⟨?_, fun r i h1 h2 => ?_, fun x i h1 h2 => ?_⟩
  · unfold zv_n
    rw [f.1]
    exact gL.1
  · unfold zv_R
    rw [f.2.1]
    exact gL.2.1 r i h1 h2
  · unfold zv_R
    rw [f.2.1]
    exact gL.2.2 x i h1 h2
theorem zt_wt5_t {g g1 g2 : zv_H} (f : zt_wt5 g g1) (h : zt_wt5 g1 g2) : zt_wt5 g g2 := ⟨h.1.trans f.1, h.2.1.trans f.2.1, fun r i q1 q2 => (h.2.2 r i q1 q2).trans (f.2.2 r i q1 q2)⟩
theorem zt_addByte {d : Nat} {g : zv_H} (gL : zt_L g) {p : Nat} (hp : zv_I g 5 2 = p) (h7 : p < 700) (v : Int) : C3_addByte (d + 1) 5 v g = some (zv_sI (zv_sI g 6 p v) 5 2 ((p + 1 : Nat) : Int)) := by
  refine lC3_addByte (zl_ob gL zt_lay5) ?_
  have e6 : zv_gR g 5 3 0 = some 6 := zl_gF gL zt_lay5 0 1
  have L1 : zt_L (zv_sI g 6 p v) := gL
  have e2 : zv_I (zv_sI g 6 p v) 5 2 = p := (zy_In _ _ (fun q => absurd q.1 (by decide))).trans hp
  rw [qE3_addByte, zm_e (zl_gI gL zt_lay5 2), hp, if_neg (by omega), zm_e (zl_gI gL zt_lay5 2), hp, if_pos (by omega), zm_e e6, zm_e (zl_gI gL zt_lay5 2), hp, zm_e (zl_wI gL zt_lay6 (by omega) (by omega) v)]
  rw [Int.toNat_natCast, zm_e (zl_gI L1 zt_lay5 2), e2, zm_w (by omega), zm_e (zl_pI L1 zt_lay5 2 _)]
  rfl
/-- some bytes of one int -/
theorem zj_lays {d D : Nat} (x : Int) : ∀ (m : Nat) (g k : zv_H) (p : Nat), m ≤ 4 → zt_L g → zm_M k → zv_I g 5 2 = p → zv_I k 347 27 = p → p + m ≤ 700 → zt_tp g k p → ∃ g' k', L8_feedInt_3 (d + 1) 1 x (8 * (m : Int) - 8) g = some (none, g') ∧ L9_lays_3 D 347 x (8 * (m : Int) - 8) k = some (none, k') ∧ zt_wt5 g g' ∧ zm_F [366] [27] k k' ∧ zv_I g' 5 2 = ((p + m : Nat) : Int) ∧ zv_I k' 347 27 = ((p + m : Nat) : Int) ∧ zt_tp g' k' (p + m)
  | 0, g, k, p, hm, gL, hM, hp, hq, h7, tp => ⟨g, k, by rw [qL8_feedInt_3, if_pos (by omega)], by rw [qL9_lays_3, if_pos (by omega)], ⟨rfl, rfl, fun _ _ _ _ => rfl⟩, zm_F_r _ _ k, hp, hq, tp⟩
  | m + 1, g, k, p, hm, gL, hM, hp, hq, h7, tp => by
    have w1 : zv_w (8 * ((m + 1 : Nat) : Int) - 8 + -8) = 8 * (m : Int) - 8 := by
      rw [zm_w (by omega)]
      omega
    have e5 : zv_gR g 1 8 2 = some 5 := zl_gF gL (show zv_lay 1 = (1, 8) from rfl) 2 4
    obtain ⟨b1, b2, b3⟩ := zt_fb x (s := 8 * ((m + 1 : Nat) : Int) - 8) (by omega)
    rw [qL8_feedInt_3, if_neg (by omega), zm_e e5, zm_e (zt_addByte (d := d) gL hp (by omega) _), qL9_lays_3, if_neg (by omega), zm_e (zm_f26 hM), zm_e (zm_gI hM 27), hq, zm_e (zm_wB4 hM zm_l366 rfl (by omega) (by omega) _), w1, Int.toNat_natCast, b1]
    generalize zv_and (zv_ushr x (8 * ((m + 1 : Nat) : Int) - 8)) 255 = y at b2 b3
    have f1 : zm_F [366] [27] k (zv_sI k 366 p (zt_sb y)) := zm_F_I (zm_F_r _ _ k) rfl _ _
    have hM1 := zm_F_M f1 hM
    have e1 : zv_I (zv_sI k 366 p (zt_sb y)) 347 27 = p := (zy_In _ _ (fun q => absurd q.1 (by decide))).trans hq
    rw [zm_e (zm_gI hM1 27), e1, zm_w (by omega), zm_e (zm_pI hM1 27 _)]
    have f2 : zm_F [366] [27] k (zv_sI (zv_sI k 366 p (zt_sb y)) 347 27 ((p : Int) + 1)) := zm_F_f f1 rfl _
    have L2 : zt_L (zv_sI (zv_sI g 6 p y) 5 2 ((p + 1 : Nat) : Int)) := gL
    have c1 : zt_wt5 g (zv_sI (zv_sI g 6 p y) 5 2 ((p + 1 : Nat) : Int)) := ⟨rfl, rfl, fun r i q1 q2 => (zy_In _ _ q2).trans (zy_In _ _ (fun q => q1 q.1))⟩
    have p1 : zv_I (zv_sI (zv_sI g 6 p y) 5 2 ((p + 1 : Nat) : Int)) 5 2 = ((p + 1 : Nat) : Int) := zy_I _ _ _ _
    have p2 : zv_I (zv_sI (zv_sI k 366 p (zt_sb y)) 347 27 ((p : Int) + 1)) 347 27 = ((p + 1 : Nat) : Int) := (zy_I _ _ _ _).trans (by omega)
    have t1 : zt_tp (zv_sI (zv_sI g 6 p y) 5 2 ((p + 1 : Nat) : Int)) (zv_sI (zv_sI k 366 p (zt_sb y)) 347 27 ((p : Int) + 1)) (p + 1) := fun i hi => by
      have ek : zv_I (zv_sI (zv_sI k 366 p (zt_sb y)) 347 27 ((p : Int) + 1)) 366 i = zv_I (zv_sI k 366 p (zt_sb y)) 366 i := zy_In _ _ (fun q => absurd q.1 (by decide))
      have eg : zv_I (zv_sI (zv_sI g 6 p y) 5 2 ((p + 1 : Nat) : Int)) 6 i = zv_I (zv_sI g 6 p y) 6 i := zy_In _ _ (fun q => absurd q.1 (by decide))
      rw [ek, eg]
      by_cases c : i = p
      · subst c
        rw [zy_I, zy_I]
        exact ⟨⟨b2, b3⟩, rfl⟩
      · rw [zy_In _ _ (fun q => c q.2), zy_In _ _ (fun q => c q.2)]
        exact tp i (by omega)
    generalize zv_sI (zv_sI g 6 p y) 5 2 ((p + 1 : Nat) : Int) = g1 at L2 c1 p1 t1
    generalize zv_sI (zv_sI k 366 p (zt_sb y)) 347 27 ((p : Int) + 1) = k1 at f2 p2 t1
    obtain ⟨g', k', i1, i2, i3, i4, i5, i6, i7⟩ := zj_lays (d := d) (D := D) x m g1 k1 (p + 1) (by omega) L2 (zm_F_M f2 hM) p1 p2 (by omega) t1
    have ep : p + 1 + m = p + (m + 1) := by omega
    rw [ep] at i5 i6 i7
    exact ⟨g', k', i1, i2, zt_wt5_t c1 i3, zm_F_t f2 i4, i5, i6, i7⟩
theorem zj_feed1 {d D : Nat} (x : Int) {g k : zv_H} {p : Nat} (gL : zt_L g) (hM : zm_M k) (hp : zv_I g 5 2 = p) (hq : zv_I k 347 27 = p) (h7 : p + 4 ≤ 700) (tp : zt_tp g k p) : ∃ g' k', C8_feedInt (d + 2) 1 x g = some g' ∧ C9_lays (D + 1) 347 x k = some k' ∧ zt_wt5 g g' ∧ zm_F [366] [27] k k' ∧ zv_I g' 5 2 = ((p + 4 : Nat) : Int) ∧ zv_I k' 347 27 = ((p + 4 : Nat) : Int) ∧ zt_tp g' k' (p + 4) := by
  obtain ⟨g', k', i1, i2, i3⟩ := zj_lays (d := d) (D := D) x 4 g k p (Nat.le_refl _) gL hM hp hq h7 tp
  refine ⟨g', k', lC8_feedInt (zl_ob gL (show zv_lay 1 = (1, 8) from rfl)) ?_, lC9_lays (zm_ob hM) ?_, i3⟩
  · rw [qE8_feedInt]
    exact i1
  · rw [qE9_lays]
    exact i2
section
variable {a b m : Nat} {g k : zv_H}
theorem zp_feed {d D : Nat} (hA : zc_A g) (I : zm_MI k) (S : zt_GG m a b g k) (ts : zv_I g 5 2 = zv_I k 347 27) (x1 x2 x3 x4 x5 : Int) : ∃ v g' k', C8_feed (d + 10) 1 x1 x2 x3 x4 x5 g = some (v, g') ∧ C9_feed (D + 10) 347 x1 x2 x3 x4 x5 k = some (v, k') ∧ zt_GG m a b g' k' := by
  have gL := zt_L_A hA
  have hM := I.1
  have l1 : zv_lay 1 = (1, 8) := rfl
  have i4 := I.2.2.2.1
  obtain ⟨p, hq⟩ : ∃ p : Nat, zv_I k 347 27 = p := ⟨(zv_I k 347 27).toNat, by omega⟩
  have hp : zv_I g 5 2 = p := ts.trans hq
  have e5 : ∀ {g : zv_H}, zt_L g → zv_gR g 1 8 2 = some 5 := fun {g} h => zl_gF h l1 2 4
  have f0 : zm_F [366] [4, 27] k (zv_sI k 347 4 0) := zm_F_f (zm_F_r _ _ k) rfl _
  have q0 : zv_I (zv_sI k 347 4 0) 347 27 = p := (zy_In _ _ (fun q => absurd q.2 (by decide))).trans hq
  have t0 : zt_tp g (zv_sI k 347 4 0) p := fun i hi => by
    rw [show zv_I (zv_sI k 347 4 0) 366 i = zv_I k 366 i from zy_In _ _ (fun q => absurd q.1 (by decide))]
    exact zt_GG_tp S i (by rw [hq]; omega)
  have qC := qE8_feed (d + 9) 1 x1 x2 x3 x4 x5 g
  rw [zm_e (e5 gL), zm_e (zl_gI gL zt_lay5 2), hp, zm_w (by omega)] at qC
  have qR := qE9_feed (D + 9) 347 x1 x2 x3 x4 x5 k
  rw [zm_e (zm_pI hM 4 0)] at qR
  generalize zv_sI k 347 4 0 = k0 at f0 q0 t0 qR
  have M0 := zm_F_M f0 hM
  rw [zm_e (zm_gI M0 27), q0, zm_w (by omega)] at qR
  by_cases c : (p : Int) + 20 ≤ 700
  · obtain ⟨g1, k1, a1, b1, c1, F1, p1, r1, t1⟩ := zj_feed1 (d := d + 7) (D := D + 8) x1 gL M0 hp q0 (by omega) t0
    have L1 := zt_wt5_L gL c1
    have M1 := zm_F_M F1 M0
    obtain ⟨g2, k2, a2, b2, c2, F2, p2, r2, t2⟩ := zj_feed1 (d := d + 7) (D := D + 8) x2 L1 M1 p1 r1 (by omega) t1
    have L2 := zt_wt5_L L1 c2
    have M2 := zm_F_M F2 M1
    obtain ⟨g3, k3, a3, b3, c3, F3, p3, r3, t3⟩ := zj_feed1 (d := d + 7) (D := D + 8) x3 L2 M2 p2 r2 (by omega) t2
    have L3 := zt_wt5_L L2 c3
    have M3 := zm_F_M F3 M2
    obtain ⟨g4, k4, a4, b4, c4, F4, p4, r4, t4⟩ := zj_feed1 (d := d + 7) (D := D + 8) x4 L3 M3 p3 r3 (by omega) t3
    have L4 := zt_wt5_L L3 c4
    have M4 := zm_F_M F4 M3
    obtain ⟨g5, k5, a5, b5, c5, F5, p5, r5, t5⟩ := zj_feed1 (d := d + 7) (D := D + 8) x5 L4 M4 p4 r4 (by omega) t4
    have L5 := zt_wt5_L L4 c5
    have M5 := zm_F_M F5 M4
    rw [if_pos c, zm_e a1, zm_e a2, zm_e a3, zm_e a4, zm_e a5, zm_e (e5 L5), zm_e (zl_gI L5 zt_lay5 2), p5] at qC
    rw [if_pos c, zm_e b1, zm_e b2, zm_e b3, zm_e b4, zm_e b5, zm_e (zm_gI M5 27), r5] at qR
    have cc : zt_wt5 g g5 := zt_wt5_t c1 (zt_wt5_t c2 (zt_wt5_t c3 (zt_wt5_t c4 c5)))
    have F : zm_F [366] [4, 27] k k5 := zm_F_t f0 (zm_F_t (zm_F_s F1 rfl rfl) (zm_F_t (zm_F_s F2 rfl rfl) (zm_F_t (zm_F_s F3 rfl rfl) (zm_F_t (zm_F_s F4 rfl rfl) (zm_F_s F5 rfl rfl)))))
    refine ⟨_, g5, k5, lC8_feed (zl_ob gL l1) qC, lC9_feed (zm_ob hM) qR, ?_⟩
    have eR : ∀ r i, zv_R g5 r i = zv_R g r i := fun r i => by unfold zv_R; rw [cc.2.1]
    have eJ : ∀ r i, zv_J g5 r i = zv_J g r i := fun r i => by unfold zv_J; rw [cc.2.1]
    have lab := zt_lab (zt_GG_ab S)
    refine ⟨(eR 1 3).trans (zt_GG_r S), (eR 1 4).trans (zt_GG_s S), zt_GG_ab S, ?_, fun i hi => ?_, fun i hi => ?_, ?_, ?_, ?_, zt_wt_k (zt_GG_wt S) (fun r i hr => cc.2.2 r i (by omega) (by omega)) (zm_F_g F 20) (zm_F_a F 361)⟩
    · rw [zm_F_a F 348]
      exact zt_H_9 (zt_GG_H S) (fun r i hr => cc.2.2 r i (by omega) (by omega)) (fun r i _ => eJ r i) (fun r i _ => eR r i)
    · exact (cc.2.2 _ _ (fun q => by have := zc_sttb (a := b) hi; have := zc_lh lab.2.1; omega) (fun q => by have := zc_sttb (a := b) hi; have := zc_lh lab.2.1; omega)).trans (zt_GG_N S i hi)
    · rw [r5] at hi
      exact t5 i (by omega)
    · rw [zm_F_a F 348]
      exact zt_GG_n1 S
    · rw [zm_F_a F 348]
      exact zt_GG_n2 S
    · rw [cc.2.2 1 7 (by decide) (by decide), cc.2.2 5 8 (by decide) (by decide), cc.2.2 5 9 (by decide) (by decide), zm_F_g F 28, zm_F_g F 29]
      exact zt_GG_fl S
  · rw [if_neg c] at qC qR
    refine ⟨_, g, k0, lC8_feed (zl_ob gL l1) qC, lC9_feed (zm_ob hM) qR, ?_⟩
    refine ⟨zt_GG_r S, zt_GG_s S, zt_GG_ab S, ?_, zt_GG_N S, fun i hi => t0 i (by rw [q0] at hi; omega), ?_, ?_, ?_, zt_wt_k (zt_GG_wt S) (fun _ _ _ => rfl) (zm_F_g f0 20) (zm_F_a f0 361)⟩
    · rw [zm_F_a f0 348]
      exact zt_GG_H S
    · rw [zm_F_a f0 348]
      exact zt_GG_n1 S
    · rw [zm_F_a f0 348]
      exact zt_GG_n2 S
    · rw [zm_F_g f0 28, zm_F_g f0 29]
      exact zt_GG_fl S
end
