/-! ===== the tie: which State goes first ===== -/
theorem zt_nch0 (c : Nat → Int) (s : Int) : 0 ≤ zm_nch c s := by
  have := (zm_sum_le (f := fun k => if zm_st c k ∧ zm_o c k 1 = s then (1 : Int) else 0) (a := 0) (b := 1) (fun k => by
    by_cases q : zm_st c k ∧ zm_o c k 1 = s
    · rw [if_pos q]; decide
    · rw [if_neg q]; decide) 48).1
  rw [Int.mul_zero] at this
  exact this
section
variable {a : Nat} {c : Nat → Int} {g k : zv_H}
theorem zt_count_l {d D : Nat} (gL : zt_L g) (la : zv_lay a = (1, 0)) (N : zt_N a c g) (hM : zm_M k) (hc : zv_I k 348 = c) (x : Int) {m : Nat} (hm : c 3 = m) (h12 : m ≤ 12) : ∀ (n j : Nat) (v : Nat), j + n = m → v ≤ j → ∃ w : Nat, L2_countOf_4 d (a + 14) x v j g = some (some (zv_i w), g) ∧ L9_namesOf_4 D 347 x v j k = some (some (zv_i w), k) := by
  subst hc
  have l14 : zv_lay (a + 14) = (1, 2) := by rcases zc_lh la with e | e <;> rw [e] <;> rfl
  have l16 : zv_lay (a + 14 + 2) = (2, 12) := by rcases zc_lh la with e | e <;> rw [e] <;> rfl
  have i3 : zv_aI k 348 3 = some (m : Int) := by rw [zm_aI hM zm_l348 rfl (by decide) (by decide), show zv_I k 348 (Int.toNat 3) = _ from hm]
  have sz := zt_N_sz N
  rw [hm] at sz
  intro n
  induction n with
  | zero =>
    intro j v hj hv
    have e : j = m := hj
    subst e
    refine ⟨v, ?_, ?_⟩
    · rw [qL2_countOf_4, zm_e (zl_gI gL l14 2), sz, if_neg (Int.lt_irrefl _)]
    · rw [qL9_namesOf_4, zm_e (zm_f0 hM), zm_e i3, if_neg (Int.lt_irrefl _)]
  | succ n ih =>
    intro j v hj hv
    have jm : j < m := by omega
    have jI : (j : Int) < (m : Int) := Int.ofNat_lt.mpr jm
    have j12 : (j : Int) < ((12 : Nat) : Int) := Int.ofNat_lt.mpr (Nat.lt_of_lt_of_le jm h12)
    have w1 : zv_w ((j : Int) + 1) = ((j + 1 : Nat) : Int) := by
      clear sz i3 hm
      rw [zm_w (by omega)]
      rfl
    have v1 : zv_w ((v : Int) + 1) = ((v + 1 : Nat) : Int) := by
      clear sz i3 hm
      rw [zm_w (by omega)]
      rfl
    have v0 : zv_w ((v : Int) + 0) = (v : Int) := by
      clear sz i3 hm
      rw [zm_w (by omega), Int.add_zero]
    have w2 : zv_w (zv_w (408 + zv_w (2 * (j : Int))) + 1) = 409 + 2 * (j : Int) := by
      clear sz i3 hm
      rw [zm_w (x := 2 * (j : Int)) (by omega), zm_w (x := 408 + 2 * (j : Int)) (by omega), zm_w (by omega)]
      omega
    have b1 : 0 ≤ 409 + 2 * (j : Int) ∧ 409 + 2 * (j : Int) < ((4236 : Nat) : Int) ∧ (409 + 2 * (j : Int)).toNat = 409 + 2 * j := by
      clear sz i3 hm
      omega
    have e1 : zv_aI k 348 (409 + 2 * (j : Int)) = some (zv_I k 348 (409 + 2 * j)) := by rw [zm_aI hM zm_l348 rfl b1.1 b1.2.1, b1.2.2]
    have ow := zt_N_ow N j (by rw [hm]; exact jI)
    have e2 : zv_aI g (a + 14 + 2) (j : Int) = some (zv_I k 348 (409 + 2 * j)) := by rw [zl_aI gL l16 (Int.natCast_nonneg _) j12, Int.toNat_natCast, ← ow]
    have j12' : (j : Int) < 12 := j12
    by_cases q : zv_I k 348 (409 + 2 * j) = x
    · obtain ⟨w, y1, y2⟩ := ih (j + 1) (v + 1) (by omega) (by omega)
      refine ⟨w, ?_, ?_⟩
      · rw [qL2_countOf_4, zm_e (zl_gI gL l14 2), sz, if_pos jI, if_pos j12', zm_e (zl_gF gL l14 1 2), zm_e e2, if_pos q, v1, w1]
        exact y1
      · rw [qL9_namesOf_4, zm_e (zm_f0 hM), zm_e i3, if_pos jI, zm_e (zm_f0 hM), w2, zm_e e1, if_pos q, v1, w1]
        exact y2
    · obtain ⟨w, y1, y2⟩ := ih (j + 1) v (by omega) (by omega)
      refine ⟨w, ?_, ?_⟩
      · rw [qL2_countOf_4, zm_e (zl_gI gL l14 2), sz, if_pos jI, if_pos j12', zm_e (zl_gF gL l14 1 2), zm_e e2, if_neg q, v0, w1]
        exact y1
      · rw [qL9_namesOf_4, zm_e (zm_f0 hM), zm_e i3, if_pos jI, zm_e (zm_f0 hM), w2, zm_e e1, if_neg q, v0, w1]
        exact y2
theorem zt_count {d D : Nat} (gL : zt_L g) (la : zv_lay a = (1, 0)) (N : zt_N a c g) (hM : zm_M k) (hc : zv_I k 348 = c) (h3 : 0 ≤ c 3 ∧ c 3 ≤ 12) (x : Int) : ∃ w : Nat, C2_countOf (d + 1) (a + 14) x g = some ((w : Int), g) ∧ C9_namesOf (D + 1) 347 x k = some ((w : Int), k) := by
  have l14 : zv_lay (a + 14) = (1, 2) := by rcases zc_lh la with e | e <;> rw [e] <;> rfl
  obtain ⟨w, y1, y2⟩ := zt_count_l (d := d) (D := D) gL la N hM hc x (m := (c 3).toNat) (by omega) (by omega) _ 0 0 (Nat.zero_add _) (Nat.le_refl _)
  refine ⟨w, lC2_countOf (zl_ob gL l14) ?_, lC9_namesOf (zm_ob hM) ?_⟩
  · rw [qE2_countOf]
    exact y1
  · rw [qE9_namesOf]
    exact y2
theorem zt_fo1000 {x y : Nat} (h1 : ¬ 1000000 ≤ x) (h2 : ¬ 1000000 ≤ y) : ¬ (1000000 ≤ x ∨ 1000000 ≤ y) := by omega
/-- a State's cell, or none -/
def zt_ro (a : Nat) (b : Int) : Nat := if b < 0 then 0 else zt_r a b
theorem zj_fo_l {d D : Nat} (gL : zt_L g) (H : zt_H a c g) (hM : zm_M k) (hc : zv_I k 348 = c) : ∀ (n i : Nat) (b : Int), i + n = 48 → 1 ≤ i → zm_Go c b → ∃ v : Int, zm_Go c v ∧ L0_nextToGo_4 (d + 1) a (zt_ro a b) i g = some (some (zv_r (zt_ro a v)), g) ∧ L9_firstOut_4 (D + 3) 347 b i k = some (some (zv_i v), k) := by
  have U := zt_H_U H
  have W := zt_U_W U
  have la := zt_U_la U
  have hh := W.2.1
  have h3 := W.2.2.1
  intro n
  induction n with
  | zero =>
    intro i b hi h1 hb
    have e : i = 48 := hi
    subst e
    refine ⟨b, hb, ?_, ?_⟩
    · rw [qL0_nextToGo_4, if_neg (by decide)]
    · rw [qL9_firstOut_4, if_neg (by decide)]
  | succ n ih =>
    intro i b hi h1 hb
    have w1 : zv_w ((i : Int) + 1) = ((i + 1 : Nat) : Int) := by
      rw [zm_w (by clear h3; omega)]
      rfl
    have j1 : (i : Int) < 48 := by clear h3; omega
    have j2 : 0 ≤ (i : Int) ∧ (i : Int) ≤ 48 := by clear h3; omega
    have j3 : (i : Int) ≠ 0 := by clear h3; omega
    have hi' : (i + 1) + n = 48 := by clear h3; omega
    obtain ⟨v, gv, y1, y2⟩ := ih (i + 1) b hi' (Nat.le_succ_of_le h1) hb
    have ea := zt_at (d := d) gL U (i : Int)
    have ei := zm_isState hM (D + 1) (i : Int)
    rw [hc] at ei
    by_cases c1 : zm_st c i
    · rw [if_pos c1] at ea ei
      have lS := zt_r_l la c1.1
      have S := zt_U_st U _ c1
      have top : ∀ {R1 R2 : zv_O}, (if zt_r a (i : Int) = zt_r a (c 0) then L0_nextToGo_4 (d + 1) a (zt_ro a b) ((i + 1 : Nat) : Int) g else (if zm_nch c i = 0 then ((C2_countOf (d + 1) (a + 14) (i : Int) g).bind fun q5 => (if q5.1 = 0 then (if zt_ro a b = 0 then L0_nextToGo_4 (d + 1) a (zt_r a (i : Int)) ((i + 1 : Nat) : Int) q5.2 else ((zv_gI q5.2 (zt_r a (i : Int)) 5 13).bind fun v6 => ((zv_gI q5.2 (zt_ro a b) 5 13).bind fun v7 => (if v6 < v7 then L0_nextToGo_4 (d + 1) a (zt_r a (i : Int)) ((i + 1 : Nat) : Int) q5.2 else L0_nextToGo_4 (d + 1) a (zt_ro a b) ((i + 1 : Nat) : Int) q5.2)))) else L0_nextToGo_4 (d + 1) a (zt_ro a b) ((i + 1 : Nat) : Int) q5.2)) else L0_nextToGo_4 (d + 1) a (zt_ro a b) ((i + 1 : Nat) : Int) g)) = R1 → (if (i : Int) = c 0 then L9_firstOut_4 (D + 3) 347 b ((i + 1 : Nat) : Int) k else (if zm_nch c i ≤ 0 then ((C9_namesOf (D + 3) 347 (i : Int) k).bind fun q4 => (if q4.1 ≤ 0 then (if b < 0 then L9_firstOut_4 (D + 3) 347 (i : Int) ((i + 1 : Nat) : Int) q4.2 else ((C9_of (D + 3) 347 (i : Int) 7 q4.2).bind fun q5 => ((C9_of (D + 3) 347 b 7 q5.2).bind fun q6 => (if q5.1 < q6.1 then L9_firstOut_4 (D + 3) 347 (i : Int) ((i + 1 : Nat) : Int) q6.2 else L9_firstOut_4 (D + 3) 347 b ((i + 1 : Nat) : Int) q6.2)))) else L9_firstOut_4 (D + 3) 347 b ((i + 1 : Nat) : Int) q4.2)) else L9_firstOut_4 (D + 3) 347 b ((i + 1 : Nat) : Int) k)) = R2 → L0_nextToGo_4 (d + 1) a (zt_ro a b) i g = R1 ∧ L9_firstOut_4 (D + 3) 347 b i k = R2 := fun {R1 R2} h1 h2 => by
        constructor
        · rw [qL0_nextToGo_4, if_pos j1, zm_e ea]
          dsimp only
          rw [if_neg (zt_r0 U c1), zm_e (zl_gR gL la 10), zt_U_he U, if_neg (zt_fo1000 (zt_r1000 U c1) (zt_r1000 U hh)), w1, zm_e (zl_gI gL lS 11), zt_S_ch S, zm_e (zl_gF gL la 6 14)]
          exact h1
        · rw [qL9_firstOut_4, if_pos j1, zm_e ei]
          dsimp only
          rw [if_neg (by decide), zm_e (zm_here hM _), hc]
          dsimp only
          rw [zm_e (zm_childrenOf hM D i), hc, w1]
          exact h2
      by_cases c2 : (i : Int) = c 0
      · obtain ⟨t1, t2⟩ := top rfl rfl
        rw [if_pos (by rw [c2])] at t1
        rw [if_pos c2] at t2
        exact ⟨v, gv, t1.trans y1, t2.trans y2⟩
      · have c2' : ¬ zt_r a (i : Int) = zt_r a (c 0) := fun q => c2 (zt_r_inj la c1.1 hh.1 q)
        by_cases c3 : zm_nch c i ≤ 0
        · have c3' : zm_nch c i = 0 := Int.le_antisymm c3 (zt_nch0 c i)
          have ok : zm_Go c i := Or.inr ⟨c1, j3, c2, c3⟩
          obtain ⟨v', gv', z1, z2⟩ := ih (i + 1) i hi' (Nat.le_succ_of_le h1) ok
          have ero : zt_ro a (i : Int) = zt_r a (i : Int) := if_neg (Int.not_lt.mpr j2.1)
          rw [ero] at z1
          obtain ⟨u, u1, u2⟩ := zt_count (d := d) (D := D + 2) gL la (zt_H_N H) hM hc h3 (i : Int)
          obtain ⟨t1, t2⟩ := top rfl rfl
          rw [if_neg c2', if_pos c3', zm_e u1] at t1
          rw [if_neg c2, if_pos c3, zm_e u2] at t2
          dsimp only at t1 t2
          by_cases c4 : u = 0
          · rw [if_pos (by rw [c4]; rfl)] at t1
            rw [if_pos (by rw [c4]; decide)] at t2
            by_cases c5 : b < 0
            · have eb : zt_ro a b = 0 := if_pos c5
              rw [if_pos eb] at t1
              rw [if_pos c5] at t2
              exact ⟨v', gv', t1.trans z1, t2.trans z2⟩
            · have eb : zt_ro a b = zt_r a b := if_neg c5
              have bg := hb.resolve_left (fun q => c5 (by rw [q]; decide))
              have lB := zt_r_l la bg.1.1
              have SB := zt_U_st U _ bg.1
              rw [eb] at y1 t1
              rw [if_neg (zt_r0 U bg.1), zm_e (zl_gI gL lS 13), zm_e (zl_gI gL lB 13), zt_S_vi S, zt_S_vi SB] at t1
              rw [if_neg c5, zm_e (zm_of hM _ j2 (by decide))] at t2
              dsimp only at t2
              rw [zm_e (zm_of hM _ (zm_st48 bg.1) (by decide)), hc] at t2
              dsimp only at t2
              rw [eb]
              by_cases c6 : zm_o c i 7 < zm_o c b 7
              · rw [if_pos c6] at t1 t2
                exact ⟨v', gv', t1.trans z1, t2.trans z2⟩
              · rw [if_neg c6] at t1 t2
                exact ⟨v, gv, t1.trans y1, t2.trans y2⟩
          · rw [if_neg (show ¬ (u : Int) = 0 from fun q => c4 (Int.ofNat.inj q))] at t1
            rw [if_neg (show ¬ (u : Int) ≤ 0 from fun q => c4 (Nat.le_zero.mp (Int.ofNat_le.mp q)))] at t2
            exact ⟨v, gv, t1.trans y1, t2.trans y2⟩
        · obtain ⟨t1, t2⟩ := top rfl rfl
          rw [if_neg c2', if_neg (fun q => c3 (Int.le_of_eq q))] at t1
          rw [if_neg c2, if_neg c3] at t2
          exact ⟨v, gv, t1.trans y1, t2.trans y2⟩
    · rw [if_neg c1] at ea ei
      refine ⟨v, gv, ?_, ?_⟩
      · rw [qL0_nextToGo_4, if_pos j1, zm_e ea]
        dsimp only
        rw [if_pos rfl, w1]
        exact y1
      · rw [qL9_firstOut_4, if_pos j1, zm_e ei]
        dsimp only
        rw [if_pos rfl, w1]
        exact y2
theorem zj_fo {d D : Nat} (gL : zt_L g) (H : zt_H a c g) (hM : zm_M k) (hc : zv_I k 348 = c) : ∃ v : Int, zm_Go c v ∧ C0_nextToGo (d + 2) a g = some (zt_ro a v, g) ∧ C9_firstOut (D + 4) 347 k = some (v, k) := by
  obtain ⟨v, gv, y1, y2⟩ := zj_fo_l (d := d) (D := D) gL H hM hc 47 1 (-1) rfl (Nat.le_refl _) (Or.inl rfl)
  refine ⟨v, gv, lC0_nextToGo (zl_ob gL (zt_U_la (zt_H_U H))) ?_, lC9_firstOut (zm_ob hM) ?_⟩
  · rw [qE0_nextToGo]
    exact y1
  · rw [qE9_firstOut]
    exact y2
end
