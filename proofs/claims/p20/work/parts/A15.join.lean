/-! ===== the tie: joining a group ===== -/
theorem zt_C1_set {d : Nat} {a : Nat} {g : zv_H} (gL : zt_L g) (ha : zv_lay a = (1, 0)) {i : Int} (hi : 0 ≤ i ∧ i < 6) (v : Int) : C1_set (d + 1) (a + 22) i v g = some (zv_sI g (a + 25) i.toNat v) := by
  obtain ⟨l1, l2, l3, l4⟩ := zt_jn_l ha
  refine lC1_set (zl_ob gL l1) ?_
  rw [qE1_set, if_neg (by omega), if_pos hi.2, zm_e (zl_gF gL l1 2 3), show a + 22 + 3 = a + 25 from rfl, zm_e (zl_wI gL l4 hi.1 (by omega) _)]
/-- the one it came from, and the new one -/
def zt_pq (c : Nat → Int) (g : zv_H) (S : Nat) (P : Nat) (x : Int) (y : Int) (z : Int) : Prop := (zv_lay S = (1, 5)) ∧ (zv_lay P = (1, 5)) ∧ (zv_I g S 6 = x) ∧ (zv_I g S 7 = c 1) ∧ (zv_I g S 8 = y) ∧ (zv_I g S 9 = z) ∧ (zv_I g P 6 = zm_o c (c 0) 2) ∧ (zv_I g P 7 = zm_o c (c 0) 3) ∧ (zv_I g P 8 = zm_o c (c 0) 4) ∧ (zv_I g P 9 = zm_o c (c 0) 5)
theorem zt_pq_lS {c : Nat → Int} {g : zv_H} {S : Nat} {P : Nat} {x : Int} {y : Int} {z : Int} (t : zt_pq c g S P x y z) : zv_lay S = (1, 5) := t.1
theorem zt_pq_lP {c : Nat → Int} {g : zv_H} {S : Nat} {P : Nat} {x : Int} {y : Int} {z : Int} (t : zt_pq c g S P x y z) : zv_lay P = (1, 5) := t.2.1
theorem zt_pq_s6 {c : Nat → Int} {g : zv_H} {S : Nat} {P : Nat} {x : Int} {y : Int} {z : Int} (t : zt_pq c g S P x y z) : zv_I g S 6 = x := t.2.2.1
theorem zt_pq_s7 {c : Nat → Int} {g : zv_H} {S : Nat} {P : Nat} {x : Int} {y : Int} {z : Int} (t : zt_pq c g S P x y z) : zv_I g S 7 = c 1 := t.2.2.2.1
theorem zt_pq_s8 {c : Nat → Int} {g : zv_H} {S : Nat} {P : Nat} {x : Int} {y : Int} {z : Int} (t : zt_pq c g S P x y z) : zv_I g S 8 = y := t.2.2.2.2.1
theorem zt_pq_s9 {c : Nat → Int} {g : zv_H} {S : Nat} {P : Nat} {x : Int} {y : Int} {z : Int} (t : zt_pq c g S P x y z) : zv_I g S 9 = z := t.2.2.2.2.2.1
theorem zt_pq_p6 {c : Nat → Int} {g : zv_H} {S : Nat} {P : Nat} {x : Int} {y : Int} {z : Int} (t : zt_pq c g S P x y z) : zv_I g P 6 = zm_o c (c 0) 2 := t.2.2.2.2.2.2.1
theorem zt_pq_p7 {c : Nat → Int} {g : zv_H} {S : Nat} {P : Nat} {x : Int} {y : Int} {z : Int} (t : zt_pq c g S P x y z) : zv_I g P 7 = zm_o c (c 0) 3 := t.2.2.2.2.2.2.2.1
theorem zt_pq_p8 {c : Nat → Int} {g : zv_H} {S : Nat} {P : Nat} {x : Int} {y : Int} {z : Int} (t : zt_pq c g S P x y z) : zv_I g P 8 = zm_o c (c 0) 4 := t.2.2.2.2.2.2.2.2.1
theorem zt_pq_p9 {c : Nat → Int} {g : zv_H} {S : Nat} {P : Nat} {x : Int} {y : Int} {z : Int} (t : zt_pq c g S P x y z) : zv_I g P 9 = zm_o c (c 0) 5 := t.2.2.2.2.2.2.2.2.2
theorem zt_pq_o {a : Nat} {c : Nat → Int} {g g2 : zv_H} {S P : Nat} {x y z : Int} (ha : zv_lay a = (1, 0)) (p : zt_pq c g S P x y z) (o : zt_o [a + 25] g g2) : zt_pq c g2 S P x y z := by
  have l4 := (zt_jn_l ha).2.2.2
  have nS : S ≠ a + 25 := fun e => by
    have := zt_pq_lS p
    rw [e, l4] at this
    cases this
  have nP : P ≠ a + 25 := fun e => by
    have := zt_pq_lP p
    rw [e, l4] at this
    cases this
  have S2 : ∀ k, zv_I g2 S k = zv_I g S k := fun k => zt_o_i o (zt_c1 nS) k
  have P2 : ∀ k, zv_I g2 P k = zv_I g P k := fun k => zt_o_i o (zt_c1 nP) k
  exact ⟨zt_pq_lS p, zt_pq_lP p, (S2 6).trans (zt_pq_s6 p), (S2 7).trans (zt_pq_s7 p), (S2 8).trans (zt_pq_s8 p), (S2 9).trans (zt_pq_s9 p), (P2 6).trans (zt_pq_p6 p), (P2 7).trans (zt_pq_p7 p), (P2 8).trans (zt_pq_p8 p), (P2 9).trans (zt_pq_p9 p)⟩
theorem zt_C0_isNear {d : Nat} {c : Nat → Int} {g : zv_H} {S P : Nat} {x y z : Int} (gL : zt_L g) (p : zt_pq c g S P x y z) (he : zm_ed c (c 0)) : C0_isNear (d + 1) S P g = some (zt_bi (zt_nr c (c 0) x y z), g) := by
  refine lC0_isNear ?_
  have lS := zt_pq_lS p
  have lP := zt_pq_lP p
  rw [qE0_isNear, zm_e (zl_gI gL lP 6), zt_pq_p6 p]
  unfold zt_nr
  by_cases c1 : zm_o c (c 0) 2 = 0
  · rw [if_pos c1, zm_e (zl_gI gL lP 8), zt_pq_p8 p, zm_e (zl_gI gL lP 9), zt_pq_p9 p, qL0_isNear_23, zm_e (zl_gI gL lS 6), zt_pq_s6 p]
    by_cases c2 : x = 0
    · rw [if_pos c2, zm_e (zl_gI gL lS 8), zt_pq_s8 p, if_pos c2, if_pos c1, zt_dd]
    · rw [if_neg c2, zm_e (zl_gI gL lS 8), zt_pq_s8 p, zm_e (zl_gI gL lS 9), zt_pq_s9 p, if_neg c2, if_pos c1]
      by_cases c3 : zv_w (y + z) = zv_w (zm_o c (c 0) 4 + zm_o c (c 0) 5)
      · rw [if_pos c3, decide_eq_true c3]; rfl
      · rw [if_neg c3, zm_e (zl_gI gL lP 6), zt_pq_p6 p, if_neg (by omega), decide_eq_false c3]; rfl
  · have c1' : zm_o c (c 0) 2 = 1 := he.resolve_left c1
    rw [if_neg c1, zm_e (zl_gI gL lP 8), zt_pq_p8 p, qL0_isNear_23, zm_e (zl_gI gL lS 6), zt_pq_s6 p]
    by_cases c2 : x = 0
    · rw [if_pos c2, zm_e (zl_gI gL lS 8), zt_pq_s8 p, if_pos c2, if_neg c1, zt_dd]
    · rw [if_neg c2, zm_e (zl_gI gL lS 8), zt_pq_s8 p, zm_e (zl_gI gL lS 9), zt_pq_s9 p, if_neg c2, if_neg c1]
      by_cases c3 : zv_w (y + z) = zm_o c (c 0) 4
      · rw [if_pos c3, decide_eq_true c3, Bool.or_true]; rfl
      · rw [if_neg c3, zm_e (zl_gI gL lP 6), zt_pq_p6 p, if_pos c1', zm_e (zl_gI gL lS 8), zt_pq_s8 p, decide_eq_false c3, Bool.or_false, zt_dd]
theorem zt_J_o {a : Nat} {c : Nat → Int} {g g2 : zv_H} (J : zt_J a c g) (o : zt_o [a + 25] g g2) : zt_J a c g2 := by
  obtain ⟨cs, T, h⟩ := J
  refine ⟨cs, ⟨?_, zt_T1_le T, fun k v hv => ?_, zt_T1_rg T, zt_T1_ph T⟩, h⟩
  · rw [zt_o_i o (zt_c1 (by omega))]; exact zt_T1_sz T
  · rw [zt_o_i o (zt_c1 (by omega)), zt_o_i o (zt_c1 (by omega))]; exact zt_T1_st T k v hv
theorem zt_joinGroup {d : Nat} {a : Nat} {c : Nat → Int} {g : zv_H} {S P F : Nat} {x y z n1 n2 : Int} (gL : zt_L g) (ha : zv_lay a = (1, 0)) (J : zt_J a c g) (p : zt_pq c g S P x y z) (hd : zm_ed c (c 0) → zv_R g P 5 = F ∧ zv_lay F = (1, 5) ∧ zv_I g P 10 = n1 ∧ zv_I g F 10 = n2) : zm_R (C0_joinGroup (d + 2) a S P g) (fun g' => ∃ g1, zt_o [a + 25] g g1 ∧ g' = if zt_jn c n1 n2 x y z = true then zv_sR g1 S 5 F else g1) := by
  obtain ⟨l1, l2, l3, l4⟩ := zt_jn_l ha
  have lS := zt_pq_lS p
  have lP := zt_pq_lP p
  refine zm_cV (P := fun g' => ∃ g1, zt_o [a + 25] g g1 ∧ g' = if zt_jn c n1 n2 x y z = true then zv_sR g1 S 5 F else g1) (fun e => lC0_joinGroup (zl_ob gL ha) e) ?_
  rw [qE0_joinGroup, zm_e (zt_C5_edits gL lP), zt_pq_p6 p]
  dsimp only
  by_cases he : zm_ed c (c 0)
  · obtain ⟨h5, lF, d1, d2⟩ := hd he
    have n25 : ∀ r, zv_lay r = (1, 5) → r ≠ a + 25 := fun r hr e => by
      rw [e, l4] at hr
      cases hr
    rw [if_pos (show zm_o c (c 0) 2 = 0 ∨ zm_o c (c 0) 2 = 1 from he), if_neg (by decide), zm_e (zl_gR gL lP 5), h5, if_neg (zc_nz lF), zm_e (zl_gF gL ha 8 22), zm_e (zl_gI gL lS 7), zt_pq_s7 p, zm_e (zl_gI gL lP 7), zt_pq_p7 p, zm_e (zt_C1_set gL ha (by decide) _)]
    have o1 : zt_o [a + 25] g (zv_sI g (a + 25) (Int.toNat 0) (zv_w (c 1 - zm_o c (c 0) 3))) := zt_o_I (zt_o_r _ _) (zt_c2 _) _ _
    have k1 : zv_I (zv_sI g (a + 25) (Int.toNat 0) (zv_w (c 1 - zm_o c (c 0) 3))) (a + 25) = zm_u (zv_I g (a + 25)) 0 (zv_w (c 1 - zm_o c (c 0) 3)) := zm_ss _ _ _ _
    generalize zv_sI g (a + 25) (Int.toNat 0) (zv_w (c 1 - zm_o c (c 0) 3)) = g1 at o1 k1
    have L1 := zt_o_L o1 gL
    have r1 : zv_R g1 P 5 = F := by
      show g1.2.2.2.1 P 5 = F
      rw [o1.2.1]; exact h5
    rw [zm_e (zl_gF L1 ha 8 22), zm_e (zl_gI L1 lP 10), zt_o_i o1 (zt_c1 (n25 P lP)), d1, zm_e (zl_gR L1 lP 5), r1, zm_e (zl_gI L1 lF 10), zt_o_i o1 (zt_c1 (n25 F lF)), d2, zm_e (zt_C1_set L1 ha (by decide) _)]
    have o2 : zt_o [a + 25] g (zv_sI g1 (a + 25) (Int.toNat 1) (zv_w (zv_w (n1 - n2) + 1))) := zt_o_I o1 (zt_c2 _) _ _
    have k2 : zv_I (zv_sI g1 (a + 25) (Int.toNat 1) (zv_w (zv_w (n1 - n2) + 1))) (a + 25) = zm_u (zv_I g1 (a + 25)) 1 (zv_w (zv_w (n1 - n2) + 1)) := zm_ss _ _ _ _
    generalize zv_sI g1 (a + 25) (Int.toNat 1) (zv_w (zv_w (n1 - n2) + 1)) = g2 at o2 k2
    have L2 := zt_o_L o2 gL
    have p2 := zt_pq_o ha p o2
    rw [zm_e (zl_gF L2 ha 8 22), zm_e (zl_gI L2 lS 6), zt_pq_s6 p2, zm_e (zt_C1_set L2 ha (by decide) _)]
    have o3 : zt_o [a + 25] g (zv_sI g2 (a + 25) (Int.toNat 2) x) := zt_o_I o2 (zt_c2 _) _ _
    have k3 : zv_I (zv_sI g2 (a + 25) (Int.toNat 2) x) (a + 25) = zm_u (zv_I g2 (a + 25)) 2 x := zm_ss _ _ _ _
    generalize zv_sI g2 (a + 25) (Int.toNat 2) x = g3 at o3 k3
    have L3 := zt_o_L o3 gL
    have p3 := zt_pq_o ha p o3
    rw [zm_e (zl_gF L3 ha 8 22), zm_e (zl_gI L3 lS 6), zt_pq_s6 p3, zm_e (zl_gI L3 lP 6), zt_pq_p6 p3]
    have l87 : ∀ v3 : Int, v3 = (if zm_o c (c 0) 2 = x then 1 else 0) → zm_R (L0_joinGroup_87 (d + 1) a S P (a + 22) 3 v3 g3) (zm_V fun g' => ∃ g1, zt_o [a + 25] g g1 ∧ g' = if zt_jn c n1 n2 x y z = true then zv_sR g1 S 5 F else g1) := by
      intro v3 ev3
      rw [qL0_joinGroup_87, zm_e (zt_C1_set L3 ha (by decide) _)]
      have o4 : zt_o [a + 25] g (zv_sI g3 (a + 25) (Int.toNat 3) v3) := zt_o_I o3 (zt_c2 _) _ _
      have k4 : zv_I (zv_sI g3 (a + 25) (Int.toNat 3) v3) (a + 25) = zm_u (zv_I g3 (a + 25)) 3 v3 := zm_ss _ _ _ _
      generalize zv_sI g3 (a + 25) (Int.toNat 3) v3 = g4 at o4 k4
      have L4 := zt_o_L o4 gL
      have p4 := zt_pq_o ha p o4
      rw [zm_e (zl_gF L4 ha 8 22), zm_e (zt_C0_isNear L4 p4 he)]
      dsimp only
      have l108 : ∀ v4 : Int, v4 = zt_bi (zt_nr c (c 0) x y z) → zm_R (L0_joinGroup_108 (d + 1) a S P (a + 22) 4 v4 g4) (zm_V fun g' => ∃ g1, zt_o [a + 25] g g1 ∧ g' = if zt_jn c n1 n2 x y z = true then zv_sR g1 S 5 F else g1) := by
        intro v4 ev4
        rw [qL0_joinGroup_108, zm_e (zt_C1_set L4 ha (by decide) _)]
        have o5 : zt_o [a + 25] g (zv_sI g4 (a + 25) (Int.toNat 4) v4) := zt_o_I o4 (zt_c2 _) _ _
        have k5 : zv_I (zv_sI g4 (a + 25) (Int.toNat 4) v4) (a + 25) = zm_u (zv_I g4 (a + 25)) 4 v4 := zm_ss _ _ _ _
        generalize zv_sI g4 (a + 25) (Int.toNat 4) v4 = g5 at o5 k5
        have L5 := zt_o_L o5 gL
        have p5 := zt_pq_o ha p o5
        rw [zm_e (zl_gF L5 ha 8 22), zm_e (zl_gI L5 lS 9), zt_pq_s9 p5, zm_e (zt_C1_set L5 ha (by decide) _)]
        have o6 : zt_o [a + 25] g (zv_sI g5 (a + 25) (Int.toNat 5) z) := zt_o_I o5 (zt_c2 _) _ _
        have k6 : zv_I (zv_sI g5 (a + 25) (Int.toNat 5) z) (a + 25) = zm_u (zv_I g5 (a + 25)) 5 z := zm_ss _ _ _ _
        generalize zv_sI g5 (a + 25) (Int.toNat 5) z = g6 at o6 k6
        have L6 := zt_o_L o6 gL
        have ef : zt_hd c (fun i => zv_I g6 (a + 25) i.toNat) = zt_hd c (zt_fa c n1 n2 x y z) := zt_hd_cg (fun i i0 i1 => by
          rw [k6, k5, k4, k3, k2, k1]
          unfold zm_u zt_fa
          by_cases z5 : i = 5
          · subst z5; rfl
          · by_cases z4 : i = 4
            · subst z4; exact ev4
            · by_cases z3 : i = 3
              · subst z3; exact ev3
              · by_cases z2 : i = 2
                · subst z2; rfl
                · by_cases z1 : i = 1
                  · subst z1; rfl
                  · have z0 : i = 0 := by omega
                    subst z0
                    rfl)
        rw [zm_e (zl_gF L6 ha 8 22), zm_e (zt_C1_holds L6 ha (zt_J_o J o6)), ef]
        dsimp only
        have ej : zt_jn c n1 n2 x y z = zt_hd c (zt_fa c n1 n2 x y z) := by
          unfold zt_jn
          rw [decide_eq_true he, Bool.true_and]
        rw [ej]
        cases hb : zt_hd c (zt_fa c n1 n2 x y z) with
        | false =>
          rw [if_pos (show zt_bi false = 0 from rfl)]
          exact zm_iV ⟨g6, o6, by rw [if_neg (by decide)]⟩
        | true =>
          have r6 : zv_R g6 P 5 = F := by
            show g6.2.2.2.1 P 5 = F
            rw [o6.2.1]; exact h5
          rw [if_neg (show ¬ zt_bi true = 0 by decide), zm_e (zl_gR L6 lP 5), r6, zm_e (zl_pR L6 lS 5 _)]
          exact zm_iV ⟨g6, o6, by rw [if_pos rfl]⟩
      refine zm_if (fun q => l108 0 q.symm) (fun q => l108 1 ?_)
      rcases zt_bi01 (zt_nr c (c 0) x y z) with w | w
      · exact absurd w q
      · exact w.symm
    refine zm_if (fun q => l87 1 (by rw [if_pos q.symm])) (fun q => l87 0 (by rw [if_neg (fun z => q z.symm)]))
  · rw [if_neg (show ¬ (zm_o c (c 0) 2 = 0 ∨ zm_o c (c 0) 2 = 1) from he), if_pos rfl]
    refine zm_iV ⟨g, zt_o_r _ _, ?_⟩
    unfold zt_jn
    rw [decide_eq_false he, Bool.false_and, if_neg (by decide)]
