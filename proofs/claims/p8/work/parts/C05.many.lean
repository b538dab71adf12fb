/-! ===== what is asked, answered alike: how many there are ===== -/
theorem za_cs5 (v n : Nat) : ((v + 1 : Nat) : Int) + (n : Int) = (v : Int) + ((n + 1 : Nat) : Int) := by omega
section
variable {a b m : Nat} {g k : zv_H}
/-- leaves, counted on both sides -/
theorem za_leaves_l {d D : Nat} {c : Nat → Int} (gL : zt_L g) (U : zt_U a c g) (hM : zm_M k) (hc : zv_I k 348 = c) : ∀ (n i v : Nat), i + n = 48 → v ≤ i → ∃ w : Int, L0_leaves_4 (d + 1) a (v : Int) (i : Int) g = some (some (zv_i w), g) ∧ L9_leaves_4 (D + 3) 347 (v : Int) (i : Int) k = some (some (zv_i w), k)
  | 0, i, v, hi, hv => ⟨v, by rw [qL0_leaves_4, if_neg (by omega)], by rw [qL9_leaves_4, if_neg (by omega)]⟩
  | n + 1, i, v, hi, hv => by
    have w1 : zv_w ((i : Int) + 1) = ((i + 1 : Nat) : Int) := by
      rw [zm_w (by omega)]
      rfl
    have w2 : zv_w ((v : Int) + 1) = ((v + 1 : Nat) : Int) := by
      rw [zm_w (by omega)]
      rfl
    have w0 : zv_w ((v : Int) + 0) = (v : Int) := by
      rw [zm_w (by omega)]
      omega
    have i48 : (i : Int) < 48 := by omega
    rw [qL0_leaves_4, if_pos i48, zm_e (zt_at (d := d) gL U (i : Int)), qL9_leaves_4, if_pos i48, zm_e (zm_isState hM (D + 1) (i : Int)), hc, w0, w1, w2]
    dsimp only
    by_cases hs : zm_st c (i : Int)
    · have lr := zt_r_l (zt_U_la U) hs.1
      have ch := zt_S_ch (zt_U_st U _ hs)
      have cr := zm_childrenOf hM D (i : Int)
      rw [hc] at cr
      rw [if_pos hs, if_neg (zt_r0 U hs), zm_e (zl_gI gL lr 11), ch, if_pos hs, if_neg (show ¬ (1 : Int) = 0 by decide), zm_e cr]
      dsimp only
      by_cases cz : zm_nch c (i : Int) = 0
      · rw [if_pos cz, if_pos cz]
        exact za_leaves_l gL U hM hc n (i + 1) (v + 1) (by omega) (by omega)
      · rw [if_neg cz, if_neg cz]
        exact za_leaves_l gL U hM hc n (i + 1) v (by omega) (by omega)
    · rw [if_neg hs, if_pos rfl, if_neg hs, if_pos rfl]
      exact za_leaves_l gL U hM hc n (i + 1) v (by omega) (by omega)
/-- groups, counted on both sides -/
theorem za_groups_l {d D : Nat} {c : Nat → Int} (hA : zc_A g) (U : zt_U a c g) (hM : zm_M k) (hc : zv_I k 348 = c) : ∀ (l : List Int) (s : Int) (v : Nat), zm_Ln c (s :: l) s → (∀ t ∈ s :: l, zm_st c t) → v + l.length ≤ 100 → ∃ w : Int, L0_groups_7 d a (v : Int) (zt_r a s) g = some (some (zv_i w), g) ∧ L9_groups_7 (D + 1) 347 (v : Int) s k = some (some (zv_i w), k) := by
  have gL := zt_L_A hA
  have la := zt_U_la U
  have a9 := zc_lh la
  have W := zt_U_W U
  have e0 : zv_gR g a 0 0 = some (a + 1) := zl_gF gL la 0 1
  have z0 : zt_r a 0 = a + 1 := rfl
  have wp : ∀ v : Nat, v < 1000 → zv_w ((v : Int) + 1) = ((v + 1 : Nat) : Int) := fun v h => by
    rw [zm_w (by omega)]
    rfl
  have wz : ∀ v : Nat, v < 1000 → zv_w ((v : Int) + 0) = (v : Int) := fun v h => by
    rw [zm_w (by omega)]
    omega
  have big : ∀ {x y : Nat}, ¬ 1000000 ≤ x → ¬ 1000000 ≤ y → ¬ (1000000 ≤ x ∨ 1000000 ≤ y) := fun h1 h2 q => q.elim h1 h2
  have a1000 : ¬ 1000000 ≤ a + 1 := by omega
  have start : ∀ v : Nat, v ≤ 100 → ∃ w : Int, L0_groups_7 d a (v : Int) (zt_r a 0) g = some (some (zv_i w), g) ∧ L9_groups_7 (D + 1) 347 (v : Int) 0 k = some (some (zv_i w), k) := fun v hv => by
    have hs := W.1.2.1.1
    have lr := zt_r_l la hs.1
    have p : zv_R g (zt_r a 0) 4 = 0 := by
      rw [zt_S_pa (zt_U_st U 0 hs), W.1.2.1.2.1]
      rfl
    refine ⟨v, ?_, ?_⟩
    · rw [qL0_groups_7, if_neg (zt_r0 U hs), zm_e e0, if_neg (big (zt_r1000 U hs) a1000), if_pos z0, zm_e (zl_gR gL lr 4), p, wz v (by omega), qL0_groups_7, if_pos rfl]
    · rw [qL9_groups_7, if_pos (by decide)]
  intro l
  induction l with
  | nil =>
    intro s v hl hst hv
    have hs := hst s List.mem_cons_self
    have h0 := (zt_line_u W hs hl).1.2.1
    rw [List.getLast?_singleton] at h0
    have s0 : s = 0 := Option.some.inj h0
    rw [s0]
    exact start v (by rw [List.length_nil] at hv; omega)
  | cons p l ih =>
    intro s v hl hst hv
    rw [List.length_cons] at hv
    by_cases s0 : s = 0
    · rw [s0]
      exact start v (by omega)
    have hs := hst s List.mem_cons_self
    have lr := zt_r_l la hs.1
    obtain ⟨hf, ef⟩ := za_fst hA U hs
    have ne : ¬ zt_r a s = a + 1 := fun q => s0 (zt_r_inj la hs.1 (by decide) (q.trans z0.symm))
    have o6 := zm_of hM D (zm_st48 hs) (w := 6) (by decide)
    have o1 := zm_of hM D (zm_st48 hs) (w := 1) (by decide)
    rw [hc] at o6 o1
    obtain ⟨ep, hl', op⟩ := zt_pa_cons U hs hl
    have hst' : ∀ t ∈ p :: l, zm_st c t := fun t ht => hst t (List.mem_cons_of_mem _ ht)
    have s1 : ¬ s ≤ 0 := by have := hs.1; omega
    rw [qL0_groups_7, if_neg (zt_r0 U hs), zm_e e0, if_neg (big (zt_r1000 U hs) a1000), if_neg ne, zm_e (zl_gR gL lr 5), ef, if_neg (big (zt_r1000 U hf) (zt_r1000 U hs)), qL9_groups_7, if_neg s1, zm_e o6]
    dsimp only
    by_cases cf : zm_o c s 6 = s
    · obtain ⟨w, h1, h2⟩ := ih p (v + 1) hl' hst' (by omega)
      refine ⟨w, ?_, ?_⟩
      · rw [if_pos (show zt_r a (zm_o c s 6) = zt_r a s by rw [cf]), zm_e (zl_gR gL lr 4), ep, wp v (by omega)]
        exact h1
      · rw [if_pos cf, qL9_groups_28, zm_e o1, op]
        dsimp only
        rw [wp v (by omega)]
        exact h2
    · have nf : ¬ zt_r a (zm_o c s 6) = zt_r a s := fun q => cf (zt_r_inj la hf.1 hs.1 q)
      obtain ⟨w, h1, h2⟩ := ih p v hl' hst' (by omega)
      refine ⟨w, ?_, ?_⟩
      · rw [if_neg nf, zm_e (zl_gR gL lr 4), ep, wz v (by omega)]
        exact h1
      · rw [if_neg cf, qL9_groups_28, zm_e o1, op]
        dsimp only
        rw [wz v (by omega)]
        exact h2
/-- who is not in force, counted in the reference -/
def za_out (c : Nat → Int) (L : List Int) (t : Int) : Bool := decide (zm_ed c t) && decide (zm_fc c L t = 0)
theorem za_gone_l {D : Nat} {c : Nat → Int} {L : List Int} (hM : zm_M k) (hc : zv_I k 348 = c) (n2 : zm_Sn k c L) (hl : ∀ t ∈ L, zm_st c t) (hn : L.length ≤ 48) : ∀ (n i : Nat) (v : Nat), i + n = L.length → v ≤ i → L9_gone_12 (D + 2) 347 (v : Int) (i : Int) k = some (some (zv_i ((v : Int) + ((L.reverse.drop i).filter (za_out c L)).length)), k)
  | 0, i, v, hi, hv => by
    rw [qL9_gone_12, zm_e (zm_gI hM 10), n2.1.1, if_neg (by omega), List.drop_eq_nil_of_le (by rw [List.length_reverse]; omega)]
    show some (some (zv_i (v : Int)), k) = some (some (zv_i ((v : Int) + 0)), k)
    rw [Int.add_zero]
  | n + 1, i, v, hi, hv => by
    have w1 : zv_w ((i : Int) + 1) = ((i + 1 : Nat) : Int) := by
      rw [zm_w (by omega)]
      rfl
    have w2 : zv_w ((v : Int) + 1) = ((v + 1 : Nat) : Int) := by
      rw [zm_w (by omega)]
      rfl
    have w0 : zv_w ((v : Int) + 0) = (v : Int) := by
      rw [zm_w (by omega)]
      omega
    have ir : i < L.reverse.length := by rw [List.length_reverse]; omega
    have ht : L.reverse[i] ∈ L := List.mem_reverse.mp (List.getElem_mem ir)
    have e351 := n2.1.2 i _ (List.getElem?_eq_getElem ir)
    have ed := List.drop_eq_getElem_cons ir
    generalize L.reverse[i] = t at ht e351 ed
    have t48 := zm_st48 (hl t ht)
    have fc := n2.2.2.1 t ht
    have ie := zm_isEdit hM D t48
    rw [hc] at ie
    rw [ed, qL9_gone_12, zm_e (zm_gI hM 10), n2.1.1, if_pos (by omega), zm_e (zm_f5 hM), zm_e (zm_aI hM (show zv_lay 351 = (2, 49) from rfl) rfl (by omega) (by omega)), Int.toNat_natCast, e351, zm_e ie, w0, w1, w2]
    dsimp only
    have go := za_gone_l (D := D) hM hc n2 hl hn n (i + 1)
    by_cases c1 : zm_ed c t
    · rw [if_pos c1, if_neg (by decide), zm_e (zm_f8 hM), zm_e (zm_f5 hM), zm_e (zm_aI hM (show zv_lay 351 = (2, 49) from rfl) rfl (by omega) (by omega)), Int.toNat_natCast, e351, zm_e (zm_aB hM zm_l354 (Or.inl rfl) rfl t48.1 (by omega)), fc]
      by_cases c2 : zm_fc c L t = 0
      · have eo : za_out c L t = true := by
          unfold za_out
          rw [decide_eq_true c1, decide_eq_true c2]
          rfl
        rw [if_pos c2, go (v + 1) (by omega) (by omega), List.filter_cons_of_pos eo, List.length_cons]
        exact congrArg (fun z => (some (some (zv_i z), k) : zv_O)) (za_cs5 _ _)
      · have eo : ¬ za_out c L t = true := by
          unfold za_out
          rw [decide_eq_false c2, Bool.and_false]
          decide
        rw [if_neg c2, go v (by omega) (by omega), List.filter_cons_of_neg eo]
    · have eo : ¬ za_out c L t = true := by
        unfold za_out
        rw [decide_eq_false c1, Bool.false_and]
        decide
      rw [if_neg c1, if_pos rfl, go v (by omega) (by omega), List.filter_cons_of_neg eo]
theorem za_gone {c : Nat → Int} {L : List Int} (ok : zt_ln_ok c L) (G : zm_G0 c L) : ((L.reverse.drop 1).filter (za_out c L)).length = (L.filter (za_out c L)).length := by
  have e0 : ¬ za_out c L 0 = true := by
    unfold za_out
    have : ¬ zm_ed c 0 := fun q => by
      have := G.2.2.2.1
      rcases q with q | q <;> omega
    rw [decide_eq_false this, Bool.false_and]
    decide
  have er : L.reverse = 0 :: L.reverse.drop 1 := by
    have h := ok.2.1
    rw [← List.head?_reverse] at h
    cases hr : L.reverse with
    | nil =>
      rw [hr] at h
      cases h
    | cons x r =>
      rw [hr] at h
      have : x = 0 := Option.some.inj h
      rw [this]
      rfl
  have e1 : (L.reverse.filter (za_out c L)).length = (L.filter (za_out c L)).length := by rw [List.filter_reverse, List.length_reverse]
  rw [← e1]
  conv => rhs; rw [er]
  rw [List.filter_cons_of_neg e0]
/-- bits of some of a line, counted -/
theorem za_pop {L : List Int} {v : Int64} {P : Int → Bool} (nd : L.Nodup) (h48 : ∀ t ∈ L, 0 ≤ t ∧ t < 48) (hv : ∀ t : Nat, t < 64 → (zt_b v t = true ↔ (t : Int) ∈ L ∧ P t = true)) : zt_pop v = (L.filter P).length := by
  have nd2 : (L.filter P).Nodup := nd.filter P
  rw [← zt_cnt nd2 (fun x hx => by have := h48 x (List.mem_filter.mp hx).1; omega)]
  unfold zt_pop
  refine zm_sum_cg 64 (fun t ht => ?_)
  by_cases c : (t : Int) ∈ L.filter P
  · rw [if_pos c, (hv t ht).mpr (List.mem_filter.mp c)]
    rfl
  · rw [if_neg c]
    cases e : zt_b v t with
    | true => exact absurd (List.mem_filter.mpr ((hv t ht).mp e)) c
    | false => rfl
theorem zp_many {d D : Nat} (hA : zc_A g) (I : zm_MI k) (S : zt_GG m a b g k) (w : Int) : ∃ v g' k', C8_many (d + 28) 1 w g = some (v, g') ∧ C9_many (D + 28) 347 w k = some (v, k') := by
  have gL := zt_L_A hA
  have hM := I.1
  have l1 : zv_lay 1 = (1, 8) := rfl
  have la := (zt_lab (zt_GG_ab S)).1
  have qC := qE8_many (d + 27) 1 w g
  have qR := qE9_many (D + 27) 347 w k
  rw [zm_e (zm_isIn (h := k) (D + 26) w 0 9)] at qR
  dsimp only at qR
  by_cases cw : 0 ≤ w ∧ w ≤ 9
  rotate_left
  · rw [if_neg (show ¬ w = 0 by omega), if_neg (show ¬ w = 1 by omega), if_neg (show ¬ w = 2 by omega), if_neg (show ¬ w = 3 by omega), if_neg (show ¬ w = 4 by omega), if_neg (show ¬ w = 5 by omega), if_neg (show ¬ w = 6 by omega), if_neg (show ¬ w = 7 by omega), if_neg (show ¬ w = 8 by omega), if_neg (show ¬ w = 9 by omega), za_ref gL] at qC
    rw [if_neg cw, if_pos rfl, qL9_many_16, za_isn hM (by decide)] at qR
    exact ⟨_, _, _, lC8_many (zl_ob gL l1) qC, lC9_many (zm_ob hM) qR⟩
  obtain ⟨k1, i1, F1⟩ := zp_is hM
  have S1 := zt_GG_F S F1
  have M1 := zm_F_M F1 hM
  have H := zt_GG_H S1
  have U := zt_H_U H
  have V := zt_H_V H
  have N := zt_H_N H
  have W := zt_U_W U
  generalize hc : zv_I k1 348 = c at U W V N
  have hs := W.2.1
  obtain ⟨l, hl, ok, G, _, _⟩ := zt_line W hs
  obtain ⟨k2, e2, F2, n2, rl, dl⟩ := za_sees (D := D + 23) M1 hc W hs hl
  have M2 := zm_F_M F2 M1
  have c2 : zv_I k2 348 = c := (zm_F_a F2 348).trans hc
  have lr := zt_r_l la hs.1
  have u := zt_U_st U (c 0) hs
  rw [if_pos cw, if_neg (by decide), qL9_many_16, za_isy i1] at qR
  dsimp only at qR
  rw [zm_e (zm_here M1 _), hc] at qR
  dsimp only at qR
  rw [zm_e e2] at qR
  by_cases w0 : w = 0
  · rw [if_pos w0, zm_e (zp_e3 hA S), zm_e (zl_gI gL la 12), zt_U_ct U, za_giv gL] at qC
    have es := zm_states M2 (D + 25) (by rw [c2]; exact W.1.1)
    rw [c2] at es
    rw [if_pos w0, zm_e es] at qR
    exact ⟨_, _, _, lC8_many (zl_ob gL l1) qC, lC9_many (zm_ob hM) qR⟩
  rw [if_neg w0] at qC qR
  by_cases w1 : w = 1
  · rw [if_pos w1, zm_e (zp_e3 hA S), zm_e (zl_gR gL la 10), zt_U_he U, zm_e (zl_gI gL lr 0), zt_num U hs, za_giv gL] at qC
    rw [if_pos w1, zm_e (zm_here M2 _), c2] at qR
    exact ⟨_, _, _, lC8_many (zl_ob gL l1) qC, lC9_many (zm_ob hM) qR⟩
  rw [if_neg w1] at qC qR
  by_cases w2 : w = 2
  · rw [if_pos w2, zm_e (zp_e3 hA S), zm_e (zl_gI gL la 11), zt_U_nw U, za_giv gL] at qC
    rw [if_pos w2, zm_e (zm_f0 M2), zm_e (zm_aI M2 zm_l348 rfl (by decide) (by decide)), c2] at qR
    exact ⟨_, _, _, lC8_many (zl_ob gL l1) qC, lC9_many (zm_ob hM) qR⟩
  rw [if_neg w2] at qC qR
  by_cases w3 : w = 3
  · rw [if_pos w3, zm_e (zp_e3 hA S), zm_e (zl_gR gL la 10), zt_U_he U, zm_e (zl_gI gL lr 12), zt_S_ln u l hl, za_giv gL] at qC
    rw [if_pos w3, zm_e (zm_gI M2 12), n2.2.2.2.2] at qR
    exact ⟨_, _, _, lC8_many (zl_ob gL l1) qC, lC9_many (zm_ob hM) qR⟩
  rw [if_neg w3] at qC qR
  by_cases w4 : w = 4
  · obtain ⟨g', e1, B, rw_, lo⟩ := za_row (d := d + 22) gL U hl
    have gL' := zt_B_L B
    rw [if_pos w4, zm_e (zp_e3 hA S), zm_e e1] at qC
    dsimp only at qC
    rw [zm_e (zl_gI gL' (zt_row_l la).1 6), zt_rw_sz rw_, za_giv gL'] at qC
    rw [if_pos w4, zm_e (zm_gI M2 11), n2.2.1.1] at qR
    exact ⟨_, _, _, lC8_many (zl_ob gL l1) qC, lC9_many (zm_ob hM) qR⟩
  rw [if_neg w4] at qC qR
  by_cases w5 : w = 5
  · rw [if_pos w5, zm_e (zp_e3 hA S), zm_e (zl_gF gL la 6 14), zm_e (zl_gI gL (zt_nm_l la).1 2), zt_N_sz N, za_giv gL] at qC
    rw [if_pos w5, zm_e (zm_f0 M2), zm_e (zm_aI M2 zm_l348 rfl (by decide) (by decide)), c2] at qR
    exact ⟨_, _, _, lC8_many (zl_ob gL l1) qC, lC9_many (zm_ob hM) qR⟩
  rw [if_neg w5] at qC qR
  by_cases w6 : w = 6
  · obtain ⟨v, h1, h2⟩ := za_leaves_l (d := d + 25) (D := D + 23) gL U M2 c2 48 0 0 rfl (Nat.le_refl _)
    have e1 : C0_leaves (d + 27) a g = some (v, g) := lC0_leaves (zl_ob gL la) (by rw [qE0_leaves]; exact h1)
    have e3 : C9_leaves (D + 27) 347 k2 = some (v, k2) := lC9_leaves (zm_ob M2) (by rw [qE9_leaves]; exact h2)
    rw [if_pos w6, zm_e (zp_e3 hA S), zm_e e1] at qC
    dsimp only at qC
    rw [za_giv gL] at qC
    rw [if_pos w6, zm_e e3] at qR
    exact ⟨_, _, _, lC8_many (zl_ob gL l1) qC, lC9_many (zm_ob hM) qR⟩
  rw [if_neg w6] at qC qR
  by_cases w7 : w = 7
  · have dp := zt_dep W hs hl
    obtain ⟨v, h1, h2⟩ := za_groups_l (d := d + 26) (D := D + 25) hA U M2 c2 l (c 0) 0 hl ok.2.2.1 (by omega)
    have e1 : C0_groups (d + 27) a g = some (v, g) := lC0_groups (zl_ob gL la) (by rw [qE0_groups, zm_e (zl_gR gL la 10), zt_U_he U]; exact h1)
    have e3 : C9_groups (D + 27) 347 k2 = some (v, k2) := lC9_groups (zm_ob M2) (by
      rw [qE9_groups, zm_e (zm_here M2 _), c2]
      exact h2)
    rw [if_pos w7, zm_e (zp_e3 hA S), zm_e e1] at qC
    dsimp only at qC
    rw [za_giv gL] at qC
    rw [if_pos w7, zm_e e3] at qR
    exact ⟨_, _, _, lC8_many (zl_ob gL l1) qC, lC9_many (zm_ob hM) qR⟩
  rw [if_neg w7] at qC qR
  by_cases w8 : w = 8
  · obtain ⟨g', e1, B, rw_, lo⟩ := za_row (d := d + 22) gL U hl
    have gL' := zt_B_L B
    have l8 := (zt_row_l la).1
    have wk := zt_B_wk B
    have eo : C4_outOfForce (d + 27) (a + 8) g' = some (zv_J g' (a + 8) 8 &&& (zv_J g' (a + 8) 9 ^^^ (-1 : Int64)), g') := lC4_outOfForce (zl_ob gL' l8) (by
      rw [qE4_outOfForce, zm_e (zl_gJ gL' l8 8), zm_e (zl_gJ gL' l8 9)])
    have ep : zt_pop (zv_J g' (a + 8) 8 &&& (zv_J g' (a + 8) 9 ^^^ (-1 : Int64))) = (((c 0 :: l).filter (za_out c (c 0 :: l))).length : Int) := by
      refine za_pop ok.1 (fun t ht => by have := (ok.2.2.1 t ht).1; omega) (fun t ht => ?_)
      rw [zt_b_and, zt_b_not _ ht, Bool.and_eq_true]
      have q1 := zt_wk_ac wk t ht
      have q2 := zt_wk_fo wk t ht
      unfold za_out
      rw [Bool.and_eq_true, decide_eq_true_iff, decide_eq_true_iff, q1]
      constructor
      · rintro ⟨⟨p1, p2, p3⟩, p4⟩
        refine ⟨p2, p3, (zm_fc_01 c _ _).resolve_right (fun q => ?_)⟩
        rw [q2.mpr ⟨p1, p2, p3, q⟩] at p4
        cases p4
      · rintro ⟨p2, p3, p4⟩
        have t47 := (ok.2.2.1 _ p2).1
        refine ⟨⟨by omega, p2, p3⟩, ?_⟩
        cases e : zt_b (zv_J g' (a + 8) 9) t with
        | false => rfl
        | true =>
          have := (q2.mp e).2.2.2
          omega
    have sh : zv_I k2 347 10 = ((c 0 :: l).length : Int) := n2.1.1
    obtain ⟨k3, e3, F3, n3, _, _⟩ := za_sees (D := D + 22) M2 c2 W hs hl
    have M3 := zm_F_M F3 M2
    have c3 : zv_I k3 348 = c := (zm_F_a F3 348).trans c2
    have eg := za_gone_l (D := D + 24) M3 c3 n3 ok.2.2.1 ok.2.2.2 l.length 1 0 (by rw [List.length_cons]; omega) (by omega)
    have e4 : C9_gone (D + 27) 347 k2 = some (((((c 0 :: l).reverse.drop 1).filter (za_out c (c 0 :: l))).length : Int), k3) := lC9_gone (zm_ob M2) (by
      rw [qE9_gone, zm_e (zm_here M2 _), c2]
      dsimp only
      rw [zm_e e3]
      have eg' : L9_gone_12 (D + 26) 347 0 1 k3 = some (some (zv_i ((0 : Nat) + ((((c 0 :: l).reverse.drop 1).filter (za_out c (c 0 :: l))).length : Int))), k3) := eg
      rw [eg', show ((0 : Nat) : Int) + ((((c 0 :: l).reverse.drop 1).filter (za_out c (c 0 :: l))).length : Int) = ((((c 0 :: l).reverse.drop 1).filter (za_out c (c 0 :: l))).length : Int) by omega])
    rw [if_pos w8, zm_e (zp_e3 hA S), zm_e e1] at qC
    dsimp only at qC
    rw [zm_e eo] at qC
    dsimp only at qC
    rw [zm_e (zt_bitCount (d := d + 26) _ g'), ep] at qC
    dsimp only at qC
    rw [za_giv gL'] at qC
    rw [if_pos w8, zm_e e4, za_gone ok G] at qR
    exact ⟨_, _, _, lC8_many (zl_ob gL l1) qC, lC9_many (zm_ob hM) qR⟩
  rw [if_neg w8] at qC qR
  rw [if_pos (show w = 9 by omega), zm_e (zp_e3 hA S), zm_e (zl_gF gL la 7 17), zm_e (zl_gI gL (zt_vis_l la).1 4), zt_V_ct V, za_giv gL] at qC
  rw [zm_e (zm_f0 M2), zm_e (zm_aI M2 zm_l348 rfl (by decide) (by decide)), c2] at qR
  exact ⟨_, _, _, lC8_many (zl_ob gL l1) qC, lC9_many (zm_ob hM) qR⟩
end
