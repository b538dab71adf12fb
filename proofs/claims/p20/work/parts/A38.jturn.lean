/-! ===== the tie: withdrawing and giving back ===== -/
theorem zt_cnt : ∀ {K : List Int}, K.Nodup → (∀ x ∈ K, 0 ≤ x ∧ x < 64) → zm_sum (fun i => if (i : Int) ∈ K then 1 else 0) 64 = K.length
  | [], _, _ => by
    have e : zm_sum (fun i => if (i : Int) ∈ ([] : List Int) then (1 : Int) else 0) 64 = zm_sum (fun _ => (0 : Int)) 64 := zm_sum_cg 64 (fun k _ => if_neg (fun q => by cases q))
    rw [e]
    rfl
  | x :: K, nd, h => by
    have hx := h x List.mem_cons_self
    obtain ⟨n1, n2⟩ := List.nodup_cons.mp nd
    have ih := zt_cnt n2 (fun y hy => h y (List.mem_cons_of_mem _ hy))
    have ex : ((x.toNat : Nat) : Int) = x := by omega
    have up := zt_sum_up (f := fun i => if (i : Int) ∈ x :: K then (1 : Int) else 0) (g := fun i => if (i : Int) ∈ K then (1 : Int) else 0) (j := x.toNat) (by
      rw [ex, if_neg n1, if_pos List.mem_cons_self]
      rfl) 64 (fun k _ hk => zt_ind2 ⟨fun q => List.mem_cons_of_mem _ q, fun q => (List.mem_cons.mp q).resolve_left (fun e => hk (by omega))⟩)
    rw [if_pos (show x.toNat < 64 by omega), ih] at up
    rw [List.length_cons]
    omega
/-- who is named, of a line -/
def zt_Kp (c : Nat → Int) (L : List Int) (act s x : Int) : Prop := x ∈ L ∧ 1 ≤ x ∧ zt_tb c (if act = 3 then 1 else 0) s x ∧ zm_fc c L x = if act = 2 then 1 else 0
/-- who is in force then -/
def zt_Fp (c : Nat → Int) (L : List Int) (act s : Int) (t : Int) : Prop := t ∈ L ∧ zm_ed c t ∧ ((zt_Kp c L act s t ∧ act = 3) ∨ (¬ zt_Kp c L act s t ∧ zm_fc c L t = 1))
/-- what one sees, as the class and as the reference reckon it -/
theorem zt_sj_nam {c c1 : Nat → Int} {u act s s0 : Int} {L : List Int} {v : Int64} (hLn : zm_Ln c L s0) (hne : L ≠ []) (ok : zt_ln_ok c L) (g : zm_G0 c L) (cw : ∀ t ∈ L, zt_cw c t) (ha : ∀ t ∈ L, zm_ag c c1 t) (hu : ¬ u ∈ L) (h2 : act = 2 ∨ act = 3) (e2 : zm_o c1 u 2 = act) (hnm : ∀ x : Int, 0 ≤ x → x < 48 → (zm_nm c1 u x ↔ zt_Kp c L act s x)) (hv : ∀ t : Nat, t < 64 → (zt_b v t = true ↔ t < 48 ∧ zt_Fp c L act s t)) : zm_row c1 (u :: L) = zm_row c L ∧ ∀ p ∈ zm_row c L, zm_sn c1 (u :: L) p = zt_sj c L v p := by
  have nu : ¬ zm_ed c1 u := fun q => by
    rcases q with q | q
    · rw [e2] at q; omega
    · rw [e2] at q; omega
  have fc' : ∀ x ∈ L, (zm_fc c1 (u :: L) x = 1 ↔ (zt_Kp c L act s x ∧ act = 3) ∨ (¬ zt_Kp c L act s x ∧ zm_fc c L x = 1)) := fun x hx => by
    have xs := (ok.2.2.1 x hx).1
    have nm := hnm x xs.1 (by omega)
    rw [zm_fc_c c1 u hne]
    by_cases k : zt_Kp c L act s x
    · rw [if_pos ⟨nu, nm.mpr k⟩, e2]
      by_cases a3 : act = 3
      · rw [if_pos a3]
        exact ⟨fun _ => Or.inl ⟨k, a3⟩, fun _ => rfl⟩
      · rw [if_neg a3]
        exact ⟨fun q => absurd q (by decide), fun q => by
          rcases q with q | q
          · exact absurd q.2 a3
          · exact absurd k q.1⟩
    · rw [if_neg (fun q => k (nm.mp q.2)), if_neg (fun q => hu (by rw [← q]; exact hx)), zm_fc_cg x ha]
      exact ⟨fun q => Or.inr ⟨k, q⟩, fun q => by
        rcases q with q | q
        · exact absurd q.1 k
        · exact q.2⟩
  have bit : ∀ t ∈ L, zm_ed c t → (zt_b v t.toNat = true ↔ zm_fc c1 (u :: L) t = 1) := fun t ht he => by
    have ts := (ok.2.2.1 t ht).1
    rw [hv t.toNat (by omega), fc' t ht, show ((t.toNat : Nat) : Int) = t by omega]
    unfold zt_Fp
    exact ⟨fun q => q.2.2.2, fun q => ⟨by omega, ht, he, q⟩⟩
  have bd : ∀ (x y : Bool), (x = true ↔ y = true) → x = y := fun x y h => by
    cases x with
    | true => exact (h.mp rfl).symm
    | false =>
      cases y with
      | true => exact absurd (h.mpr rfl) (by decide)
      | false => rfl
  refine ⟨?_, fun p hp => ?_⟩
  · rw [zm_row_c c1 u hne, if_neg (fun q => nu (Or.inl q)), zm_row_cg ha]
  · have pL := (zm_row_mem hp).1
    have cb : zm_cb c1 (u :: L) (u :: L) p = L.any (zt_cg c v p) := by
      rw [zm_cb_c, decide_eq_false (fun q => nu (Or.inr q)), Bool.false_and, Bool.false_or]
      refine zm_any_cg (fun t ht => ?_)
      unfold zt_cg
      have at2 := ha t ht 2 (by decide) (by decide) (by decide)
      rw [at2]
      by_cases t1 : zm_o c t 2 = 1
      · rw [decide_eq_true t1, zm_tk_cg (ha t ht) (zm_cut12 g t ht t1), Bool.true_and, Bool.true_and]
        have b := bit t ht (Or.inr t1)
        have : decide (zm_fc c1 (u :: L) t = 1) = zt_b v t.toNat := bd _ _ (by rw [decide_eq_true_eq]; exact b.symm)
        rw [this]
      · rw [decide_eq_false t1, Bool.false_and, Bool.false_and, Bool.and_false]
    unfold zm_sn zt_sj
    rw [cb]
    have first : decide (zm_fc c1 (u :: L) p.1 = 1) = (decide (p.1 = 0) || zt_b v p.1.toNat) := by
      by_cases z : p.1 = 0
      · rw [decide_eq_true z, Bool.true_or]
        refine decide_eq_true ((fc' p.1 pL).mpr (Or.inr ⟨fun q => ?_, ?_⟩))
        · have := q.2.1; omega
        · rw [z]
          exact zt_fc0 hLn cw g hne
      · rw [decide_eq_false z, Bool.false_or]
        have b := bit p.1 pL (Or.inl (zt_row_ed hp ok.2.1 z))
        exact bd _ _ (by rw [decide_eq_true_eq]; exact b.symm)
    rw [first]
    rfl
/-- the class's answer -/
def zt_tq (a : Nat) (c : Nat → Int) (l : List Int) (act s : Int) (g : zv_H) (q : Int × zv_H) : Prop := (q.1 < 0 ∧ zt_q g q.2 ∧ ¬ zt_tw c (c 0 :: l) act s) ∨ ((zm_st c s ∧ s ∈ c 0 :: l ∧ zm_ed c s ∧ zm_fc c (c 0 :: l) s = if act = 2 then 1 else 0) ∧ ∃ (v nm : Int64), (∀ t : Nat, t < 64 → (zt_b nm t = true ↔ t < 48 ∧ zt_Kp c (c 0 :: l) act s t)) ∧ (∀ t : Nat, t < 64 → (zt_b v t = true ↔ t < 48 ∧ zt_Fp c (c 0 :: l) act s t)) ∧ ((q.1 < 0 ∧ zt_B a c (c 0 :: l) g q.2 ∧ ¬ (zm_nst c ≠ 48 ∧ ((zm_row c (c 0 :: l)).filter (zt_sj c (c 0 :: l) v)).length ≤ 120)) ∨ ((zm_nst c ≠ 48 ∧ ((zm_row c (c 0 :: l)).filter (zt_sj c (c 0 :: l) v)).length ≤ 120) ∧ ∃ g5 s', zt_B a c (c 0 :: l) g g5 ∧ zt_free c s' ∧ q.1 = s' ∧ zt_nn a c g5 s' act (-1) (zt_pop nm) s' q.2 ∧ zt_tn a g5 s' nm ((zm_row c (c 0 :: l)).filter (zt_sj c (c 0 :: l) v)) q.2)))
section
variable {a : Nat} {c : Nat → Int} {g : zv_H}
/-- who leans is a put or a cut -/
theorem zt_tc_ed {c : Nat → Int} (W : zm_W c) (cw : ∀ t, zm_st c t → zt_cw c t) {x s : Int} {ls : List Int} (hs : zm_st c s) (hls : zm_Ln c (s :: ls) s) (he : zm_ed c s) (x1 : 1 ≤ x) (t : zt_tc c s x) : x ∈ s :: ls ∧ zm_ed c x := by
  refine ⟨zt_tc_in W cw x1 t hs hls, ?_⟩
  rcases zt_tc_e t with q | ⟨o, o1, o2⟩
  · rw [← q]; exact he
  · have oo := (zt_ln_ed W o2).2
    have om := zt_tc_in W cw oo o1 hs hls
    have ho := (zt_line_u W hs hls).1.2.2.1 o om
    obtain ⟨q, hq, _⟩ := zt_line W ho
    exact Or.inl ((zt_ln_in W ho (cw o ho) hq o2 (by omega)).2 (by omega))
theorem zt_takeBack {d : Nat} (hA : zc_A g) (H : zt_H a c g) {l : List Int} (hl : zm_Ln c (c 0 :: l) (c 0)) (s : Int) : zm_R (C0_takeBack (d + 5) a s g) (zt_tq a c l 2 s g) := by
  have gL := zt_L_A hA
  have U := zt_H_U H
  have la := zt_U_la U
  have W := zt_U_W U
  obtain ⟨ok, g0, gt, W1⟩ := zt_line_u W W.2.1 hl
  have l8 := (zt_row_l la).1
  refine zm_cI (P := fun x q2 => zt_tq a c l 2 s g (x, q2)) (fun e => lC0_takeBack (zl_ob gL la) e) ?_
  rw [qE0_takeBack, zm_e (zt_at gL U s)]
  by_cases hs : zm_st c s
  · rw [if_pos hs]
    dsimp only
    have h47 := hs.1
    obtain ⟨g4, e4, B, w4, lo4⟩ := zt_lay (d := d) gL U W.2.1 hl
    have L4 := zt_B_L B
    have U4 := zt_B_U B
    have wk := zt_B_wk B
    rw [if_neg (zt_r0 U hs), zm_e (zl_gF gL la 5 8), zm_e (zl_gR gL la 10), zt_U_he U, zm_e e4, zm_e (zl_gF L4 la 5 8), zm_e (zl_gJ L4 l8 8), zm_e (zt_bitr L4 U4 hs)]
    dsimp only
    by_cases c1 : zv_lcmp (zv_J g4 (a + 8) 8 &&& zt_bt s.toNat) (Int64.ofNat 0) = 0
    · have nb := (zt_lcmp_bt _ (show s.toNat < 48 by omega)).mp c1
      rw [if_pos c1]
      refine zm_iI (Or.inl ⟨by dsimp only; decide, zt_B_q B, fun z => ?_⟩)
      have := (zt_wk_ac wk s.toNat (by omega)).mpr ⟨by omega, by rw [show ((s.toNat : Nat) : Int) = s by omega]; exact z.2.1, by rw [show ((s.toNat : Nat) : Int) = s by omega]; exact z.2.2.1⟩
      rw [nb] at this
      cases this
    · have sa := (zt_wk_ac wk s.toNat (by omega)).mp (by
        cases z : zt_b (zv_J g4 (a + 8) 8) s.toNat with
        | true => rfl
        | false => exact absurd ((zt_lcmp_bt _ (show s.toNat < 48 by omega)).mpr z) c1)
      rw [show ((s.toNat : Nat) : Int) = s by omega] at sa
      have s1 : 1 ≤ s := by
        by_cases z : s = 0
        · have h0 := W.1.2.1.2.2.1
          have he := sa.2.2
          rw [z] at he
          rcases he with q | q <;> omega
        · omega
      rw [if_neg c1, zm_e (zl_gF L4 la 5 8), zm_e (zl_gJ L4 l8 9), zm_e (zt_bitr L4 U4 hs)]
      dsimp only
      by_cases c2 : zv_lcmp (zv_J g4 (a + 8) 9 &&& zt_bt s.toNat) (Int64.ofNat 0) = 0
      · have nb := (zt_lcmp_bt _ (show s.toNat < 48 by omega)).mp c2
        rw [if_pos c2]
        refine zm_iI (Or.inl ⟨by dsimp only; decide, zt_B_q B, fun z => ?_⟩)
        have z4 := z.2.2.2.1
        rw [if_pos rfl] at z4
        have := (zt_wk_fo wk s.toNat (by omega)).mpr ⟨by omega, by rw [show ((s.toNat : Nat) : Int) = s by omega]; exact z.2.1, by rw [show ((s.toNat : Nat) : Int) = s by omega]; exact z.2.2.1, by rw [show ((s.toNat : Nat) : Int) = s by omega]; exact z4⟩
        rw [nb] at this
        cases this
      · have sf := (zt_wk_fo wk s.toNat (by omega)).mp (by
          cases z : zt_b (zv_J g4 (a + 8) 9) s.toNat with
          | true => rfl
          | false => exact absurd ((zt_lcmp_bt _ (show s.toNat < 48 by omega)).mpr z) c2)
        rw [show ((s.toNat : Nat) : Int) = s by omega] at sf
        obtain ⟨v12, e12, b12⟩ := zt_leaningOn (d := d + 2) L4 U4 hl ok wk s1 sa.2.1
        rw [if_neg c2, zm_e (zl_gF L4 la 5 8), zm_e e12]
        dsimp only
        rw [zm_e (zl_gF L4 la 5 8), zm_e (zl_gJ L4 l8 9), zm_e (zl_gF L4 la 5 8), zm_e (zl_gJ L4 l8 9)]
        have cwU : ∀ t, zm_st c t → zt_cw c t := fun t ht => zt_S_cw (zt_U_st U t ht)
        have hk : ∀ t : Nat, t < 64 → (zt_b (v12 &&& zv_J g4 (a + 8) 9) t = true ↔ t < 48 ∧ zt_Kp c (c 0 :: l) 2 s t) := fun t ht => by
          rw [zt_b_and, Bool.and_eq_true, b12 t ht, zt_wk_fo wk t ht]
          unfold zt_Kp zt_tb
          rw [if_neg (by decide : ¬ (2 : Int) = 3), if_pos rfl, if_pos rfl]
          constructor
          · rintro ⟨⟨q1, q2, q3⟩, q4⟩
            exact ⟨q1, q2, zt_tc_1 W s1 q3, q3, q4.2.2.2⟩
          · rintro ⟨q1, q2, q3, q4, q5⟩
            refine ⟨⟨q1, q2, q4⟩, q1, q2, ?_, q5⟩
            rcases zt_tc_h q4 with z | ⟨o, z, _⟩
            · rw [z]; exact sa.2.2
            · exact (zt_ln_ed W z).1
        have hv : ∀ t : Nat, t < 64 → (zt_b (zv_J g4 (a + 8) 9 &&& ((v12 &&& zv_J g4 (a + 8) 9) ^^^ (-1 : Int64))) t = true ↔ t < 48 ∧ zt_Fp c (c 0 :: l) 2 s t) := fun t ht => by
          rw [zt_b_and, zt_b_not _ ht, Bool.and_eq_true, Bool.not_eq_true', ← Bool.not_eq_true, zt_wk_fo wk t ht, hk t ht]
          unfold zt_Fp
          constructor
          · rintro ⟨⟨q1, q2, q3, q4⟩, q5⟩
            exact ⟨q1, q2, q3, Or.inr ⟨fun z => q5 ⟨q1, z⟩, q4⟩⟩
          · rintro ⟨q1, q2, q3, q4⟩
            rcases q4 with q4 | q4
            · exact absurd q4.2 (by decide)
            · exact ⟨⟨q1, q2, q3, q4.2⟩, fun z => q4.1 z.2⟩
        obtain ⟨q, eq, R⟩ := zt_turn (d := d) hl B w4 (zt_h0 H) 2 _ _ (fun t ht bt => ((hv t.toNat (by have := (ok.2.2.1 t ht).1; omega)).mp bt).2.2.1 |> fun z => by rw [show ((t.toNat : Nat) : Int) = t by have := (ok.2.2.1 t ht).1; omega] at z; exact z)
        rw [zm_e eq]
        exact zm_iI (Or.inr ⟨⟨hs, sa.2.1, sa.2.2, by rw [if_pos rfl]; exact sf.2.2.2⟩, _, _, hk, hv, R⟩)
  · rw [if_neg hs]
    dsimp only
    rw [if_pos rfl]
    exact zm_iI (Or.inl ⟨by dsimp only; decide, zt_q_r g, fun z => hs z.1⟩)
theorem zt_giveBack {d : Nat} (hA : zc_A g) (H : zt_H a c g) {l : List Int} (hl : zm_Ln c (c 0 :: l) (c 0)) (s : Int) : zm_R (C0_giveBack (d + 5) a s g) (zt_tq a c l 3 s g) := by
  have gL := zt_L_A hA
  have U := zt_H_U H
  have la := zt_U_la U
  have W := zt_U_W U
  obtain ⟨ok, g0, gt, W1⟩ := zt_line_u W W.2.1 hl
  have l8 := (zt_row_l la).1
  refine zm_cI (P := fun x q2 => zt_tq a c l 3 s g (x, q2)) (fun e => lC0_giveBack (zl_ob gL la) e) ?_
  rw [qE0_giveBack, zm_e (zt_at gL U s)]
  by_cases hs : zm_st c s
  · rw [if_pos hs]
    dsimp only
    have h47 := hs.1
    obtain ⟨g4, e4, B, w4, lo4⟩ := zt_lay (d := d) gL U W.2.1 hl
    have L4 := zt_B_L B
    have U4 := zt_B_U B
    have wk := zt_B_wk B
    rw [if_neg (zt_r0 U hs), zm_e (zl_gF gL la 5 8), zm_e (zl_gR gL la 10), zt_U_he U, zm_e e4, zm_e (zl_gF L4 la 5 8), zm_e (zl_gJ L4 l8 8), zm_e (zt_bitr L4 U4 hs)]
    dsimp only
    by_cases c1 : zv_lcmp (zv_J g4 (a + 8) 8 &&& zt_bt s.toNat) (Int64.ofNat 0) = 0
    · have nb := (zt_lcmp_bt _ (show s.toNat < 48 by omega)).mp c1
      rw [if_pos c1]
      refine zm_iI (Or.inl ⟨by dsimp only; decide, zt_B_q B, fun z => ?_⟩)
      have := (zt_wk_ac wk s.toNat (by omega)).mpr ⟨by omega, by rw [show ((s.toNat : Nat) : Int) = s by omega]; exact z.2.1, by rw [show ((s.toNat : Nat) : Int) = s by omega]; exact z.2.2.1⟩
      rw [nb] at this
      cases this
    · have sa := (zt_wk_ac wk s.toNat (by omega)).mp (by
        cases z : zt_b (zv_J g4 (a + 8) 8) s.toNat with
        | true => rfl
        | false => exact absurd ((zt_lcmp_bt _ (show s.toNat < 48 by omega)).mpr z) c1)
      rw [show ((s.toNat : Nat) : Int) = s by omega] at sa
      have s1 : 1 ≤ s := by
        by_cases z : s = 0
        · have h0 := W.1.2.1.2.2.1
          have he := sa.2.2
          rw [z] at he
          rcases he with q | q <;> omega
        · omega
      rw [if_neg c1, zm_e (zl_gF L4 la 5 8), zm_e (zl_gJ L4 l8 9), zm_e (zt_bitr L4 U4 hs)]
      dsimp only
      by_cases c2 : zv_lcmp (zv_J g4 (a + 8) 9 &&& zt_bt s.toNat) (Int64.ofNat 0) = 0
      · have nb := (zt_lcmp_bt _ (show s.toNat < 48 by omega)).mp c2
        have sf : ¬ zm_fc c (c 0 :: l) s = 1 := fun q => by
          have := (zt_wk_fo wk s.toNat (by omega)).mpr ⟨by omega, by rw [show ((s.toNat : Nat) : Int) = s by omega]; exact sa.2.1, by rw [show ((s.toNat : Nat) : Int) = s by omega]; exact sa.2.2, by rw [show ((s.toNat : Nat) : Int) = s by omega]; exact q⟩
          rw [nb] at this
          cases this
        have f01 := zm_fc_01 c
        obtain ⟨v12, e12, b12⟩ := zt_groundOf (d := d + 2) L4 U4 hs s1
        rw [if_pos c2, zm_e (zl_gF L4 la 5 8), zm_e e12]
        dsimp only
        rw [zm_e (zl_gF L4 la 5 8), zm_e (zl_gJ L4 l8 9), zm_e (zl_gF L4 la 5 8), zm_e (zl_gJ L4 l8 9)]
        have cwU : ∀ t, zm_st c t → zt_cw c t := fun t ht => zt_S_cw (zt_U_st U t ht)
        obtain ⟨p, ls, eL, hls⟩ := zm_Ln_s hl s sa.2.1
        have inL : ∀ x : Int, 1 ≤ x → zt_tc c s x → x ∈ c 0 :: l ∧ zm_ed c x := fun x x1 t => by
          obtain ⟨m1, m2⟩ := zt_tc_ed W cwU hs hls sa.2.2 x1 t
          refine ⟨?_, m2⟩
          rw [eL]
          exact List.mem_append_right _ m1
        have hk : ∀ t : Nat, t < 64 → (zt_b (v12 &&& (zv_J g4 (a + 8) 9 ^^^ (-1 : Int64))) t = true ↔ t < 48 ∧ zt_Kp c (c 0 :: l) 3 s t) := fun t ht => by
          rw [zt_b_and, zt_b_not _ ht, Bool.and_eq_true, Bool.not_eq_true', ← Bool.not_eq_true, b12 t ht, zt_wk_fo wk t ht]
          unfold zt_Kp zt_tb
          rw [if_pos rfl, if_neg (by decide : ¬ (1 : Int) = 0), if_neg (by decide : ¬ (3 : Int) = 2)]
          constructor
          · rintro ⟨⟨⟨q1, q2⟩, q3⟩, q4⟩
            obtain ⟨m1, m2⟩ := inL t (by omega) q3
            refine ⟨q2, m1, by omega, q3, ?_⟩
            rcases f01 t (c 0 :: l) with z | z
            · exact z
            · exact absurd ⟨q2, m1, m2, z⟩ q4
          · rintro ⟨q1, q2, q3, q4, q5⟩
            exact ⟨⟨⟨by omega, q1⟩, q4⟩, fun z => by have := z.2.2.2; omega⟩
        have hv : ∀ t : Nat, t < 64 → (zt_b (zv_J g4 (a + 8) 9 ||| (v12 &&& (zv_J g4 (a + 8) 9 ^^^ (-1 : Int64)))) t = true ↔ t < 48 ∧ zt_Fp c (c 0 :: l) 3 s t) := fun t ht => by
          rw [zt_b_or, Bool.or_eq_true, zt_wk_fo wk t ht, hk t ht]
          unfold zt_Fp
          constructor
          · rintro (⟨q1, q2, q3, q4⟩ | ⟨q1, q2⟩)
            · refine ⟨q1, q2, q3, Or.inr ⟨fun z => ?_, q4⟩⟩
              have z4 := z.2.2.2
              rw [if_neg (by decide : ¬ (3 : Int) = 2)] at z4
              omega
            · have z3 := q2.2.2.1
              unfold zt_tb at z3
              rw [if_pos rfl, if_neg (by decide : ¬ (1 : Int) = 0)] at z3
              exact ⟨q1, q2.1, (inL t q2.2.1 z3).2, Or.inl ⟨q2, rfl⟩⟩
          · rintro ⟨q1, q2, q3, q4⟩
            rcases q4 with q4 | q4
            · exact Or.inr ⟨q1, q4.1⟩
            · exact Or.inl ⟨q1, q2, q3, q4.2⟩
        obtain ⟨q, eq, R⟩ := zt_turn (d := d) hl B w4 (zt_h0 H) 3 _ _ (fun t ht bt => ((hv t.toNat (by have := (ok.2.2.1 t ht).1; omega)).mp bt).2.2.1 |> fun z => by rw [show ((t.toNat : Nat) : Int) = t by have := (ok.2.2.1 t ht).1; omega] at z; exact z)
        rw [zm_e eq]
        refine zm_iI (Or.inr ⟨⟨hs, sa.2.1, sa.2.2, ?_⟩, _, _, hk, hv, R⟩)
        rw [if_neg (by decide : ¬ (3 : Int) = 2)]
        exact (f01 s _).resolve_right sf
      · have sf := (zt_wk_fo wk s.toNat (by omega)).mp (by
          cases z : zt_b (zv_J g4 (a + 8) 9) s.toNat with
          | true => rfl
          | false => exact absurd ((zt_lcmp_bt _ (show s.toNat < 48 by omega)).mpr z) c2)
        rw [show ((s.toNat : Nat) : Int) = s by omega] at sf
        rw [if_neg c2]
        refine zm_iI (Or.inl ⟨by dsimp only; decide, zt_B_q B, fun z => ?_⟩)
        have z4 := z.2.2.2.1
        rw [if_neg (by decide : ¬ (3 : Int) = 2)] at z4
        have := sf.2.2.2
        omega
  · rw [if_neg hs]
    dsimp only
    rw [if_pos rfl]
    exact zm_iI (Or.inl ⟨by dsimp only; decide, zt_q_r g, fun z => hs z.1⟩)
end
