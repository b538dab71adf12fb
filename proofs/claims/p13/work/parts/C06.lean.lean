/-! C06.lean -/
section
/-! ===== what is asked, answered alike: leaning ===== -/
theorem za_drop1 {c : Nat → Int} {L : List Int} {Q : Int → Bool} (ok : zt_ln_ok c L) (q0 : ¬ Q 0 = true) : ((L.reverse.drop 1).filter Q).length = (L.filter Q).length := by
  have er : L.reverse = 0 :: L.reverse.drop 1 := by
    have h := ok.2.1
    rw [← List.head?_reverse] at h
    cases hr : L.reverse with
    | nil =>
      rw [hr] at h
      cases h
    | cons x r =>
      rw [hr] at h
      have : x = 0 := Option.some.inj h
      rw [this]
      rfl
  have e1 : (L.reverse.filter Q).length = (L.filter Q).length := by rw [List.filter_reverse, List.length_reverse]
  rw [← e1]
  conv => rhs; rw [er]
  rw [List.filter_cons_of_neg q0]
/-- is one marked -/
def za_mk (k : zv_H) (t : Int) : Bool := decide (¬ zv_I k 365 t.toNat = 0)
theorem za_mk_e (k : zv_H) (t : Int) : za_mk k t = true ↔ zt_mk k t := by
  unfold za_mk zt_mk
  exact decide_eq_true_iff
theorem za_cs (v n : Nat) : ((v + 1 : Nat) : Int) + (n : Int) = (v : Int) + ((n + 1 : Nat) : Int) := by omega
section
variable {a b m : Nat} {g k : zv_H}
/-- the marks, and what one sees beside them -/
theorem za_marks {D : Nat} (hM : zm_M k) {c : Nat → Int} (hc : zv_I k 348 = c) (W : zm_W c) (cw : ∀ t, zm_st c t → zt_cw c t) {l : List Int} (hl : zm_Ln c (c 0 :: l) (c 0)) {s : Int} (s1 : 1 ≤ s) (hsl : s ∈ c 0 :: l) : ∃ k', C9_marks (D + 5) 347 s 0 k = some k' ∧ zm_F [351, 352, 353, 354, 355, 365] [10, 11, 12] k k' ∧ zm_Sn k' c (c 0 :: l) ∧ (∀ x ∈ c 0 :: l, (za_mk k' x = true ↔ zt_tc c x s)) := by
  obtain ⟨k', e, F, mk, mk0⟩ := zt_marks (d := D) hM hc W cw hl s1 hsl 0
  obtain ⟨ok, G, gt, W1⟩ := zt_line_u W W.2.1 hl
  have l47 := zt_dep W W.2.1 hl
  obtain ⟨h1, e1, f1, hSn⟩ := zm_sees_st hM hc D W1 l47 G gt
  have hM1 := zm_F_M f1 hM
  have c1 : zv_I h1 348 = c := (zm_F_a f1 348).trans hc
  have hh : zm_lh c (c 0 :: l) h1 := ⟨hM1, c1, hSn.1.1, hSn.1.2⟩
  obtain ⟨h2, i1, f2⟩ := zm_marks10 (D + 4) s 0 48 0 h1 rfl hM1
  have hh2 := zm_lh_F hh f2
  have ln : (c 0 :: l).length ≤ 48 := by
    rw [List.length_cons]
    omega
  have l1 : 1 + l.length = (c 0 :: l).length := by
    rw [List.length_cons, Nat.add_comm]
  obtain ⟨h3, k1, f3⟩ := zm_marks40 (D + 2) W.1 ok.2.2.1 ln 0 l.length 1 h2 l1 (Nat.le_refl _) hh2
  have e3 : C9_marks (D + 5) 347 s 0 k = some h3 := lC9_marks (zm_ob hM) (by
    rw [qE9_marks, zm_e (zm_here hM _), hc]
    dsimp only
    rw [zm_e e1, show L9_marks_10 (D + 4) 347 s 0 0 h1 = _ from i1, qL9_marks_10, if_neg (by decide), show L9_marks_40 (D + 4) 347 0 1 h2 = _ from k1])
  have ek : k' = h3 := Option.some.inj (e.symm.trans e3)
  subst ek
  refine ⟨k', e, F, zm_Sn_F (zm_Sn_F hSn f2) f3, fun x hx => ?_⟩
  have x47 := (ok.2.2.1 x hx).1
  rw [za_mk_e]
  by_cases x1 : 1 ≤ x
  · rw [mk x hx x1]
    unfold zt_tb
    rw [if_pos rfl]
  · constructor
    · intro q
      have := mk0 x x47.1 x47.2 q
      unfold zt_tb at this
      rw [if_pos rfl] at this
      exact this
    · intro q
      have := zt_tc_1 W s1 q
      omega
/-- the reference counts along the line -/
theorem za_89 {D : Nat} {c : Nat → Int} {L : List Int} (hM : zm_M k) (hc : zv_I k 348 = c) (n2 : zm_Sn k c L) (hl : ∀ t ∈ L, zm_st c t) (hn : L.length ≤ 48) {w : Int} (hw : w = 0 ∨ w = 1) : ∀ (n i : Nat) (v : Nat), i + n = L.length → v ≤ i → L9_leaning_89 D 347 w (v : Int) (i : Int) k = some (some (zv_i ((v : Int) + ((L.reverse.drop i).filter (fun t => za_mk k t && (decide (w = 0) || decide (zm_fc c L t = 1)))).length)), k)
  | 0, i, v, hi, hv => by
    have e154 : L9_leaning_154 D 347 w (v : Int) 0 k = some (some (zv_i (v : Int)), k) := by
      rw [qL9_leaning_154, zm_e (zm_gI hM 11)]
      by_cases c1 : 0 < zv_I k 347 11
      · rw [if_pos c1, if_neg (by omega)]
      · rw [if_neg c1]
    rw [qL9_leaning_89, zm_e (zm_gI hM 10), n2.1.1, if_neg (by omega), List.drop_eq_nil_of_le (by rw [List.length_reverse]; omega), e154]
    show some (some (zv_i (v : Int)), k) = some (some (zv_i ((v : Int) + 0)), k)
    rw [Int.add_zero]
  | n + 1, i, v, hi, hv => by
    have w1 : zv_w ((i : Int) + 1) = ((i + 1 : Nat) : Int) := by
      rw [zm_w (by omega)]
      rfl
    have w2 : zv_w ((v : Int) + 1) = ((v + 1 : Nat) : Int) := by
      rw [zm_w (by omega)]
      rfl
    have w0 : zv_w ((v : Int) + 0) = (v : Int) := by
      rw [zm_w (by omega)]
      omega
    have ir : i < L.reverse.length := by rw [List.length_reverse]; omega
    have ht : L.reverse[i] ∈ L := List.mem_reverse.mp (List.getElem_mem ir)
    have e351 := n2.1.2 i _ (List.getElem?_eq_getElem ir)
    have ed := List.drop_eq_getElem_cons ir
    generalize L.reverse[i] = t at ht e351 ed
    have t48 := zm_st48 (hl t ht)
    have fc := n2.2.2.1 t ht
    have f01 := zm_fc_01 c t L
    have go := za_89 (D := D) hM hc n2 hl hn hw n (i + 1)
    rw [ed, qL9_leaning_89, zm_e (zm_gI hM 10), n2.1.1, if_pos (by omega), if_pos (by omega), zm_e (zm_gR hM rfl rfl : zv_gR k 347 9 25 = some 365), zm_e (zm_f5 hM), zm_e (zm_aI hM (show zv_lay 351 = (2, 49) from rfl) rfl (by omega) (by omega)), Int.toNat_natCast, e351, zm_e (zm_aB hM (show zv_lay 365 = (3, 49) from rfl) (Or.inl rfl) rfl t48.1 (by omega)), w0, w1, w2]
    by_cases c1 : zv_I k 365 t.toNat = 0
    · have eo : ¬ (za_mk k t && (decide (w = 0) || decide (zm_fc c L t = 1))) = true := by
        unfold za_mk
        rw [decide_eq_false (fun q => q c1), Bool.false_and]
        decide
      rw [if_pos c1, go v (by omega) (by omega), List.filter_cons_of_neg (p := fun t => za_mk k t && (decide (w = 0) || decide (zm_fc c L t = 1))) eo]
    · have em : za_mk k t = true := decide_eq_true c1
      rw [if_neg c1]
      by_cases wz : w = 0
      · have eo : (za_mk k t && (decide (w = 0) || decide (zm_fc c L t = 1))) = true := by
          rw [em, decide_eq_true wz]
          rfl
        rw [if_pos wz, go (v + 1) (by omega) (by omega), List.filter_cons_of_pos (p := fun t => za_mk k t && (decide (w = 0) || decide (zm_fc c L t = 1))) eo, List.length_cons]
        exact congrArg (fun z => (some (some (zv_i z), k) : zv_O)) (za_cs _ _)
      · rw [if_neg wz, zm_e (zm_f8 hM), zm_e (zm_f5 hM), zm_e (zm_aI hM (show zv_lay 351 = (2, 49) from rfl) rfl (by omega) (by omega)), Int.toNat_natCast, e351, zm_e (zm_aB hM zm_l354 (Or.inl rfl) rfl t48.1 (by omega)), fc]
        by_cases c2 : zm_fc c L t = 0
        · have eo : ¬ (za_mk k t && (decide (w = 0) || decide (zm_fc c L t = 1))) = true := by
            rw [em, decide_eq_false wz, decide_eq_false (by omega)]
            decide
          rw [if_pos c2, go v (by omega) (by omega), List.filter_cons_of_neg (p := fun t => za_mk k t && (decide (w = 0) || decide (zm_fc c L t = 1))) eo]
        · have eo : (za_mk k t && (decide (w = 0) || decide (zm_fc c L t = 1))) = true := by
            rw [em, decide_eq_true (f01.resolve_left c2), Bool.or_true]
            rfl
          rw [if_neg c2, go (v + 1) (by omega) (by omega), List.filter_cons_of_pos (p := fun t => za_mk k t && (decide (w = 0) || decide (zm_fc c L t = 1))) eo, List.length_cons]
          exact congrArg (fun z => (some (some (zv_i z), k) : zv_O)) (za_cs _ _)
/-- the reference counts along the row -/
theorem za_154 {D : Nat} {c : Nat → Int} {L : List Int} (hM : zm_M k) (n2 : zm_Sn k c L) (hn : (zm_row c L).length ≤ 604) (hok : ∀ x ∈ zm_row c L, zt_ok x) : ∀ (n i : Nat) (v : Nat), i + n = (zm_row c L).length → v ≤ i → L9_leaning_154 D 347 2 (v : Int) (i : Int) k = some (some (zv_i ((v : Int) + (((zm_row c L).drop i).filter (fun x => za_mk k x.1 && zm_sn c L x)).length)), k)
  | 0, i, v, hi, hv => by
    rw [qL9_leaning_154, zm_e (zm_gI hM 11), n2.2.1.1, if_neg (by omega), List.drop_eq_nil_of_le (by omega)]
    show some (some (zv_i (v : Int)), k) = some (some (zv_i ((v : Int) + 0)), k)
    rw [Int.add_zero]
  | n + 1, i, v, hi, hv => by
    have w1 : zv_w ((i : Int) + 1) = ((i + 1 : Nat) : Int) := by
      rw [zm_w (by omega)]
      rfl
    have w2 : zv_w ((v : Int) + 1) = ((v + 1 : Nat) : Int) := by
      rw [zm_w (by omega)]
      rfl
    have w0 : zv_w ((v : Int) + 0) = (v : Int) := by
      rw [zm_w (by omega)]
      omega
    have ir : i < (zm_row c L).length := by omega
    have hx : (zm_row c L)[i] ∈ zm_row c L := List.getElem_mem ir
    have ex := List.getElem?_eq_getElem ir
    have ed := List.drop_eq_getElem_cons ir
    generalize (zm_row c L)[i] = x at hx ex ed
    have x47 := zt_ok_47 (hok x hx)
    have sn := n2.2.2.2.1 i x ex
    have by1 := (n2.2.1.2 i x ex).1
    have go := za_154 (D := D) hM n2 hn hok n (i + 1)
    rw [ed, qL9_leaning_154, zm_e (zm_gI hM 11), n2.2.1.1, if_pos (by omega), if_pos rfl, zm_e (zm_gR hM rfl rfl : zv_gR k 347 9 9 = some 355), zm_e (zm_aB hM (show zv_lay 355 = (3, 640) from rfl) (Or.inl rfl) rfl (by omega) (by omega)), Int.toNat_natCast, sn, w0, w1, w2]
    by_cases cs : zm_sn c L x = true
    · rw [if_pos cs, if_neg (by decide), zm_e (zm_gR hM rfl rfl : zv_gR k 347 9 25 = some 365), zm_e (zm_gR hM rfl rfl : zv_gR k 347 9 6 = some 352), zm_e (zm_aI hM (show zv_lay 352 = (2, 640) from rfl) rfl (by omega) (by omega)), Int.toNat_natCast, by1, zm_e (zm_aB hM (show zv_lay 365 = (3, 49) from rfl) (Or.inl rfl) rfl x47.1 (by omega))]
      by_cases c1 : zv_I k 365 x.1.toNat = 0
      · have eo : ¬ (za_mk k x.1 && zm_sn c L x) = true := by
          unfold za_mk
          rw [decide_eq_false (fun q => q c1), Bool.false_and]
          decide
        rw [if_pos c1, go v (by omega) (by omega), List.filter_cons_of_neg (p := fun x : Int × Int => za_mk k x.1 && zm_sn c L x) eo]
      · have eo : (za_mk k x.1 && zm_sn c L x) = true := by
          rw [show za_mk k x.1 = true from decide_eq_true c1, cs]
          rfl
        rw [if_neg c1, go (v + 1) (by omega) (by omega), List.filter_cons_of_pos (p := fun x : Int × Int => za_mk k x.1 && zm_sn c L x) eo, List.length_cons]
        exact congrArg (fun z => (some (some (zv_i z), k) : zv_O)) (za_cs _ _)
    · have eo : ¬ (za_mk k x.1 && zm_sn c L x) = true := by
        rw [Bool.not_eq_true] at cs
        rw [cs, Bool.and_false]
        decide
      rw [if_neg cs, if_pos rfl, go v (by omega) (by omega), List.filter_cons_of_neg (p := fun x : Int × Int => za_mk k x.1 && zm_sn c L x) eo]
/-- the class counts letters of HERE by who put them in -/
theorem za_hereBy {d : Nat} {c : Nat → Int} (gL : zt_L g) (U : zt_U a c g) {E : List (Int × Int)} (src : zt_src (zt_r a (c 0)) E g) (hok : ∀ x ∈ E, zt_ok x) (v : Int64) : ∀ (n i : Nat) (u : Nat), i + n = E.length → u ≤ i → L0_lettersOfHereBy_5 (d + 1) a v (u : Int) (i : Int) g = some (some (zv_i ((u : Int) + ((E.drop i).filter (fun x => zt_b v x.1.toNat)).length)), g)
  | 0, i, u, hi, hu => by
    have la := zt_U_la U
    obtain ⟨lS, s12, s120, sid⟩ := src
    rw [qL0_lettersOfHereBy_5, zm_e (zl_gR gL la 10), zt_U_he U, zm_e (zl_gI gL lS 12), s12, if_neg (by omega), List.drop_eq_nil_of_le (by omega)]
    show some (some (zv_i (u : Int)), g) = some (some (zv_i ((u : Int) + 0)), g)
    rw [Int.add_zero]
  | n + 1, i, u, hi, hu => by
    have la := zt_U_la U
    obtain ⟨lS, s12, s120, sid⟩ := id src
    have w1 : zv_w ((i : Int) + 1) = ((i + 1 : Nat) : Int) := by
      rw [zm_w (by omega)]
      rfl
    have w2 : zv_w ((u : Int) + 1) = ((u + 1 : Nat) : Int) := by
      rw [zm_w (by omega)]
      rfl
    have w0 : zv_w ((u : Int) + 0) = (u : Int) := by
      rw [zm_w (by omega)]
      omega
    have ir : i < E.length := by omega
    have hx : E[i] ∈ E := List.getElem_mem ir
    have ex := List.getElem?_eq_getElem ir
    have ed := List.drop_eq_getElem_cons ir
    generalize E[i] = x at hx ex ed
    have xok := hok x hx
    have x47 := zt_ok_47 xok
    have ei := zt_C5_idAt (d := d) gL lS (by rw [s12]; omega) (i : Int)
    have sh := zt_lushr v (n := x.1.toNat) (by omega)
    rw [show ((x.1.toNat : Nat) : Int) = x.1 by omega] at sh
    have go := za_hereBy (d := d) gL U src hok v n (i + 1)
    rw [ed, qL0_lettersOfHereBy_5, zm_e (zl_gR gL la 10), zt_U_he U, zm_e (zl_gI gL lS 12), s12, if_pos (by omega), zm_e (zl_gR gL la 10), zt_U_he U, zm_e ei, s12, if_pos (by omega), Int.toNat_natCast, sid i x ex, w0, w1, w2]
    dsimp only
    rw [zm_e (zt_C4_putter (d := d) xok)]
    dsimp only
    by_cases c1 : zt_b v x.1.toNat = true
    · rw [if_neg (fun q => by rw [sh.mp q] at c1; cases c1), go (u + 1) (by omega) (by omega), List.filter_cons_of_pos (p := fun x : Int × Int => zt_b v x.1.toNat) c1, List.length_cons]
      exact congrArg (fun z => (some (some (zv_i z), g) : zv_O)) (za_cs _ _)
    · rw [Bool.not_eq_true] at c1
      rw [if_pos (sh.mpr c1), go u (by omega) (by omega), List.filter_cons_of_neg (p := fun x : Int × Int => zt_b v x.1.toNat) (by rw [c1]; decide)]
/-- were it withdrawn: the reference's letters -/
theorem za_let48 {D : Nat} (hM : zm_M k) {c : Nat → Int} (hc : zv_I k 348 = c) (w : zm_W c) {l : List Int} (hlL : zm_Ln c (c 0 :: l) (c 0)) (s : Int) (mk : ∀ x ∈ c 0 :: l, 1 ≤ x → (zt_mk k x ↔ zt_tb c 0 s x)) : ∃ (c2 : Nat → Int) (k' : zv_H), ((C9_triesNames (D + 6) 347 2 k).bind fun q3 => (C9_lettersOf (D + 6) 347 48 q3.2).bind fun q4 => (some (some (zv_i q4.1), q4.2) : zv_O)) = some (some (zv_i (((zm_row c2 (48 :: c 0 :: l)).filter (zm_sn c2 (48 :: c 0 :: l))).length : Int)), k') ∧ (∀ t ∈ c 0 :: l, zm_ag c c2 t) ∧ ¬ (48 : Int) ∈ c 0 :: l ∧ zm_o c2 48 2 = 2 ∧ ∀ x : Int, 0 ≤ x → x < 48 → (zm_nm c2 48 x ↔ zt_Kp c (c 0 :: l) 2 s x) := by
  obtain ⟨⟨many, h2⟩, e2, f2, tr, K, nk, em⟩ := zt_triesNames hM hc w (D + 1) (act := 2) (Or.inl rfl) hlL s 0 mk
  dsimp only at f2 tr nk em
  have hM2 := zm_F_M f2 hM
  have w2 := zm_Tr_W tr w
  generalize hc2 : zv_I h2 348 = c2 at tr w2 nk
  obtain ⟨_, g, gt, hl⟩ := zt_line_u w w.2.1 hlL
  have hl2 := zt_dep w w.2.1 hlL
  have hagl : ∀ t ∈ c 0 :: l, zm_ag c c2 t := fun t ht => by
    have hst := hl.2.1.2.2 t ht
    exact zm_Tr_ag tr hst.1.1 hst.1.2
  have n48 : ¬ (48 : Int) ∈ c 0 :: l := fun q => by
    have := (hl.2.1.2.2 48 q).1
    omega
  have hLn : zm_Ln c2 (48 :: c 0 :: l) 48 := by
    refine ⟨by decide, ?_⟩
    rw [tr.2.1]
    exact zm_Ln_cg hagl hl.1
  have ned : ¬ zm_ed c2 48 := by
    intro q
    have h3 := tr.2.2.1
    rcases q with q | q
    · rw [h3] at q
      omega
    · rw [h3] at q
      omega
  have g48 : zm_G0 c2 (48 :: c 0 :: l) := by
    obtain ⟨a1, a2, a3, a4, a5⟩ := g
    have a0 := hagl 0 (List.mem_of_getLast? a2)
    refine ⟨List.nodup_cons.mpr ⟨n48, a1⟩, by rw [List.getLast?_cons_cons]; exact a2, by rw [a0 5 (by decide) (by decide) (by decide)]; exact a3, by rw [a0 2 (by decide) (by decide) (by decide)]; exact a4, fun t ht h0 he => ?_⟩
    rcases List.mem_cons.mp ht with q | q
    · rw [q] at he
      exact absurd he ned
    · rw [hagl t q 5 (by decide) (by decide) (by decide)]
      exact a5 t q h0 ((zm_ed_cg (hagl t q)).mp he)
  have gt48 : ∀ t ∈ 48 :: c 0 :: l, zm_o c2 t 2 = 1 → ∀ p ∈ zm_tk c2 t, p ∈ zm_row c2 (48 :: c 0 :: l) := by
    intro t ht hk p hp
    rcases List.mem_cons.mp ht with q | q
    · rw [q] at hk
      exact absurd (Or.inr hk) ned
    · rw [hagl t q 2 (by decide) (by decide) (by decide)] at hk
      rw [zm_tk_cg (hagl t q) (zm_cut12 g t q hk)] at hp
      rw [zm_row_c c2 48 (List.cons_ne_nil _ _), if_neg (fun q => ned (Or.inl q)), zm_row_cg hagl]
      exact gt t q hk p hp
  have ln : (48 :: c 0 :: l).length ≤ 49 := by
    rw [List.length_cons, List.length_cons]
    omega
  obtain ⟨⟨n, h3⟩, e3, en, f3, _⟩ := zm_lettersOf hM2 (D + 1) (zm_sees hM2 hc2 (D + 1) (by decide) hLn ln g48 gt48)
  dsimp only at en f3
  refine ⟨c2, h3, ?_, hagl, n48, tr.2.2.1, fun x x0 x1 => ?_⟩
  · rw [zm_e e2]
    dsimp only
    rw [zm_e e3, en]
  · rw [nk.2.2 x x0 x1, nk.2.1 x]
    unfold zt_Kp
    rw [if_neg (by decide : ¬ (2 : Int) = 3)]
theorem zp_leaning {d D : Nat} (hA : zc_A g) (I : zm_MI k) (S : zt_GG m a b g k) (s w : Int) : ∃ v g' k', C8_leaning (d + 28) 1 s w g = some (v, g') ∧ C9_leaning (D + 28) 347 s w k = some (v, k') := by
  have gL := zt_L_A hA
  have hM := I.1
  have l1 : zv_lay 1 = (1, 8) := rfl
  have la := (zt_lab (zt_GG_ab S)).1
  have qC := qE8_leaning (d + 27) 1 s w g
  have qR := qE9_leaning (D + 27) 347 s w k
  rw [zm_e (zc_within (d := d + 26) g w 0 3)] at qC
  rw [zm_e (zm_isIn (h := k) (D + 26) w 0 3)] at qR
  dsimp only at qC qR
  by_cases cw3 : 0 ≤ w ∧ w ≤ 3
  rotate_left
  · rw [if_neg cw3, if_pos rfl, za_ref gL] at qC
    rw [if_neg cw3, if_pos rfl, qL9_leaning_52, za_isn hM (by decide)] at qR
    exact ⟨_, _, _, lC8_leaning (zl_ob gL l1) qC, lC9_leaning (zm_ob hM) qR⟩
  rw [if_pos cw3, if_neg (by decide), zm_e (zp_e3 hA S), zm_e (za_at (d := d + 26) hA S s)] at qC
  rw [if_pos cw3, if_neg (by decide), zm_e (zm_isState hM (D + 25) s)] at qR
  dsimp only at qC qR
  by_cases hs : zm_st (zv_I k 348) s
  rotate_left
  · rw [if_neg hs, if_pos rfl, za_ref gL] at qC
    rw [if_neg hs, if_pos rfl, qL9_leaning_52, za_isn hM (by decide)] at qR
    exact ⟨_, _, _, lC8_leaning (zl_ob gL l1) qC, lC9_leaning (zm_ob hM) qR⟩
  have U := zt_H_U (zt_GG_H S)
  have W := zt_U_W U
  obtain ⟨l, hl, ok, G, gt, _⟩ := zt_line W W.2.1
  obtain ⟨g', e1, B, rw_, lo⟩ := za_row (d := d + 22) gL U hl
  have gL' := zt_B_L B
  have U' := zt_B_U B
  have wk := zt_B_wk B
  have l8 := (zt_row_l la).1
  have s47 := hs.1
  have sb : (s.toNat : Int) = s := by omega
  have bt := zt_lcmp_bt (zv_J g' (a + 8) 8) (n := s.toNat) (by omega)
  have ac := zt_wk_ac wk s.toNat (by omega)
  rw [sb] at ac
  rw [if_pos hs, if_neg (za_r0 S hs), zm_e (zp_e3 hA S), zm_e e1] at qC
  dsimp only at qC
  rw [zm_e (zl_gJ gL' l8 8), zm_e (zt_bitr (d := d + 26) gL' U' hs)] at qC
  dsimp only at qC
  rw [if_pos hs, if_neg (by decide), zm_e (zm_here hM _)] at qR
  dsimp only at qR
  rw [zm_e (zm_isOfLine hM (D + 25) s hl)] at qR
  dsimp only at qR
  by_cases hi : s ∈ zv_I k 348 0 :: l
  rotate_left
  · have nb : zt_b (zv_J g' (a + 8) 8) s.toNat = false := by
      cases e : zt_b (zv_J g' (a + 8) 8) s.toNat with
      | false => rfl
      | true => exact absurd (ac.mp e).2.1 hi
    rw [if_pos (bt.mpr nb), za_ref gL'] at qC
    rw [if_neg hi, if_pos rfl, qL9_leaning_46, qL9_leaning_52, za_isn hM (by decide)] at qR
    exact ⟨_, _, _, lC8_leaning (zl_ob gL l1) qC, lC9_leaning (zm_ob hM) qR⟩
  rw [if_pos hi, if_neg (by decide), zm_e (zm_isEdit hM (D + 25) (zm_st48 hs))] at qR
  dsimp only at qR
  by_cases he : zm_ed (zv_I k 348) s
  rotate_left
  · have nb : zt_b (zv_J g' (a + 8) 8) s.toNat = false := by
      cases e : zt_b (zv_J g' (a + 8) 8) s.toNat with
      | false => rfl
      | true => exact absurd (ac.mp e).2.2 he
    rw [if_pos (bt.mpr nb), za_ref gL'] at qC
    rw [if_neg he, if_pos rfl, qL9_leaning_46, qL9_leaning_52, za_isn hM (by decide)] at qR
    exact ⟨_, _, _, lC8_leaning (zl_ob gL l1) qC, lC9_leaning (zm_ob hM) qR⟩
  have yb : zt_b (zv_J g' (a + 8) 8) s.toNat = true := ac.mpr ⟨by omega, hi, he⟩
  have s1 : 1 ≤ s := by
    by_cases z : s = 0
    · have h0 := W.1.2.1.2.2.1
      rw [z] at he
      rcases he with q | q <;> omega
    · omega
  have cw : ∀ t, zm_st (zv_I k 348) t → zt_cw (zv_I k 348) t := fun t ht => zt_S_cw (zt_U_st U t ht)
  obtain ⟨v, ev, hv⟩ := zt_leaningOn (d := d + 25) gL' U' hl ok wk s1 hi
  rw [if_neg (fun q => by rw [bt.mp q] at yb; cases yb), zm_e ev] at qC
  dsimp only at qC
  obtain ⟨k1, i1, F1⟩ := zp_is hM
  have M1 := zm_F_M F1 hM
  have e348 : zv_I k1 348 = zv_I k 348 := zm_F_a F1 348
  rw [if_pos he, if_neg (by decide), qL9_leaning_52, za_isy i1] at qR
  dsimp only at qR
  generalize hc : zv_I k 348 = c at U W hl ok G gt hi he cw hv e348 B U' wk rw_ lo hs
  obtain ⟨k2, e2, F2, n2, mk⟩ := za_marks (D := D + 22) M1 e348 W cw hl s1 hi
  have M2 := zm_F_M F2 M1
  have c2 : zv_I k2 348 = c := (zm_F_a F2 348).trans e348
  rw [zm_e e2] at qR
  have rl := zm_row_le G
  have dp := zt_dep W W.2.1 hl
  rw [List.length_cons] at rl
  have tced : ∀ t, zt_tc c t s → zm_ed c t := fun t q => by
    rcases zt_tc_h q with z | ⟨o, z, _⟩
    · rw [z]; exact he
    · exact (zt_ln_ed W z).1
  have m0 : ¬ za_mk k2 0 = true := fun q => by
    have h0 : (0 : Int) ∈ c 0 :: l := List.mem_of_getLast? ok.2.1
    have := zt_tc_1 W s1 ((mk 0 h0).mp q)
    omega
  have cnt : w = 0 ∨ w = 1 → L9_leaning_89 (D + 27) 347 w 0 1 k2 = some (some (zv_i ((((c 0 :: l).filter (fun t => za_mk k2 t && (decide (w = 0) || decide (zm_fc c (c 0 :: l) t = 1)))).length : Nat) : Int)), k2) := fun hw => by
    have h := za_89 (D := D + 27) M2 c2 n2 ok.2.2.1 ok.2.2.2 hw l.length 1 0 (by rw [List.length_cons]; omega) (by omega)
    have h' : L9_leaning_89 (D + 27) 347 w 0 1 k2 = _ := h
    rw [h', za_drop1 ok (fun q => m0 (Bool.and_eq_true _ _ |>.mp q).1)]
    exact congrArg (fun z => (some (some (zv_i z), k2) : zv_O)) (Int.zero_add _)
  by_cases w0 : w = 0
  · have ep : zt_pop v = (((c 0 :: l).filter (fun t => za_mk k2 t && (decide (w = 0) || decide (zm_fc c (c 0 :: l) t = 1)))).length : Int) := by
      refine za_pop ok.1 (fun t ht => by have := (ok.2.2.1 t ht).1; omega) (fun t ht => ?_)
      rw [hv t ht, decide_eq_true w0, Bool.true_or, Bool.and_true]
      constructor
      · rintro ⟨p1, p2, p3⟩
        exact ⟨p2, (mk _ p2).mpr p3⟩
      · rintro ⟨p2, p3⟩
        have t47 := (ok.2.2.1 _ p2).1
        exact ⟨by omega, p2, (mk _ p2).mp p3⟩
    rw [if_pos w0, zm_e (zt_bitCount (d := d + 26) v g'), ep] at qC
    dsimp only at qC
    rw [za_giv gL'] at qC
    rw [if_neg (show ¬ w = 3 by omega), cnt (Or.inl w0)] at qR
    exact ⟨_, _, _, lC8_leaning (zl_ob gL l1) qC, lC9_leaning (zm_ob hM) qR⟩
  rw [if_neg w0] at qC
  by_cases w1 : w = 1
  · have ep : zt_pop (v &&& zv_J g' (a + 8) 9) = (((c 0 :: l).filter (fun t => za_mk k2 t && (decide (w = 0) || decide (zm_fc c (c 0 :: l) t = 1)))).length : Int) := by
      refine za_pop ok.1 (fun t ht => by have := (ok.2.2.1 t ht).1; omega) (fun t ht => ?_)
      rw [zt_b_and, Bool.and_eq_true, hv t ht, zt_wk_fo wk t ht, decide_eq_false w0, Bool.false_or, Bool.and_eq_true, decide_eq_true_iff]
      constructor
      · rintro ⟨⟨p1, p2, p3⟩, p4⟩
        exact ⟨p2, (mk _ p2).mpr p3, p4.2.2.2⟩
      · rintro ⟨p2, p3, p4⟩
        have t47 := (ok.2.2.1 _ p2).1
        have q := (mk _ p2).mp p3
        exact ⟨⟨by omega, p2, q⟩, by omega, p2, tced _ q, p4⟩
    rw [if_pos w1, zm_e (zl_gJ gL' l8 9), zm_e (zt_bitCount (d := d + 26) _ g'), ep] at qC
    dsimp only at qC
    rw [za_giv gL'] at qC
    rw [if_neg (show ¬ w = 3 by omega), cnt (Or.inr w1)] at qR
    exact ⟨_, _, _, lC8_leaning (zl_ob gL l1) qC, lC9_leaning (zm_ob hM) qR⟩
  rw [if_neg w1] at qC
  by_cases w2 : w = 2
  · subst w2
    obtain ⟨src, hok⟩ := zt_src0 U' hl
    have rok : ∀ x ∈ zm_row c (c 0 :: l), zt_ok x := fun x hx => za_putok ok G hx
    have hb := za_hereBy (d := d + 25) gL' U' src hok v (zt_dc c (c 0 :: l)).length 0 0 (Nat.zero_add _) (Nat.le_refl _)
    rw [List.drop_zero] at hb
    have eb : C0_lettersOfHereBy (d + 27) a v g' = some ((((zt_dc c (c 0 :: l)).filter (fun x => zt_b v x.1.toNat)).length : Int), g') := lC0_lettersOfHereBy (zl_ob gL' la) (by
      rw [qE0_lettersOfHereBy]
      refine Eq.trans hb ?_
      exact congrArg (fun z => (some (some (zv_i z), g') : zv_O)) (Int.zero_add _))
    have h154 := za_154 (D := D + 27) M2 n2 (by omega) rok (zm_row c (c 0 :: l)).length 0 0 (Nat.zero_add _) (Nat.le_refl _)
    rw [List.drop_zero] at h154
    have ef : ((zt_dc c (c 0 :: l)).filter (fun x => zt_b v x.1.toNat)) = (zm_row c (c 0 :: l)).filter (fun x => za_mk k2 x.1 && zm_sn c (c 0 :: l) x) := by
      unfold zt_dc
      rw [List.filter_filter]
      refine List.filter_congr (fun x hx => ?_)
      have xl := (zm_row_mem hx).1
      have x47 := (ok.2.2.1 _ xl).1
      have hv' := hv x.1.toNat (by omega)
      rw [show ((x.1.toNat : Nat) : Int) = x.1 by omega] at hv'
      have : zt_b v x.1.toNat = za_mk k2 x.1 := by
        cases e : za_mk k2 x.1 with
        | true => exact hv'.mpr ⟨by omega, xl, (mk _ xl).mp e⟩
        | false =>
          cases e2 : zt_b v x.1.toNat with
          | false => rfl
          | true =>
            rw [(mk _ xl).mpr (hv'.mp e2).2.2] at e
            cases e
      rw [this]
    have e3 : zv_gR g' 1 8 3 = some a := (zl_gR gL' l1 3).trans (by
      have h1 : zv_R g' 1 3 = zv_R g 1 3 := congrFun ((zt_B_q B).2.2.2.2 1 (by decide) (by decide) (zt_in0 1)) 3
      rw [h1, zt_GG_r S])
    rw [if_pos rfl, zm_e e3, zm_e eb, ef] at qC
    dsimp only at qC
    rw [za_giv gL'] at qC
    rw [if_neg (by decide), qL9_leaning_89, zm_e (zm_gI M2 10), n2.1.1] at qR
    have qR2 : E9_leaning (D + 27) 347 s 2 k = L9_leaning_154 (D + 27) 347 2 0 0 k2 := by
      rw [qR]
      by_cases z : (1 : Int) < ((c 0 :: l).length : Int)
      · rw [if_pos z, if_neg (by decide)]
      · rw [if_neg z]
    have h154' : L9_leaning_154 (D + 27) 347 2 0 0 k2 = _ := h154
    rw [h154', show ((0 : Nat) : Int) + ((((zm_row c (c 0 :: l)).filter (fun x => za_mk k2 x.1 && zm_sn c (c 0 :: l) x)).length : Nat) : Int) = ((((zm_row c (c 0 :: l)).filter (fun x => za_mk k2 x.1 && zm_sn c (c 0 :: l) x)).length : Nat) : Int) by omega] at qR2
    exact ⟨_, _, _, lC8_leaning (zl_ob gL l1) qC, lC9_leaning (zm_ob hM) qR2⟩
  rw [if_neg w2] at qC
  have w3 : w = 3 := by omega
  have mk' : ∀ x ∈ c 0 :: l, 1 ≤ x → (zt_mk k2 x ↔ zt_tb c 0 s x) := fun x hx _ => by
    rw [← za_mk_e, mk x hx]
    unfold zt_tb
    rw [if_pos rfl]
  obtain ⟨cc, k3, e3, ag, n48, o2, nm⟩ := za_let48 (D := D + 21) M2 c2 W hl s mk'
  rw [if_pos w3] at qR
  have qR2 := qR.trans e3
  have hF : ∀ t : Nat, t < 64 → (zt_b (zv_J g' (a + 8) 9 &&& (v ^^^ (-1 : Int64))) t = true ↔ t < 48 ∧ zt_Fp c (c 0 :: l) 2 s t) := fun t ht => by
    rw [zt_b_and, zt_b_not _ ht, Bool.and_eq_true, Bool.not_eq_true', ← Bool.not_eq_true, zt_wk_fo wk t ht, hv t ht]
    unfold zt_Fp zt_Kp zt_tb
    rw [if_neg (by decide : ¬ (2 : Int) = 3), if_pos rfl, if_pos rfl]
    constructor
    · rintro ⟨⟨q1, q2, q3, q4⟩, q5⟩
      exact ⟨q1, q2, q3, Or.inr ⟨fun z => q5 ⟨q1, q2, z.2.2.1⟩, q4⟩⟩
    · rintro ⟨q1, q2, q3, q4⟩
      rcases q4 with z | z
      · exact absurd z.2 (by decide)
      · exact ⟨⟨q1, q2, q3, z.2⟩, fun y => z.1 ⟨q2, zt_tc_1 W s1 y.2.2, y.2.2, z.2⟩⟩
  obtain ⟨r1, r2⟩ := zt_sj_nam (v := zv_J g' (a + 8) 9 &&& (v ^^^ (-1 : Int64))) hl (List.cons_ne_nil _ _) ok G (fun t ht => cw t (ok.2.2.1 t ht)) ag n48 (Or.inl rfl) o2 nm hF
  obtain ⟨g3, eg, B3, _, lo3⟩ := zt_look (d := d + 24) (zv_J g' (a + 8) 9 &&& (v ^^^ (-1 : Int64))) B rw_ ok G gt (fun t ht q => by
    have t47 := (ok.2.2.1 t ht).1
    have := ((hF t.toNat (by omega)).mp q).2.2.1
    rw [show ((t.toNat : Nat) : Int) = t by omega] at this
    exact this)
  have gL3 := zt_B_L B3
  have en : ((zm_row cc (48 :: c 0 :: l)).filter (zm_sn cc (48 :: c 0 :: l))).length = ((zm_row c (c 0 :: l)).filter (zt_sj c (c 0 :: l) (zv_J g' (a + 8) 9 &&& (v ^^^ (-1 : Int64))))).length := by
    rw [r1, List.filter_congr (fun p hp => r2 p hp)]
  rw [zm_e (zl_gJ gL' l8 9), zm_e eg, zm_e (zl_gI gL3 l8 7), zt_lo_sn lo3, ← en, za_giv gL3] at qC
  exact ⟨_, _, _, lC8_leaning (zl_ob gL l1) qC, lC9_leaning (zm_ob hM) qR2⟩
end
end
/-! C07.find -/
section
/-! ===== what is asked, answered alike: where a word stands ===== -/
/-- the first place of a word in letters -/
def za_pl (A : List Int) (x : Nat) (w : Nat → Int) : Nat → Nat → Int
  | 0, _ => -1
  | n + 1, p => if p + x ≤ A.length then (if (∀ i, i < x → za_nth A (p + i) = w i) then (p : Int) else za_pl A x w n (p + 1)) else -1
theorem za_pl_r (A : List Int) (x : Nat) (w : Nat → Int) : ∀ n p : Nat, za_pl A x w n p = -1 ∨ 0 ≤ za_pl A x w n p
  | 0, _ => Or.inl rfl
  | n + 1, p => by
    have e : za_pl A x w (n + 1) p = if p + x ≤ A.length then (if (∀ i, i < x → za_nth A (p + i) = w i) then (p : Int) else za_pl A x w n (p + 1)) else -1 := rfl
    rw [e]
    split
    · split
      · exact Or.inr (by omega)
      · exact za_pl_r A x w n (p + 1)
    · exact Or.inl rfl
section
variable {a b m : Nat} {g k : zv_H}
theorem za_C7_at {d r x : Nat} {w : Nat → Int} (gL : zt_L g) (h : zt_wd r x w g) {i : Nat} (hi : i < x) : C7_at (d + 1) r (i : Int) g = some (w i, g) := by
  have x40 := zt_wd_m12 h
  have e1 : zv_gR g r 7 0 = some (r + 1) := zl_gF gL (zt_wd_l7 h) 0 1
  refine lC7_at (zl_ob gL (zt_wd_l7 h)) ?_
  rw [qE7_at, if_neg (by omega), zm_e (zl_gI gL (zt_wd_l7 h) 1), zt_wd_sz h, if_pos (by omega), zm_e e1, zm_e (zl_al gL (zt_wd_la h)), if_pos (by omega), zm_e e1, zm_e (zl_aI gL (zt_wd_la h) (by omega) (by omega)), Int.toNat_natCast, zt_wd_lt h i hi]
/-- one place, in the class -/
theorem za_pl18 {d r x : Nat} {w : Nat → Int} {c : Nat → Int} (gL : zt_L g) (U : zt_U a c g) {s : Int} (hs : zm_st c s) {A : List Int} (hD : za_D c s A) (h120 : A.length ≤ 120) (h : zt_wd r x w g) {p : Nat} (hp : p + x ≤ A.length) : ∀ (n j : Nat), j + n = x → (∀ i, i < j → za_nth A (p + i) = w i) → L0_placeIn_18 (d + 2) a (zt_r a s) r (p : Int) (j : Int) g = if (∀ i, i < x → za_nth A (p + i) = w i) then some (some (zv_i (p : Int)), g) else L0_placeIn_2 (d + 2) a (zt_r a s) r ((p + 1 : Nat) : Int) g
  | 0, j, hj, hb => by
    have e : j = x := by omega
    subst e
    rw [qL0_placeIn_18, zm_e (zl_gI gL (zt_wd_l7 h) 1), zt_wd_sz h, if_neg (by omega), qL0_placeIn_51, zm_e (zl_gI gL (zt_wd_l7 h) 1), zt_wd_sz h, if_pos rfl, if_pos hb]
  | n + 1, j, hj, hb => by
    have w1 : zv_w ((p : Int) + j) = ((p + j : Nat) : Int) := by
      rw [zm_w (by omega)]
      omega
    have w2 : zv_w ((j : Int) + 1) = ((j + 1 : Nat) : Int) := by
      rw [zm_w (by omega)]
      omega
    have w3 : zv_w ((p : Int) + 1) = ((p + 1 : Nat) : Int) := by
      rw [zm_w (by omega)]
      omega
    rw [qL0_placeIn_18, zm_e (zl_gI gL (zt_wd_l7 h) 1), zt_wd_sz h, if_pos (by omega), w1, zm_e (za_letterAt (d := d) gL U hs hD (p + j)), w2]
    dsimp only
    rw [zm_e (za_C7_at (d := d + 1) gL h (show j < x by omega))]
    dsimp only
    by_cases c1 : za_nth A (p + j) = w j
    · rw [if_pos c1]
      refine za_pl18 gL U hs hD h120 h hp n (j + 1) (by omega) (fun i hi => ?_)
      by_cases e : i = j
      · rw [e]; exact c1
      · exact hb i (by omega)
    · rw [if_neg c1, qL0_placeIn_51, zm_e (zl_gI gL (zt_wd_l7 h) 1), zt_wd_sz h, if_neg (by omega), w3, if_neg (fun q => c1 (q j (by omega)))]
theorem za_pl2 {d r x : Nat} {w : Nat → Int} {c : Nat → Int} (gL : zt_L g) (U : zt_U a c g) {s : Int} (hs : zm_st c s) {A : List Int} (hD : za_D c s A) (h120 : A.length ≤ 120) (hn : zv_I g (zt_r a s) 12 = A.length) (h : zt_wd r x w g) : ∀ (n p : Nat), p + n = A.length + 1 → L0_placeIn_2 (d + 2) a (zt_r a s) r (p : Int) g = some (some (zv_i (za_pl A x w n p)), g)
  | 0, p, hp => by
    have x40 := zt_wd_m12 h
    have lr := zt_r_l (zt_U_la U) hs.1
    rw [qL0_placeIn_2, zm_e (zl_gI gL (zt_wd_l7 h) 1), zt_wd_sz h, zm_e (zl_gI gL lr 12), hn, zm_w (by omega), if_neg (by omega)]
    rfl
  | n + 1, p, hp => by
    have x40 := zt_wd_m12 h
    have lr := zt_r_l (zt_U_la U) hs.1
    have e : za_pl A x w (n + 1) p = if p + x ≤ A.length then (if (∀ i, i < x → za_nth A (p + i) = w i) then (p : Int) else za_pl A x w n (p + 1)) else -1 := rfl
    rw [qL0_placeIn_2, zm_e (zl_gI gL (zt_wd_l7 h) 1), zt_wd_sz h, zm_e (zl_gI gL lr 12), hn, zm_w (by omega), e]
    by_cases c1 : p + x ≤ A.length
    · have e18 := za_pl18 (d := d) gL U hs hD h120 h c1 x 0 (Nat.zero_add _) (fun i hi => absurd hi (Nat.not_lt_zero i))
      rw [if_pos (show (p : Int) + x ≤ A.length by omega), if_pos c1]
      refine Eq.trans e18 ?_
      by_cases c2 : ∀ i, i < x → za_nth A (p + i) = w i
      · rw [if_pos c2, if_pos c2]
      · rw [if_neg c2, if_neg c2]
        exact za_pl2 gL U hs hD h120 hn h n (p + 1) (by omega)
    · rw [if_neg (show ¬ (p : Int) + x ≤ A.length by omega), if_neg c1]
/-- one place, in the reference -/
theorem za_pl28 {D x : Nat} {w : Nat → Int} {A : List Int} (hM : zm_M k) (h120 : A.length ≤ 120) (h20 : zv_I k 347 20 = x) (x12 : x ≤ 12) (hw : ∀ i, i < x → zv_I k 361 i = w i) (hA : ∀ i (hi : i < A.length), zv_I k 356 i = A[i]) {p : Nat} (hp : p + x ≤ A.length) : ∀ (n j : Nat), j + n = x → (∀ i, i < j → za_nth A (p + i) = w i) → L9_placeIn_28 D 347 (A.length : Int) (p : Int) 1 (j : Int) k = if (∀ i, i < x → za_nth A (p + i) = w i) then some (some (zv_i (p : Int)), k) else L9_placeIn_12 D 347 (A.length : Int) ((p + 1 : Nat) : Int) k
  | 0, j, hj, hb => by
    have e : j = x := by omega
    subst e
    rw [qL9_placeIn_28, zm_e (zm_gI hM 20), h20, if_neg (by omega), qL9_placeIn_74, if_neg (by decide), if_pos hb]
  | n + 1, j, hj, hb => by
    have w1 : zv_w ((p : Int) + j) = ((p + j : Nat) : Int) := by
      rw [zm_w (by omega)]
      omega
    have w2 : zv_w ((j : Int) + 1) = ((j + 1 : Nat) : Int) := by
      rw [zm_w (by omega)]
      omega
    have w3 : zv_w ((p : Int) + 1) = ((p + 1 : Nat) : Int) := by
      rw [zm_w (by omega)]
      omega
    have pj : p + j < A.length := by omega
    have en := za_nth_in pj
    rw [qL9_placeIn_28, zm_e (zm_gI hM 20), h20, if_pos (by omega), if_neg (by decide), zm_e (zm_gR hM rfl rfl : zv_gR k 347 9 13 = some 356), w1, zm_e (zm_aI hM (show zv_lay 356 = (2, 640) from rfl) rfl (by omega) (by omega)), Int.toNat_natCast, hA _ pj, ← en, zm_e (zm_f18 hM), zm_e (zm_aI hM zm_l361 rfl (by omega) (by omega)), Int.toNat_natCast, hw j (by omega), w2]
    by_cases c1 : za_nth A (p + j) = w j
    · rw [if_pos c1]
      refine za_pl28 hM h120 h20 x12 hw hA hp n (j + 1) (by omega) (fun i hi => ?_)
      by_cases e : i = j
      · rw [e]; exact c1
      · exact hb i (by omega)
    · have z : ∀ y : Int, L9_placeIn_28 D 347 (A.length : Int) (p : Int) 0 y k = L9_placeIn_12 D 347 (A.length : Int) ((p + 1 : Nat) : Int) k := fun y => by
        have e74 : L9_placeIn_74 D 347 (A.length : Int) (p : Int) 0 k = L9_placeIn_12 D 347 (A.length : Int) ((p + 1 : Nat) : Int) k := by
          rw [qL9_placeIn_74, if_pos rfl, w3]
        rw [qL9_placeIn_28, zm_e (zm_gI hM 20), h20]
        by_cases c2 : y < (x : Int)
        · rw [if_pos c2, if_pos rfl, e74]
        · rw [if_neg c2, e74]
      rw [if_neg c1, z, if_neg (fun q => c1 (q j (by omega)))]
theorem za_pl12 {D x : Nat} {w : Nat → Int} {A : List Int} (hM : zm_M k) (h120 : A.length ≤ 120) (h20 : zv_I k 347 20 = x) (x12 : x ≤ 12) (hw : ∀ i, i < x → zv_I k 361 i = w i) (hA : ∀ i (hi : i < A.length), zv_I k 356 i = A[i]) : ∀ (n p : Nat), p + n = A.length + 1 → L9_placeIn_12 D 347 (A.length : Int) (p : Int) k = some (some (zv_i (za_pl A x w n p)), k)
  | 0, p, hp => by
    rw [qL9_placeIn_12, zm_e (zm_gI hM 20), h20, zm_w (by omega), if_neg (by omega)]
    rfl
  | n + 1, p, hp => by
    have e : za_pl A x w (n + 1) p = if p + x ≤ A.length then (if (∀ i, i < x → za_nth A (p + i) = w i) then (p : Int) else za_pl A x w n (p + 1)) else -1 := rfl
    rw [qL9_placeIn_12, zm_e (zm_gI hM 20), h20, zm_w (by omega), e]
    by_cases c1 : p + x ≤ A.length
    · have e28 := za_pl28 (D := D) hM h120 h20 x12 hw hA c1 x 0 (Nat.zero_add _) (fun i hi => absurd hi (Nat.not_lt_zero i))
      rw [if_pos (show (p : Int) + x ≤ A.length by omega), if_pos c1]
      refine Eq.trans e28 ?_
      by_cases c2 : ∀ i, i < x → za_nth A (p + i) = w i
      · rw [if_pos c2, if_pos c2]
      · rw [if_neg c2, if_neg c2]
        exact za_pl12 hM h120 h20 x12 hw hA n (p + 1) (by omega)
    · rw [if_neg (show ¬ (p : Int) + x ≤ A.length by omega), if_neg c1]
/-- where the word stands in one -/
theorem za_C0_placeIn {d r x : Nat} {w : Nat → Int} (hA : zc_A g) (S : zt_GG m a b g k) {s : Int} (hs : zm_st (zv_I k 348) s) {A : List Int} (hD : za_D (zv_I k 348) s A) (h : zt_wd r x w g) : C0_placeIn (d + 3) a (zt_r a s) r g = some (za_pl A x w (A.length + 1) 0, g) := by
  have gL := zt_L_A hA
  have U := zt_H_U (zt_GG_H S)
  obtain ⟨n1, n2⟩ := za_D_n S hs hD
  refine lC0_placeIn (zl_ob gL (zt_U_la U)) ?_
  rw [qE0_placeIn]
  exact za_pl2 (d := d) gL U hs hD n2 n1 h (A.length + 1) 0 (Nat.zero_add _)
theorem za_C9_placeIn {D x : Nat} {w : Nat → Int} (hM : zm_M k) {c : Nat → Int} (hc : zv_I k 348 = c) (W : zm_W c) (h20 : zv_I k 347 20 = x) (x12 : x ≤ 12) (hw : ∀ i, i < x → zv_I k 361 i = w i) {s : Int} (hs : zm_st c s) {A : List Int} (hD : za_D c s A) (h120 : A.length ≤ 120) : ∃ k', C9_placeIn (D + 6) 347 s k = some (za_pl A x w (A.length + 1) 0, k') ∧ zm_F [351, 352, 353, 354, 355, 356] [10, 11, 12] k k' := by
  obtain ⟨k1, e1, F1, hA⟩ := za_copies (D := D) hM hc W hs hD (r := 356) (Or.inl rfl)
  have M1 := zm_F_M F1 hM
  have F1' : zm_F [351, 352, 353, 354, 355, 356] [10, 11, 12] k k1 := zm_F_s F1 rfl rfl
  refine ⟨k1, lC9_placeIn (zm_ob hM) ?_, F1'⟩
  rw [qE9_placeIn, zm_e (zm_gR hM rfl rfl : zv_gR k 347 9 13 = some 356), zm_e e1]
  exact za_pl12 (D := D + 5) M1 h120 ((zm_F_g F1' 20).trans h20) x12 (fun i hi => (congrFun (zm_F_a F1' 361) i).trans (hw i hi)) hA (A.length + 1) 0 (Nat.zero_add _)
/-- where it stands, State by State -/
theorem za_fx (c : Nat → Int) (x : Nat) (w : Nat → Int) (he : ∀ s, zm_st c s → ∃ A, za_D c s A ∧ A.length ≤ 120) : ∃ f : Int → Int, ∀ s, zm_st c s → ∃ A, za_D c s A ∧ A.length ≤ 120 ∧ f s = za_pl A x w (A.length + 1) 0 := by
  have h : ∀ s, ∃ v : Int, zm_st c s → ∃ A, za_D c s A ∧ A.length ≤ 120 ∧ v = za_pl A x w (A.length + 1) 0 := fun s => by
    by_cases hs : zm_st c s
    · obtain ⟨A, h1, h2⟩ := he s hs
      exact ⟨_, fun _ => ⟨A, h1, h2, rfl⟩⟩
    · exact ⟨0, fun q => absurd q hs⟩
  exact ⟨fun s => Classical.choose (h s), fun s => Classical.choose_spec (h s)⟩
/-- who has it -/
abbrev za_has (c : Nat → Int) (f : Int → Int) (i : Int) : Prop := zm_st c i ∧ ¬ f i = -1
/-- the class: the least, and how many -/
theorem za_least {d r x : Nat} {w : Nat → Int} (hA : zc_A g) (S : zt_GG m a b g k) (h : zt_wd r x w g) {f : Int → Int} (hf : ∀ s, zm_st (zv_I k 348) s → ∃ A, za_D (zv_I k 348) s A ∧ A.length ≤ 120 ∧ f s = za_pl A x w (A.length + 1) 0) : ∀ (n i : Nat), i + n = 48 → (∀ j : Nat, j < i → ¬ za_has (zv_I k 348) f j) → ∃ u : Int, L0_leastWith_2 (d + 3) a r (i : Int) g = some (some (zv_i u), g) ∧ zt_ix (fun j => za_has (zv_I k 348) f j) 48 u
  | 0, i, hi, hb => ⟨-1, by rw [qL0_leastWith_2, if_neg (by omega)], Or.inl ⟨rfl, fun j hj => hb j (by omega)⟩⟩
  | n + 1, i, hi, hb => by
    have w1 : zv_w ((i : Int) + 1) = ((i + 1 : Nat) : Int) := by
      rw [zm_w (by omega)]
      omega
    have nx : ¬ za_has (zv_I k 348) f i → ∃ u : Int, L0_leastWith_2 (d + 3) a r ((i + 1 : Nat) : Int) g = some (some (zv_i u), g) ∧ zt_ix (fun j => za_has (zv_I k 348) f j) 48 u := fun z => za_least hA S h hf n (i + 1) (by omega) (fun j hj => by
      by_cases e : j = i
      · rw [e]; exact z
      · exact hb j (by omega))
    rw [qL0_leastWith_2, if_pos (by omega), zm_e (za_at (d := d + 2) hA S (i : Int)), w1]
    dsimp only
    by_cases hs : zm_st (zv_I k 348) (i : Int)
    · obtain ⟨A, h1, h2, h3⟩ := hf _ hs
      rw [if_pos hs, if_neg (za_r0 S hs), zm_e (za_C0_placeIn (d := d) hA S hs h1 h), ← h3]
      dsimp only
      by_cases c1 : f (i : Int) = -1
      · rw [if_pos c1]
        exact nx (fun q => q.2 c1)
      · rw [if_neg c1]
        exact ⟨(i : Int), rfl, Or.inr ⟨i, rfl, by omega, ⟨hs, c1⟩, fun j hj => hb j hj⟩⟩
    · rw [if_neg hs, if_pos rfl]
      exact nx (fun q => hs q.1)
theorem za_cnt {d r x : Nat} {w : Nat → Int} (hA : zc_A g) (S : zt_GG m a b g k) (h : zt_wd r x w g) {f : Int → Int} (hf : ∀ s, zm_st (zv_I k 348) s → ∃ A, za_D (zv_I k 348) s A ∧ A.length ≤ 120 ∧ f s = za_pl A x w (A.length + 1) 0) : ∀ (n i : Nat), i + n = 48 → (0 ≤ zm_sum (fun j => if za_has (zv_I k 348) f j then 1 else 0) i ∧ zm_sum (fun j => if za_has (zv_I k 348) f j then 1 else 0) i ≤ i) → L0_statesWith_4 (d + 3) a r (zm_sum (fun j => if za_has (zv_I k 348) f j then 1 else 0) i) (i : Int) g = some (some (zv_i (zm_sum (fun j => if za_has (zv_I k 348) f j then 1 else 0) 48)), g)
  | 0, i, hi, hb => by
    have e : i = 48 := by omega
    subst e
    rw [qL0_statesWith_4, if_neg (by omega)]
  | n + 1, i, hi, hb => by
    have w1 : zv_w ((i : Int) + 1) = ((i + 1 : Nat) : Int) := by
      rw [zm_w (by omega)]
      omega
    have es : zm_sum (fun j => if za_has (zv_I k 348) f j then 1 else 0) (i + 1) = zm_sum (fun j => if za_has (zv_I k 348) f j then 1 else 0) i + (if za_has (zv_I k 348) f i then 1 else 0) := rfl
    have go := za_cnt (d := d) hA S h hf n (i + 1) (by omega)
    generalize zm_sum (fun j => if za_has (zv_I k 348) f j then 1 else 0) i = v at hb es
    have w2 : zv_w (v + 1) = v + 1 := zm_w (by omega)
    have w0 : zv_w (v + 0) = v := by
      rw [zm_w (by omega)]
      omega
    rw [qL0_statesWith_4, if_pos (by omega), zm_e (za_at (d := d + 2) hA S (i : Int)), w1, w2, w0]
    dsimp only
    by_cases hs : zm_st (zv_I k 348) (i : Int)
    · obtain ⟨A, h1, h2, h3⟩ := hf _ hs
      rw [if_pos hs, if_neg (za_r0 S hs), zm_e (za_C0_placeIn (d := d) hA S hs h1 h), ← h3]
      dsimp only
      by_cases c1 : f (i : Int) = -1
      · rw [if_neg (fun q : za_has (zv_I k 348) f i => q.2 c1), Int.add_zero] at es
        rw [if_pos c1]
        rw [es] at go
        exact go (by omega)
      · rw [if_pos (show za_has (zv_I k 348) f i from ⟨hs, c1⟩)] at es
        rw [if_neg c1]
        rw [es] at go
        exact go (by omega)
    · rw [if_neg (fun q : za_has (zv_I k 348) f i => hs q.1), Int.add_zero] at es
      rw [if_neg hs, if_pos rfl]
      rw [es] at go
      exact go (by omega)
/-- the least of those from n on -/
def za_ge (P : Nat → Prop) (n : Nat) (u : Int) : Prop := (u = -1 ∧ ∀ j : Nat, n ≤ j → j < 48 → ¬ P j) ∨ ∃ j : Nat, u = (j : Int) ∧ n ≤ j ∧ j < 48 ∧ P j ∧ ∀ i : Nat, n ≤ i → i < j → ¬ P i
theorem za_ge0 {P : Nat → Prop} {u : Int} (h : za_ge P 0 u) : zt_ix P 48 u := by
  rcases h with ⟨h1, h2⟩ | ⟨j, h1, h2, h3, h4, h5⟩
  · exact Or.inl ⟨h1, fun j hj => h2 j (Nat.zero_le _) (by omega)⟩
  · exact Or.inr ⟨j, h1, by omega, h4, fun i hi => h5 i (Nat.zero_le _) hi⟩
/-- the reference: both at once, the last State first -/
theorem za_38 {D x : Nat} {w : Nat → Int} {c : Nat → Int} (W : zm_W c) (x12 : x ≤ 12) {f : Int → Int} (hf : ∀ s, zm_st c s → ∃ A, za_D c s A ∧ A.length ≤ 120 ∧ f s = za_pl A x w (A.length + 1) 0) {q : Int} (hq : q = 0 ∨ q = 1) : ∀ (n : Nat) (k : zv_H) (v u : Int), n ≤ 48 → zm_M k → zv_I k 348 = c → zv_I k 347 20 = x → (∀ i, i < x → zv_I k 361 i = w i) → za_ge (fun j => za_has c f j) n u → (0 ≤ v ∧ v + zm_sum (fun j => if za_has c f j then 1 else 0) n = zm_sum (fun j => if za_has c f j then 1 else 0) 48 ∧ v + n ≤ 48) → ∃ (u' : Int) (k' : zv_H), L9_find_38 (D + 6) 347 q v u ((n : Int) - 1) k = L9_find_81 (D + 6) 347 q (zm_sum (fun j => if za_has c f j then 1 else 0) 48) u' k' ∧ zm_M k' ∧ zt_ix (fun j => za_has c f j) 48 u'
  | 0, k, v, u, hn, hM, hc, h20, hw, hu, hv => by
    have e0 : zm_sum (fun j => if za_has c f (j : Int) then (1 : Int) else 0) 0 = 0 := rfl
    refine ⟨u, k, ?_, hM, za_ge0 hu⟩
    rw [qL9_find_38, if_pos (by omega), show v = zm_sum (fun j => if za_has c f j then 1 else 0) 48 by omega]
  | n + 1, k, v, u, hn, hM, hc, h20, hw, hu, hv => by
    have es : zm_sum (fun j => if za_has c f j then 1 else 0) (n + 1) = zm_sum (fun j => if za_has c f j then 1 else 0) n + (if za_has c f n then 1 else 0) := rfl
    rw [es] at hv
    have en : (((n + 1 : Nat) : Int) - 1) = (n : Int) := by omega
    have w1 : zv_w ((n : Int) + -1) = (n : Int) - 1 := by
      rw [zm_w (by omega)]
      omega
    have w2 : zv_w (v + 1) = v + 1 := zm_w (by omega)
    have is := zm_isState hM (D + 4) (n : Int)
    rw [hc] at is
    have no : ¬ za_has c f n → za_ge (fun j => za_has c f j) n u := fun z => by
      rcases hu with ⟨h1, h2⟩ | ⟨j, h1, h2, h3, h4, h5⟩
      · refine Or.inl ⟨h1, fun j hj hj2 => ?_⟩
        by_cases e : j = n
        · rw [e]; exact z
        · exact h2 j (by omega) hj2
      · refine Or.inr ⟨j, h1, by omega, h3, h4, fun i hi hi2 => ?_⟩
        by_cases e : i = n
        · rw [e]; exact z
        · exact h5 i (by omega) hi2
    rw [en, qL9_find_38, if_neg (by omega), if_pos (by omega), zm_e is, w1, w2]
    dsimp only
    by_cases hs : zm_st c (n : Int)
    · obtain ⟨A, h1, h2, h3⟩ := hf _ hs
      obtain ⟨k1, e1, F1⟩ := za_C9_placeIn (D := D) hM hc W h20 x12 hw hs h1 h2
      have M1 := zm_F_M F1 hM
      have r := za_pl_r A x w (A.length + 1) 0
      rw [if_pos hs, if_neg (by decide), zm_e e1, ← h3]
      rw [← h3] at r
      dsimp only
      by_cases c1 : f (n : Int) = -1
      · rw [if_neg (fun q : za_has c f n => q.2 c1), Int.add_zero] at hv
        rw [if_pos (by omega)]
        exact za_38 W x12 hf hq n k1 v u (by omega) M1 ((zm_F_a F1 348).trans hc) ((zm_F_g F1 20).trans h20) (fun i hi => (congrFun (zm_F_a F1 361) i).trans (hw i hi)) (no (fun q => q.2 c1)) (by omega)
      · rw [if_pos (show za_has c f n from ⟨hs, c1⟩)] at hv
        rw [if_neg (by omega)]
        exact za_38 W x12 hf hq n k1 (v + 1) n (by omega) M1 ((zm_F_a F1 348).trans hc) ((zm_F_g F1 20).trans h20) (fun i hi => (congrFun (zm_F_a F1 361) i).trans (hw i hi)) (Or.inr ⟨n, rfl, Nat.le_refl _, by omega, ⟨hs, c1⟩, fun i h1 h2 => by omega⟩) (by omega)
    · rw [if_neg (fun q : za_has c f n => hs q.1), Int.add_zero] at hv
      rw [if_neg hs, if_pos rfl]
      exact za_38 W x12 hf hq n k v u (by omega) hM hc h20 hw (no (fun q => hs q.1)) (by omega)
theorem zp_find {d D : Nat} (hA : zc_A g) (I : zm_MI k) (S : zt_GG m a b g k) (q : Int) : ∃ v g' k', C8_find (d + 28) 1 q g = some (v, g') ∧ C9_find (D + 28) 347 q k = some (v, k') := by
  have gL := zt_L_A hA
  have hM := I.1
  have l1 : zv_lay 1 = (1, 8) := rfl
  have la := (zt_lab (zt_GG_ab S)).1
  obtain ⟨x, w1, w2, w3, w4⟩ := zt_GG_wt S
  have qC := qE8_find (d + 27) 1 q g
  have qR := qE9_find (D + 27) 347 q k
  rw [zm_e (zc_within (d := d + 26) g q 0 2)] at qC
  rw [zm_e (zm_isIn (h := k) (D + 26) q 0 2)] at qR
  dsimp only at qC qR
  by_cases cq : 0 ≤ q ∧ q ≤ 2
  rotate_left
  · rw [if_neg cq, if_pos rfl, qL8_find_19, za_ref gL] at qC
    rw [if_neg cq, if_pos rfl, qL9_find_21, qL9_find_22, za_isn hM (by decide)] at qR
    exact ⟨_, _, _, lC8_find (zl_ob gL l1) qC, lC9_find (zm_ob hM) qR⟩
  rw [if_pos cq, if_neg (by decide), zm_e (zp_e1 hA), zm_e (zl_gI gL (zt_wd_l7 w3) 1), zt_wd_sz w3] at qC
  rw [if_pos cq, if_neg (by decide), zm_e (zm_gI hM 20), w1] at qR
  by_cases x0 : x = 0
  · subst x0
    rw [if_pos (by decide), qL8_find_19, za_ref gL] at qC
    rw [if_pos (by decide), qL9_find_21, qL9_find_22, za_isn hM (by decide)] at qR
    exact ⟨_, _, _, lC8_find (zl_ob gL l1) qC, lC9_find (zm_ob hM) qR⟩
  obtain ⟨k1, i1, F1⟩ := zp_is hM
  have S1 := zt_GG_F S F1
  have M1 := zm_F_M F1 hM
  have U := zt_H_U (zt_GG_H S1)
  have W := zt_U_W U
  have h20 : zv_I k1 347 20 = x := (zm_F_g F1 20).trans w1
  have h361 : ∀ i, i < x → zv_I k1 361 i = zv_I k 361 i := fun i _ => congrFun (zm_F_a F1 361) i
  obtain ⟨f, hf⟩ := za_fx (zv_I k1 348) x (zv_I k 361) (fun s hs => za_D_ex S1 hs)
  rw [if_neg (by omega)] at qC
  rw [if_neg (by omega), qL9_find_22, za_isy i1] at qR
  dsimp only at qR
  have r81 : q = 0 ∨ q = 1 → ∃ (u' : Int) (k' : zv_H), L9_find_38 (D + 27) 347 q 0 (-1) 47 k1 = L9_find_81 (D + 27) 347 q (zm_sum (fun j => if za_has (zv_I k1 348) f j then 1 else 0) 48) u' k' ∧ zm_M k' ∧ zt_ix (fun j => za_has (zv_I k1 348) f j) 48 u' := fun hq => by
    obtain ⟨u', k', h1, h2, h3⟩ := za_38 (D := D + 21) W w2 hf hq 48 k1 0 (-1) (Nat.le_refl _) M1 rfl h20 h361 (Or.inl ⟨rfl, fun j h1 h2 => by omega⟩) ⟨Int.le_refl _, by rw [Int.zero_add], by decide⟩
    exact ⟨u', k', h1, h2, h3⟩
  by_cases q1 : q = 1
  · have hc := za_cnt (d := d + 23) hA S1 w3 hf 48 0 rfl ⟨Int.le_refl _, Int.le_refl _⟩
    have ec : C0_statesWith (d + 27) a 3 g = some (zm_sum (fun j => if za_has (zv_I k1 348) f j then 1 else 0) 48, g) := lC0_statesWith (zl_ob gL la) (by rw [qE0_statesWith]; exact hc)
    obtain ⟨u', k', h1, M2, _⟩ := r81 (Or.inr q1)
    have nn : 0 ≤ zm_sum (fun j => if za_has (zv_I k1 348) f j then 1 else 0) 48 := by
      have : ∀ n : Nat, 0 ≤ zm_sum (fun j => if za_has (zv_I k1 348) f j then 1 else 0) n := fun n => by
        induction n with
        | zero => exact Int.le_refl _
        | succ n ih =>
          show 0 ≤ zm_sum (fun j => if za_has (zv_I k1 348) f j then 1 else 0) n + (if za_has (zv_I k1 348) f n then 1 else 0)
          split <;> omega
      exact this 48
    rw [if_pos q1, zm_e (zp_e3 hA S), zm_e (zp_e1 hA), zm_e ec] at qC
    dsimp only at qC
    rw [za_giv gL] at qC
    rw [h1, qL9_find_81, if_neg (by omega), if_pos q1, qL9_find_107, if_neg (by omega)] at qR
    exact ⟨_, _, _, lC8_find (zl_ob gL l1) qC, lC9_find (zm_ob hM) qR⟩
  rw [if_neg q1] at qC
  have fin : ∀ (u : Int) (k' : zv_H), zm_M k' → (u = -1 ∨ 0 ≤ u) → E8_find (d + 27) 1 q g = L8_find_82 (d + 27) 1 u g → E9_find (D + 27) 347 q k = L9_find_107 (D + 27) 347 u k' → ∃ v g' k', C8_find (d + 28) 1 q g = some (v, g') ∧ C9_find (D + 28) 347 q k = some (v, k') := fun u k' M2 hu e1 e2 => by
    rw [qL8_find_82] at e1
    rw [qL9_find_107] at e2
    by_cases u1 : u = -1
    · rw [if_pos u1, za_ref gL] at e1
      rw [if_pos (by omega), za_rf M2] at e2
      exact ⟨_, _, _, lC8_find (zl_ob gL l1) e1, lC9_find (zm_ob hM) e2⟩
    · rw [if_neg u1, za_giv gL] at e1
      rw [if_neg (by omega)] at e2
      exact ⟨_, _, _, lC8_find (zl_ob gL l1) e1, lC9_find (zm_ob hM) e2⟩
  by_cases q0 : q = 0
  · obtain ⟨u, hu, ix⟩ := za_least (d := d + 23) hA S1 w3 hf 48 0 rfl (fun j hj => absurd hj (Nat.not_lt_zero j))
    have ec : C0_leastWith (d + 27) a 3 g = some (u, g) := lC0_leastWith (zl_ob gL la) (by rw [qE0_leastWith]; exact hu)
    obtain ⟨u', k', h1, M2, ix'⟩ := r81 (Or.inl q0)
    have eu := zt_ix_u ix' ix
    subst eu
    have ur : u' = -1 ∨ 0 ≤ u' := by
      rcases ix' with ⟨z, _⟩ | ⟨j, z, _⟩ <;> omega
    rw [if_pos q0, zm_e (zp_e3 hA S), zm_e (zp_e1 hA), zm_e ec] at qC
    rw [h1, qL9_find_81, if_neg (by omega), if_neg q1] at qR
    exact fin u' k' M2 ur qC qR
  · have q2 : q = 2 := by omega
    obtain ⟨A, h1, h2, h3⟩ := hf _ W.2.1
    have e1 := za_C0_placeIn (d := d + 24) hA S1 W.2.1 h1 w3
    obtain ⟨k2, e2, F2⟩ := za_C9_placeIn (D := D + 21) M1 rfl W h20 w2 h361 W.2.1 h1 h2
    rw [if_neg q0, zm_e (zp_e3 hA S), zm_e (zp_e3 hA S), zm_e (zl_gR gL la 10), zt_U_he U, zm_e (zp_e1 hA), zm_e e1] at qC
    rw [qL9_find_38, if_neg (by decide), if_neg (by omega), qL9_find_81, if_pos q2, zm_e (zm_here M1 _)] at qR
    dsimp only at qR
    rw [zm_e e2] at qR
    exact fin _ k2 (zm_F_M F2 M1) (za_pl_r A x _ _ _) qC qR
end
end
/-! C08.tell -/
section
/-! ===== what is asked, answered alike: telling ===== -/
/-- so many bytes told, the same on both sides -/
def zo (g k : zv_H) (n : Nat) : Prop := zv_I g 1 5 = n ∧ zv_I k 347 47 = n ∧ ∀ i : Nat, i < n → zv_I g 2 i = zv_I k 372 i
/-- but for what is told -/
def zo_f (g g' : zv_H) : Prop := g'.1 = g.1 ∧ g'.2.2 = g.2.2 ∧ ∀ r i, ¬ (r = 1 ∧ i = 5) → r ≠ 2 → zv_I g' r i = zv_I g r i
theorem zo_f_r (g : zv_H) : zo_f g g := ⟨rfl, rfl, fun _ _ _ _ => rfl⟩
theorem zo_f_t {g g1 g2 : zv_H} (f : zo_f g g1) (h : zo_f g1 g2) : zo_f g g2 := ⟨h.1.trans f.1, h.2.1.trans f.2.1, fun r i q1 q2 => (h.2.2 r i q1 q2).trans (f.2.2 r i q1 q2)⟩
theorem zo_f_L {g g' : zv_H} (f : zo_f g g') (gL : zt_L g) : zt_L g' := by
  refine ⟨?_, fun r i h1 h2 => ?_, fun x i h1 h2 => ?_⟩
  · unfold zv_n
    rw [f.1]
    exact gL.1
  · unfold zv_R
    rw [f.2.1]
    exact gL.2.1 r i h1 h2
  · unfold zv_R
    rw [f.2.1]
    exact gL.2.2 x i h1 h2
theorem zo_f_9 {g g' : zv_H} (f : zo_f g g') : ∀ r i, 9 ≤ r → zv_I g' r i = zv_I g r i := fun r i hr => f.2.2 r i (fun q => by omega) (by omega)
theorem zo_f_R {g g' : zv_H} (f : zo_f g g') (r i : Nat) : zv_R g' r i = zv_R g r i := by
  unfold zv_R
  rw [f.2.1]
theorem zo_f_J {g g' : zv_H} (f : zo_f g g') (r i : Nat) : zv_J g' r i = zv_J g r i := by
  unfold zv_J
  rw [f.2.1]
theorem zo_f_U {a : Nat} {c : Nat → Int} {g g' : zv_H} (f : zo_f g g') (U : zt_U a c g) : zt_U a c g' := zt_U_9 U (zo_f_9 f) (fun r i _ => zo_f_J f r i) (fun r i _ => zo_f_R f r i)
section
variable {a b m : Nat} {g k : zv_H}
theorem zo_1 {d D n : Nat} (gL : zt_L g) (hM : zm_M k) (O : zo g k n) (hn : n < 160) (v : Int) : ∃ g' k', C8_tellByte (d + 1) 1 v g = some g' ∧ C9_tells (D + 1) 347 v k = some k' ∧ zo g' k' (n + 1) ∧ zo_f g g' ∧ zm_F [372] [47] k k' := by
  have l1 : zv_lay 1 = (1, 8) := rfl
  have l2 : zv_lay 2 = (2, 160) := rfl
  obtain ⟨o1, o2, o3⟩ := O
  have e2 : zv_gR g 1 8 0 = some 2 := zl_gF gL l1 0 1
  have L2 : zt_L (zv_sI g 2 n v) := gL
  have g5 : zv_I (zv_sI g 2 n v) 1 5 = n := (zy_In _ _ (fun q => absurd q.1 (by decide))).trans o1
  have f1 : zm_F [372] [47] k (zv_sI k 372 n v) := zm_F_I (zm_F_r _ _ k) rfl _ _
  have M1 := zm_F_M f1 hM
  have k47 : zv_I (zv_sI k 372 n v) 347 47 = n := (zy_In _ _ (fun q => absurd q.1 (by decide))).trans o2
  refine ⟨zv_sI (zv_sI g 2 n v) 1 5 ((n + 1 : Nat) : Int), zv_sI (zv_sI k 372 n v) 347 47 ((n + 1 : Nat) : Int), lC8_tellByte (zl_ob gL l1) ?_, lC9_tells (zm_ob hM) ?_, ⟨zy_I _ _ _ _, zy_I _ _ _ _, fun i hi => ?_⟩, ⟨rfl, rfl, fun r i q1 q2 => (zy_In _ _ q1).trans (zy_In _ _ (fun q => q2 q.1))⟩, zm_F_f f1 rfl _⟩
  · rw [qE8_tellByte, zm_e (zl_gI gL l1 5), o1, if_neg (by omega), zm_e (zl_gI gL l1 5), o1, zm_e e2, zm_e (zl_al gL l2), if_pos (by omega), zm_e e2, zm_e (zl_gI gL l1 5), o1, zm_e (zl_wI gL l2 (by omega) (by omega) v), Int.toNat_natCast, zm_e (zl_gI L2 l1 5), g5, zm_w (by omega), zm_e (zl_pI L2 l1 5 _)]
    rfl
  · rw [qE9_tells, zm_e (zm_gR hM rfl rfl : zv_gR k 347 9 46 = some 372), zm_e (zm_gI hM 47), o2, zm_e (zm_wI hM (show zv_lay 372 = (2, 200) from rfl) rfl (by omega) (by omega) v), Int.toNat_natCast, zm_e (zm_gI M1 47), k47, zm_w (by omega), zm_e (zm_pI M1 47 _)]
    rfl
  · refine (zy_In _ _ (fun q => absurd q.1 (by decide))).trans (Eq.trans ?_ (zy_In _ _ (fun q => absurd q.1 (by decide))).symm)
    by_cases c : i = n
    · rw [c, zy_I, zy_I]
    · rw [zy_In _ _ (fun q => c q.2), zy_In _ _ (fun q => c q.2)]
      exact o3 i (by omega)
/-- a number of one digit or two -/
theorem zo_num {d D n : Nat} (gL : zt_L g) (hM : zm_M k) (O : zo g k n) (hn : n + 1 < 160) (v : Int) : ∃ g' k' n', C8_tellNumber (d + 2) 1 v g = some g' ∧ C9_tellsNumber (D + 2) 347 v k = some k' ∧ zo g' k' n' ∧ n' ≤ n + 2 ∧ zo_f g g' ∧ zm_F [372] [47] k k' := by
  have l1 : zv_lay 1 = (1, 8) := rfl
  by_cases c : v < 10
  · obtain ⟨g1, k1, a1, b1, O1, f1, F1⟩ := zo_1 (d := d) (D := D) gL hM O (by omega) (zv_w (48 + v.tmod 10))
    refine ⟨g1, k1, n + 1, lC8_tellNumber (zl_ob gL l1) ?_, lC9_tellsNumber (zm_ob hM) ?_, O1, by omega, f1, F1⟩
    · rw [qE8_tellNumber, if_pos c, qL8_tellNumber_17, zm_e a1]
    · rw [qE9_tellsNumber, if_pos (by omega), qL9_tellsNumber_17, zm_e b1]
  · obtain ⟨g1, k1, a1, b1, O1, f1, F1⟩ := zo_1 (d := d) (D := D) gL hM O (by omega) (zv_w (48 + zv_w (v.tdiv 10)))
    have L1 := zo_f_L f1 gL
    have M1 := zm_F_M F1 hM
    obtain ⟨g2, k2, a2, b2, O2, f2, F2⟩ := zo_1 (d := d) (D := D) L1 M1 O1 (by omega) (zv_w (48 + v.tmod 10))
    refine ⟨g2, k2, n + 2, lC8_tellNumber (zl_ob gL l1) ?_, lC9_tellsNumber (zm_ob hM) ?_, O2, by omega, zo_f_t f1 f2, zm_F_t F1 F2⟩
    · rw [qE8_tellNumber, if_neg c, zm_e a1, qL8_tellNumber_17, zm_e a2]
    · rw [qE9_tellsNumber, if_neg (by omega), zm_e b1, qL9_tellsNumber_17, zm_e b2]
/-- the document -/
theorem zo_doc {d D : Nat} {c : Nat → Int} {g0 : zv_H} {l : List Int} (S0 : zv_R g0 1 3 = a) (U0 : zt_U a c g0) (W : zm_W c) (hl : zm_Ln c (c 0 :: l) (c 0)) : ∀ (r q : List (Int × Int)), q ++ r = zm_row c (c 0 :: l) → ∀ (g k : zv_H), zt_L g → zo_f g0 g → zm_M k → zv_I k 348 = c → zm_Sn k c (c 0 :: l) → zo g k (q.filter (zm_sn c (c 0 :: l))).length → ∃ g' k', L8_tellDocument_10 (d + 2) 1 (zt_r a (c 0)) ((q.filter (zm_sn c (c 0 :: l))).length : Int) g = some (none, g') ∧ L9_tell_38 (D + 2) 347 0 (q.length : Int) k = L9_tell_79 (D + 2) 347 0 0 k' ∧ zo g' k' (zt_dc c (c 0 :: l)).length ∧ zo_f g0 g' ∧ zm_F [372] [47] k k' := by
  have hs := W.2.1
  obtain ⟨ok, G, _, W1⟩ := zt_line_u W hs hl
  have rl := zm_row_le G
  have dp := zt_dep W hs hl
  have d120 : (zt_dc c (c 0 :: l)).length ≤ 120 := W1.2.2.2.2.2.2
  have la := zt_U_la U0
  have lr := zt_r_l la hs.1
  have hD : za_D c (c 0) ((zt_dc c (c 0 :: l)).map (zm_lt c)) := ⟨l, hl, rfl⟩
  rw [List.length_cons] at rl
  intro r
  induction r with
  | nil =>
    intro q hq g k gL f hM hc sn O
    rw [List.append_nil] at hq
    have U := zo_f_U f U0
    have en := zt_S_ln (zt_U_st U (c 0) hs) l hl
    subst hq
    refine ⟨g, k, ?_, ?_, O, f, zm_F_r _ _ k⟩
    · rw [qL8_tellDocument_10, zm_e (zl_gI gL lr 12), en]
      exact if_neg (Int.lt_irrefl _)
    · rw [qL9_tell_38, zm_e (zm_gI hM 11), sn.2.1.1, if_neg (Int.lt_irrefl _)]
  | cons x r ih =>
    intro q hq g k gL f hM hc sn O
    have U := zo_f_U f U0
    have en := zt_S_ln (zt_U_st U (c 0) hs) l hl
    have hlen := congrArg List.length hq
    rw [List.length_append, List.length_cons] at hlen
    have hx : (zm_row c (c 0 :: l))[q.length]? = some x := by
      rw [← hq, List.getElem?_append_right (Nat.le_refl _), Nat.sub_self]
      rfl
    have hm : x ∈ zm_row c (c 0 :: l) := List.mem_of_getElem? hx
    have w1 : zv_w ((q.length : Int) + 1) = ((q ++ [x]).length : Int) := by
      rw [List.length_append, List.length_singleton, zm_w (by omega)]
      omega
    have hq' : (q ++ [x]) ++ r = zm_row c (c 0 :: l) := by rw [List.append_assoc]; exact hq
    have s355 := sn.2.2.2.1 q.length x hx
    rw [qL9_tell_38, zm_e (zm_gI hM 11), sn.2.1.1, if_pos (by omega), if_pos rfl, zm_e (zm_gR hM rfl rfl : zv_gR k 347 9 9 = some 355), zm_e (zm_aB hM (show zv_lay 355 = (3, 640) from rfl) (Or.inl rfl) rfl (by omega) (by omega)), Int.toNat_natCast, s355, w1]
    by_cases cs : zm_sn c (c 0 :: l) x = true
    · have ef : ((q ++ [x]).filter (zm_sn c (c 0 :: l))).length = (q.filter (zm_sn c (c 0 :: l))).length + 1 := by
        rw [List.filter_append, List.length_append, List.filter_cons_of_pos cs]
        rfl
      have ed : (zt_dc c (c 0 :: l))[(q.filter (zm_sn c (c 0 :: l))).length]? = some x := by
        unfold zt_dc
        rw [← hq, List.filter_append, List.getElem?_append_right (Nat.le_refl _), Nat.sub_self, List.filter_cons_of_pos cs]
        rfl
      have fl : (q.filter (zm_sn c (c 0 :: l))).length < (zt_dc c (c 0 :: l)).length := by
        by_cases z : (q.filter (zm_sn c (c 0 :: l))).length < (zt_dc c (c 0 :: l)).length
        · exact z
        · rw [List.getElem?_eq_none (by omega)] at ed
          cases ed
      generalize (q.filter (zm_sn c (c 0 :: l))).length = i at O ef ed fl
      have el := za_letterAt (d := d) gL U hs hD i
      have ev : za_nth ((zt_dc c (c 0 :: l)).map (zm_lt c)) i = zm_lt c x := by
        rw [za_nth_in (by rw [List.length_map]; exact fl), List.getElem_map]
        rw [List.getElem?_eq_getElem fl] at ed
        rw [Option.some.inj ed]
      have xok := zm_row_ok (fun t ht => zm_st48 (ok.2.2.1 t ht)) G x hm
      have li := zm_letterIn hM hc D sn.2.1 (by omega) hx xok.1 (by omega)
      have e3 : zv_gR g 1 8 3 = some a := (zl_gR gL (show zv_lay 1 = (1, 8) from rfl) 3).trans (by rw [zo_f_R f, S0])
      obtain ⟨g1, k1, a1, b1, O1, f1, F1⟩ := zo_1 (d := d + 1) (D := D + 1) gL hM O (by omega) (zv_w (97 + zm_lt c x))
      have hM1 := zm_F_M F1 hM
      obtain ⟨g', k', y1, y2, y3, y4, y5⟩ := ih (q ++ [x]) hq' g1 k1 (zo_f_L f1 gL) (zo_f_t f f1) hM1 ((zm_F_a F1 348).trans hc) (zm_Sn_F sn F1) (by rw [ef]; exact O1)
      rw [ef] at y1
      refine ⟨g', k', ?_, ?_, y3, y4, zm_F_t F1 y5⟩
      · rw [qL8_tellDocument_10, zm_e (zl_gI gL lr 12), en, if_pos (by omega), zm_e e3, zm_e el, ev]
        dsimp only
        rw [zm_e a1, zm_w (by omega)]
        exact y1
      · rw [if_pos cs, if_neg (by decide), zm_e li]
        dsimp only
        rw [zm_e b1]
        exact y2
    · have ef : ((q ++ [x]).filter (zm_sn c (c 0 :: l))).length = (q.filter (zm_sn c (c 0 :: l))).length := by
        rw [List.filter_append, List.length_append, List.filter_cons_of_neg cs]
        rfl
      obtain ⟨g', k', y1, y2, y3, y4, y5⟩ := ih (q ++ [x]) hq' g k gL f hM hc sn (by rw [ef]; exact O)
      rw [ef] at y1
      refine ⟨g', k', y1, ?_, y3, y4, y5⟩
      rw [if_neg cs, if_pos rfl]
      exact y2
/-- the line -/
theorem zo_line {d D : Nat} {c : Nat → Int} {g0 : zv_H} {L : List Int} (U0 : zt_U a c g0) (wk : zt_wk a c L g0) (hst : ∀ t ∈ L, zm_st c t) (h48 : L.length ≤ 48) : ∀ (r i n : Nat) (g k : zv_H), i + r = L.length → n ≤ 3 * i → zt_L g → zo_f g0 g → zm_M k → zm_lh c L k → zo g k n → ∃ g' k' n', L8_tellLine_10 (d + 3) 1 (a + 8) (i : Int) g = some (none, g') ∧ L9_tell_79 (D + 3) 347 1 (i : Int) k = L9_tell_118 (D + 3) 347 1 k' ∧ zo g' k' n' ∧ n' ≤ 144 ∧ zo_f g0 g' ∧ zm_F [372] [47] k k' := by
  have la := zt_U_la U0
  have l8 := (zt_row_l la).1
  have l9 := (zt_row_l la).2.1
  intro r
  induction r with
  | zero =>
    intro i n g k hi hn gL f hM lh O
    have e5 : zv_I g (a + 8) 5 = L.length := by rw [zo_f_9 f _ _ (by have := zc_lh la; omega)]; exact zt_wk_ln wk
    refine ⟨g, k, n, ?_, ?_, O, by omega, f, zm_F_r _ _ k⟩
    · rw [qL8_tellLine_10, zm_e (zl_gI gL l8 5), e5, if_neg (by omega)]
    · rw [qL9_tell_79, zm_e (zm_gI hM 10), lh.2.2.1, if_neg (by omega)]
  | succ r ih =>
    intro i n g k hi hn gL f hM lh O
    have a9 := zc_lh la
    have e5 : zv_I g (a + 8) 5 = L.length := by rw [zo_f_9 f _ _ (by omega)]; exact zt_wk_ln wk
    have ir : i < L.reverse.length := by rw [List.length_reverse]; omega
    have ht : L.reverse[i] ∈ L := List.mem_reverse.mp (List.getElem_mem ir)
    have ex := List.getElem?_eq_getElem ir
    generalize L.reverse[i] = t at ht ex
    have hs := hst t ht
    have w1 : zv_w ((i : Int) + 1) = ((i + 1 : Nat) : Int) := by
      rw [zm_w (by omega)]
      omega
    -- the sign ahead of it, if it is not the first
    obtain ⟨g1, k1, n1, O1, f1, F1, n1', c1, c2⟩ : ∃ g1 k1 n1, zo g1 k1 n1 ∧ zo_f g g1 ∧ zm_F [372] [47] k k1 ∧ n1 ≤ n + 1 ∧ L8_tellLine_10 (d + 3) 1 (a + 8) (i : Int) g = L8_tellLine_28 (d + 3) 1 (a + 8) (i : Int) g1 ∧ L9_tell_79 (D + 3) 347 1 (i : Int) k = L9_tell_102 (D + 3) 347 1 (i : Int) k1 := by
      by_cases i0 : i = 0
      · refine ⟨g, k, n, O, zo_f_r g, zm_F_r _ _ k, by omega, ?_, ?_⟩
        · rw [qL8_tellLine_10, zm_e (zl_gI gL l8 5), e5, if_pos (by omega), if_pos (by omega)]
        · rw [qL9_tell_79, zm_e (zm_gI hM 10), lh.2.2.1, if_pos (by omega), if_pos rfl, if_pos (by omega)]
      · obtain ⟨g1, k1, a1, b1, O1, f1, F1⟩ := zo_1 (d := d + 2) (D := D + 2) gL hM O (by omega) 60
        refine ⟨g1, k1, n + 1, O1, f1, F1, Nat.le_refl _, ?_, ?_⟩
        · rw [qL8_tellLine_10, zm_e (zl_gI gL l8 5), e5, if_pos (by omega), if_neg (by omega), zm_e a1]
        · rw [qL9_tell_79, zm_e (zm_gI hM 10), lh.2.2.1, if_pos (by omega), if_pos rfl, if_neg (by omega), zm_e b1]
    have L1 := zo_f_L f1 gL
    have M1 := zm_F_M F1 hM
    have f01 := zo_f_t f f1
    have lh1 := zm_lh_F lh F1
    have U1 := zo_f_U f01 U0
    have e5' : zv_I g1 (a + 8) 5 = L.length := by rw [zo_f_9 f01 _ _ (by omega)]; exact zt_wk_ln wk
    have pa : zv_R g1 (a + 9) i = zt_r a t := by rw [zo_f_R f01]; exact zt_wk_pa wk i t ex
    have lr := zt_r_l la hs.1
    have aR : zv_aR g1 (a + 9) (i : Int) = some (zt_r a t) := (zl_aR L1 l9 (by omega) (by omega)).trans (by rw [Int.toNat_natCast, pa])
    have e9 : zv_gR g1 (a + 8) 4 0 = some (a + 9) := zl_gF L1 l8 0 1
    have en : C4_numberAt (d + 3) (a + 8) (i : Int) g1 = some (t, g1) := lC4_numberAt (zl_ob L1 l8) (by
      rw [qE4_numberAt, if_neg (by omega), zm_e (zl_gI L1 l8 5), e5', if_pos (by omega), if_pos (by omega), zm_e e9, zm_e aR, if_neg (zt_r0 U1 hs), zm_e e9, zm_e aR, zm_e (zl_gI L1 lr 0), zt_num U1 hs])
    obtain ⟨g2, k2, n2, a2, b2, O2, n2', f2, F2⟩ := zo_num (d := d + 1) (D := D + 1) L1 M1 O1 (by omega) t
    have M2 := zm_F_M F2 M1
    obtain ⟨g', k', n', y1, y2, y3, y6, y4, y5⟩ := ih (i + 1) n2 g2 k2 (by omega) (by omega) (zo_f_L f2 L1) (zo_f_t f01 f2) M2 (zm_lh_F lh1 F2) O2
    refine ⟨g', k', n', ?_, ?_, y3, y6, y4, zm_F_t F1 (zm_F_t F2 y5)⟩
    · rw [c1, qL8_tellLine_28, zm_e en]
      dsimp only
      rw [zm_e a2, w1]
      exact y1
    · rw [c2, qL9_tell_102, zm_e (zm_f5 M1), zm_e (zm_aI M1 (show zv_lay 351 = (2, 49) from rfl) rfl (by omega) (by omega)), Int.toNat_natCast, lh1.2.2.2 i t ex, zm_e b2, w1]
      exact y2
/-! names: their letters -/
theorem zo_and31 {x : Int} (h0 : 0 ≤ x) (h1 : x < 2147483648) : zv_and x 31 = x % 32 := by
  have e : (Int32.ofInt x &&& Int32.ofInt 31).toBitVec.toNat = x.toNat % 32 := by
    rw [Int32.toBitVec_and, BitVec.toNat_and]
    have e1 : (Int32.ofInt x).toBitVec.toNat = x.toNat := by
      show (BitVec.ofInt 32 x).toNat = x.toNat
      rw [BitVec.toNat_ofInt]
      omega
    rw [e1]
    exact Nat.and_two_pow_sub_one_eq_mod _ 5
  have := zc_toInt (Int32.ofInt x &&& Int32.ofInt 31).toBitVec e (by omega)
  refine Eq.trans this ?_
  omega
theorem zo_shr5 {x : Int} {j : Nat} (hj : j ≤ 5) (h0 : 0 ≤ x) (h1 : x < 2147483648) : zv_shr x (5 * (j : Int)) = x / ((32 ^ j : Nat) : Int) := by
  have e1 : ∀ j : Nat, j ≤ 5 → (Int32.ofInt x >>> (Int32.ofInt (5 * (j : Int)) &&& 31)).toBitVec = (BitVec.ofInt 32 x).sshiftRight (5 * j) := fun j hj => by
    have : j = 0 ∨ j = 1 ∨ j = 2 ∨ j = 3 ∨ j = 4 ∨ j = 5 := by omega
    rcases this with rfl | rfl | rfl | rfl | rfl | rfl <;> rfl
  have ex : (BitVec.ofInt 32 x).toInt = x := by
    rw [BitVec.toInt_ofInt, Int.bmod_def]
    split <;> omega
  show (Int32.ofInt x >>> (Int32.ofInt (5 * (j : Int)) &&& 31)).toBitVec.toInt = _
  rw [e1 j hj, BitVec.toInt_sshiftRight, ex, Int.shiftRight_eq_div_pow]
  have : (2 : Nat) ^ (5 * j) = 32 ^ j := by rw [Nat.pow_mul]
  rw [this]
theorem zo_key (x : Int) (w : List Int) : zt_key (x :: w) = (x + 1) + 32 * zt_key w := rfl
theorem zo_pkd_take {w : List Int} (hw : ∀ x ∈ w, 0 ≤ x ∧ x < 26) : ∀ j : Nat, j ≤ w.length → zt_pkd w / ((32 ^ j : Nat) : Int) = zt_pkd (w.take (w.length - j))
  | 0, _ => by
    rw [Nat.sub_zero, List.take_length]
    show zt_pkd w / 1 = _
    rw [Int.ediv_one]
  | j + 1, hj => by
    have ih := zo_pkd_take hw j (by omega)
    have hl : w.length - (j + 1) < w.length := by omega
    have et : w.take (w.length - j) = w.take (w.length - (j + 1)) ++ [w[w.length - (j + 1)]] := by
      rw [show w.length - j = (w.length - (j + 1)) + 1 by omega, List.take_succ_eq_append_getElem hl]
    have hx := hw _ (List.getElem_mem hl)
    rw [et, zt_pkd_a] at ih
    rw [Nat.pow_succ, Int.natCast_mul, ← Int.ediv_ediv_of_nonneg (show (0 : Int) ≤ ((32 ^ j : Nat) : Int) from Int.natCast_nonneg _), ih]
    have p0 : 0 ≤ zt_pkd (w.take (w.length - (j + 1))) := (zt_key_lt _ (fun x hx => hw x (List.mem_of_mem_take (List.mem_reverse.mp hx)))).1
    generalize zt_pkd (w.take (w.length - (j + 1))) = y at p0
    generalize w[w.length - (j + 1)] = x at hx
    omega
theorem zo_pkd_lt {w : List Int} (hw : zt_nw w) : 0 ≤ zt_pkd w ∧ zt_pkd w < ((32 ^ w.length : Nat) : Int) ∧ zt_pkd w < 2147483648 := by
  have h := zt_key_lt w.reverse (fun x hx => hw.2 x (List.mem_reverse.mp hx))
  rw [List.length_reverse] at h
  have p : 32 ^ w.length ≤ 32 ^ 6 := Nat.pow_le_pow_right (by decide) hw.1.2
  have e6 : (32 : Nat) ^ 6 = 1073741824 := by decide
  have h2 : zt_pkd w < ((32 ^ w.length : Nat) : Int) := h.2
  exact ⟨h.1, h2, by omega⟩
/-- the letters of a name -/
theorem zo_let {d D : Nat} {w : List Int} (hw : zt_nw w) (r : Nat) (i : Int) : ∀ j : Nat, j ≤ w.length → ∀ (g k : zv_H) (n : Nat), zt_L g → zm_M k → zo g k n → n + j ≤ 150 → ∃ g' k', L8_tellNames_34 (d + 1) 1 r i (zt_key (w.drop (w.length - j))) g = L8_tellNames_34 (d + 1) 1 r i 0 g' ∧ L9_tellsNames_38 (D + 1) 347 i (zt_pkd w) (5 * (j : Int) - 5) k = L9_tellsNames_38 (D + 1) 347 i (zt_pkd w) (-5) k' ∧ zo g' k' (n + j) ∧ zo_f g g' ∧ zm_F [372] [47] k k'
  | 0, _, g, k, n, _, _, O, _ => by
    refine ⟨g, k, ?_, rfl, O, zo_f_r g, zm_F_r _ _ k⟩
    rw [Nat.sub_zero, List.drop_length]
    rfl
  | j + 1, hj, g, k, n, gL, hM, O, hn => by
    have hl : w.length - (j + 1) < w.length := by omega
    have hx := hw.2 _ (List.getElem_mem hl)
    have ed := List.drop_eq_getElem_cons hl
    rw [show w.length - (j + 1) + 1 = w.length - j by omega] at ed
    have et : w.take (w.length - j) = w.take (w.length - (j + 1)) ++ [w[w.length - (j + 1)]] := by
      rw [show w.length - j = (w.length - (j + 1)) + 1 by omega, List.take_succ_eq_append_getElem hl]
    have pt := zo_pkd_take hw.2 j (by omega)
    have pl := zo_pkd_lt hw
    have h6 := hw.1.2
    have es := zo_shr5 (x := zt_pkd w) (j := j) (by omega) pl.1 pl.2.2
    rw [pt, et, zt_pkd_a] at es
    have y0 := (zt_key_lt (w.drop (w.length - j)) (fun x hx => hw.2 x (List.mem_of_mem_drop hx))).1
    have y1 : zt_key (w.drop (w.length - (j + 1))) < 2147483648 := by
      have z := (zt_key_lt (w.drop (w.length - (j + 1))) (fun x hx => hw.2 x (List.mem_of_mem_drop hx))).2
      have p : 32 ^ (w.drop (w.length - (j + 1))).length ≤ 32 ^ 6 := Nat.pow_le_pow_right (by decide) (by rw [List.length_drop]; omega)
      have e6 : (32 : Nat) ^ 6 = 1073741824 := by decide
      omega
    have z0 : 0 ≤ zt_pkd (w.take (w.length - (j + 1))) := (zt_key_lt _ (fun x hx => hw.2 x (List.mem_of_mem_take (List.mem_reverse.mp hx)))).1
    have z1 : (w[w.length - (j + 1)] + 1) + 32 * zt_pkd (w.take (w.length - (j + 1))) < 2147483648 := by
      rw [← zt_pkd_a, ← et, ← pt]
      have := Int.ediv_le_self ((32 ^ j : Nat) : Int) pl.1
      omega
    rw [ed, zo_key] at y1
    obtain ⟨g1, k1, a1, b1, O1, f1, F1⟩ := zo_1 (d := d) (D := D) gL hM O (by omega) (zv_w (96 + (w[w.length - (j + 1)] + 1)))
    obtain ⟨g', k', c1, c2, O2, f2, F2⟩ := zo_let (d := d) (D := D) hw r i j (by omega) g1 k1 (n + 1) (zo_f_L f1 gL) (zm_F_M F1 hM) O1 (by omega)
    refine ⟨g', k', ?_, ?_, by rw [show n + (j + 1) = n + 1 + j by omega]; exact O2, zo_f_t f1 f2, zm_F_t F1 F2⟩
    · rw [ed, zo_key, qL8_tellNames_34]
      generalize zt_key (w.drop (w.length - j)) = y at y0 y1 c1 ⊢
      generalize w[w.length - (j + 1)] = x at hx a1 y1 ⊢
      rw [if_neg (by omega), zo_and31 (by omega) y1, show (x + 1 + 32 * y) % 32 = x + 1 by omega, zm_e a1, zc_ushr5 (by omega) y1, show (x + 1 + 32 * y) / 32 = y by omega]
      exact c1
    · rw [qL9_tellsNames_38, if_neg (by omega), show 5 * ((j + 1 : Nat) : Int) - 5 = 5 * (j : Int) by omega, es]
      generalize zt_pkd (w.take (w.length - (j + 1))) = z at z0 z1 ⊢
      generalize w[w.length - (j + 1)] = x at hx b1 z1 ⊢
      rw [if_neg (by omega), zo_and31 (by omega) z1, show (x + 1 + 32 * z) % 32 = x + 1 by omega, zm_e b1, zm_w (by omega), show 5 * (j : Int) + -5 = 5 * (j : Int) - 5 by omega]
      exact c2
/-- no letters there -/
theorem zo_skip {D : Nat} {w : List Int} (hw : zt_nw w) (i : Int) (k : zv_H) : ∀ e : Nat, w.length + e ≤ 6 → L9_tellsNames_38 (D + 1) 347 i (zt_pkd w) (5 * ((w.length + e : Nat) : Int) - 5) k = L9_tellsNames_38 (D + 1) 347 i (zt_pkd w) (5 * (w.length : Int) - 5) k
  | 0, _ => rfl
  | e + 1, he => by
    have h1 := hw.1.1
    have pl := zo_pkd_lt hw
    have es := zo_shr5 (x := zt_pkd w) (j := w.length + e) (by omega) pl.1 pl.2.2
    have p : 32 ^ w.length ≤ 32 ^ (w.length + e) := Nat.pow_le_pow_right (by decide) (by omega)
    rw [Int.ediv_eq_zero_of_lt pl.1 (by omega)] at es
    rw [qL9_tellsNames_38, if_neg (by omega), show 5 * ((w.length + (e + 1) : Nat) : Int) - 5 = 5 * ((w.length + e : Nat) : Int) by omega, es, if_pos (by decide), zm_w (by omega), show 5 * ((w.length + e : Nat) : Int) + -5 = 5 * ((w.length + e : Nat) : Int) - 5 by omega]
    exact zo_skip hw i k e (by omega)
/-- the names -/
theorem zo_names {d D : Nat} {g0 : zv_H} {c : Nat → Int} (S0 : zv_R g0 1 3 = a) (la : zv_lay a = (1, 0)) (N : zt_N a c g0) (h12 : c 3 ≤ 12) : ∀ (r i n : Nat) (g k : zv_H), (i : Int) + r = c 3 → n ≤ 10 * i → zt_L g → zo_f g0 g → zm_M k → zv_I k 348 = c → zo g k n → ∃ g' k' n', L8_tellNames_10 (d + 3) 1 (a + 14) (i : Int) g = some (none, g') ∧ L9_tellsNames_2 (D + 3) 347 (i : Int) k = some (none, k') ∧ zo g' k' n' ∧ n' ≤ 150 ∧ zo_f g0 g' ∧ zm_F [372] [47] k k' := by
  have a9 := zc_lh la
  have l14 := (zt_nm_l la).1
  have l15 := (zt_nm_l la).2.1
  have l16 := (zt_nm_l la).2.2
  have l1 : zv_lay 1 = (1, 8) := rfl
  intro r
  induction r with
  | zero =>
    intro i n g k hi hn gL f hM hc O
    have e2 : zv_I g (a + 14) 2 = c 3 := by rw [zo_f_9 f _ _ (by omega)]; exact zt_N_sz N
    refine ⟨g, k, n, ?_, ?_, O, by omega, f, zm_F_r _ _ k⟩
    · rw [qL8_tellNames_10, zm_e (zl_gI gL l14 2), e2, if_neg (by omega)]
    · rw [qL9_tellsNames_2, zm_e (zm_f0 hM), zm_e (zm_aI hM zm_l348 rfl (by decide) (by decide)), hc, show Int.toNat 3 = 3 from rfl, if_neg (by omega)]
  | succ r ih =>
    intro i n g k hi hn gL f hM hc O
    have e2 : ∀ {g1 : zv_H}, zo_f g0 g1 → zv_I g1 (a + 14) 2 = c 3 := fun f => by rw [zo_f_9 f _ _ (by omega)]; exact zt_N_sz N
    obtain ⟨w, hw, w1', w2'⟩ := zt_N_ky N i (by omega)
    have w1 : Unit → zv_I g0 (a + 15) i = zt_key w := fun _ => w1'
    have w2 : Unit → c (408 + 2 * i) = zt_pkd w := fun _ => w2'
    clear w1' w2'
    have wi : zv_w ((i : Int) + 1) = ((i + 1 : Nat) : Int) := by
      rw [zm_w (by omega)]
      omega
    have v2 : zv_w (408 + zv_w (2 * (i : Int))) = 408 + 2 * (i : Int) := by
      rw [zm_w (x := 2 * (i : Int)) (by omega), zm_w (by omega)]
    have v3 : zv_w (408 + 2 * (i : Int) + 1) = 408 + 2 * (i : Int) + 1 := zm_w (by omega)
    -- ahead of it
    obtain ⟨g1, k1, n1, O1, f1, F1, hn1, c1, c2⟩ : ∃ g1 k1 n1, zo g1 k1 n1 ∧ zo_f g g1 ∧ zm_F [372] [47] k k1 ∧ n1 ≤ n + 1 ∧ L8_tellNames_10 (d + 3) 1 (a + 14) (i : Int) g = L8_tellNames_28 (d + 3) 1 (a + 14) (i : Int) g1 ∧ L9_tellsNames_2 (D + 3) 347 (i : Int) k = L9_tellsNames_38 (D + 3) 347 (i : Int) (zt_pkd w) 25 k1 := by
      by_cases i0 : i = 0
      · refine ⟨g, k, n, O, zo_f_r g, zm_F_r _ _ k, by omega, ?_, ?_⟩
        · rw [qL8_tellNames_10, zm_e (zl_gI gL l14 2), e2 f, if_pos (by omega), if_pos (by omega)]
        · rw [qL9_tellsNames_2, zm_e (zm_f0 hM), zm_e (zm_aI hM zm_l348 rfl (by decide) (by decide)), hc, show Int.toNat 3 = 3 from rfl, if_pos (by omega), if_pos (by omega), zm_e (zm_f0 hM), v2, zm_e (zm_aI hM zm_l348 rfl (by omega) (by omega)), hc, show (408 + 2 * (i : Int)).toNat = 408 + 2 * i by omega, w2 ()]
      · obtain ⟨g1, k1, a1, b1, O1, f1, F1⟩ := zo_1 (d := d + 2) (D := D + 2) gL hM O (by omega) 32
        have M1 := zm_F_M F1 hM
        have hc1 : zv_I k1 348 = c := (zm_F_a F1 348).trans hc
        refine ⟨g1, k1, n + 1, O1, f1, F1, Nat.le_refl _, ?_, ?_⟩
        · rw [qL8_tellNames_10, zm_e (zl_gI gL l14 2), e2 f, if_pos (by omega), if_neg (by omega), zm_e a1]
        · rw [qL9_tellsNames_2, zm_e (zm_f0 hM), zm_e (zm_aI hM zm_l348 rfl (by decide) (by decide)), hc, show Int.toNat 3 = 3 from rfl, if_pos (by omega), if_neg (by omega), zm_e b1, zm_e (zm_f0 M1), v2, zm_e (zm_aI M1 zm_l348 rfl (by omega) (by omega)), hc1, show (408 + 2 * (i : Int)).toNat = 408 + 2 * i by omega, w2 ()]
    have L1 := zo_f_L f1 gL
    have M1 := zm_F_M F1 hM
    have f01 := zo_f_t f f1
    have hc1 : zv_I k1 348 = c := (zm_F_a F1 348).trans hc
    -- its letters
    have hwl := hw.1
    obtain ⟨g2, k2, d1, d2, O2, f2, F2⟩ := zo_let (d := d + 2) (D := D + 2) hw (a + 14) (i : Int) w.length (Nat.le_refl _) g1 k1 n1 L1 M1 O1 (by omega)
    rw [Nat.sub_self, List.drop_zero] at d1
    have sk := zo_skip (D := D + 2) hw (i : Int) k1 (6 - w.length) (by omega)
    rw [show w.length + (6 - w.length) = 6 by omega, show 5 * ((6 : Nat) : Int) - 5 = 25 from rfl] at sk
    have L2 := zo_f_L f2 L1
    have M2 := zm_F_M F2 M1
    have f02 := zo_f_t f01 f2
    have hc2 : zv_I k2 348 = c := (zm_F_a F2 348).trans hc1
    -- the sign, the State
    obtain ⟨g3, k3, a3, b3, O3, f3, F3⟩ := zo_1 (d := d + 2) (D := D + 2) L2 M2 O2 (by omega) 61
    have L3 := zo_f_L f3 L2
    have M3 := zm_F_M F3 M2
    have f03 := zo_f_t f02 f3
    have hc3 : zv_I k3 348 = c := (zm_F_a F3 348).trans hc2
    obtain ⟨g4, k4, n4, a4, b4, O4, hn4, f4, F4⟩ := zo_num (d := d + 1) (D := D + 1) L3 M3 O3 (by omega) (c (409 + 2 * i))
    obtain ⟨g', k', n', y1, y2, y3, y4, y5, y6⟩ := ih (i + 1) n4 g4 k4 (by omega) (by omega) (zo_f_L f4 L3) (zo_f_t f03 f4) (zm_F_M F4 M3) ((zm_F_a F4 348).trans hc3) O4
    have ky : C2_keyAt (d + 3) (a + 14) (i : Int) g1 = some (zt_key w, g1) := lC2_keyAt (zl_ob L1 l14) (by
      rw [qE2_keyAt, if_neg (by omega), zm_e (zl_gI L1 l14 2), e2 f01, if_pos (by omega), if_pos (by omega), zm_e (zl_gF L1 l14 0 1), zm_e (zl_aI L1 l15 (by omega) (by omega)), Int.toNat_natCast, zo_f_9 f01 _ _ (by omega), w1 ()])
    have ow : C2_ownerAt (d + 3) (a + 14) (i : Int) g3 = some (c (409 + 2 * i), g3) := lC2_ownerAt (zl_ob L3 l14) (by
      rw [qE2_ownerAt, if_neg (by omega), zm_e (zl_gI L3 l14 2), e2 f03, if_pos (by omega), if_pos (by omega), zm_e (zl_gF L3 l14 1 2), zm_e (zl_aI L3 l16 (by omega) (by omega)), Int.toNat_natCast, zo_f_9 f03 _ _ (by omega), zt_N_ow N i (by omega)])
    refine ⟨g', k', n', ?_, ?_, y3, y4, y5, zm_F_t F1 (zm_F_t F2 (zm_F_t F3 (zm_F_t F4 y6)))⟩
    · rw [c1, qL8_tellNames_28, zm_e ky]
      dsimp only
      rw [d1, qL8_tellNames_34, if_pos (by decide), zm_e a3, zm_e ow]
      dsimp only
      rw [zm_e a4, wi]
      exact y1
    · rw [c2, sk, d2, qL9_tellsNames_38, if_pos (by decide), zm_e b3, zm_e (zm_f0 M3), v2, v3, zm_e (zm_aI M3 zm_l348 rfl (by omega) (by omega)), hc3, show (408 + 2 * (i : Int) + 1).toNat = 409 + 2 * i by omega, zm_e b4, wi]
      exact y2
theorem zo_nx {r i : Nat} (h : (r = 1 ∧ i = 5) ∨ r = 2) : ¬ zt_x r i := by
  intro x
  rcases x with x | x | x | ⟨a, q, x⟩
  · omega
  · rcases h with h | h
    · rw [h.1] at x
      exact absurd x.1 (by decide)
    · rw [h] at x
      exact absurd x.1 (by decide)
  · rcases h with h | h
    · omega
    · rw [h] at x
      exact absurd x.1 (by decide)
  · omega
theorem zo_N {g g' : zv_H} {c : Nat → Int} (f : zo_f g g') (la : zv_lay a = (1, 0)) (h12 : c 3 ≤ 12) (N : zt_N a c g) : zt_N a c g' := zt_N_c N h12 rfl (fun _ _ _ => rfl) (fun r k r1 r2 => zo_f_9 f r k (by have := zc_lh la; omega))
/-- telling -/
theorem zp_tell {d D : Nat} (hA : zc_A g) (I : zm_MI k) (S : zt_GG m a b g k) (w : Int) : ∃ v g' k', C8_tell (d + 28) 1 w g = some (v, g') ∧ C9_tell (D + 28) 347 w k = some (v, k') ∧ ((∃ n, n ≤ 160 ∧ zo g k n) → ∃ n, n ≤ 160 ∧ zo g' k' n) := by
  have gL := zt_L_A hA
  have hM := I.1
  have l1 : zv_lay 1 = (1, 8) := rfl
  have qC := qE8_tell (d + 27) 1 w g
  have qR := qE9_tell (D + 27) 347 w k
  rw [zm_e (zc_within (d := d + 26) g w 0 2)] at qC
  rw [zm_e (zm_isIn (h := k) (D + 26) w 0 2)] at qR
  dsimp only at qC qR
  by_cases cw : 0 ≤ w ∧ w ≤ 2
  rotate_left
  · rw [if_neg cw, if_pos rfl, za_ref gL] at qC
    rw [if_neg cw, if_pos rfl, qL9_tell_15, za_isn hM (by decide)] at qR
    refine ⟨_, _, _, lC8_tell (zl_ob gL l1) qC, lC9_tell (zm_ob hM) qR, fun ⟨n, n0, o1, o2, o3⟩ => ⟨n, n0, ?_, ?_, fun i hi => ?_⟩⟩
    · exact (zy_In _ _ (fun q => absurd q.2 (by decide))).trans o1
    · exact (zy_In _ _ (fun q => absurd q.2 (by decide))).trans ((zy_In _ _ (fun q => absurd q.2 (by decide))).trans o2)
    · rw [zy_In _ _ (fun q => absurd q.1 (by decide)), zy_In _ _ (fun q => absurd q.1 (by decide)), zy_In _ _ (fun q => absurd q.1 (by decide))]
      exact o3 i hi
  obtain ⟨k1, i1, F1⟩ := zp_is hM
  have S1 := zt_GG_F S F1
  have M1 := zm_F_M F1 hM
  have H := zt_GG_H S1
  have U := zt_H_U H
  have la := zt_U_la U
  have W := zt_U_W U
  have hs := W.2.1
  have e348 : zv_I k1 348 = zv_I k 348 := zm_F_a F1 348
  -- made empty
  generalize eg2 : zv_sI g 1 5 (0 : Int) = g2
  generalize ek2 : zv_sI k1 347 47 (0 : Int) = k2
  have p2 : zv_pI g 1 8 5 0 = some g2 := by rw [zl_pI gL l1 5 0, eg2]
  have f2 : zo_f g g2 := by
    rw [← eg2]
    exact ⟨rfl, rfl, fun r i q1 q2 => zy_In _ _ q1⟩
  have F2 : zm_F [] [47] k1 k2 := by
    rw [← ek2]
    exact zm_F_f (zm_F_r _ _ _) rfl _
  have M2 := zm_F_M F2 M1
  have hc2 : zv_I k2 348 = zv_I k 348 := (zm_F_a F2 348).trans e348
  have L2 := zo_f_L f2 gL
  obtain ⟨l, hl1, hl2, hl3, hl4⟩ := zm_W_l W.1 hs
  rw [e348] at hl1 hl3 hl4 hs U W
  have hW1 := hl1
  have eh := zm_here M2 (D + 26)
  rw [hc2] at eh
  obtain ⟨k3, s1, F3, sn⟩ := zm_sees_st (c := zv_I k 348) M2 hc2 (D + 23) hW1 hl2 hl3 hl4
  have M3 := zm_F_M F3 M2
  have hc3 : zv_I k3 348 = zv_I k 348 := (zm_F_a F3 348).trans hc2
  have O3 : zo g2 k3 0 := by
    refine ⟨?_, ?_, fun i hi => absurd hi (by omega)⟩
    · rw [← eg2]
      exact zy_I _ _ _ _
    · rw [zm_F_g F3 47, ← ek2]
      exact zy_I _ _ _ _
  have qR2 : E9_tell (D + 27) 347 w k = L9_tell_38 (D + 27) 347 w 0 k3 := by
    rw [qR, if_pos cw, if_neg (by decide), qL9_tell_15, za_isy i1]
    dsimp only
    rw [zm_e (zm_pI M1 47 0), ek2, zm_e eh]
    dsimp only
    rw [zm_e s1]
  rw [if_pos cw, if_neg (by decide), zm_e p2] at qC
  have r3 : ∀ {g1 : zv_H}, zo_f g g1 → zv_gR g1 1 8 3 = some a := fun {g1} f => (zl_gR (zo_f_L f gL) l1 3).trans (by rw [zo_f_R f]; rw [zt_GG_r S])
  -- what is left of the class's
  have fin : ∀ (g4 k4 : zv_H) (n : Nat), n ≤ 160 → zo g4 k4 n → zt_L g4 → zm_M k4 → E8_tell (d + 27) 1 w g = L8_tell_47 (d + 27) 1 g4 → E9_tell (D + 27) 347 w k = ((zv_gI k4 347 9 47).bind fun v3 => (some (some (zv_i v3), k4))) → ∃ v g' k', C8_tell (d + 28) 1 w g = some (v, g') ∧ C9_tell (D + 28) 347 w k = some (v, k') ∧ ((∃ n, n ≤ 160 ∧ zo g k n) → ∃ n, n ≤ 160 ∧ zo g' k' n) := fun g4 k4 n n0 O L4 M4 q1 q2 => by
    rw [qL8_tell_47, zm_e (zl_gI L4 l1 5), O.1, za_giv (d := d + 26) L4] at q1
    rw [zm_e (zm_gI M4 47), O.2.1] at q2
    refine ⟨_, _, _, lC8_tell (zl_ob gL l1) q1, lC9_tell (zm_ob hM) q2, fun _ => ⟨n, n0, ?_, O.2.1, fun i hi => ?_⟩⟩
    · exact (zy_In _ _ (fun q => absurd q.2 (by decide))).trans O.1
    · rw [zy_In _ _ (fun q => absurd q.1 (by decide))]
      exact O.2.2 i hi
  have lh : zm_lh (zv_I k 348) (zv_I k 348 0 :: l) k3 := by
    have := zm_Sn_lh (l := zv_I k 348 0 :: l) M3 (by rw [hc3]; exact sn)
    rw [hc3] at this
    exact this
  by_cases w0 : w = 0
  · -- the document
    subst w0
    obtain ⟨g4, k4, t1, t2, O4, f4, F4⟩ := zo_doc (d := d + 24) (D := D + 25) (zt_GG_r S) U W hW1.1 (zm_row (zv_I k 348) (zv_I k 348 0 :: l)) [] rfl g2 k3 L2 f2 M3 hc3 sn O3
    have he := zt_U_he (zo_f_U f2 U)
    have e10 : zv_gR g2 a 0 10 = some (zt_r a (zv_I k 348 0)) := (zl_gR L2 la 10).trans (by rw [he])
    have td : C8_tellDocument (d + 27) 1 g2 = some g4 := lC8_tellDocument (zl_ob L2 l1) (by
      rw [qE8_tellDocument, zm_e (r3 f2), zm_e e10]
      exact t1)
    have M4 := zm_F_M F4 M3
    have lh4 := zm_lh_F lh F4
    refine fin g4 k4 _ (Nat.le_trans hW1.2.2.2.2.2.2 (by decide)) O4 (zo_f_L f4 gL) M4 ?_ ?_
    · rw [qC, if_pos rfl, zm_e td]
    · rw [qR2]
      refine (show L9_tell_38 (D + 27) 347 0 0 k3 = _ from t2).trans ?_
      rw [qL9_tell_79, zm_e (zm_gI M4 10), lh4.2.2.1, if_pos (by rw [List.length_cons]; omega), if_neg (by decide), qL9_tell_118, if_neg (by decide)]
  have t38 : L9_tell_38 (D + 27) 347 w 0 k3 = L9_tell_79 (D + 27) 347 w 0 k3 := by
    rw [qL9_tell_38, zm_e (zm_gI M3 11), if_neg w0]
    split <;> rfl
  by_cases w1 : w = 1
  · -- the line
    subst w1
    have U2 := zo_f_U f2 U
    obtain ⟨g3, e3, B3, _, _⟩ := za_row (d := d + 21) L2 U2 hW1.1
    have q3 := zt_B_q B3
    have x15 : ∀ r i, (r = 1 ∧ i = 5) ∨ r = 2 → zv_I g3 r i = zv_I g2 r i := fun r i hr => q3.2.2.1 r i (zo_nx hr) (zt_in0 r)
    have O3' : zo g3 k3 0 := ⟨(x15 1 5 (Or.inl ⟨rfl, rfl⟩)).trans O3.1, O3.2.1, fun i hi => absurd hi (by omega)⟩
    have L3 := zt_B_L B3
    have ok := (zt_line_u W hs hW1.1).1
    obtain ⟨g4, k4, n4, t1, t2, O4, n4', f4, F4⟩ := zo_line (d := d + 23) (D := D + 24) (zt_B_U B3) (zt_B_wk B3) ok.2.2.1 (by rw [List.length_cons]; omega) (zv_I k 348 0 :: l).length 0 0 g3 k3 (Nat.zero_add _) (Nat.le_refl _) L3 (zo_f_r g3) M3 lh O3'
    have tl : C8_tellLine (d + 27) 1 g2 = some g4 := lC8_tellLine (zl_ob L2 l1) (by
      rw [qE8_tellLine, zm_e (r3 f2), zm_e e3]
      exact t1)
    have M4 := zm_F_M F4 M3
    refine fin g4 k4 n4 (by omega) O4 (zo_f_L f4 L3) M4 ?_ ?_
    · rw [qC, if_neg (by decide), if_pos rfl, zm_e tl]
    · rw [qR2, t38]
      refine (show L9_tell_79 (D + 27) 347 1 0 k3 = _ from t2).trans ?_
      rw [qL9_tell_118, if_neg (by decide)]
  · -- the names
    have w2 : w = 2 := by omega
    subst w2
    have N := zt_H_N H
    rw [e348] at N
    have c3 := W.2.2.1
    obtain ⟨g4, k4, n4, t1, t2, O4, n4', f4, F4⟩ := zo_names (d := d + 23) (D := D + 23) (g0 := g2) (c := zv_I k 348) (a := a) (by rw [zo_f_R f2]; exact zt_GG_r S) la (zo_N f2 la c3.2 N) c3.2 (zv_I k 348 3).toNat 0 0 g2 k3 (by omega) (by omega) L2 (zo_f_r g2) M3 hc3 O3
    have e6 : zv_gR g2 a 0 6 = some (a + 14) := zl_gF L2 la 6 14
    have tn : C8_tellNames (d + 27) 1 g2 = some g4 := lC8_tellNames (zl_ob L2 l1) (by
      rw [qE8_tellNames, zm_e (r3 f2), zm_e e6]
      exact t1)
    have rn : C9_tellsNames (D + 27) 347 k3 = some k4 := lC9_tellsNames (zm_ob M3) (by
      rw [qE9_tellsNames]
      exact t2)
    have M4 := zm_F_M F4 M3
    refine fin g4 k4 n4 (by omega) O4 (zo_f_L f4 L2) M4 ?_ ?_
    · rw [qC, if_neg (by decide), if_neg (by decide), zm_e tn]
    · rw [qR2, t38, qL9_tell_79, zm_e (zm_gI M3 10), lh.2.2.1, if_pos (by rw [List.length_cons]; omega), if_neg (by decide), qL9_tell_118, if_pos rfl, zm_e rn]
end
end
/-! C09.least -/
section
/-! ===== what is asked, answered alike: the least that leads from one document to the other ===== -/
/-- one row of the table out of the row above -/
def zb_nx (x : Int) (y P : Nat → Int) : Nat → Int
  | 0 => 0
  | j + 1 => if x = y j then P j + 1 else max (P (j + 1)) (zb_nx x y P j)
/-- the table -/
def zb_T (x y : Nat → Int) : Nat → Nat → Int
  | 0 => fun _ => 0
  | i + 1 => zb_nx (x i) y (zb_T x y i)
section
variable {x y : Nat → Int}
theorem zb_T_0 (i : Nat) : zb_T x y i 0 = 0 := by cases i <;> rfl
theorem zb_T_s (i j : Nat) : zb_T x y (i + 1) (j + 1) = if x i = y j then zb_T x y i j + 1 else max (zb_T x y i (j + 1)) (zb_T x y (i + 1) j) := rfl
theorem zb_T_r : ∀ i j : Nat, 0 ≤ zb_T x y i j ∧ zb_T x y i j ≤ i
  | 0, _ => ⟨Int.le_refl _, Int.le_refl _⟩
  | i + 1, 0 => ⟨Int.le_refl _, by rw [zb_T_0]; omega⟩
  | i + 1, j + 1 => by
    have h1 := zb_T_r i j
    have h2 := zb_T_r i (j + 1)
    have h3 := zb_T_r (i + 1) j
    rw [zb_T_s]
    split <;> omega
end
/-- such a table -/
def zb_ok (x y : Nat → Int) (T : Nat → Nat → Int) : Prop := (∀ i, T i 0 = 0) ∧ (∀ j, T 0 j = 0) ∧ (∀ i j, T (i + 1) (j + 1) = if x i = y j then T i j + 1 else max (T i (j + 1)) (T (i + 1) j)) ∧ ∀ i j, 0 ≤ T i j ∧ T i j ≤ (i : Int)
theorem zb_T_ok (x y : Nat → Int) : zb_ok x y (zb_T x y) := ⟨zb_T_0, fun _ => rfl, zb_T_s, zb_T_r⟩
/-! numbers -/
theorem zb_wm {n : Nat} (h : n < 100000) : zv_w (((n + 1 : Nat) : Int) - 1) = (n : Int) := by
  rw [zm_w (by omega)]
  omega
theorem zb_wp {n : Nat} (h : n < 100000) : zv_w ((n : Int) + 1) = ((n + 1 : Nat) : Int) := by
  rw [zm_w (by omega)]
  rfl
theorem zb_w121 {r q : Nat} (hr : r ≤ 121) (hq : q ≤ 121) : zv_w (zv_w (121 * (r : Int)) + (q : Int)) = ((121 * r + q : Nat) : Int) := by
  rw [zm_w (x := 121 * (r : Int)) (by omega), zm_w (by omega)]
  omega
theorem zb_wq {r q : Nat} (hr : r ≤ 121) (hq : q ≤ 121) : zv_w (((121 * r + (q + 1) : Nat) : Int) - 1) = ((121 * r + q : Nat) : Int) := by
  rw [zm_w (by omega)]
  omega
theorem zb_wT {t : Int} (h : 0 ≤ t) (h1 : t ≤ 100000) : zv_w (t + 1) = t + 1 := zm_w (by omega)
theorem zb_ix {r q : Nat} (hr : r ≤ 120) (hq : q ≤ 120) : (0 : Int) ≤ ((121 * r + q : Nat) : Int) ∧ ((121 * r + q : Nat) : Int) < ((14641 : Nat) : Int) := by omega
theorem zb_ne {r q i j : Nat} (hi : i < r) (hj : j ≤ 120) : ¬ (371 = 371 ∧ 121 * i + j = 121 * r + q) := by omega
theorem zb_ne2 {r q j : Nat} (hj : j ≠ q) : ¬ (371 = 371 ∧ 121 * r + j = 121 * r + q) := by omega
section
variable {a b m : Nat} {g k : zv_H}
theorem zb_l7 (la : zv_lay a = (1, 0)) : zv_lay (a + 7) = (2, 121) := by rcases zc_lh la with e | e <;> rw [e] <;> rfl
/-- a cell of the class's row written -/
theorem zb_w7 {c : Nat → Int} {g0 : zv_H} (gL : zt_L g) (U : zt_U a c g) (q : zt_q g0 g) (j : Nat) (v : Int) : zt_L (zv_sI g (a + 7) j v) ∧ zt_U a c (zv_sI g (a + 7) j v) ∧ zt_q g0 (zv_sI g (a + 7) j v) := by
  have q1 := zt_q_sI (h := g) (k := j) v (zt_xa (k := j) (zt_U_la U) (Or.inl rfl))
  exact ⟨gL, zt_U_q U q1, zt_q_t q q1⟩
theorem zb_lc2 {d : Nat} {c : Nat → Int} {g0 : zv_H} (ra rb : Nat) : ∀ (r n : Nat) (g : zv_H), n + r = 121 → zt_L g → zt_U a c g → zt_q g0 g → (∀ j : Nat, j < n → zv_I g (a + 7) j = 0) → ∃ g', L0_longestCommon_2 d a ra rb (n : Int) g = L0_longestCommon_2 d a ra rb 121 g' ∧ zt_L g' ∧ zt_U a c g' ∧ zt_q g0 g' ∧ ∀ j : Nat, j < 121 → zv_I g' (a + 7) j = 0
  | 0, n, g, hn, gL, U, q, z => ⟨g, by rw [show n = 121 by omega]; rfl, gL, U, q, fun j hj => z j (by omega)⟩
  | r + 1, n, g, hn, gL, U, q, z => by
    have la := zt_U_la U
    obtain ⟨L1, U1, q1⟩ := zb_w7 gL U q n 0
    obtain ⟨g', y1, y2⟩ := zb_lc2 (d := d) ra rb r (n + 1) (zv_sI g (a + 7) n 0) (by omega) L1 U1 q1 (fun j hj => by
      by_cases e : j = n
      · rw [e, zy_I]
      · rw [zy_In _ _ (fun w => e w.2)]
        exact z j (by omega))
    refine ⟨g', ?_, y2⟩
    rw [qL0_longestCommon_2, if_pos (by omega), zm_e (zl_gF gL la 4 7), zm_e (zl_wI gL (zb_l7 la) (by omega) (by omega) 0), Int.toNat_natCast, zm_w (by omega), show (n : Int) + 1 = ((n + 1 : Nat) : Int) by omega]
    exact y1
theorem zb_lc58 {d : Nat} {c : Nat → Int} {g0 : zv_H} {s t : Int} {A B : List Int} {T : Nat → Nat → Int} (hT : zb_ok (za_nth A) (za_nth B) T) (ht : zm_st c t) (hB : za_D c t B) (hb : B.length ≤ 120) {i : Nat} (ra : Nat) (hi : i < 100000) : ∀ (r n : Nat) (g : zv_H), n + r = B.length → zt_L g → zt_U a c g → zt_q g0 g → (∀ j : Nat, j ≤ n → zv_I g (a + 7) j = T (i + 1) j) → (∀ j : Nat, n < j → j ≤ B.length → zv_I g (a + 7) j = T i j) → ∃ g', L0_longestCommon_58 (d + 2) a ra (zt_r a t) (B.length : Int) (i : Int) (za_nth A i) (T i n) ((n + 1 : Nat) : Int) g = L0_longestCommon_34 (d + 2) a ra (zt_r a t) (B.length : Int) ((i + 1 : Nat) : Int) g' ∧ zt_L g' ∧ zt_U a c g' ∧ zt_q g0 g' ∧ ∀ j : Nat, j ≤ B.length → zv_I g' (a + 7) j = T (i + 1) j
  | 0, n, g, hn, gL, U, q, z1, z2 => by
    refine ⟨g, ?_, gL, U, q, fun j hj => z1 j (by omega)⟩
    rw [qL0_longestCommon_58, if_neg (by omega), zm_w (by omega)]
    rfl
  | r + 1, n, g, hn, gL, U, q, z1, z2 => by
    have la := zt_U_la U
    have n100 : n < 100000 := by omega
    have n1100 : n + 1 < 100000 := by omega
    have nB : ((n + 1 : Nat) : Int) ≤ (B.length : Int) := by omega
    have i0 : (0 : Int) ≤ ((n + 1 : Nat) : Int) := by omega
    have i1 : ((n + 1 : Nat) : Int) < ((121 : Nat) : Int) := by omega
    have j0 : (0 : Int) ≤ (n : Int) := by omega
    have j1 : (n : Int) < ((121 : Nat) : Int) := by omega
    have el := za_letterAt (d := d) gL U ht hB n
    obtain ⟨L1, U1, q1⟩ := zb_w7 gL U q (n + 1) (T (i + 1) (n + 1))
    obtain ⟨g', y1, y2⟩ := zb_lc58 (d := d) (s := s) hT ht hB hb ra hi r (n + 1) (zv_sI g (a + 7) (n + 1) (T (i + 1) (n + 1))) (by omega) L1 U1 q1 (fun j hj => by
      by_cases e : j = n + 1
      · rw [e, zy_I]
      · rw [zy_In _ _ (fun w => e w.2)]
        exact z1 j (by omega)) (fun j h1 h2 => by
      rw [zy_In _ _ (fun w => absurd w.2 (Nat.ne_of_gt h1))]
      exact z2 j (Nat.lt_of_succ_lt h1) h2)
    refine ⟨g', ?_, y2⟩
    have hle : n + 1 ≤ B.length := by omega
    have e1 := z2 (n + 1) (Nat.lt_succ_self n) hle
    have e0 := z1 n (Nat.le_refl _)
    have b1 := hT.2.2.2 i n
    have wT := zb_wT b1.1 (Int.le_trans b1.2 (Int.ofNat_le.mpr (Nat.le_of_lt hi)))
    have ts := hT.2.2.1 i n
    rw [qL0_longestCommon_58, if_pos nB, zm_e (zl_gF gL la 4 7), zm_e (zl_aI gL (zb_l7 la) i0 i1), Int.toNat_natCast, e1, zm_e (zl_gF gL la 4 7), zb_wm n100, zm_e el]
    dsimp only
    by_cases ce : za_nth A i = za_nth B n
    · rw [if_pos ce] at ts
      rw [if_pos ce, wT, ← ts, zm_e (zl_wI gL (zb_l7 la) i0 i1 _), Int.toNat_natCast, zb_wp n1100]
      exact y1
    · rw [if_neg ce] at ts
      rw [if_neg ce, zm_e (zl_gF gL la 4 7), zm_e (zl_aI gL (zb_l7 la) j0 j1), Int.toNat_natCast, e0, ← ts, zm_e (zl_wI gL (zb_l7 la) i0 i1 _), Int.toNat_natCast, zb_wp n1100]
      exact y1
theorem zb_lc34 {d : Nat} {c : Nat → Int} {g0 : zv_H} {s t : Int} {A B : List Int} {T : Nat → Nat → Int} (hT : zb_ok (za_nth A) (za_nth B) T) (hs : zm_st c s) (ht : zm_st c t) (hA : za_D c s A) (hB : za_D c t B) (ha : A.length ≤ 120) (hb : B.length ≤ 120) (eA : ∀ g, zt_U a c g → zv_I g (zt_r a s) 12 = A.length) : ∀ (r i : Nat) (g : zv_H), i + r = A.length → zt_L g → zt_U a c g → zt_q g0 g → (∀ j : Nat, j ≤ B.length → zv_I g (a + 7) j = T i j) → ∃ g', L0_longestCommon_34 (d + 2) a (zt_r a s) (zt_r a t) (B.length : Int) (i : Int) g = some (some (zv_i (T A.length B.length)), g') ∧ zt_L g'
  | 0, i, g, hi, gL, U, q, z => by
    have la := zt_U_la U
    refine ⟨g, ?_, gL⟩
    rw [qL0_longestCommon_34, zm_e (zl_gI gL (zt_r_l la hs.1) 12), eA g U, if_neg (by omega), zm_e (zl_gF gL la 4 7), show max ((B.length : Nat) : Int) 0 = B.length by omega, zm_e (zl_aI gL (zb_l7 la) (by omega) (by omega)), Int.toNat_natCast, z _ (Nat.le_refl _), show i = A.length by omega]
  | r + 1, i, g, hi, gL, U, q, z => by
    have la := zt_U_la U
    have el := za_letterAt (d := d) gL U hs hA i
    obtain ⟨g1, y1, L1, U1, q1, z1⟩ := zb_lc58 (d := d) (s := s) (g0 := g0) (A := A) hT ht hB hb (i := i) (zt_r a s) (by omega) B.length 0 g (Nat.zero_add _) gL U q (fun j hj => by
      rw [show j = 0 by omega, hT.1, z 0 (Nat.zero_le _), hT.1]) (fun j _ h2 => z j h2)
    obtain ⟨g', y2, L2⟩ := zb_lc34 (d := d) (g0 := g0) hT hs ht hA hB ha hb eA r (i + 1) g1 (by omega) L1 U1 q1 z1
    refine ⟨g', ?_, L2⟩
    rw [hT.1] at y1
    rw [qL0_longestCommon_34, zm_e (zl_gI gL (zt_r_l la hs.1) 12), eA g U, if_pos (by omega), zm_e el]
    dsimp only
    exact (show L0_longestCommon_58 (d + 2) a (zt_r a s) (zt_r a t) (B.length : Int) (i : Int) (za_nth A i) 0 1 g = _ from y1).trans y2
theorem zb_lc {d : Nat} {c : Nat → Int} {s t : Int} (gL : zt_L g) (U : zt_U a c g) (hs : zm_st c s) (ht : zm_st c t) {A B : List Int} (hA : za_D c s A) (hB : za_D c t B) (ha : A.length ≤ 120) (hb : B.length ≤ 120) : ∃ g', C0_longestCommon (d + 3) a (zt_r a s) (zt_r a t) g = some (zb_T (za_nth A) (za_nth B) A.length B.length, g') ∧ zt_L g' := by
  have la := zt_U_la U
  have eA : ∀ {s : Int} {A : List Int}, zm_st c s → za_D c s A → ∀ g, zt_U a c g → zv_I g (zt_r a s) 12 = A.length := fun hs hA g U => by
    obtain ⟨l, h1, h2⟩ := hA
    rw [zt_S_ln (zt_U_st U _ hs) l h1, h2, List.length_map]
  obtain ⟨g1, y1, L1, U1, q1, z1⟩ := zb_lc2 (d := d + 2) (g0 := g) (c := c) (a := a) (zt_r a s) (zt_r a t) 121 0 g rfl gL U (zt_q_r g) (fun j hj => absurd hj (by omega))
  obtain ⟨g', y2, L2⟩ := zb_lc34 (d := d) (g0 := g) (zb_T_ok _ _) hs ht hA hB ha hb (eA hs hA) A.length 0 g1 (Nat.zero_add _) L1 U1 q1 (fun j hj => z1 j (by omega))
  refine ⟨g', lC0_longestCommon (zl_ob gL la) ?_, L2⟩
  rw [qE0_longestCommon]
  refine (show L0_longestCommon_2 (d + 2) a (zt_r a s) (zt_r a t) 0 g = _ from y1).trans ?_
  rw [qL0_longestCommon_2, if_neg (by decide), zm_e (zl_gI L1 (zt_r_l la ht.1) 12), eA ht hB g1 U1, show min ((B.length : Nat) : Int) 120 = B.length by omega]
  exact y2
/-! the reference -/
theorem zb_67 {D na nb : Nat} (ha : na ≤ 120) (hb : nb ≤ 120) {x y : Nat → Int} {T : Nat → Nat → Int} (hT : zb_ok x y T) {r : Nat} (hr : r ≤ na) : ∀ (n q : Nat) (h : zv_H), q + n = nb + 1 → zm_M h → (∀ i : Nat, i < na → zv_I h 356 i = x i) → (∀ j : Nat, j < nb → zv_I h 357 j = y j) → (∀ i j : Nat, i < r → j ≤ nb → zv_I h 371 (121 * i + j) = T i j) → (∀ j : Nat, j < q → zv_I h 371 (121 * r + j) = T r j) → ∃ h', L9_least_67 D 347 na nb 121 r q h = L9_least_58 D 347 na nb 121 ((r + 1 : Nat) : Int) h' ∧ zm_F [371] [] h h' ∧ ∀ i j : Nat, i < r + 1 → j ≤ nb → zv_I h' 371 (121 * i + j) = T i j
  | 0, q, h, hq, hM, hx, hy, t1, t2 => by
    refine ⟨h, by rw [qL9_least_67, if_neg (by omega), zm_w (by omega)]; rfl, zm_F_r _ _ h, fun i j hi hj => ?_⟩
    by_cases e : i = r
    · rw [e]
      exact t2 j (by omega)
    · exact t1 i j (by omega) hj
  | n + 1, q, h, hq, hM, hx, hy, t1, t2 => by
    have qb : q ≤ nb := by omega
    have q120 : q ≤ 120 := by omega
    have r120 : r ≤ 120 := by omega
    have qi : (q : Int) ≤ (nb : Int) := by omega
    have ix := zb_ix r120 q120
    have wr : ∀ v : Int, v = T r q → ∃ h', ((zv_wI h 371 ((121 * r + q : Nat) : Int) v).bind fun g => L9_least_67 D 347 na nb 121 r ((q + 1 : Nat) : Int) g) = L9_least_58 D 347 na nb 121 ((r + 1 : Nat) : Int) h' ∧ zm_F [371] [] h h' ∧ ∀ i j : Nat, i < r + 1 → j ≤ nb → zv_I h' 371 (121 * i + j) = T i j := by
      intro v hv
      rw [zm_e (zm_wI hM zm_l371 rfl ix.1 ix.2 v), Int.toNat_natCast]
      obtain ⟨h', i1, i2, i3⟩ := zb_67 (D := D) ha hb hT hr n (q + 1) (zv_sI h 371 (121 * r + q) v) (by omega) hM (fun i hi => (zy_In _ _ (fun w => absurd w.1 (by decide))).trans (hx i hi)) (fun j hj => (zy_In _ _ (fun w => absurd w.1 (by decide))).trans (hy j hj)) (fun i j hi hj => (zy_In _ _ (zb_ne hi (Nat.le_trans hj hb))).trans (t1 i j hi hj)) (fun j hj => by
        by_cases e : j = q
        · rw [e, zy_I]
          exact hv
        · exact (zy_In _ _ (zb_ne2 e)).trans (t2 j (by omega)))
      exact ⟨h', i1, zm_F_t (zm_F_I (zm_F_r _ _ h) rfl _ _) i2, i3⟩
    rw [qL9_least_67, if_pos qi, zb_wp (by omega), zb_w121 (Nat.le_succ_of_le r120) (Nat.le_succ_of_le q120)]
    by_cases c1 : (r : Int) ≤ 0
    · rw [if_pos c1, zm_e (zm_f45 hM)]
      exact wr 0 (by rw [show r = 0 by omega, hT.2.1])
    · rw [if_neg c1]
      by_cases c2 : (q : Int) ≤ 0
      · rw [if_pos c2, zm_e (zm_f45 hM)]
        exact wr 0 (by rw [show q = 0 by omega, hT.1])
      · obtain ⟨r', rfl⟩ : ∃ r' : Nat, r = r' + 1 := ⟨r - 1, by omega⟩
        obtain ⟨q', rfl⟩ : ∃ q' : Nat, q = q' + 1 := ⟨q - 1, by omega⟩
        have r1 : r' ≤ 120 := by omega
        have q1 : q' ≤ 120 := by omega
        have rn : r' < na := by omega
        have qn : q' < nb := by omega
        have r100 : r' < 100000 := by omega
        have q100 : q' < 100000 := by omega
        have ra : (0 : Int) ≤ (r' : Int) ∧ (r' : Int) < ((640 : Nat) : Int) := by omega
        have qa : (0 : Int) ≤ (q' : Int) ∧ (q' : Int) < ((640 : Nat) : Int) := by omega
        have x1 := zb_ix r1 q120
        have x2 := zb_ix r1 q1
        have x3 := zb_ix r120 q1
        rw [if_neg c2, zb_wm r100, zb_wm q100, zb_w121 (Nat.le_succ_of_le r1) (Nat.le_succ_of_le q120), zb_wq (Nat.le_succ_of_le r120) (Nat.le_succ_of_le q1), zb_wq (Nat.le_succ_of_le r1) (Nat.le_succ_of_le q1)]
        rw [zm_e (zm_f45 hM), zm_e (zm_aI hM zm_l371 rfl x1.1 x1.2), Int.toNat_natCast, t1 r' (q' + 1) (Nat.lt_succ_self _) qb, zm_e (zm_f45 hM), zm_e (zm_aI hM zm_l371 rfl x3.1 x3.2), Int.toNat_natCast, t2 q' (Nat.lt_succ_self _), zm_e (zm_f13 hM), zm_e (zm_aI hM zm_l356 rfl ra.1 ra.2), Int.toNat_natCast, hx r' rn, zm_e (zm_f14 hM), zm_e (zm_aI hM zm_l357 rfl qa.1 qa.2), Int.toNat_natCast, hy q' qn]
        have ts := hT.2.2.1 r' q'
        have b1 := hT.2.2.2 r' q'
        have wT := zb_wT b1.1 (Int.le_trans b1.2 (Int.ofNat_le.mpr (Nat.le_of_lt r100)))
        by_cases c3 : x r' = y q'
        · rw [if_pos c3] at ts
          rw [if_pos c3, zm_e (zm_f45 hM), zm_e (zm_aI hM zm_l371 rfl x2.1 x2.2), Int.toNat_natCast, t1 r' q' (Nat.lt_succ_self _) (Nat.le_of_lt qn), zm_e (zm_f45 hM), wT]
          exact wr _ ts.symm
        · rw [if_neg c3] at ts
          rw [if_neg c3]
          by_cases c4 : T r' (q' + 1) ≤ T (r' + 1) q'
          · rw [if_pos c4, zm_e (zm_f45 hM)]
            exact wr _ (ts.trans (Int.max_eq_right c4)).symm
          · rw [if_neg c4, zm_e (zm_f45 hM)]
            exact wr _ (ts.trans (Int.max_eq_left (Int.le_of_lt (Int.not_le.mp c4)))).symm
theorem zb_58 {D na nb : Nat} (ha : na ≤ 120) (hb : nb ≤ 120) {x y : Nat → Int} {T : Nat → Nat → Int} (hT : zb_ok x y T) : ∀ (n r : Nat) (h : zv_H), r + n = na + 1 → zm_M h → (∀ i : Nat, i < na → zv_I h 356 i = x i) → (∀ j : Nat, j < nb → zv_I h 357 j = y j) → (∀ i j : Nat, i < r → j ≤ nb → zv_I h 371 (121 * i + j) = T i j) → ∃ h', L9_least_58 D 347 na nb 121 r h = some (some (zv_i (zv_w (zv_w ((na : Int) + nb) - zv_w (2 * T na nb)))), h')
  | 0, r, h, hr, hM, hx, hy, t1 => by
    have w2 : zv_w (zv_w (121 * (na : Int)) + nb) = ((121 * na + nb : Nat) : Int) := by
      rw [zm_w (x := 121 * (na : Int)) (by omega), zm_w (by omega)]
      omega
    refine ⟨h, ?_⟩
    rw [qL9_least_58, if_neg (by omega), zm_e (zm_f45 hM), w2, zm_e (zm_aI hM zm_l371 rfl (by omega) (by omega)), Int.toNat_natCast, t1 na nb (by omega) (Nat.le_refl _)]
  | n + 1, r, h, hr, hM, hx, hy, t1 => by
    obtain ⟨h1, i1, f1, t2⟩ := zb_67 (D := D) ha hb hT (r := r) (by omega) (nb + 1) 0 h (by omega) hM hx hy t1 (fun j hj => absurd hj (by omega))
    obtain ⟨h2, i2⟩ := zb_58 (D := D) ha hb hT n (r + 1) h1 (by omega) (zm_F_M f1 hM) (fun i hi => by rw [zm_F_a f1 356]; exact hx i hi) (fun j hj => by rw [zm_F_a f1 357]; exact hy j hj) t2
    refine ⟨h2, ?_⟩
    rw [qL9_least_58, if_pos (by omega)]
    exact (show L9_least_67 D 347 na nb 121 r 0 h = _ from i1).trans i2
theorem zp_least {d D : Nat} (hA : zc_A g) (I : zm_MI k) (S : zt_GG m a b g k) (s t : Int) : ∃ v g' k', C8_least (d + 28) 1 s t g = some (v, g') ∧ C9_least (D + 28) 347 s t k = some (v, k') := by
  have gL := zt_L_A hA
  have hM := I.1
  have l1 : zv_lay 1 = (1, 8) := rfl
  have la := (zt_lab (zt_GG_ab S)).1
  have qC := qE8_least (d + 27) 1 s t g
  have qR := qE9_least (D + 27) 347 s t k
  rw [zm_e (zp_e3 hA S), zm_e (za_at (d := d + 26) hA S s)] at qC
  dsimp only at qC
  rw [zm_e (zp_e3 hA S), zm_e (za_at (d := d + 26) hA S t)] at qC
  dsimp only at qC
  rw [zm_e (zm_isState hM (D + 25) s)] at qR
  dsimp only at qR
  by_cases hs : zm_st (zv_I k 348) s
  rotate_left
  · rw [if_neg hs, if_pos rfl, qL8_least_28, za_ref gL] at qC
    rw [if_neg hs, if_pos rfl, qL9_least_21, qL9_least_22, za_isn hM (by decide)] at qR
    exact ⟨_, _, _, lC8_least (zl_ob gL l1) qC, lC9_least (zm_ob hM) qR⟩
  rw [if_pos hs, if_neg (za_r0 S hs)] at qC
  rw [if_pos hs, if_neg (by decide), zm_e (zm_isState hM (D + 25) t)] at qR
  dsimp only at qR
  by_cases ht : zm_st (zv_I k 348) t
  rotate_left
  · rw [if_neg ht, if_pos rfl, qL8_least_28, za_ref gL] at qC
    rw [if_neg ht, if_pos rfl, qL9_least_21, qL9_least_22, za_isn hM (by decide)] at qR
    exact ⟨_, _, _, lC8_least (zl_ob gL l1) qC, lC9_least (zm_ob hM) qR⟩
  obtain ⟨k1, i1, F1⟩ := zp_is hM
  have S1 := zt_GG_F S F1
  have M1 := zm_F_M F1 hM
  have U := zt_H_U (zt_GG_H S1)
  have W := zt_U_W U
  have e348 : zv_I k1 348 = zv_I k 348 := zm_F_a F1 348
  have hs1 : zm_st (zv_I k1 348) s := by rw [e348]; exact hs
  have ht1 : zm_st (zv_I k1 348) t := by rw [e348]; exact ht
  obtain ⟨A, hDA, na⟩ := za_D_ex S1 hs1
  obtain ⟨B, hDB, nb⟩ := za_D_ex S1 ht1
  have eA := (za_D_n S1 hs1 hDA).1
  have eB := (za_D_n S1 ht1 hDB).1
  obtain ⟨k2, e2, F2, x2⟩ := za_copies (D := D + 22) M1 rfl W hs1 hDA (Or.inl rfl)
  have M2 := zm_F_M F2 M1
  obtain ⟨k3, e3, F3, x3⟩ := za_copies (D := D + 22) M2 (zm_F_a F2 348) W ht1 hDB (Or.inr rfl)
  have M3 := zm_F_M F3 M2
  obtain ⟨k4, e4⟩ := zb_58 (D := D + 27) na nb (zb_T_ok (za_nth A) (za_nth B)) (A.length + 1) 0 k3 (Nat.zero_add _) M3 (fun i hi => by
    rw [zm_F_a F3 356, za_nth_in hi]
    exact x2 i hi) (fun j hj => by
    rw [za_nth_in hj]
    exact x3 j hj) (fun i j hi _ => absurd hi (by omega))
  obtain ⟨g', y1, L1⟩ := zb_lc (d := d + 24) gL U hs1 ht1 hDA hDB na nb
  rw [if_pos ht, if_neg (za_r0 S ht), zm_e (zl_gI gL (zt_r_l la hs.1) 12), eA, zm_e (zl_gI gL (zt_r_l la ht.1) 12), eB, zm_e (zp_e3 hA S), zm_e y1] at qC
  dsimp only at qC
  rw [za_giv L1] at qC
  rw [if_pos ht, if_neg (by decide), qL9_least_22, za_isy i1] at qR
  dsimp only at qR
  rw [zm_e (zm_f13 M1), zm_e e2] at qR
  dsimp only at qR
  rw [zm_e (zm_f14 M2), zm_e e3] at qR
  dsimp only at qR
  rw [show L9_least_58 (D + 27) 347 (A.length : Int) (B.length : Int) 121 0 k3 = _ from e4] at qR
  exact ⟨_, _, _, lC8_least (zl_ob gL l1) qC, lC9_least (zm_ob hM) qR⟩
end
end
