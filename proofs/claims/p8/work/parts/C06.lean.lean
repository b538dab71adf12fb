/-! ===== what is asked, answered alike: leaning ===== -/
theorem za_drop1 {c : Nat → Int} {L : List Int} {Q : Int → Bool} (ok : zt_ln_ok c L) (q0 : ¬ Q 0 = true) : ((L.reverse.drop 1).filter Q).length = (L.filter Q).length := by
  have er : L.reverse = 0 :: L.reverse.drop 1 := by
    have h := ok.2.1
    rw [← List.head?_reverse] at h
    cases hr : L.reverse with
    | nil =>
      rw [hr] at h
      cases h
    | cons x r =>
      rw [hr] at h
      have : x = 0 := Option.some.inj h
      rw [this]
      rfl
  have e1 : (L.reverse.filter Q).length = (L.filter Q).length := by rw [List.filter_reverse, List.length_reverse]
  rw [← e1]
  conv => rhs; rw [er]
  rw [List.filter_cons_of_neg q0]
/-- is one marked -/
def za_mk (k : zv_H) (t : Int) : Bool := decide (¬ zv_I k 365 t.toNat = 0)
theorem za_mk_e (k : zv_H) (t : Int) : za_mk k t = true ↔ zt_mk k t := by
  unfold za_mk zt_mk
  exact decide_eq_true_iff
theorem za_cs (v n : Nat) : ((v + 1 : Nat) : Int) + (n : Int) = (v : Int) + ((n + 1 : Nat) : Int) := by omega
section
variable {a b m : Nat} {g k : zv_H}
/-- the marks, and what one sees beside them -/
theorem za_marks {D : Nat} (hM : zm_M k) {c : Nat → Int} (hc : zv_I k 348 = c) (W : zm_W c) (cw : ∀ t, zm_st c t → zt_cw c t) {l : List Int} (hl : zm_Ln c (c 0 :: l) (c 0)) {s : Int} (s1 : 1 ≤ s) (hsl : s ∈ c 0 :: l) : ∃ k', C9_marks (D + 5) 347 s 0 k = some k' ∧ zm_F [351, 352, 353, 354, 355, 365] [10, 11, 12] k k' ∧ zm_Sn k' c (c 0 :: l) ∧ (∀ x ∈ c 0 :: l, (za_mk k' x = true ↔ zt_tc c x s)) := by
  obtain ⟨k', e, F, mk, mk0⟩ := zt_marks (d := D) hM hc W cw hl s1 hsl 0
  obtain ⟨ok, G, gt, W1⟩ := zt_line_u W W.2.1 hl
  have l47 := zt_dep W W.2.1 hl
  obtain ⟨h1, e1, f1, hSn⟩ := zm_sees_st hM hc D W1 l47 G gt
  have hM1 := zm_F_M f1 hM
  have c1 : zv_I h1 348 = c := (zm_F_a f1 348).trans hc
  have hh : zm_lh c (c 0 :: l) h1 := ⟨hM1, c1, hSn.1.1, hSn.1.2⟩
  obtain ⟨h2, i1, f2⟩ := zm_marks10 (D + 4) s 0 48 0 h1 rfl hM1
  have hh2 := zm_lh_F hh f2
  have ln : (c 0 :: l).length ≤ 48 := by
    rw [List.length_cons]
    omega
  have l1 : 1 + l.length = (c 0 :: l).length := by
    rw [List.length_cons, Nat.add_comm]
  obtain ⟨h3, k1, f3⟩ := zm_marks40 (D + 2) W.1 ok.2.2.1 ln 0 l.length 1 h2 l1 (Nat.le_refl _) hh2
  have e3 : C9_marks (D + 5) 347 s 0 k = some h3 := lC9_marks (zm_ob hM) (by
    rw [qE9_marks, zm_e (zm_here hM _), hc]
    dsimp only
    rw [zm_e e1, show L9_marks_10 (D + 4) 347 s 0 0 h1 = _ from i1, qL9_marks_10, if_neg (by decide), show L9_marks_40 (D + 4) 347 0 1 h2 = _ from k1])
  have ek : k' = h3 := Option.some.inj (e.symm.trans e3)
  subst ek
  refine ⟨k', e, F, zm_Sn_F (zm_Sn_F hSn f2) f3, fun x hx => ?_⟩
  have x47 := (ok.2.2.1 x hx).1
  rw [za_mk_e]
  by_cases x1 : 1 ≤ x
  · rw [mk x hx x1]
    unfold zt_tb
    rw [if_pos rfl]
  · constructor
    · intro q
      have := mk0 x x47.1 x47.2 q
      unfold zt_tb at this
      rw [if_pos rfl] at this
      exact this
    · intro q
      have := zt_tc_1 W s1 q
      omega
/-- the reference counts along the line -/
theorem za_89 {D : Nat} {c : Nat → Int} {L : List Int} (hM : zm_M k) (hc : zv_I k 348 = c) (n2 : zm_Sn k c L) (hl : ∀ t ∈ L, zm_st c t) (hn : L.length ≤ 48) {w : Int} (hw : w = 0 ∨ w = 1) : ∀ (n i : Nat) (v : Nat), i + n = L.length → v ≤ i → L9_leaning_89 D 347 w (v : Int) (i : Int) k = some (some (zv_i ((v : Int) + ((L.reverse.drop i).filter (fun t => za_mk k t && (decide (w = 0) || decide (zm_fc c L t = 1)))).length)), k)
  | 0, i, v, hi, hv => by
    have e154 : L9_leaning_154 D 347 w (v : Int) 0 k = some (some (zv_i (v : Int)), k) := by
      rw [qL9_leaning_154, zm_e (zm_gI hM 11)]
      by_cases c1 : 0 < zv_I k 347 11
      · rw [if_pos c1, if_neg (by omega)]
      · rw [if_neg c1]
    rw [qL9_leaning_89, zm_e (zm_gI hM 10), n2.1.1, if_neg (by omega), List.drop_eq_nil_of_le (by rw [List.length_reverse]; omega), e154]
    show some (some (zv_i (v : Int)), k) = some (some (zv_i ((v : Int) + 0)), k)
    rw [Int.add_zero]
  | n + 1, i, v, hi, hv => by
    have w1 : zv_w ((i : Int) + 1) = ((i + 1 : Nat) : Int) := by
      rw [zm_w (by omega)]
      rfl
    have w2 : zv_w ((v : Int) + 1) = ((v + 1 : Nat) : Int) := by
      rw [zm_w (by omega)]
      rfl
    have w0 : zv_w ((v : Int) + 0) = (v : Int) := by
      rw [zm_w (by omega)]
      omega
    have ir : i < L.reverse.length := by rw [List.length_reverse]; omega
    have ht : L.reverse[i] ∈ L := List.mem_reverse.mp (List.getElem_mem ir)
    have e351 := n2.1.2 i _ (List.getElem?_eq_getElem ir)
    have ed := List.drop_eq_getElem_cons ir
    generalize L.reverse[i] = t at ht e351 ed
    have t48 := zm_st48 (hl t ht)
    have fc := n2.2.2.1 t ht
    have f01 := zm_fc_01 c t L
    have go := za_89 (D := D) hM hc n2 hl hn hw n (i + 1)
    rw [ed, qL9_leaning_89, zm_e (zm_gI hM 10), n2.1.1, if_pos (by omega), if_pos (by omega), zm_e (zm_gR hM rfl rfl : zv_gR k 347 9 25 = some 365), zm_e (zm_f5 hM), zm_e (zm_aI hM (show zv_lay 351 = (2, 49) from rfl) rfl (by omega) (by omega)), Int.toNat_natCast, e351, zm_e (zm_aB hM (show zv_lay 365 = (3, 49) from rfl) (Or.inl rfl) rfl t48.1 (by omega)), w0, w1, w2]
    by_cases c1 : zv_I k 365 t.toNat = 0
    · have eo : ¬ (za_mk k t && (decide (w = 0) || decide (zm_fc c L t = 1))) = true := by
        unfold za_mk
        rw [decide_eq_false (fun q => q c1), Bool.false_and]
        decide
      rw [if_pos c1, go v (by omega) (by omega), List.filter_cons_of_neg (p := fun t => za_mk k t && (decide (w = 0) || decide (zm_fc c L t = 1))) eo]
    · have em : za_mk k t = true := decide_eq_true c1
      rw [if_neg c1]
      by_cases wz : w = 0
      · have eo : (za_mk k t && (decide (w = 0) || decide (zm_fc c L t = 1))) = true := by
          rw [em, decide_eq_true wz]
          rfl
        rw [if_pos wz, go (v + 1) (by omega) (by omega), List.filter_cons_of_pos (p := fun t => za_mk k t && (decide (w = 0) || decide (zm_fc c L t = 1))) eo, List.length_cons]
        exact congrArg (fun z => (some (some (zv_i z), k) : zv_O)) (za_cs _ _)
      · rw [if_neg wz, zm_e (zm_f8 hM), zm_e (zm_f5 hM), zm_e (zm_aI hM (show zv_lay 351 = (2, 49) from rfl) rfl (by omega) (by omega)), Int.toNat_natCast, e351, zm_e (zm_aB hM zm_l354 (Or.inl rfl) rfl t48.1 (by omega)), fc]
        by_cases c2 : zm_fc c L t = 0
        · have eo : ¬ (za_mk k t && (decide (w = 0) || decide (zm_fc c L t = 1))) = true := by
            rw [em, decide_eq_false wz, decide_eq_false (by omega)]
            decide
          rw [if_pos c2, go v (by omega) (by omega), List.filter_cons_of_neg (p := fun t => za_mk k t && (decide (w = 0) || decide (zm_fc c L t = 1))) eo]
        · have eo : (za_mk k t && (decide (w = 0) || decide (zm_fc c L t = 1))) = true := by
            rw [em, decide_eq_true (f01.resolve_left c2), Bool.or_true]
            rfl
          rw [if_neg c2, go (v + 1) (by omega) (by omega), List.filter_cons_of_pos (p := fun t => za_mk k t && (decide (w = 0) || decide (zm_fc c L t = 1))) eo, List.length_cons]
          exact congrArg (fun z => (some (some (zv_i z), k) : zv_O)) (za_cs _ _)
/-- the reference counts along the row -/
theorem za_154 {D : Nat} {c : Nat → Int} {L : List Int} (hM : zm_M k) (n2 : zm_Sn k c L) (hn : (zm_row c L).length ≤ 604) (hok : ∀ x ∈ zm_row c L, zt_ok x) : ∀ (n i : Nat) (v : Nat), i + n = (zm_row c L).length → v ≤ i → L9_leaning_154 D 347 2 (v : Int) (i : Int) k = some (some (zv_i ((v : Int) + (((zm_row c L).drop i).filter (fun x => za_mk k x.1 && zm_sn c L x)).length)), k)
  | 0, i, v, hi, hv => by
    rw [qL9_leaning_154, zm_e (zm_gI hM 11), n2.2.1.1, if_neg (by omega), List.drop_eq_nil_of_le (by omega)]
    show some (some (zv_i (v : Int)), k) = some (some (zv_i ((v : Int) + 0)), k)
    rw [Int.add_zero]
  | n + 1, i, v, hi, hv => by
    have w1 : zv_w ((i : Int) + 1) = ((i + 1 : Nat) : Int) := by
      rw [zm_w (by omega)]
      rfl
    have w2 : zv_w ((v : Int) + 1) = ((v + 1 : Nat) : Int) := by
      rw [zm_w (by omega)]
      rfl
    have w0 : zv_w ((v : Int) + 0) = (v : Int) := by
      rw [zm_w (by omega)]
      omega
    have ir : i < (zm_row c L).length := by omega
    have hx : (zm_row c L)[i] ∈ zm_row c L := List.getElem_mem ir
    have ex := List.getElem?_eq_getElem ir
    have ed := List.drop_eq_getElem_cons ir
    generalize (zm_row c L)[i] = x at hx ex ed
    have x47 := zt_ok_47 (hok x hx)
    have sn := n2.2.2.2.1 i x ex
    have by1 := (n2.2.1.2 i x ex).1
    have go := za_154 (D := D) hM n2 hn hok n (i + 1)
    rw [ed, qL9_leaning_154, zm_e (zm_gI hM 11), n2.2.1.1, if_pos (by omega), if_pos rfl, zm_e (zm_gR hM rfl rfl : zv_gR k 347 9 9 = some 355), zm_e (zm_aB hM (show zv_lay 355 = (3, 640) from rfl) (Or.inl rfl) rfl (by omega) (by omega)), Int.toNat_natCast, sn, w0, w1, w2]
    by_cases cs : zm_sn c L x = true
    · rw [if_pos cs, if_neg (by decide), zm_e (zm_gR hM rfl rfl : zv_gR k 347 9 25 = some 365), zm_e (zm_gR hM rfl rfl : zv_gR k 347 9 6 = some 352), zm_e (zm_aI hM (show zv_lay 352 = (2, 640) from rfl) rfl (by omega) (by omega)), Int.toNat_natCast, by1, zm_e (zm_aB hM (show zv_lay 365 = (3, 49) from rfl) (Or.inl rfl) rfl x47.1 (by omega))]
      by_cases c1 : zv_I k 365 x.1.toNat = 0
      · have eo : ¬ (za_mk k x.1 && zm_sn c L x) = true := by
          unfold za_mk
          rw [decide_eq_false (fun q => q c1), Bool.false_and]
          decide
        rw [if_pos c1, go v (by omega) (by omega), List.filter_cons_of_neg (p := fun x : Int × Int => za_mk k x.1 && zm_sn c L x) eo]
      · have eo : (za_mk k x.1 && zm_sn c L x) = true := by
          rw [show za_mk k x.1 = true from decide_eq_true c1, cs]
          rfl
        rw [if_neg c1, go (v + 1) (by omega) (by omega), List.filter_cons_of_pos (p := fun x : Int × Int => za_mk k x.1 && zm_sn c L x) eo, List.length_cons]
        exact congrArg (fun z => (some (some (zv_i z), k) : zv_O)) (za_cs _ _)
    · have eo : ¬ (za_mk k x.1 && zm_sn c L x) = true := by
        rw [Bool.not_eq_true] at cs
        rw [cs, Bool.and_false]
        decide
      rw [if_neg cs, if_pos rfl, go v (by omega) (by omega), List.filter_cons_of_neg (p := fun x : Int × Int => za_mk k x.1 && zm_sn c L x) eo]
/-- the class counts letters of HERE by who put them in -/
theorem za_hereBy {d : Nat} {c : Nat → Int} (gL : zt_L g) (U : zt_U a c g) {E : List (Int × Int)} (src : zt_src (zt_r a (c 0)) E g) (hok : ∀ x ∈ E, zt_ok x) (v : Int64) : ∀ (n i : Nat) (u : Nat), i + n = E.length → u ≤ i → L0_lettersOfHereBy_5 (d + 1) a v (u : Int) (i : Int) g = some (some (zv_i ((u : Int) + ((E.drop i).filter (fun x => zt_b v x.1.toNat)).length)), g)
  | 0, i, u, hi, hu => by
    have la := zt_U_la U
    obtain ⟨lS, s12, s120, sid⟩ := src
    rw [qL0_lettersOfHereBy_5, zm_e (zl_gR gL la 10), zt_U_he U, zm_e (zl_gI gL lS 12), s12, if_neg (by omega), List.drop_eq_nil_of_le (by omega)]
    show some (some (zv_i (u : Int)), g) = some (some (zv_i ((u : Int) + 0)), g)
    rw [Int.add_zero]
  | n + 1, i, u, hi, hu => by
    have la := zt_U_la U
    obtain ⟨lS, s12, s120, sid⟩ := id src
    have w1 : zv_w ((i : Int) + 1) = ((i + 1 : Nat) : Int) := by
      rw [zm_w (by omega)]
      rfl
    have w2 : zv_w ((u : Int) + 1) = ((u + 1 : Nat) : Int) := by
      rw [zm_w (by omega)]
      rfl
    have w0 : zv_w ((u : Int) + 0) = (u : Int) := by
      rw [zm_w (by omega)]
      omega
    have ir : i < E.length := by omega
    have hx : E[i] ∈ E := List.getElem_mem ir
    have ex := List.getElem?_eq_getElem ir
    have ed := List.drop_eq_getElem_cons ir
    generalize E[i] = x at hx ex ed
    have xok := hok x hx
    have x47 := zt_ok_47 xok
    have ei := zt_C5_idAt (d := d) gL lS (by rw [s12]; omega) (i : Int)
    have sh := zt_lushr v (n := x.1.toNat) (by omega)
    rw [show ((x.1.toNat : Nat) : Int) = x.1 by omega] at sh
    have go := za_hereBy (d := d) gL U src hok v n (i + 1)
    rw [ed, qL0_lettersOfHereBy_5, zm_e (zl_gR gL la 10), zt_U_he U, zm_e (zl_gI gL lS 12), s12, if_pos (by omega), zm_e (zl_gR gL la 10), zt_U_he U, zm_e ei, s12, if_pos (by omega), Int.toNat_natCast, sid i x ex, w0, w1, w2]
    dsimp only
    rw [zm_e (zt_C4_putter (d := d) xok)]
    dsimp only
    by_cases c1 : zt_b v x.1.toNat = true
    · rw [if_neg (fun q => by rw [sh.mp q] at c1; cases c1), go (u + 1) (by omega) (by omega), List.filter_cons_of_pos (p := fun x : Int × Int => zt_b v x.1.toNat) c1, List.length_cons]
      exact congrArg (fun z => (some (some (zv_i z), g) : zv_O)) (za_cs _ _)
    · rw [Bool.not_eq_true] at c1
      rw [if_pos (sh.mpr c1), go u (by omega) (by omega), List.filter_cons_of_neg (p := fun x : Int × Int => zt_b v x.1.toNat) (by rw [c1]; decide)]
/-- were it withdrawn: the reference's letters -/
theorem za_let48 {D : Nat} (hM : zm_M k) {c : Nat → Int} (hc : zv_I k 348 = c) (w : zm_W c) {l : List Int} (hlL : zm_Ln c (c 0 :: l) (c 0)) (s : Int) (mk : ∀ x ∈ c 0 :: l, 1 ≤ x → (zt_mk k x ↔ zt_tb c 0 s x)) : ∃ (c2 : Nat → Int) (k' : zv_H), ((C9_triesNames (D + 6) 347 2 k).bind fun q3 => (C9_lettersOf (D + 6) 347 48 q3.2).bind fun q4 => (some (some (zv_i q4.1), q4.2) : zv_O)) = some (some (zv_i (((zm_row c2 (48 :: c 0 :: l)).filter (zm_sn c2 (48 :: c 0 :: l))).length : Int)), k') ∧ (∀ t ∈ c 0 :: l, zm_ag c c2 t) ∧ ¬ (48 : Int) ∈ c 0 :: l ∧ zm_o c2 48 2 = 2 ∧ ∀ x : Int, 0 ≤ x → x < 48 → (zm_nm c2 48 x ↔ zt_Kp c (c 0 :: l) 2 s x) := by
  obtain ⟨⟨many, h2⟩, e2, f2, tr, K, nk, em⟩ := zt_triesNames hM hc w (D + 1) (act := 2) (Or.inl rfl) hlL s 0 mk
  dsimp only at f2 tr nk em
  have hM2 := zm_F_M f2 hM
  have w2 := zm_Tr_W tr w
  generalize hc2 : zv_I h2 348 = c2 at tr w2 nk
  obtain ⟨_, g, gt, hl⟩ := zt_line_u w w.2.1 hlL
  have hl2 := zt_dep w w.2.1 hlL
  have hagl : ∀ t ∈ c 0 :: l, zm_ag c c2 t := fun t ht => by
    have hst := hl.2.1.2.2 t ht
    exact zm_Tr_ag tr hst.1.1 hst.1.2
  have n48 : ¬ (48 : Int) ∈ c 0 :: l := fun q => by
    have := (hl.2.1.2.2 48 q).1
    omega
  have hLn : zm_Ln c2 (48 :: c 0 :: l) 48 := by
    refine ⟨by decide, ?_⟩
    rw [tr.2.1]
    exact zm_Ln_cg hagl hl.1
  have ned : ¬ zm_ed c2 48 := by
    intro q
    have h3 := tr.2.2.1
    rcases q with q | q
    · rw [h3] at q
      omega
    · rw [h3] at q
      omega
  have g48 : zm_G0 c2 (48 :: c 0 :: l) := by
    obtain ⟨a1, a2, a3, a4, a5⟩ := g
    have a0 := hagl 0 (List.mem_of_getLast? a2)
    refine ⟨List.nodup_cons.mpr ⟨n48, a1⟩, by rw [List.getLast?_cons_cons]; exact a2, by rw [a0 5 (by decide) (by decide) (by decide)]; exact a3, by rw [a0 2 (by decide) (by decide) (by decide)]; exact a4, fun t ht h0 he => ?_⟩
    rcases List.mem_cons.mp ht with q | q
    · rw [q] at he
      exact absurd he ned
    · rw [hagl t q 5 (by decide) (by decide) (by decide)]
      exact a5 t q h0 ((zm_ed_cg (hagl t q)).mp he)
  have gt48 : ∀ t ∈ 48 :: c 0 :: l, zm_o c2 t 2 = 1 → ∀ p ∈ zm_tk c2 t, p ∈ zm_row c2 (48 :: c 0 :: l) := by
    intro t ht hk p hp
    rcases List.mem_cons.mp ht with q | q
    · rw [q] at hk
      exact absurd (Or.inr hk) ned
    · rw [hagl t q 2 (by decide) (by decide) (by decide)] at hk
      rw [zm_tk_cg (hagl t q) (zm_cut12 g t q hk)] at hp
      rw [zm_row_c c2 48 (List.cons_ne_nil _ _), if_neg (fun q => ned (Or.inl q)), zm_row_cg hagl]
      exact gt t q hk p hp
  have ln : (48 :: c 0 :: l).length ≤ 49 := by
    rw [List.length_cons, List.length_cons]
    omega
  obtain ⟨⟨n, h3⟩, e3, en, f3, _⟩ := zm_lettersOf hM2 (D + 1) (zm_sees hM2 hc2 (D + 1) (by decide) hLn ln g48 gt48)
  dsimp only at en f3
  refine ⟨c2, h3, ?_, hagl, n48, tr.2.2.1, fun x x0 x1 => ?_⟩
  · rw [zm_e e2]
    dsimp only
    rw [zm_e e3, en]
  · rw [nk.2.2 x x0 x1, nk.2.1 x]
    unfold zt_Kp
    rw [if_neg (by decide : ¬ (2 : Int) = 3)]
theorem zp_leaning {d D : Nat} (hA : zc_A g) (I : zm_MI k) (S : zt_GG m a b g k) (s w : Int) : ∃ v g' k', C8_leaning (d + 28) 1 s w g = some (v, g') ∧ C9_leaning (D + 28) 347 s w k = some (v, k') := by
  have gL := zt_L_A hA
  have hM := I.1
  have l1 : zv_lay 1 = (1, 8) := rfl
  have la := (zt_lab (zt_GG_ab S)).1
  have qC := qE8_leaning (d + 27) 1 s w g
  have qR := qE9_leaning (D + 27) 347 s w k
  rw [zm_e (zc_within (d := d + 26) g w 0 3)] at qC
  rw [zm_e (zm_isIn (h := k) (D + 26) w 0 3)] at qR
  dsimp only at qC qR
  by_cases cw3 : 0 ≤ w ∧ w ≤ 3
  rotate_left
  · rw [if_neg cw3, if_pos rfl, za_ref gL] at qC
    rw [if_neg cw3, if_pos rfl, qL9_leaning_52, za_isn hM (by decide)] at qR
    exact ⟨_, _, _, lC8_leaning (zl_ob gL l1) qC, lC9_leaning (zm_ob hM) qR⟩
  rw [if_pos cw3, if_neg (by decide), zm_e (zp_e3 hA S), zm_e (za_at (d := d + 26) hA S s)] at qC
  rw [if_pos cw3, if_neg (by decide), zm_e (zm_isState hM (D + 25) s)] at qR
  dsimp only at qC qR
  by_cases hs : zm_st (zv_I k 348) s
  rotate_left
  · rw [if_neg hs, if_pos rfl, za_ref gL] at qC
    rw [if_neg hs, if_pos rfl, qL9_leaning_52, za_isn hM (by decide)] at qR
    exact ⟨_, _, _, lC8_leaning (zl_ob gL l1) qC, lC9_leaning (zm_ob hM) qR⟩
  have U := zt_H_U (zt_GG_H S)
  have W := zt_U_W U
  obtain ⟨l, hl, ok, G, gt, _⟩ := zt_line W W.2.1
  obtain ⟨g', e1, B, rw_, lo⟩ := za_row (d := d + 22) gL U hl
  have gL' := zt_B_L B
  have U' := zt_B_U B
  have wk := zt_B_wk B
  have l8 := (zt_row_l la).1
  have s47 := hs.1
  have sb : (s.toNat : Int) = s := by omega
  have bt := zt_lcmp_bt (zv_J g' (a + 8) 8) (n := s.toNat) (by omega)
  have ac := zt_wk_ac wk s.toNat (by omega)
  rw [sb] at ac
  rw [if_pos hs, if_neg (za_r0 S hs), zm_e (zp_e3 hA S), zm_e e1] at qC
  dsimp only at qC
  rw [zm_e (zl_gJ gL' l8 8), zm_e (zt_bitr (d := d + 26) gL' U' hs)] at qC
  dsimp only at qC
  rw [if_pos hs, if_neg (by decide), zm_e (zm_here hM _)] at qR
  dsimp only at qR
  rw [zm_e (zm_isOfLine hM (D + 25) s hl)] at qR
  dsimp only at qR
  by_cases hi : s ∈ zv_I k 348 0 :: l
  rotate_left
  · have nb : zt_b (zv_J g' (a + 8) 8) s.toNat = false := by
      cases e : zt_b (zv_J g' (a + 8) 8) s.toNat with
      | false => rfl
      | true => exact absurd (ac.mp e).2.1 hi
    rw [if_pos (bt.mpr nb), za_ref gL'] at qC
    rw [if_neg hi, if_pos rfl, qL9_leaning_46, qL9_leaning_52, za_isn hM (by decide)] at qR
    exact ⟨_, _, _, lC8_leaning (zl_ob gL l1) qC, lC9_leaning (zm_ob hM) qR⟩
  rw [if_pos hi, if_neg (by decide), zm_e (zm_isEdit hM (D + 25) (zm_st48 hs))] at qR
  dsimp only at qR
  by_cases he : zm_ed (zv_I k 348) s
  rotate_left
  · have nb : zt_b (zv_J g' (a + 8) 8) s.toNat = false := by
      cases e : zt_b (zv_J g' (a + 8) 8) s.toNat with
      | false => rfl
      | true => exact absurd (ac.mp e).2.2 he
    rw [if_pos (bt.mpr nb), za_ref gL'] at qC
    rw [if_neg he, if_pos rfl, qL9_leaning_46, qL9_leaning_52, za_isn hM (by decide)] at qR
    exact ⟨_, _, _, lC8_leaning (zl_ob gL l1) qC, lC9_leaning (zm_ob hM) qR⟩
  have yb : zt_b (zv_J g' (a + 8) 8) s.toNat = true := ac.mpr ⟨by omega, hi, he⟩
  have s1 : 1 ≤ s := by
    by_cases z : s = 0
    · have h0 := W.1.2.1.2.2.1
      rw [z] at he
      rcases he with q | q <;> omega
    · omega
  have cw : ∀ t, zm_st (zv_I k 348) t → zt_cw (zv_I k 348) t := fun t ht => zt_S_cw (zt_U_st U t ht)
  obtain ⟨v, ev, hv⟩ := zt_leaningOn (d := d + 25) gL' U' hl ok wk s1 hi
  rw [if_neg (fun q => by rw [bt.mp q] at yb; cases yb), zm_e ev] at qC
  dsimp only at qC
  obtain ⟨k1, i1, F1⟩ := zp_is hM
  have M1 := zm_F_M F1 hM
  have e348 : zv_I k1 348 = zv_I k 348 := zm_F_a F1 348
  rw [if_pos he, if_neg (by decide), qL9_leaning_52, za_isy i1] at qR
  dsimp only at qR
  generalize hc : zv_I k 348 = c at U W hl ok G gt hi he cw hv e348 B U' wk rw_ lo hs
  obtain ⟨k2, e2, F2, n2, mk⟩ := za_marks (D := D + 22) M1 e348 W cw hl s1 hi
  have M2 := zm_F_M F2 M1
  have c2 : zv_I k2 348 = c := (zm_F_a F2 348).trans e348
  rw [zm_e e2] at qR
  have rl := zm_row_le G
  have dp := zt_dep W W.2.1 hl
  rw [List.length_cons] at rl
  have tced : ∀ t, zt_tc c t s → zm_ed c t := fun t q => by
    rcases zt_tc_h q with z | ⟨o, z, _⟩
    · rw [z]; exact he
    · exact (zt_ln_ed W z).1
  have m0 : ¬ za_mk k2 0 = true := fun q => by
    have h0 : (0 : Int) ∈ c 0 :: l := List.mem_of_getLast? ok.2.1
    have := zt_tc_1 W s1 ((mk 0 h0).mp q)
    omega
  have cnt : w = 0 ∨ w = 1 → L9_leaning_89 (D + 27) 347 w 0 1 k2 = some (some (zv_i ((((c 0 :: l).filter (fun t => za_mk k2 t && (decide (w = 0) || decide (zm_fc c (c 0 :: l) t = 1)))).length : Nat) : Int)), k2) := fun hw => by
    have h := za_89 (D := D + 27) M2 c2 n2 ok.2.2.1 ok.2.2.2 hw l.length 1 0 (by rw [List.length_cons]; omega) (by omega)
    have h' : L9_leaning_89 (D + 27) 347 w 0 1 k2 = _ := h
    rw [h', za_drop1 ok (fun q => m0 (Bool.and_eq_true _ _ |>.mp q).1)]
    exact congrArg (fun z => (some (some (zv_i z), k2) : zv_O)) (Int.zero_add _)
  by_cases w0 : w = 0
  · have ep : zt_pop v = (((c 0 :: l).filter (fun t => za_mk k2 t && (decide (w = 0) || decide (zm_fc c (c 0 :: l) t = 1)))).length : Int) := by
      refine za_pop ok.1 (fun t ht => by have := (ok.2.2.1 t ht).1; omega) (fun t ht => ?_)
      rw [hv t ht, decide_eq_true w0, Bool.true_or, Bool.and_true]
      constructor
      · rintro ⟨p1, p2, p3⟩
        exact ⟨p2, (mk _ p2).mpr p3⟩
      · rintro ⟨p2, p3⟩
        have t47 := (ok.2.2.1 _ p2).1
        exact ⟨by omega, p2, (mk _ p2).mp p3⟩
    rw [if_pos w0, zm_e (zt_bitCount (d := d + 26) v g'), ep] at qC
    dsimp only at qC
    rw [za_giv gL'] at qC
    rw [if_neg (show ¬ w = 3 by omega), cnt (Or.inl w0)] at qR
    exact ⟨_, _, _, lC8_leaning (zl_ob gL l1) qC, lC9_leaning (zm_ob hM) qR⟩
  rw [if_neg w0] at qC
  by_cases w1 : w = 1
  · have ep : zt_pop (v &&& zv_J g' (a + 8) 9) = (((c 0 :: l).filter (fun t => za_mk k2 t && (decide (w = 0) || decide (zm_fc c (c 0 :: l) t = 1)))).length : Int) := by
      refine za_pop ok.1 (fun t ht => by have := (ok.2.2.1 t ht).1; omega) (fun t ht => ?_)
      rw [zt_b_and, Bool.and_eq_true, hv t ht, zt_wk_fo wk t ht, decide_eq_false w0, Bool.false_or, Bool.and_eq_true, decide_eq_true_iff]
      constructor
      · rintro ⟨⟨p1, p2, p3⟩, p4⟩
        exact ⟨p2, (mk _ p2).mpr p3, p4.2.2.2⟩
      · rintro ⟨p2, p3, p4⟩
        have t47 := (ok.2.2.1 _ p2).1
        have q := (mk _ p2).mp p3
        exact ⟨⟨by omega, p2, q⟩, by omega, p2, tced _ q, p4⟩
    rw [if_pos w1, zm_e (zl_gJ gL' l8 9), zm_e (zt_bitCount (d := d + 26) _ g'), ep] at qC
    dsimp only at qC
    rw [za_giv gL'] at qC
    rw [if_neg (show ¬ w = 3 by omega), cnt (Or.inr w1)] at qR
    exact ⟨_, _, _, lC8_leaning (zl_ob gL l1) qC, lC9_leaning (zm_ob hM) qR⟩
  rw [if_neg w1] at qC
  by_cases w2 : w = 2
  · subst w2
    obtain ⟨src, hok⟩ := zt_src0 U' hl
    have rok : ∀ x ∈ zm_row c (c 0 :: l), zt_ok x := fun x hx => za_putok ok G hx
    have hb := za_hereBy (d := d + 25) gL' U' src hok v (zt_dc c (c 0 :: l)).length 0 0 (Nat.zero_add _) (Nat.le_refl _)
    rw [List.drop_zero] at hb
    have eb : C0_lettersOfHereBy (d + 27) a v g' = some ((((zt_dc c (c 0 :: l)).filter (fun x => zt_b v x.1.toNat)).length : Int), g') := lC0_lettersOfHereBy (zl_ob gL' la) (by
      rw [qE0_lettersOfHereBy]
      refine Eq.trans hb ?_
      exact congrArg (fun z => (some (some (zv_i z), g') : zv_O)) (Int.zero_add _))
    have h154 := za_154 (D := D + 27) M2 n2 (by omega) rok (zm_row c (c 0 :: l)).length 0 0 (Nat.zero_add _) (Nat.le_refl _)
    rw [List.drop_zero] at h154
    have ef : ((zt_dc c (c 0 :: l)).filter (fun x => zt_b v x.1.toNat)) = (zm_row c (c 0 :: l)).filter (fun x => za_mk k2 x.1 && zm_sn c (c 0 :: l) x) := by
      unfold zt_dc
      rw [List.filter_filter]
      refine List.filter_congr (fun x hx => ?_)
      have xl := (zm_row_mem hx).1
      have x47 := (ok.2.2.1 _ xl).1
      have hv' := hv x.1.toNat (by omega)
      rw [show ((x.1.toNat : Nat) : Int) = x.1 by omega] at hv'
      have : zt_b v x.1.toNat = za_mk k2 x.1 := by
        cases e : za_mk k2 x.1 with
        | true => exact hv'.mpr ⟨by omega, xl, (mk _ xl).mp e⟩
        | false =>
          cases e2 : zt_b v x.1.toNat with
          | false => rfl
          | true =>
            rw [(mk _ xl).mpr (hv'.mp e2).2.2] at e
            cases e
      rw [this]
    have e3 : zv_gR g' 1 8 3 = some a := (zl_gR gL' l1 3).trans (by
      have h1 : zv_R g' 1 3 = zv_R g 1 3 := congrFun ((zt_B_q B).2.2.2.2 1 (by decide) (by decide) (zt_in0 1)) 3
      rw [h1, zt_GG_r S])
    rw [if_pos rfl, zm_e e3, zm_e eb, ef] at qC
    dsimp only at qC
    rw [za_giv gL'] at qC
    rw [if_neg (by decide), qL9_leaning_89, zm_e (zm_gI M2 10), n2.1.1] at qR
    have qR2 : E9_leaning (D + 27) 347 s 2 k = L9_leaning_154 (D + 27) 347 2 0 0 k2 := by
      rw [qR]
      by_cases z : (1 : Int) < ((c 0 :: l).length : Int)
      · rw [if_pos z, if_neg (by decide)]
      · rw [if_neg z]
    have h154' : L9_leaning_154 (D + 27) 347 2 0 0 k2 = _ := h154
    rw [h154', show ((0 : Nat) : Int) + ((((zm_row c (c 0 :: l)).filter (fun x => za_mk k2 x.1 && zm_sn c (c 0 :: l) x)).length : Nat) : Int) = ((((zm_row c (c 0 :: l)).filter (fun x => za_mk k2 x.1 && zm_sn c (c 0 :: l) x)).length : Nat) : Int) by omega] at qR2
    exact ⟨_, _, _, lC8_leaning (zl_ob gL l1) qC, lC9_leaning (zm_ob hM) qR2⟩
  rw [if_neg w2] at qC
  have w3 : w = 3 := by omega
  have mk' : ∀ x ∈ c 0 :: l, 1 ≤ x → (zt_mk k2 x ↔ zt_tb c 0 s x) := fun x hx _ => by
    rw [← za_mk_e, mk x hx]
    unfold zt_tb
    rw [if_pos rfl]
  obtain ⟨cc, k3, e3, ag, n48, o2, nm⟩ := za_let48 (D := D + 21) M2 c2 W hl s mk'
  rw [if_pos w3] at qR
  have qR2 := qR.trans e3
  have hF : ∀ t : Nat, t < 64 → (zt_b (zv_J g' (a + 8) 9 &&& (v ^^^ (-1 : Int64))) t = true ↔ t < 48 ∧ zt_Fp c (c 0 :: l) 2 s t) := fun t ht => by
    rw [zt_b_and, zt_b_not _ ht, Bool.and_eq_true, Bool.not_eq_true', ← Bool.not_eq_true, zt_wk_fo wk t ht, hv t ht]
    unfold zt_Fp zt_Kp zt_tb
    rw [if_neg (by decide : ¬ (2 : Int) = 3), if_pos rfl, if_pos rfl]
    constructor
    · rintro ⟨⟨q1, q2, q3, q4⟩, q5⟩
      exact ⟨q1, q2, q3, Or.inr ⟨fun z => q5 ⟨q1, q2, z.2.2.1⟩, q4⟩⟩
    · rintro ⟨q1, q2, q3, q4⟩
      rcases q4 with z | z
      · exact absurd z.2 (by decide)
      · exact ⟨⟨q1, q2, q3, z.2⟩, fun y => z.1 ⟨q2, zt_tc_1 W s1 y.2.2, y.2.2, z.2⟩⟩
  obtain ⟨r1, r2⟩ := zt_sj_nam (v := zv_J g' (a + 8) 9 &&& (v ^^^ (-1 : Int64))) hl (List.cons_ne_nil _ _) ok G (fun t ht => cw t (ok.2.2.1 t ht)) ag n48 (Or.inl rfl) o2 nm hF
  obtain ⟨g3, eg, B3, _, lo3⟩ := zt_look (d := d + 24) (zv_J g' (a + 8) 9 &&& (v ^^^ (-1 : Int64))) B rw_ ok G gt (fun t ht q => by
    have t47 := (ok.2.2.1 t ht).1
    have := ((hF t.toNat (by omega)).mp q).2.2.1
    rw [show ((t.toNat : Nat) : Int) = t by omega] at this
    exact this)
  have gL3 := zt_B_L B3
  have en : ((zm_row cc (48 :: c 0 :: l)).filter (zm_sn cc (48 :: c 0 :: l))).length = ((zm_row c (c 0 :: l)).filter (zt_sj c (c 0 :: l) (zv_J g' (a + 8) 9 &&& (v ^^^ (-1 : Int64))))).length := by
    rw [r1, List.filter_congr (fun p hp => r2 p hp)]
  rw [zm_e (zl_gJ gL' l8 9), zm_e eg, zm_e (zl_gI gL3 l8 7), zt_lo_sn lo3, ← en, za_giv gL3] at qC
  exact ⟨_, _, _, lC8_leaning (zl_ob gL l1) qC, lC9_leaning (zm_ob hM) qR2⟩
end
