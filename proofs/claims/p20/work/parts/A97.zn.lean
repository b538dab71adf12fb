/-! ===== the reference: leaning changes no number ===== -/
theorem zn_of {h h' : zv_H} {A B : List Nat} (i : zm_MI h) (f : zm_F A B h h') (hA : (A.all fun r => List.contains [348, 349, 350, 351, 352, 353, 354, 355, 356, 357, 358, 359, 360, 362, 363, 364, 365, 370, 371, 372] r) = true) (hB : (B.all fun r => List.contains [3, 4, 10, 11, 12, 19, 24] r) = true) (w : zm_W (zv_I h' 348)) (e : ∀ k : Nat, ¬ (4080 ≤ k ∧ k < 4156) → zv_I h' 348 k = zv_I h 348 k) : zn_X h h' := by
  have g : zm_F [348, 349, 350, 351, 352, 353, 354, 355, 356, 357, 358, 359, 360, 362, 363, 364, 365, 370, 371, 372] [3, 4, 10, 11, 12, 19, 24] h h' := zm_F_s f hA hB
  have g2 : zm_F [348, 349, 350, 351, 352, 353, 354, 355, 356, 357, 358, 359, 360, 361, 362, 363, 364, 365, 366, 370, 371, 372] [3, 4, 10, 11, 12, 19, 24] h h' := zm_F_s g rfl rfl
  exact ⟨⟨zm_F_s g rfl rfl, fun k _ k2 => e k k2⟩, (zm_X_of i g2 rfl rfl w).2⟩
theorem zn_let48 {h : zv_H} (i : zm_MI h) (d : Nat) {act : Int} (ha : act = 2 ∨ act = 3) : ∃ (r : Int) (h' : zv_H), ((C9_triesNames (d + 6) 347 act h).bind fun q3 => (C9_lettersOf (d + 6) 347 48 q3.2).bind fun q4 => (some (some (zv_i q4.1), q4.2) : zv_O)) = some (some (zv_i r), h') ∧ zn_X h h' := by
  obtain ⟨⟨many, h2⟩, e2, f2, tr, m0, m1⟩ := zm_triesNames i.1 rfl i.2.1 (d + 1) act
  dsimp only at f2 tr m0 m1
  have w2 := zm_Tr_W tr i.2.1
  have x2 := zn_of i f2 rfl rfl w2 tr.1
  have hM2 := x2.2.1
  generalize hc2 : zv_I h2 348 = c2 at tr w2
  obtain ⟨l, hl, hl2, g, gt⟩ := zm_W_l i.2.1.1 i.2.1.2.1
  have hagl : ∀ t ∈ zv_I h 348 0 :: l, zm_ag (zv_I h 348) c2 t := fun t ht => by
    have hst := hl.2.1.2.2 t ht
    exact zm_Tr_ag tr hst.1.1 hst.1.2
  have n48 : ¬ (48 : Int) ∈ zv_I h 348 0 :: l := fun q => by
    have := (hl.2.1.2.2 48 q).1
    omega
  have hLn : zm_Ln c2 (48 :: zv_I h 348 0 :: l) 48 := by
    refine ⟨by decide, ?_⟩
    rw [tr.2.1]
    exact zm_Ln_cg hagl hl.1
  have ned : ¬ zm_ed c2 48 := by
    intro q
    have h3 := tr.2.2.1
    rcases q with q | q
    · rw [h3] at q
      omega
    · rw [h3] at q
      omega
  have g48 : zm_G0 c2 (48 :: zv_I h 348 0 :: l) := by
    obtain ⟨a1, a2, a3, a4, a5⟩ := g
    have a0 := hagl 0 (List.mem_of_getLast? a2)
    refine ⟨List.nodup_cons.mpr ⟨n48, a1⟩, by rw [List.getLast?_cons_cons]; exact a2, by rw [a0 5 (by decide) (by decide) (by decide)]; exact a3, by rw [a0 2 (by decide) (by decide) (by decide)]; exact a4, fun t ht h0 he => ?_⟩
    rcases List.mem_cons.mp ht with q | q
    · rw [q] at he
      exact absurd he ned
    · rw [hagl t q 5 (by decide) (by decide) (by decide)]
      exact a5 t q h0 ((zm_ed_cg (hagl t q)).mp he)
  have gt48 : ∀ t ∈ 48 :: zv_I h 348 0 :: l, zm_o c2 t 2 = 1 → ∀ p ∈ zm_tk c2 t, p ∈ zm_row c2 (48 :: zv_I h 348 0 :: l) := by
    intro t ht hk p hp
    rcases List.mem_cons.mp ht with q | q
    · rw [q] at hk
      exact absurd (Or.inr hk) ned
    · rw [hagl t q 2 (by decide) (by decide) (by decide)] at hk
      rw [zm_tk_cg (hagl t q) (zm_cut12 g t q hk)] at hp
      rw [zm_row_c c2 48 (List.cons_ne_nil _ _), if_neg (fun q => ned (Or.inl q)), zm_row_cg hagl]
      exact gt t q hk p hp
  have ln : (48 :: zv_I h 348 0 :: l).length ≤ 49 := by
    rw [List.length_cons, List.length_cons]
    omega
  obtain ⟨⟨n, h3⟩, e3, en, f3, _⟩ := zm_lettersOf hM2 (d + 1) (zm_sees hM2 hc2 (d + 1) (by decide) hLn ln g48 gt48)
  dsimp only at f3
  exact ⟨n, h3, by rw [zm_e e2]; dsimp only; rw [zm_e e3], zn_X_t x2 (zn_X_a x2.2 f3 rfl rfl rfl)⟩
theorem zn_marksS {h : zv_H} (i : zm_MI h) (d : Nat) (s back : Int) : ∃ (h' : zv_H) (l : List Int), C9_marks (d + 5) 347 s back h = some h' ∧ zn_X h h' ∧ zm_Sn h' (zv_I h' 348) l ∧ (∀ t ∈ l, zm_st (zv_I h' 348) t) ∧ l.length ≤ 48 ∧ zm_G0 (zv_I h' 348) l := by
  have hM := i.1
  obtain ⟨l, hl, hl2, g, gt⟩ := zm_W_l i.2.1.1 i.2.1.2.1
  obtain ⟨h1, e1, f1, hSn⟩ := zm_sees_st hM rfl d hl hl2 g gt
  have hM1 := zm_F_M f1 hM
  have c1 : zv_I h1 348 = zv_I h 348 := zm_F_a f1 348
  have hh : zm_lh (zv_I h 348) (zv_I h 348 0 :: l) h1 := ⟨hM1, c1, hSn.1.1, hSn.1.2⟩
  obtain ⟨h2, i1, f2⟩ := zm_marks10 (d + 4) s back 48 0 h1 rfl hM1
  have hh2 := zm_lh_F hh f2
  have ln : (zv_I h 348 0 :: l).length ≤ 48 := by
    rw [List.length_cons]
    omega
  have l1 : 1 + l.length = (zv_I h 348 0 :: l).length := by
    rw [List.length_cons, Nat.add_comm]
  obtain ⟨h3, k1, f3⟩ := zm_marks40 (d + 2) i.2.1.1 hl.2.1.2.2 ln back l.length 1 h2 l1 (Nat.le_refl _) hh2
  have F : zm_F [351, 352, 353, 354, 355, 365] [10, 11, 12] h h3 := zm_F_t (zm_F_s f1 rfl rfl) (zm_F_t (zm_F_s f2 rfl rfl) (zm_F_s f3 rfl rfl))
  have ec : zv_I h3 348 = zv_I h 348 := zm_F_a F 348
  refine ⟨h3, zv_I h 348 0 :: l, lC9_marks (zm_ob hM) ?_, zn_X_a i F rfl rfl rfl, ?_⟩
  · rw [qE9_marks, zm_e (zm_here hM _)]
    dsimp only
    rw [zm_e e1, show L9_marks_10 (d + 4) 347 s back 0 h1 = _ from i1, qL9_marks_10, if_neg (by decide), show L9_marks_40 (d + 4) 347 back 1 h2 = _ from k1]
  · rw [ec]
    exact ⟨zm_Sn_F (zm_Sn_F hSn f2) f3, hl.2.1.2.2, ln, g⟩
theorem zn_leaning {h : zv_H} (i : zm_MI h) (d : Nat) (s w : Int) : zm_R (C9_leaning (d + 10) 347 s w h) (fun q => zn_X h q.2) := by
  refine zm_cI (P := fun _ h' => zn_X h h') (lC9_leaning (zm_ob i.1)) ?_
  have l52 : ∀ v : Int, zm_R (L9_leaning_52 (d + 9) 347 s w 347 v h) (zm_I fun _ h' => zn_X h h') := by
    intro v
    rw [qL9_leaning_52]
    refine zn_isq i (fun hw h1 f1 i1 => zn_X_i (zn_X_a i f1 rfl rfl rfl) ?_)
    obtain ⟨h2, l, e2, x2, n2, s2, m2, g2⟩ := zn_marksS i1 (d + 4) s 0
    dsimp only
    rw [zm_e e2]
    refine zn_X_i x2 ?_
    refine zm_if (fun _ => ?_) (fun _ => ?_)
    · obtain ⟨r, h3, e3, x3⟩ := zn_let48 x2.2 (d + 3) (act := 2) (Or.inl rfl)
      rw [e3]
      exact zm_iI x3
    · have hp : 1 ≤ l.length := by
        cases l with
        | nil => cases g2.2.1
        | cons t b => exact Nat.le_add_left 1 _
      obtain ⟨r, er⟩ := zm_leaning89 (d + 9) (zm_Sn_lh x2.2.1 n2) s2 m2 (zm_row640 g2 m2) n2.2.1.1 (fun k hk => by
        obtain ⟨x, hx⟩ : ∃ x, (zm_row (zv_I h2 348) l)[k]? = some x := ⟨_, List.getElem?_eq_getElem hk⟩
        rw [(n2.2.1.2 k x hx).1]
        exact (zm_row_ok (fun t ht => zm_st48 (s2 t ht)) g2 x (List.mem_of_getElem? hx)).1) w (l.length - 1) 1 0 (by omega)
      rw [show L9_leaning_89 (d + 9) 347 w 0 1 h2 = _ from er]
      exact zn_rX0 x2.2
  have l46 : zm_R (L9_leaning_46 (d + 9) 347 s w 347 h) (zm_I fun _ h' => zn_X h h') := by
    rw [qL9_leaning_46]
    exact l52 7
  rw [qE9_leaning]
  refine zm_gb (zm_isIn _ w 0 3) (fun _ => l52 1) (fun _ => ?_)
  refine zm_gb (zm_isState i.1 _ s) (fun _ => l52 2) (fun hs => ?_)
  dsimp only
  rw [zm_e (zm_here i.1 _)]
  dsimp only
  obtain ⟨l, hl⟩ := zm_WL_of i.2.1.1 _ i.2.1.2.1
  refine zm_gb (zm_isOfLine i.1 _ s hl) (fun _ => l46) (fun _ => ?_)
  exact zm_gb (zm_isEdit i.1 _ (zm_st48 hs)) (fun _ => l46) (fun _ => l52 0)
