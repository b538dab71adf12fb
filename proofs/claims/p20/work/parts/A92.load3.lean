/-! ===== the tie: a TEXT is loaded, both ===== -/
section
variable {a b m : Nat} {g k : zv_H} {u : Nat → Nat → Int}
/-- all is well at its end -/
theorem zt_GG_1 {d D : Nat} {c0 : Nat → Int} {k0 : zv_H} (ab : (a = 9 ∧ b = 178) ∨ (a = 178 ∧ b = 9)) (o : zt_lo1 a b u c0 k0 g k) (hM : zm_M k) (hw : ∀ g' k' : zv_H, (∀ r i, r = 3 ∨ r = 4 → zv_I g' r i = u r i) → zv_I k' 347 20 = zv_I k 347 20 → zv_I k' 361 = zv_I k 361 → zt_wt g' k') : ∃ (v : Int) (g' k' : zv_H), L8_load_117 (d + 7) 1 g = some (some (zv_i v), g') ∧ L9_load_203 (D + 11) 347 k = some (some (zv_i v), k') ∧ zt_GG m b a g' k' := by
  have e1 := zt_117_1 (d := d) o
  have W := zt_U_W (zt_H_U (zt_lo1_H o))
  obtain ⟨k', e2, F, x27, x28, x29⟩ := zt_203_1 (D := D) hM W (zt_lo1_z o)
  have lab := zt_lab ab
  have la9 := zc_lh lab.1
  have eI : ∀ r i, ¬ (r = 1 ∧ i = 6) → zv_I (zv_sI (zv_sR (zv_sR g 1 3 b) 1 4 a) 1 6 0) r i = zv_I g r i := fun r i q => zy_In _ _ q
  have r3 : zv_R (zv_sR (zv_sR g 1 3 b) 1 4 a) 1 3 = b := by
    show (if (1 = 1 ∧ 3 = 4) then a else zv_R (zv_sR g 1 3 b) 1 3) = b
    rw [if_neg (by decide)]
    show (if (1 = 1 ∧ 3 = 3) then b else zv_R g 1 3) = b
    exact if_pos (by decide)
  have r4 : zv_R (zv_sR (zv_sR g 1 3 b) 1 4 a) 1 4 = a := by
    show (if (1 = 1 ∧ 4 = 4) then a else zv_R (zv_sR g 1 3 b) 1 4) = a
    exact if_pos (by decide)
  have eR : ∀ r i, 9 ≤ r → zv_R (zv_sI (zv_sR (zv_sR g 1 3 b) 1 4 a) 1 6 0) r i = zv_R g r i := fun r i hr => by
    show (if (r = 1 ∧ i = 4) then a else zv_R (zv_sR g 1 3 b) r i) = zv_R g r i
    rw [if_neg (fun q => by omega)]
    show (if (r = 1 ∧ i = 3) then b else zv_R g r i) = zv_R g r i
    exact if_neg (fun q => by omega)
  have c : zv_I k' 348 = zv_I k 348 := zm_F_a F 348
  have n1 := zt_lo1_n1 o
  have n2 := zt_lo1_n2 o
  refine ⟨_, _, k', e1, e2, (show zv_R (zv_sR (zv_sR g 1 3 b) 1 4 a) 1 3 = b from r3), (show zv_R (zv_sR (zv_sR g 1 3 b) 1 4 a) 1 4 = a from r4), ?_, ?_, fun i hi => ?_, fun i hi => ?_, ?_, ?_, Or.inr ⟨?_, ?_, ?_⟩, ?_⟩
  · rcases ab with q | q
    · exact Or.inr ⟨q.2, q.1⟩
    · exact Or.inl ⟨q.2, q.1⟩
  · rw [c]
    exact zt_H_9 (zt_lo1_H o) (fun r i hr => eI r i (fun q => by omega)) (fun _ _ _ => rfl) (fun r i hr => eR r i hr)
  · exact (eI _ _ (fun q => by have := zc_sttb (a := a) hi; omega)).trans (zt_U_nr (zt_H_U (zt_lo1_O o)) i hi)
  · rw [x27] at hi
    omega
  · rw [c]
    omega
  · rw [c]
    omega
  · rw [eI 1 7 (fun q => by omega)]
    exact zt_lo1_l o
  · rw [eI 5 8 (fun q => by omega), x28]
    exact zt_lo1_f8 o
  · rw [eI 5 9 (fun q => by omega), x29]
    exact zt_lo1_f9 o
  · exact hw _ _ (fun r i hr => (eI r i (fun q => by omega)).trans (zt_lo1_t3 o r i hr)) (zm_F_g F 20) (zm_F_a F 361)
/-- a fault at its end -/
theorem zt_GG_0 {d D : Nat} {c0 T : Nat → Int} {n : Nat} {k0 : zv_H} (ab : (a = 9 ∧ b = 178) ∨ (a = 178 ∧ b = 9)) (o : zt_lo0 a b u c0 T n k0 g k) (hc : ∀ x : Nat, x < 4236 → zv_I k 349 x = c0 x) (n1 : 0 ≤ c0 1 ∧ c0 1 ≤ 1000000 + 1000 * m) (n2 : c0 2 ≤ 100000 + 100 * m) (hw : ∀ g' k' : zv_H, (∀ r i, r = 3 ∨ r = 4 → zv_I g' r i = u r i) → zv_I k' 347 20 = zv_I k 347 20 → zv_I k' 361 = zv_I k 361 → zt_wt g' k') : ∃ (v : Int) (g' k' : zv_H), L8_load_117 (d + 7) 1 g = some (some (zv_i v), g') ∧ L9_load_203 (D + 11) 347 k = some (some (zv_i v), k') ∧ zt_GG m a b g' k' := by
  have e1 := zt_117_0 (d := d) o
  have hM := zt_ty_M (zt_bd_Y (zt_lo0_B o))
  obtain ⟨k', e2, F, cx, x27, x28, x29⟩ := zt_203_0 (D := D) hM (zt_lo0_p o)
  have lab := zt_lab ab
  have la9 := zc_lh lab.2.1
  have eI : ∀ r i, ¬ (r = 1 ∧ i = 6) → zv_I (zv_sI g 1 6 9) r i = zv_I g r i := fun r i q => zy_In _ _ q
  have ec : ∀ x : Nat, x < 4236 → zv_I k' 348 x = c0 x := fun x hx => (cx x hx).trans (hc x hx)
  have A' : zc_A g := zt_lo0_A o
  have H0 : zt_H a (zv_I k' 348) g := zt_H_4236 (zt_lo0_O o) A' ec
  have fl := zt_bd_f (zt_lo0_B o)
  have p := zt_lo0_p o
  refine ⟨_, _, k', e1, e2, (show zv_R g 1 3 = a from zt_lo0_r3 o), (show zv_R g 1 4 = b from zt_lo0_r4 o), ab, ?_, fun i hi => ?_, fun i hi => ?_, ?_, ?_, Or.inr ⟨?_, ?_, ?_⟩, ?_⟩
  · exact zt_H_9 H0 (fun r i hr => eI r i (fun q => by omega)) (fun _ _ _ => rfl) (fun _ _ _ => rfl)
  · exact (eI _ _ (fun q => by have := zc_sttb (a := b) hi; omega)).trans (zt_lo0_N o i hi)
  · rw [x27] at hi
    omega
  · rw [ec 1 (by decide)]
    exact n1
  · rw [ec 2 (by decide)]
    exact n2
  · rw [eI 1 7 (fun q => by omega)]
    exact zt_lo0_l o
  · rw [eI 5 8 (fun q => by omega), x28]
    rcases fl with q | q
    · omega
    · exact q.1.symm
  · rw [eI 5 9 (fun q => by omega), x29]
    rcases fl with q | q
    · omega
    · exact q.2.symm
  · exact hw _ _ (fun r i hr => (eI r i (fun q => by omega)).trans (zt_lo0_t3 o r i hr)) (zm_F_g F 20) (zm_F_a F 361)
/-- a TEXT is loaded -/
theorem zj_load {d D : Nat} (hA : zc_A g) (I : zm_MI k) (S : zt_GG m a b g k) (ts : zv_I g 5 2 = zv_I k 347 27) {n : Int} (rn : zv_rg n) : ∃ (v : Int) (g' k' : zv_H) (a' b' : Nat), C8_load (d + 28) 1 n g = some (v, g') ∧ C9_load (D + 28) 347 n k = some (v, k') ∧ zt_GG m a' b' g' k' := by
  have gL := zt_L_A hA
  obtain ⟨hM, W, K, t27, t35, _, _⟩ := id I
  have l1 : zv_lay 1 = (1, 8) := rfl
  have e5 : zv_gR g 1 8 2 = some 5 := zl_gF gL l1 2 4
  have finC : ∀ {v : Int} {g' : zv_H}, E8_load (d + 27) 1 n g = some (some (zv_i v), g') → C8_load (d + 28) 1 n g = some (v, g') := fun {v g'} h => lC8_load (zl_ob gL l1) h
  have finR : ∀ {v : Int} {k' : zv_H}, E9_load (D + 27) 347 n k = some (some (zv_i v), k') → C9_load (D + 28) 347 n k = some (v, k') := fun {v k'} h => lC9_load (zm_ob hM) h
  have qC := qE8_load (d + 27) 1 n g
  rw [zm_e e5, zm_e (zl_gI gL zt_lay5 2), zm_e (zc_within (d := d + 26) g n 0 (zv_I g 5 2))] at qC
  dsimp only at qC
  have qR := qE9_load (D + 27) 347 n k
  rw [zm_e (zm_gI hM 27), zm_e (zm_isIn (d := D + 26) n 0 (zv_I k 347 27))] at qR
  dsimp only at qR
  by_cases c : 0 ≤ n ∧ n ≤ zv_I g 5 2
  rotate_left
  · -- no such text
    rw [if_neg c, if_pos rfl, zm_e (zt_refused (d := d + 26) gL 1)] at qC
    have F : zm_F [] [3, 4] k (zv_sI (zv_sI k 347 4 0) 347 3 1) := zm_F_f (zm_F_f (zm_F_r _ _ k) rfl _) rfl _
    rw [← ts, if_neg c, if_pos rfl, qL9_load_18, zm_e (zm_is hM (D + 26) 1)] at qR
    dsimp only at qR
    rw [if_neg (show ¬ (1 : Int) = 0 by decide), if_pos rfl] at qR
    exact ⟨-1, _, _, a, b, finC qC, finR qR, zt_GG_st S 1 F rfl rfl rfl rfl⟩
  rw [if_pos c, if_neg (by decide)] at qC
  rw [← ts, if_pos c, if_neg (by decide), qL9_load_18, zm_e (zm_is hM (D + 26) 0)] at qR
  dsimp only at qR
  rw [if_pos rfl, if_neg (by decide)] at qR
  obtain ⟨nn, rfl⟩ : ∃ nn : Nat, n = nn := ⟨n.toNat, by omega⟩
  have lab := zt_lab (zt_GG_ab S)
  have hb := lab.2.1
  have hb9 := zc_lh hb
  have n7 : nn ≤ 700 := by omega
  -- the class: all anew
  have Z := zc_QI hA (r := 1) (k := 7) (v := 1) (zc_frO zc_h8 (by decide) (by decide) rfl (by decide)) (by unfold zv_rg; omega)
  have L1 : zt_L (zv_sI g 1 7 1) := gL
  have z7 : zv_I (zv_sI g 1 7 1) 1 7 = 1 := zy_I _ _ _ _
  have zI : ∀ r i, ¬ (r = 1 ∧ i = 7) → zv_I (zv_sI g 1 7 1) r i = zv_I g r i := fun r i q => zy_In _ _ q
  have O1 : zt_H a (zv_I k 348) (zv_sI g 1 7 1) := zt_H_9 (zt_GG_H S) (fun r i hr => zI r i (fun q => by omega)) (fun _ _ _ => rfl) (fun _ _ _ => rfl)
  have r31 : zv_R (zv_sI g 1 7 1) 1 3 = a := (show zv_R g 1 3 = a from zt_GG_r S)
  have r41 : zv_R (zv_sI g 1 7 1) 1 4 = b := (show zv_R g 1 4 = b from zt_GG_s S)
  have e4 : zv_gR (zv_sI g 1 7 1) 1 8 4 = some b := (zl_gR L1 l1 4).trans (by rw [r41])
  rw [zm_e (zl_pZ gL l1 7 (Or.inr rfl)), zm_e e4] at qC
  have num1 : ∀ i : Nat, i < 48 → zv_I (zv_sI g 1 7 1) (zc_stt b i) 0 = i := fun i hi => (zI _ _ (fun q => by have := zc_sttb (a := b) hi; omega)).trans (zt_GG_N S i hi)
  generalize zv_sI g 1 7 1 = g1 at qC Z L1 z7 zI O1 r31 r41 num1
  obtain ⟨g2, y2, B2⟩ := zt_begin (d := d + 23) hb (zc_Bh_of Z.2 hb)
  obtain ⟨g2', y2', X2⟩ := zc_C0_begin (d := d + 23) Z.2 hb
  have eg2 : g2' = g2 := Option.some.inj (y2'.symm.trans y2)
  subst eg2
  have L2 := zt_L_A X2.2
  have sc := zt_sc_bx hb B2 num1
  have stn : ∀ r, r < 9 → ∀ j, j < 48 → r ≠ zc_stt b j := fun r hr j hj e => by have := zc_sttb (a := b) hj; omega
  have lo2 : (∀ r i, r < 9 → zv_I g2' r i = zv_I g1 r i) ∧ (∀ r i, r < 9 → zv_R g2' r i = zv_R g1 r i) := ⟨fun r i hr => zt_bx_oI B2 r i (stn r hr) (by omega) (by omega) (by omega) (by omega) (by omega) (by omega), fun r i hr => zt_bx_oR B2 r i (stn r hr) (fun q => by omega)⟩
  have kb : zt_k b g1 g2' := by
    have inS : ∀ r, ¬ zt_in b r → ∀ j, j < 48 → r ≠ zc_stt b j := fun r hr j hj e => by
      have sl := zc_stl hb hj
      exact hr (by rw [e]; exact ⟨by have := zc_sttb (a := b) hj; omega, by have := zc_sttb (a := b) hj; omega, sl.2.1⟩)
    have inB : ∀ x, x = 0 ∨ x = 14 ∨ x = 17 ∨ x = 22 ∨ x = 23 ∨ x = 24 → zt_in b (b + x) := fun x hx => by
      rcases hb9 with q | q <;> rw [q] <;> rcases hx with z | z | z | z | z | z <;> rw [z] <;> exact ⟨by decide, by decide, rfl⟩
    have ne : ∀ r, ¬ zt_in b r → ∀ x, x = 0 ∨ x = 14 ∨ x = 17 ∨ x = 22 ∨ x = 23 ∨ x = 24 → r ≠ b + x := fun r hr x hx e => hr (by rw [e]; exact inB x hx)
    refine zt_k_of (zt_bx_f1 B2) (zt_bx_f2 B2) (fun r i hr => ?_) (fun r i hr => zt_bx_oJ B2 r i (inS r hr)) (fun r i hr => zt_bx_oR B2 r i (inS r hr) (fun q => ne r hr 0 (Or.inl rfl) q.1))
    exact zt_bx_oI B2 r i (inS r hr) (ne r hr 0 (Or.inl rfl)) (ne r hr 14 (by decide)) (ne r hr 17 (by decide)) (ne r hr 22 (by decide)) (ne r hr 23 (by decide)) (ne r hr 24 (by decide))
  have O2 : zt_H a (zv_I k 348) g2' := zt_H_k O1 kb lab.2.2
  have e52 : zv_gR g2' 1 8 2 = some 5 := zl_gF L2 l1 2 4
  have sz2 : zv_I g2' 5 2 = zv_I g 5 2 := (lo2.1 5 2 (by decide)).trans (zI 5 2 (fun q => by omega))
  obtain ⟨g3, y3, f31, f32, f3I, f3k, x3, x2, x8, x9, x6⟩ := zt_C3_begin (d := d + 24) L2 (n := (nn : Int)) (by rw [sz2]; exact c.2)
  obtain ⟨g4, y4, P4, A4, t4⟩ := zc_C3_begin (d := d + 24) X2.2 rn
  have L3 := zt_L_12 L2 f31 f32
  -- the reference: the numbers are kept, all anew
  have F1 : zm_F [] [3, 4, 30, 33, 36, 37] k (zv_sI (zv_sI (zv_sI (zv_sI (zv_sI (zv_sI k 347 4 0) 347 3 0) 347 36 (nn : Int)) 347 33 0) 347 30 0) 347 37 0) := zm_F_f (zm_F_f (zm_F_f (zm_F_f (zm_F_f (zm_F_f (zm_F_r _ _ k) rfl _) rfl _) rfl _) rfl _) rfl _) rfl _
  have w36 : zv_I (zv_sI (zv_sI (zv_sI (zv_sI (zv_sI (zv_sI k 347 4 0) 347 3 0) 347 36 (nn : Int)) 347 33 0) 347 30 0) 347 37 0) 347 36 = nn := by rw [zy_In _ _ (fun q => absurd q.2 (by decide)), zy_In _ _ (fun q => absurd q.2 (by decide)), zy_In _ _ (fun q => absurd q.2 (by decide)), zy_I]
  have w33 : zv_I (zv_sI (zv_sI (zv_sI (zv_sI (zv_sI (zv_sI k 347 4 0) 347 3 0) 347 36 (nn : Int)) 347 33 0) 347 30 0) 347 37 0) 347 33 = 0 := by rw [zy_In _ _ (fun q => absurd q.2 (by decide)), zy_In _ _ (fun q => absurd q.2 (by decide)), zy_I]
  have w30 : zv_I (zv_sI (zv_sI (zv_sI (zv_sI (zv_sI (zv_sI k 347 4 0) 347 3 0) 347 36 (nn : Int)) 347 33 0) 347 30 0) 347 37 0) 347 30 = 0 := by rw [zy_In _ _ (fun q => absurd q.2 (by decide)), zy_I]
  have w37 : zv_I (zv_sI (zv_sI (zv_sI (zv_sI (zv_sI (zv_sI k 347 4 0) 347 3 0) 347 36 (nn : Int)) 347 33 0) 347 30 0) 347 37 0) 347 37 = 0 := zy_I _ _ _ _
  have m1 : zm_M (zv_sI (zv_sI k 347 4 0) 347 3 0) := hM
  have m2 : zm_M (zv_sI (zv_sI (zv_sI k 347 4 0) 347 3 0) 347 36 (nn : Int)) := hM
  have m3 : zm_M (zv_sI (zv_sI (zv_sI (zv_sI k 347 4 0) 347 3 0) 347 36 (nn : Int)) 347 33 0) := hM
  have m4 : zm_M (zv_sI (zv_sI (zv_sI (zv_sI (zv_sI k 347 4 0) 347 3 0) 347 36 (nn : Int)) 347 33 0) 347 30 0) := hM
  rw [zm_e (zm_pI m1 36 _), zm_e (zm_pI m2 33 0), zm_e (zm_pI m3 30 0), zm_e (zm_pI m4 37 0)] at qR
  generalize zv_sI (zv_sI (zv_sI (zv_sI (zv_sI (zv_sI k 347 4 0) 347 3 0) 347 36 (nn : Int)) 347 33 0) 347 30 0) 347 37 0 = k1 at F1 w36 w33 w30 w37 qR
  have hM1 := zm_F_M F1 hM
  obtain ⟨k2, i2, F2, c2⟩ := zm_load48 (D + 27) 4236 0 k1 rfl hM1 (fun x hx => absurd hx (Nat.not_lt_zero x))
  have hM2 := zm_F_M F2 hM1
  obtain ⟨k3, e3, F3, sa, c43⟩ := zt_clears hM2 (D + 25)
  have hM3 := zm_F_M F3 hM2
  rw [show L9_load_48 (D + 27) 347 0 k1 = _ from i2, qL9_load_48, if_neg (by decide), zm_e e3] at qR
  have F03 : zm_F [348, 349] [3, 4, 30, 33, 36, 37] k k3 := zm_F_t (zm_F_s F1 rfl rfl) (zm_F_t (zm_F_s F2 rfl rfl) (zm_F_s F3 rfl rfl))
  have v36 : zv_I k3 347 36 = nn := by rw [zm_F_g F3 36, zm_F_g F2 36, w36]
  have v33 : zv_I k3 347 33 = 0 := by rw [zm_F_g F3 33, zm_F_g F2 33, w33]
  have v30 : zv_I k3 347 30 = 0 := by rw [zm_F_g F3 30, zm_F_g F2 30, w30]
  have v37 : zv_I k3 347 37 = 0 := by rw [zm_F_g F3 37, zm_F_g F2 37, w37]
  have v35 : zv_I k3 347 35 = zv_I k 347 35 := zm_F_g F03 35
  -- the text
  have tp : ∀ i : Nat, i < nn → (0 ≤ zv_I g 6 i ∧ zv_I g 6 i ≤ 255) ∧ zv_I k 366 i = zt_sb (zv_I g 6 i) := fun i hi => zt_GG_tp S i (by rw [← ts]; omega)
  have X : zt_tx (zv_I g 6) nn g3 := ⟨L3, n7, x3, fun i hi => (f3I 6 i (by decide)).trans ((lo2.1 6 i (by decide)).trans (zI 6 i (fun q => by omega))), fun i hi => (tp i hi).1⟩
  have Y : zt_ty (zv_I g 6) nn k3 := ⟨hM3, n7, v36, fun i hi => by rw [zm_F_a F03 366]; exact (tp i hi).2, fun i hi => (tp i hi).1⟩
  obtain ⟨v5, g5, k5, n5, r5, f5, F5, o5⟩ := zj_first (d := d + 24) (D := D + 22) X Y x6 x8 x9 v33 v30
  obtain ⟨k5', r5', _, R5, _⟩ := zm_reads (D + 22) hM3 (by rw [v36]; omega) (by rw [v33, v36]; omega) (by rw [v35]; exact t35)
  have ek5 : k5' = k5 := Option.some.inj (r5'.symm.trans r5)
  subst ek5
  have hM5 := zm_F_M F5 hM3
  rw [zm_e r5, zm_e (zm_f40 hM5)] at qR
  -- the class behind its first TOKEN
  have y45 : C3_begin (d + 27) 5 (nn : Int) g2' = some g5 := lC3_begin (zl_ob L2 zt_lay5) (by rw [y3, zm_e n5])
  have eg4 : g4 = g5 := Option.some.inj (y4.symm.trans y45)
  subst eg4
  have L5 := zt_L_A A4
  have t5I : ∀ r i, r ≠ 5 → zv_I g4 r i = zv_I g2' r i := fun r i hr => (f5.2.2 r i (fun q => hr q.1)).trans (f3I r i hr)
  have t5R : ∀ r i, zv_R g4 r i = zv_R g2' r i := fun r i => by unfold zv_R; rw [f5.2.1, f32]
  have t5J : ∀ r i, zv_J g4 r i = zv_J g2' r i := fun r i => by unfold zv_J; rw [f5.2.1, f32]
  have r45 : zv_R g4 1 4 = b := (t5R 1 4).trans ((lo2.2 1 4 (by decide)).trans r41)
  have r35 : zv_R g4 1 3 = a := (t5R 1 3).trans ((lo2.2 1 3 (by decide)).trans r31)
  have l5 : zv_I g4 1 7 = 1 := (t5I 1 7 (by decide)).trans ((lo2.1 1 7 (by decide)).trans z7)
  have O5 : zt_H a (zv_I k 348) g4 := zt_H_9 O2 (fun r i hr => t5I r i (by omega)) (fun r i _ => t5J r i) (fun r i _ => t5R r i)
  have tj5 : zt_tj b g2' ((g2'.1, ((fun r i => if r = 5 then zv_I g2' 5 i else zv_I g4 r i), g2'.2.2)) : zv_H) := ⟨rfl, rfl, fun r i _ _ _ _ => by
    show (if r = 5 then zv_I g2' 5 i else zv_I g4 r i) = zv_I g2' r i
    by_cases z : r = 5
    · rw [if_pos z, z]
    · rw [if_neg z, t5I r i z]⟩
  have sc5 : zt_sc b 0 (fun _ => 0) g4 := by
    have eI : ∀ r i, 9 ≤ r → zv_I g4 r i = zv_I g2' r i := fun r i hr => t5I r i (by omega)
    have eS : ∀ j i, j < 48 → zv_I g4 (zc_stt b j) i = zv_I g2' (zc_stt b j) i := fun j i hj => eI _ _ (by have := zc_sttb (a := b) hj; omega)
    have eB : ∀ x i, zv_I g4 (b + x) i = zv_I g2' (b + x) i := fun x i => eI _ _ (by omega)
    exact ⟨hb, fun i hi => (eS i 0 hi).trans (zt_sc_nr sc i hi), fun i hi => (eS i 3 hi).trans (zt_sc_lv sc i hi), (t5R _ _).trans (zt_sc_pa sc), (t5R _ _).trans (zt_sc_fi sc), (eB _ _).trans (zt_sc_i6 sc), (eB _ _).trans (zt_sc_i7 sc), (eB _ _).trans (zt_sc_i8 sc), (eB _ _).trans (zt_sc_i9 sc), (eB _ _).trans (zt_sc_ia sc), (eB _ _).trans (zt_sc_ib sc), (eB _ _).trans (zt_sc_ic sc), (eB _ _).trans (zt_sc_id sc), (eB _ _).trans (zt_sc_ie sc), (t5J _ _).trans (zt_sc_jg sc), (t5J _ _).trans (zt_sc_jh sc), fun i hi => absurd hi (Nat.not_lt_zero i), fun i hi => absurd hi (Nat.not_lt_zero i), (t5R _ _).trans (zt_sc_he sc), (eB 0 _).trans (zt_sc_nw sc), (eB 0 _).trans (zt_sc_ct sc), (eB _ _).trans (zt_sc_ns sc), (eB _ _).trans (zt_sc_vs sc)⟩
  have T5 : zt_T0 b zt_usual g4 := zt_T0_k (zt_bx_T B2) (fun r i hr => t5I r i (by omega)) hb
  have c5 : zv_I k5' 348 = zv_I k3 348 := zm_F_a F5 348
  have K5 : zm_K k5' := zm_K_F (zm_K_F K F03) F5
  have e55 : zv_gR g4 1 8 2 = some 5 := zl_gF L5 l1 2 4
  have e54 : zv_gR g4 1 8 4 = some b := (zl_gR L5 l1 4).trans (by rw [r45])
  rw [zm_e (show C0_begin (d + 27) b g1 = some g2' from y2), zm_e e52, zm_e y45, zm_e e55, zm_e e54] at qC
  have k349 : ∀ x : Nat, x < 4236 → zv_I k5' 349 x = zv_I k 348 x := fun x hx => by rw [zm_F_a F5 349, zm_F_a F3 349, c2 x hx, zm_F_a F1 348]
  have t34 : ∀ r i, r = 3 ∨ r = 4 → zv_I g4 r i = zv_I g r i := fun r i hr => (t5I r i (by omega)).trans ((lo2.1 r i (by omega)).trans (zI r i (fun q => by omega)))
  -- from the head on
  have rest : ∀ (g6 k6 : zv_H), zc_A g6 → zt_hf b g4 g6 → zm_F [348, 360] [19, 30, 31, 32, 33, 34, 35, 37, 38] k5' k6 → ((∃ f t E, zt_hdd b (zv_I g 6) nn g6 k6 f t E) ∨ zt_bd (zv_I g 6) nn g6 k6) → ∃ (v : Int) (g' k' : zv_H) (a' b' : Nat), L8_load_54 (d + 27) 1 nn 0 g6 = some (some (zv_i v), g') ∧ L9_load_182 (D + 27) 347 k6 = some (some (zv_i v), k') ∧ zt_GG m a' b' g' k' := by
    intro g6 k6 A6 J6 F6 o6
    have h1 := zt_hf_1 hb J6
    have t36 : ∀ r i, r = 3 ∨ r = 4 → zv_I g6 r i = zv_I g r i := fun r i hr => (J6.2.2 r i (fun q => by omega) (by omega) (by omega) (fun q => by omega) (by omega) (by omega) (by omega) (by omega) (by omega)).trans (t34 r i hr)
    have hw : ∀ k7 : zv_H, zv_I k7 347 20 = zv_I k6 347 20 → zv_I k7 361 = zv_I k6 361 → ∀ g' k' : zv_H, (∀ r i, r = 3 ∨ r = 4 → zv_I g' r i = zv_I g r i) → zv_I k' 347 20 = zv_I k7 347 20 → zv_I k' 361 = zv_I k7 361 → zt_wt g' k' := fun k7 y1 y2 g' k' hg x1 x2 => zt_wt_k (zt_GG_wt S) hg (by rw [x1, y1, zm_F_g F6 20, zm_F_g F5 20, zm_F_g F03 20]) (by rw [x2, y2, zm_F_a F6 361, zm_F_a F5 361, zm_F_a F03 361])
    have O6 : zt_H a (zv_I k 348) g6 := zt_H_hf hb lab.2.2 O5 J6
    have r36 : zv_R g6 1 3 = a := (h1.2.1 1 3).trans r35
    have r46 : zv_R g6 1 4 = b := (h1.2.1 1 4).trans r45
    have l6 : zv_I g6 1 7 = 1 := (h1.1 7).trans l5
    have K6 := zm_K_F K5 F6
    have bad : ∀ g7 k7 : zv_H, zt_lo0 a b (zv_I g) (zv_I k 348) (zv_I g 6) nn k6 g7 k7 → ∃ (v : Int) (g' k' : zv_H) (a' b' : Nat), L8_load_117 (d + 27) 1 g7 = some (some (zv_i v), g') ∧ L9_load_203 (D + 27) 347 k7 = some (some (zv_i v), k') ∧ zt_GG m a' b' g' k' := fun g7 k7 o => by
      obtain ⟨v, g', k', z1, z2, z3⟩ := zt_GG_0 (m := m) (d := d + 20) (D := D + 16) (zt_GG_ab S) o (fun x hx => by rw [zm_F_a (zt_lo0_F o) 349, zm_F_a F6 349, k349 x hx]) (zt_GG_n1 S) (zt_GG_n2 S) (hw k7 (zm_F_g (zt_lo0_F o) 20) (zm_F_a (zt_lo0_F o) 361))
      exact ⟨v, g', k', a, b, z1, z2, z3⟩
    rcases o6 with ⟨f, t, E, hd⟩ | B6
    · have p : zt_lp a b (zv_I g) (zv_I k 348) (zv_I g 6) nn k6 0 g6 k6 f t E := ⟨A6, zt_hdd_H hd, O6, zt_hdd_G hd, zt_hdd_R hd, K6, zm_F_r _ _ k6, Nat.zero_le _, by rw [zt_hdd_e1 hd]; decide, by rw [zt_hdd_e2 hd]; decide, r36, r46, l6, t36⟩
      obtain ⟨g7, k7, z1, z2, z3⟩ := zj_lines (d := d + 20) (D := D + 16) hb lab.2.2 nn 0 g6 k6 f t E (Nat.sub_le _ _) p
      have z1' : L8_load_54 (d + 27) 1 nn 0 g6 = L8_load_117 (d + 27) 1 g7 := z1
      have z2' : L9_load_182 (D + 27) 347 k6 = L9_load_203 (D + 27) 347 k7 := z2
      rw [z1', z2']
      rcases z3 with o | o
      · have hM7 := zm_F_M (zt_lo1_F o) (zm_F_M F6 hM5)
        obtain ⟨v, g', k', w1, w2, w3⟩ := zt_GG_1 (m := m) (d := d + 20) (D := D + 16) (zt_GG_ab S) o hM7 (hw k7 (zm_F_g (zt_lo1_F o) 20) (zm_F_a (zt_lo1_F o) 361))
        exact ⟨v, g', k', b, a, w1, w2, w3⟩
      · exact bad g7 k7 o
    · obtain ⟨z1, z2⟩ := zj_lend (d := d + 20) (D := D + 16) B6 nn 0
      have B7 := zt_bd_ms B6
      have z1' : L8_load_54 (d + 27) 1 nn 0 g6 = L8_load_117 (d + 27) 1 g6 := z1
      have z2' : L9_load_182 (D + 27) 347 k6 = L9_load_203 (D + 27) 347 (zt_ms 0 2 k6) := z2
      rw [z1', z2']
      exact bad g6 _ ⟨A6, O6, zm_K_F K6 (zt_ms_F 0 2 k6), zm_F_s (zt_ms_F 0 2 k6) rfl rfl, r36, r46, l6, B7.1, B7.2, fun i hi => (h1.2.2 i hi).trans (zt_sc_nr sc5 i hi), t36⟩
  obtain ⟨g6', y6', Q6⟩ := zc_C3_head (d := d) A4 zc_h3 hb
  rcases o5 with ⟨w5, f, t, E, G5⟩ | ⟨w5, B5⟩
  · obtain ⟨g6, k6, z1, z2, z3, z4, z5⟩ := zj_head (d := d) (D := D) G5 K5 R5 (by rw [zm_F_g F5 37, v37]) sc5 (by rw [c5]; exact sa) (by rw [c5]; exact c43) T5
    have eg6 : g6' = g6 := Option.some.inj (y6'.symm.trans z1)
    subst eg6
    rw [zm_e z1] at qC
    obtain ⟨v, g', k', a', b', x1, x2, x3⟩ := rest g6' k6 Q6.2 z3 z4 z5
    exact ⟨v, g', k', a', b', finC (qC.trans x1), finR ((qR.trans z2).trans x2), x3⟩
  · -- no TOKEN at all
    have f0 := zt_bd_f0 B5
    have eh : C3_head (d + 27) 5 b g4 = some g4 := lC3_head (zl_ob L5 zt_lay5) (by
      rw [qE3_head, zm_e (zl_gI L5 zt_lay5 8), if_neg (by omega), zt_52_b B5])
    rw [zm_e eh] at qC
    rw [zm_e (zt_which_b (d := D + 26) B5 zm_l368 rfl)] at qR
    dsimp only at qR
    rw [if_neg (by decide), zt_156_b B5] at qR
    obtain ⟨v, g', k', a', b', x1, x2, x3⟩ := rest g4 k5' A4 (zt_hf_r b g4) (zm_F_r _ _ k5') (Or.inr B5)
    exact ⟨v, g', k', a', b', finC (qC.trans x1), finR (qR.trans x2), x3⟩
end
