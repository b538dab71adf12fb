/-! ===== the tie: the head of a TEXT, whole ===== -/
section
variable {b : Nat} {T : Nat → Int} {n : Nat} {g k : zv_H} {f t E : Nat}
/-- behind a fault the reference writes a START yet -/
theorem zt_104_b {D : Nat} (B : zt_bd T n g k) (h19 : zv_I k 347 30 = 0 → 0 ≤ zv_I k 347 19 ∧ zv_I k 347 19 ≤ 40) : ∃ k', L9_load_104 (D + 27) 347 0 k = L9_load_182 (D + 27) 347 k' ∧ zm_F [348] [30, 31] k k' ∧ zt_bd T n g k' := by
  have hM := zt_ty_M (zt_bd_Y B)
  have fin : ∀ k1 : zv_H, zm_F [348] [] k k1 → L9_load_104 (D + 27) 347 0 k = L9_load_140 (D + 27) 347 k1 → ∃ k', L9_load_104 (D + 27) 347 0 k = L9_load_182 (D + 27) 347 k' ∧ zm_F [348] [30, 31] k k' ∧ zt_bd T n g k' := fun k1 F1 e1 => by
    have B1 : zt_bd T n g k1 := zt_bd_x B rfl rfl (fun _ _ => rfl) (fun _ => rfl) F1
    have hM1 := zm_F_M F1 hM
    have F2 : zm_F [348] [] k1 (zv_sI k1 348 437 (zv_I k1 347 19)) := zm_F_I (zm_F_r _ _ k1) rfl _ _
    have B2 : zt_bd T n g (zv_sI k1 348 437 (zv_I k1 347 19)) := zt_bd_x B1 rfl rfl (fun _ _ => rfl) (fun _ => rfl) F2
    have B3 := zt_bd_ms B2
    have e2 := zt_140 (D := D + 26) hM1 rfl
    rw [zm_e (zt_takes_b (D := D + 21) B2 59), zt_156_b B3.1] at e2
    exact ⟨_, e1.trans e2, zm_F_t (zm_F_s F1 rfl rfl) (zm_F_t (zm_F_s F2 rfl rfl) (zm_F_s (zt_ms_F 0 2 _) rfl rfl)), B3.1⟩
  by_cases c : zv_I k 347 30 = 0
  · have h := h19 c
    obtain ⟨m, em⟩ : ∃ m : Nat, zv_I k 347 19 = m := ⟨(zv_I k 347 19).toNat, by omega⟩
    obtain ⟨k1, e1, F1, _, _⟩ := zt_104 (D := D + 26) (m := m) (by omega) m 0 k (Nat.zero_add m) hM c em
    exact fin k1 F1 e1
  · refine fin k (zm_F_r _ _ k) ?_
    rw [qL9_load_104, zm_e (zm_gI hM 19)]
    by_cases c2 : (0 : Int) < zv_I k 347 19
    · rw [if_pos c2, zm_e (zm_gI hM 30), if_neg c]
    · rw [if_neg c2]
theorem zj_head {d D : Nat} (G : zt_gd T n g k f t E) (K : zm_K k) (R : zm_RI k) (h37 : zv_I k 347 37 = 0) {wd0 : Nat → Int} (B : zt_sc b 0 wd0 g) (A : zt_sa (zv_I k 348) 0 wd0) (c4 : zv_I k 348 4 = 0) (S : zt_T0 b zt_usual g) : ∃ g' k', C3_head (d + 27) 5 b g = some g' ∧ ((C9_which (D + 27) 347 368 k).bind fun q8 => if q8.1 = 0 then (C9_reads (D + 27) 347 q8.2).bind fun g9 => (C9_takesWord (D + 27) 347 40 g9).bind fun g10 => L9_load_104 (D + 27) 347 0 g10 else L9_load_156 (D + 27) 347 q8.2) = L9_load_182 (D + 27) 347 k' ∧ zt_hf b g g' ∧ zm_F [348, 360] [19, 30, 31, 32, 33, 34, 35, 37, 38] k k' ∧ ((∃ f' t' E', zt_hdd b T n g' k' f' t' E') ∨ zt_bd T n g' k') := by
  have hb := zt_sc_la B
  have gL := zt_tx_L (zt_gd_X G)
  have hM := zt_ty_M (zt_gd_Y G)
  obtain ⟨v, ew, hw⟩ := zt_oth (d := d + 22) (D := D + 26) G K
  have qC := qE3_head (d + 26) 5 b g
  rw [zm_e (zl_gI gL zt_lay5 8), zt_gd_f1 G, if_pos rfl] at qC
  have fin : ∀ {g' : zv_H}, E3_head (d + 26) 5 b g = some (none, g') → C3_head (d + 27) 5 b g = some g' := fun {g'} h => lC3_head (zl_ob gL zt_lay5) h
  rw [zm_e ew]
  dsimp only
  rcases hw 0 (by decide) with ⟨p1, p2, p3⟩ | ⟨p1, p2, p3⟩
  rotate_left
  · -- no start
    rw [zm_e (show C3_is (d + 26) 5 1000000 g = some (0, g) from p3)] at qC
    dsimp only at qC
    rw [if_pos rfl] at qC
    rw [if_neg (show ¬ v = 0 from p1)]
    obtain ⟨g', k', y1, y2, y3, y4, y5⟩ := zj_head52 (d := d) (D := D) G K R h37 B A c4 S (by decide)
    exact ⟨g', k', fin (qC.trans y1), y2, zt_hf_tj y3, zm_F_s y4 rfl rfl, y5⟩
  rw [zm_e (show C3_is (d + 26) 5 1000000 g = some (1, g) from p3)] at qC
  dsimp only at qC
  rw [if_neg (by decide)] at qC
  rw [if_pos (show v = 0 from p1)]
  have t1 : t = 1 := p2.1
  obtain ⟨v1, g1, k1, n1, r1, f1, F1, R1, o1⟩ := zj_nx3 (d := d + 24) (D := D + 22) G R (by rw [t1]; decide)
  have gL1 := zt_L_12 gL f1.1 f1.2.1
  have hM1 := zm_F_M F1 hM
  rw [zm_e n1] at qC
  dsimp only at qC
  rw [zm_e r1]
  have F1' : zm_F [348, 360] [19, 30, 31, 32, 33, 34, 35, 37, 38] k k1 := zm_F_s F1 rfl rfl
  have c348 : zv_I k1 348 = zv_I k 348 := zm_F_a F1 348
  rcases o1 with ⟨w1, f1', t1', E1', G1, l1⟩ | ⟨w1, B1⟩
  rotate_left
  · rw [if_pos w1, zt_52_b B1] at qC
    obtain ⟨k2, e2, F2, B2, p2'⟩ := zt_word_b (D := D + 21) B1 40
    obtain ⟨k3, e3, F3, B3⟩ := zt_104_b (D := D) B2 (fun z => absurd z (by omega))
    rw [zm_e e2]
    exact ⟨g1, k3, fin qC, e3, zt_hf_rf f1, zm_F_t F1' (zm_F_t (zm_F_s F2 rfl rfl) (zm_F_s F3 rfl rfl)), Or.inr B3⟩
  rw [if_neg (by omega)] at qC
  obtain ⟨bv, g2, k2, a1, a2, a3, a4, a5⟩ := zj_word2 (d := d + 23) (D := D + 21) G1 (most := 40) (by decide)
  obtain ⟨k2', e2', _, ok2, w19⟩ := zm_takesWord hM1 (D + 21) R1 (by rw [zt_gd_f2 G1]; exact Int.le_refl _) (most := 40) (by decide)
  have ek : k2' = k2 := Option.some.inj (e2'.symm.trans a2)
  subst ek
  have gL2 := zt_L_12 gL1 a3.1 a3.2.1
  rw [zm_e (show C3_spelled (d + 26) 5 40 g1 = some (bv, g2) from a1)] at qC
  dsimp only at qC
  rw [zm_e (show C9_takesWord (D + 27) 347 40 k1 = some k2' from a2)]
  have F2 : zm_F [348, 360] [19, 30, 31, 32, 33, 34, 35, 37, 38] k k2' := zm_F_t F1' (zm_F_s a4 rfl rfl)
  have J2 : zt_hf b g g2 := zt_hf_t (zt_hf_rf f1) (zt_hf_w a3)
  rcases a5 with ⟨b1, wd, h19, _, Em, ⟨lt, lw⟩, f2, t2, E2, G2, l2⟩ | ⟨b0, B2⟩
  rotate_left
  · rw [if_pos b0, zt_52_b B2] at qC
    obtain ⟨k3, e3, F3, B3⟩ := zt_104_b (D := D) B2 w19
    exact ⟨g2, k3, fin qC, e3, J2, zm_F_t F2 (zm_F_s F3 rfl rfl), Or.inr B3⟩
  rw [if_neg (by omega)] at qC
  have hM2 := zt_ty_M (zt_gd_Y G2)
  have ecl := zt_closed (e := d + 24) G2
  -- the reference's START
  have m40 : E1' - f1' ≤ 40 := by omega
  obtain ⟨k3, e3, F3, x3, l3⟩ := zt_104 (D := D + 26) m40 (E1' - f1') 0 k2' (Nat.zero_add _) hM2 (zt_gd_f2 G2) h19
  have hM3 := zm_F_M F3 hM2
  have e4 := zt_140 (D := D + 26) hM3 ((zm_F_g F3 19).trans h19)
  have F4 : zm_F [348] [] k3 (zv_sI k3 348 437 ((E1' - f1' : Nat) : Int)) := zm_F_I (zm_F_r _ _ k3) rfl _ _
  have G4 : zt_gd T n g2 (zv_sI k3 348 437 ((E1' - f1' : Nat) : Int)) f2 t2 E2 := zt_gd_x (zt_gd_x G2 rfl rfl (fun _ _ => rfl) (fun _ => rfl) F3) rfl rfl (fun _ _ => rfl) (fun _ => rfl) F4
  have F04 := zm_F_t F2 (zm_F_t (zm_F_s F3 rfl rfl) (zm_F_s F4 rfl rfl))
  have c2 : zv_I k2' 348 = zv_I k 348 := (zm_F_a a4 348).trans c348
  have v4 : ∀ x, zv_I (zv_sI k3 348 437 ((E1' - f1' : Nat) : Int)) 348 x = if x = 437 then ((E1' - f1' : Nat) : Int) else zv_I k3 348 x := fun x => by
    by_cases q : x = 437
    · rw [q, zy_I, if_pos rfl]
    · rw [zy_In _ _ (fun z => q z.2), if_neg q]
  have A4 : zt_sa (zv_I (zv_sI k3 348 437 ((E1' - f1' : Nat) : Int)) 348) (E1' - f1') (zv_I k2' 360) := by
    refine zt_sa_m A (by rw [v4, if_pos rfl]) (fun j hj => ?_) (fun x x1 x2 => ?_) m40
    · rw [v4, if_neg (by omega), l3 j (Nat.zero_le _) hj]
    · rw [v4, if_neg x1, x3 x (fun q => x2 (by omega)), c2]
  have c44 : zv_I (zv_sI k3 348 437 ((E1' - f1' : Nat) : Int)) 348 4 = 0 := by
    rw [v4, if_neg (by decide), x3 4 (fun q => by omega), c2, c4]
  have R4 : zm_RI (zv_sI k3 348 437 ((E1' - f1' : Nat) : Int)) := zm_RI_F (zm_RI_F ok2.1 F3) F4
  have h374 : zv_I (zv_sI k3 348 437 ((E1' - f1' : Nat) : Int)) 347 37 = 0 := by rw [zm_F_g F4 37, zm_F_g F3 37, zm_F_g a4 37, zm_F_g F1 37, h37]
  have K4 : zm_K (zv_sI k3 348 437 ((E1' - f1' : Nat) : Int)) := zm_K_F (zm_K_F (zm_K_F (zm_K_F K F1) a4) F3) F4
  generalize zv_sI k3 348 437 ((E1' - f1' : Nat) : Int) = k4 at e4 F4 G4 F04 A4 c44 R4 h374 K4
  have top : ∀ {o : zv_O}, ((C9_takes (D + 26 + 1) 347 59 k4).bind fun g3 => L9_load_156 (D + 26 + 1) 347 g3) = o → L9_load_104 (D + 27) 347 0 k2' = o := fun {o} h => (e3.trans e4).trans h
  by_cases c : t2 = 3 ∧ T f2 = 59
  rotate_left
  · rw [if_neg c] at ecl
    have bd := zj_fail G4 (w := 2) (by decide)
    rw [zm_e ecl] at qC
    dsimp only at qC
    rw [if_pos rfl, zt_52_b bd] at qC
    refine ⟨_, zt_ms 0 2 k4, fin qC, top ?_, zt_hf_t J2 (zt_hf_rf (zt_rf_fail g2 2)), zm_F_t F04 (zm_F_s (zt_ms_F 0 2 k4) rfl rfl), Or.inr bd⟩
    rw [zm_e (zt_takesR0 (D := D + 21) G4 (x := 59) (by decide) c), zt_156_b bd]
  rw [if_pos c] at ecl
  -- the class's START
  have B2 : zt_sc b 0 wd0 g2 := by
    have e9 : ∀ r i, 9 ≤ r → zv_I g2 r i = zv_I g r i := fun r i hr => (a3.2.2 r i (fun q => absurd q.1 (by omega)) (fun q => absurd q.1 (by omega)) (by omega)).trans (f1.2.2 r i (fun q => absurd q.1 (by omega)))
    have e2 : g2.2.2 = g.2.2 := a3.2.1.trans f1.2.1
    have h : zt_tj b g ((g.1, ((fun r i => if r < 9 then zv_I g r i else zv_I g2 r i), g.2.2)) : zv_H) := ⟨rfl, rfl, fun r i _ _ _ _ => by
      show (if r < 9 then zv_I g r i else zv_I g2 r i) = zv_I g r i
      by_cases z : r < 9
      · rw [if_pos z]
      · rw [if_neg z]
        exact e9 r i (by omega)⟩
    have hb' := zc_lh hb
    have eI : ∀ x i, zv_I g2 (b + x) i = zv_I g (b + x) i := fun x i => e9 _ _ (by omega)
    have eS : ∀ j i, j < 48 → zv_I g2 (zc_stt b j) i = zv_I g (zc_stt b j) i := fun j i hj => e9 _ _ (by have := zc_sttb (a := b) hj; omega)
    have eJ : ∀ r i, zv_J g2 r i = zv_J g r i := fun r i => by unfold zv_J; rw [e2]
    have eR : ∀ r i, zv_R g2 r i = zv_R g r i := fun r i => by unfold zv_R; rw [e2]
    exact ⟨hb, fun i hi => (eS i 0 hi).trans (zt_sc_nr B i hi), fun i hi => (eS i 3 hi).trans (zt_sc_lv B i hi), (eR _ _).trans (zt_sc_pa B), (eR _ _).trans (zt_sc_fi B), (eI _ _).trans (zt_sc_i6 B), (eI _ _).trans (zt_sc_i7 B), (eI _ _).trans (zt_sc_i8 B), (eI _ _).trans (zt_sc_i9 B), (eI _ _).trans (zt_sc_ia B), (eI _ _).trans (zt_sc_ib B), (eI _ _).trans (zt_sc_ic B), (eI _ _).trans (zt_sc_id B), (eI _ _).trans (zt_sc_ie B), (eJ _ _).trans (zt_sc_jg B), (eJ _ _).trans (zt_sc_jh B), fun i hi => (eI _ _).trans (zt_sc_gl B i hi), fun i hi => (eI _ _).trans (zt_sc_dc B i hi), (eR _ _).trans (zt_sc_he B), (e9 _ _ (by omega)).trans (zt_sc_nw B), (e9 _ _ (by omega)).trans (zt_sc_ct B), (eI _ _).trans (zt_sc_ns B), (eI _ _).trans (zt_sc_vs B)⟩
  obtain ⟨g3, e5, sw, B3⟩ := zt_startWith (d := d + 23) gL2 B2 wd
  have hb' := zc_lh hb
  have s5 : ∀ i, zv_I g3 5 i = zv_I g2 5 i := fun i => sw.2.2 5 i (fun q => by omega) (by omega) (by omega)
  have s6 : ∀ i, zv_I g3 6 i = zv_I g2 6 i := fun i => sw.2.2 6 i (fun q => by omega) (by omega) (by omega)
  have G5 : zt_gd T n g3 k4 f2 t2 E2 := zt_gd_x G4 sw.1 sw.2.1 (fun i _ => s5 i) s6 (zm_F_r [] [] k4)
  obtain ⟨v5, g5, k5, n5, r5, f5, F5, R5, o5⟩ := zj_nx3 (d := d + 24) (D := D + 21) G5 R4 (by rw [c.1]; decide)
  have e7 : zv_gR g2 5 3 1 = some 7 := zl_gF gL2 zt_lay5 1 2
  rw [zm_e ecl] at qC
  dsimp only at qC
  rw [if_neg (by decide), zm_e e7, zm_e (show C0_startWith (d + 26) b 7 g2 = some g3 from e5), zm_e n5] at qC
  have J5 : zt_hf b g g5 := zt_hf_t (zt_hf_t J2 (zt_hf_sw sw)) (zt_hf_rf f5)
  have F05 := zm_F_t F04 (zm_F_s F5 rfl rfl : zm_F [348, 360] [19, 30, 31, 32, 33, 34, 35, 37, 38] k4 k5)
  have topR : L9_load_104 (D + 27) 347 0 k2' = L9_load_156 (D + 27) 347 k5 := top (by rw [zm_e (zt_takesR1 (D := D + 21) G5 (x := 59) (by decide) c r5)])
  rcases o5 with ⟨w5, f5', t5', E5', G6, l5⟩ | ⟨w5, B5⟩
  rotate_left
  · rw [zt_52_b B5] at qC
    rw [zt_156_b B5] at topR
    exact ⟨g5, k5, fin qC, topR, J5, F05, Or.inr B5⟩
  have c5 : zv_I k5 348 = zv_I k4 348 := zm_F_a F5 348
  have S2 : zt_T0 b zt_usual g2 := zt_T0_k S (fun r i hr => (a3.2.2 r i (fun q => absurd q.1 (by omega)) (fun q => absurd q.1 (by omega)) (by omega)).trans (f1.2.2 r i (fun q => absurd q.1 (by omega)))) hb
  have S3 : zt_T0 b zt_usual g3 := by
    have e22 : ∀ i, zv_I g3 (b + 22) i = zv_I g2 (b + 22) i := fun i => sw.2.2 _ _ (fun q => by omega) (by omega) (by omega)
    have e23 : ∀ i, zv_I g3 (b + 23) i = zv_I g2 (b + 23) i := fun i => sw.2.2 _ _ (fun q => by omega) (by omega) (by omega)
    have e24 : ∀ i, zv_I g3 (b + 24) i = zv_I g2 (b + 24) i := fun i => sw.2.2 _ _ (fun q => by omega) (by omega) (by omega)
    exact ⟨(e22 3).trans (zt_T0_sz S2), fun i v hi => by rw [e23, e24]; exact zt_T0_st S2 i v hi, zt_T0_rg S2⟩
  obtain ⟨g6, k6, y1, y2, y3, y4, y5⟩ := zj_head52 (d := d) (D := D) G6 (zm_K_F K4 F5) R5 ((zm_F_g F5 37).trans h374) (zt_sc_tj B3 (zt_tj_rf f5)) (by rw [c5]; exact A4) (by rw [c5]; exact c44) (zt_T0_rf S3 f5 hb) m40
  exact ⟨g6, k6, fin (qC.trans y1), topR.trans y2, zt_hf_t J5 (zt_hf_tj y3), zm_F_t F05 (zm_F_s y4 rfl rfl), y5⟩
end
