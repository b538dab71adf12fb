/-! ===== the tie: the head of a TEXT: its TEST ===== -/
/-- what the head changes in the class -/
def zt_hf (b : Nat) (g g' : zv_H) : Prop := g'.1 = g.1 ∧ g'.2.2 = g.2.2 ∧ ∀ r k, ¬ (r = 5 ∧ 4 ≤ k) → r ≠ 7 → r ≠ 8 → ¬ (r = b + 1 ∧ (k = 9 ∨ k = 12)) → r ≠ b + 3 → r ≠ b + 5 → r ≠ b + 22 → r ≠ b + 23 → r ≠ b + 24 → zv_I g' r k = zv_I g r k
theorem zt_hf_r (b : Nat) (g : zv_H) : zt_hf b g g := ⟨rfl, rfl, fun _ _ _ _ _ _ _ _ _ _ _ => rfl⟩
theorem zt_hf_t {b : Nat} {g g1 g2 : zv_H} (f : zt_hf b g g1) (h : zt_hf b g1 g2) : zt_hf b g g2 := ⟨h.1.trans f.1, h.2.1.trans f.2.1, fun r k q1 q2 q3 q4 q5 q6 q7 q8 q9 => (h.2.2 r k q1 q2 q3 q4 q5 q6 q7 q8 q9).trans (f.2.2 r k q1 q2 q3 q4 q5 q6 q7 q8 q9)⟩
theorem zt_hf_tj {b : Nat} {g g' : zv_H} (f : zt_tj b g g') : zt_hf b g g' := ⟨f.1, f.2.1, fun r k q1 _ _ _ _ _ q7 q8 q9 => f.2.2 r k (fun z => q1 ⟨z.1, z.2.1⟩) q7 q8 q9⟩
theorem zt_hf_w {b : Nat} {g g' : zv_H} (f : zt_w5 g g') : zt_hf b g g' := ⟨f.1, f.2.1, fun r k q1 q2 q3 _ _ _ _ _ _ => f.2.2 r k (fun z => q1 ⟨z.1, z.2.1⟩) (fun z => q2 z.1) q3⟩
theorem zt_hf_sw {b : Nat} {g g' : zv_H} (f : zt_sw b g g') : zt_hf b g g' := ⟨f.1, f.2.1, fun r k _ _ _ q4 q5 q6 _ _ _ => f.2.2 r k q4 q5 q6⟩
theorem zt_hf_rf {b : Nat} {g g' : zv_H} (f : zt_rf g g') : zt_hf b g g' := zt_hf_w (zt_w5_rf f)
theorem zt_in_b {b : Nat} (hb : zv_lay b = (1, 0)) {x : Nat} (hx : x = 1 ∨ x = 3 ∨ x = 5 ∨ x = 22 ∨ x = 23 ∨ x = 24) : zt_in b (b + x) := by
  rcases zc_lh hb with q | q <;> rw [q] <;> rcases hx with z | z | z | z | z | z <;> rw [z] <;> exact ⟨by decide, by decide, rfl⟩
theorem zt_H_hf {a b : Nat} {c : Nat → Int} {g g' : zv_H} (hb : zv_lay b = (1, 0)) (hab : a ≠ b) (H : zt_H a c g) (f : zt_hf b g g') : zt_H a c g' := by
  have hb' := zc_lh hb
  have H1 : zt_H a c ((g.1, ((fun r k => if r < 9 then zv_I g' r k else zv_I g r k), g.2.2)) : zv_H) := zt_H_lo H rfl (fun r k hr => if_neg (by omega))
  refine zt_H_k H1 (b := b) ⟨f.1, ?_, fun r k hx hr => ?_, fun r _ _ => ?_, fun r _ _ _ => ?_⟩ hab
  · show g'.2.2.2.2 = g.2.2.2.2
    rw [f.2.1]
  · show zv_I g' r k = if r < 9 then zv_I g' r k else zv_I g r k
    by_cases c : r < 9
    · rw [if_pos c]
    · rw [if_neg c]
      have ne : ∀ x, x = 1 ∨ x = 3 ∨ x = 5 ∨ x = 22 ∨ x = 23 ∨ x = 24 → r ≠ b + x := fun x hx e => hr (by rw [e]; exact zt_in_b hb hx)
      exact f.2.2 r k (fun q => by omega) (by omega) (by omega) (fun q => ne 1 (Or.inl rfl) q.1) (ne 3 (Or.inr (Or.inl rfl))) (ne 5 (Or.inr (Or.inr (Or.inl rfl)))) (ne 22 (by decide)) (ne 23 (by decide)) (ne 24 (by decide))
  · show g'.2.2.1 r = g.2.2.1 r
    rw [f.2.1]
  · show g'.2.2.2.1 r = g.2.2.2.1 r
    rw [f.2.1]
theorem zt_hf_1 {b : Nat} (hb : zv_lay b = (1, 0)) {g g' : zv_H} (f : zt_hf b g g') : (∀ i, zv_I g' 1 i = zv_I g 1 i) ∧ (∀ r i, zv_R g' r i = zv_R g r i) ∧ ∀ i, i < 48 → zv_I g' (zc_stt b i) 0 = zv_I g (zc_stt b i) 0 := by
  have hb' := zc_lh hb
  refine ⟨fun i => f.2.2 1 i (fun q => absurd q.1 (by decide)) (by decide) (by decide) (fun q => by omega) (by omega) (by omega) (by omega) (by omega) (by omega), fun r i => by unfold zv_R; rw [f.2.1], fun i hi => ?_⟩
  have sl := (zc_stl hb hi).1
  have sb := zc_sttb (a := b) hi
  have no : ∀ x, zv_lay (b + x) ≠ (1, 5) → zc_stt b i ≠ b + x := fun x hx e => hx (by rw [← e]; exact sl)
  have l : zv_lay (b + 3) ≠ (1, 5) ∧ zv_lay (b + 5) ≠ (1, 5) ∧ zv_lay (b + 22) ≠ (1, 5) ∧ zv_lay (b + 23) ≠ (1, 5) ∧ zv_lay (b + 24) ≠ (1, 5) := by rcases hb' with q | q <;> rw [q] <;> decide
  exact f.2.2 _ 0 (fun q => absurd q.2 (by decide)) (by omega) (by omega) (fun q => by rcases q.2 with z | z <;> exact absurd z (by decide)) (no 3 l.1) (no 5 l.2.1) (no 22 l.2.2.1) (no 23 l.2.2.2.1) (no 24 l.2.2.2.2)
theorem zt_sc_tj {b m : Nat} {wd : Nat → Int} {g g' : zv_H} (B : zt_sc b m wd g) (f : zt_tj b g g') : zt_sc b m wd g' := by
  have hb := zt_sc_la B
  have hb' := zc_lh hb
  have l : zv_lay (b + 22) ≠ (1, 5) ∧ zv_lay (b + 23) ≠ (1, 5) ∧ zv_lay (b + 24) ≠ (1, 5) := by rcases hb' with q | q <;> rw [q] <;> decide
  have e : ∀ r k, 9 ≤ r → r ≠ b + 22 → r ≠ b + 23 → r ≠ b + 24 → zv_I g' r k = zv_I g r k := fun r k h1 => f.2.2 r k (fun q => by omega)
  have st : ∀ i k, i < 48 → zv_I g' (zc_stt b i) k = zv_I g (zc_stt b i) k := fun i k hi => by
    have sl := (zc_stl hb hi).1
    have sb := zc_sttb (a := b) hi
    exact e _ _ (by omega) (fun z => l.1 (by rw [← z]; exact sl)) (fun z => l.2.1 (by rw [← z]; exact sl)) (fun z => l.2.2 (by rw [← z]; exact sl))
  have eJ : ∀ r k, zv_J g' r k = zv_J g r k := fun r k => by unfold zv_J; rw [f.2.1]
  have eR : ∀ r k, zv_R g' r k = zv_R g r k := fun r k => by unfold zv_R; rw [f.2.1]
  have s1 : ∀ k, zv_I g' (b + 1) k = zv_I g (b + 1) k := fun k => st 0 k (by decide)
  exact ⟨hb, fun i hi => (st i 0 hi).trans (zt_sc_nr B i hi), fun i hi => (st i 3 hi).trans (zt_sc_lv B i hi), (eR _ _).trans (zt_sc_pa B), (eR _ _).trans (zt_sc_fi B), (s1 _).trans (zt_sc_i6 B), (s1 _).trans (zt_sc_i7 B), (s1 _).trans (zt_sc_i8 B), (s1 _).trans (zt_sc_i9 B), (s1 _).trans (zt_sc_ia B), (s1 _).trans (zt_sc_ib B), (s1 _).trans (zt_sc_ic B), (s1 _).trans (zt_sc_id B), (s1 _).trans (zt_sc_ie B), (eJ _ _).trans (zt_sc_jg B), (eJ _ _).trans (zt_sc_jh B), fun i hi => (e _ _ (by omega) (by omega) (by omega) (by omega)).trans (zt_sc_gl B i hi), fun i hi => (e _ _ (by omega) (by omega) (by omega) (by omega)).trans (zt_sc_dc B i hi), (eR _ _).trans (zt_sc_he B), (e _ _ (by omega) (by omega) (by omega) (by omega)).trans (zt_sc_nw B), (e _ _ (by omega) (by omega) (by omega) (by omega)).trans (zt_sc_ct B), (e _ _ (by omega) (by omega) (by omega) (by omega)).trans (zt_sc_ns B), (e _ _ (by omega) (by omega) (by omega) (by omega)).trans (zt_sc_vs B)⟩
theorem zt_sa_k {c c' : Nat → Int} {m : Nat} {wd : Nat → Int} (A : zt_sa c m wd) (h : ∀ i : Nat, i ≠ 4 → ¬ (8 ≤ i ∧ i < 408) → c' i = c i) : zt_sa c' m wd := by
  have o : ∀ s w : Int, zm_o c' s w = zm_o c s w := fun s w => h _ (by omega) (by omega)
  have O := zt_sa_O A
  exact ⟨⟨fun s s0 s1 => (o s 0).trans (O.1 s s0 s1), ⟨(o _ _).trans O.2.1.1, (o _ _).trans O.2.1.2.1, (o _ _).trans O.2.1.2.2.1, (o _ _).trans O.2.1.2.2.2⟩, (h 0 (by decide) (by omega)).trans O.2.2.1, (h 3 (by decide) (by omega)).trans O.2.2.2.1, (h 5 (by decide) (by omega)).trans O.2.2.2.2⟩, (h 1 (by decide) (by omega)).trans (zt_sa_e1 A), (h 2 (by decide) (by omega)).trans (zt_sa_e2 A), (o _ _).trans (zt_sa_o3 A), (o _ _).trans (zt_sa_o4 A), (o _ _).trans (zt_sa_o6 A), (o _ _).trans (zt_sa_o7 A), (o _ _).trans (zt_sa_oa A), (o _ _).trans (zt_sa_ob A), fun i hi => (o _ _).trans (zt_sa_lt A i hi)⟩
section
variable {b : Nat} {T : Nat → Int} {n : Nat} {g k : zv_H} {f t E m : Nat} {wd : Nat → Int}
theorem zt_closed {e : Nat} (G : zt_gd T n g k f t E) : C3_closed (e + 2) 5 g = if t = 3 ∧ T f = 59 then some (1, g) else some (0, zv_sI (zv_sI g 5 8 2) 5 9 (zv_I g 5 5)) := by
  have gL := zt_tx_L (zt_gd_X G)
  have es := zt_isSignC (d := e) G 59
  by_cases c : t = 3 ∧ T f = 59
  · rw [if_pos c] at es ⊢
    refine lC3_closed (zl_ob gL zt_lay5) ?_
    rw [qE3_closed, zm_e es]
    dsimp only
    rw [if_neg (by decide)]
  · rw [if_neg c] at es ⊢
    refine lC3_closed (zl_ob gL zt_lay5) ?_
    rw [qE3_closed, zm_e es]
    dsimp only
    rw [if_pos rfl, zm_e (zt_fail (d := e) gL 2)]
    dsimp only
    rw [if_pos rfl]
theorem zt_156_b {D : Nat} (B : zt_bd T n g k) : L9_load_156 (D + 27) 347 k = L9_load_182 (D + 27) 347 k := by
  rw [qL9_load_156, zm_e (zm_f40 (zt_ty_M (zt_bd_Y B))), zm_e (zt_which_b (d := D + 26) B zm_l368 rfl)]
  dsimp only
  rw [if_neg (by decide)]
theorem zt_52_b {d : Nat} (B : zt_bd T n g k) : L3_head_52 (d + 26) 5 b g = some (none, g) := by
  have f0 := zt_bd_f0 B
  rw [qL3_head_52, zm_e (zl_gI (zt_tx_L (zt_bd_X B)) zt_lay5 8), if_neg (by omega)]
/-- behind the head: all is well -/
def zt_hdd (b : Nat) (T : Nat → Int) (n : Nat) (g : zv_H) (k : zv_H) (f : Nat) (y : Nat) (E : Nat) : Prop := (zt_gd T n g k f y E) ∧ (zm_RI k) ∧ (zt_H b (zv_I k 348) g) ∧ (zv_I k 348 1 = 0) ∧ (zv_I k 348 2 = 0)
theorem zt_hdd_G {b : Nat} {T : Nat → Int} {n : Nat} {g : zv_H} {k : zv_H} {f : Nat} {y : Nat} {E : Nat} (t : zt_hdd b T n g k f y E) : zt_gd T n g k f y E := t.1
theorem zt_hdd_R {b : Nat} {T : Nat → Int} {n : Nat} {g : zv_H} {k : zv_H} {f : Nat} {y : Nat} {E : Nat} (t : zt_hdd b T n g k f y E) : zm_RI k := t.2.1
theorem zt_hdd_H {b : Nat} {T : Nat → Int} {n : Nat} {g : zv_H} {k : zv_H} {f : Nat} {y : Nat} {E : Nat} (t : zt_hdd b T n g k f y E) : zt_H b (zv_I k 348) g := t.2.2.1
theorem zt_hdd_e1 {b : Nat} {T : Nat → Int} {n : Nat} {g : zv_H} {k : zv_H} {f : Nat} {y : Nat} {E : Nat} (t : zt_hdd b T n g k f y E) : zv_I k 348 1 = 0 := t.2.2.2.1
theorem zt_hdd_e2 {b : Nat} {T : Nat → Int} {n : Nat} {g : zv_H} {k : zv_H} {f : Nat} {y : Nat} {E : Nat} (t : zt_hdd b T n g k f y E) : zv_I k 348 2 = 0 := t.2.2.2.2
theorem zt_us_ph : zt_ph zt_usual 0 := by
  have h : zt_pz 2 zt_usual := zt_pz_b (m := 1) (v := -2) (zt_pz_b (m := 1) (v := -2) (zt_pz_b (m := 1) (v := -2) (zt_pz_1 (m := 2) (v := 54) (by decide)) (zt_pz_1 (v := 27) (by decide)) (by decide) (by decide)) (zt_pz_1 (v := 28) (by decide)) (by decide) (by decide)) (zt_pz_1 (v := 145) (by decide)) (by decide) (by decide)
  have := h [] 0 (by decide) rfl
  rw [List.append_nil] at this
  exact this
/-- the head's TEST, for both -/
theorem zj_head52 {d D : Nat} (G : zt_gd T n g k f t E) (K : zm_K k) (R : zm_RI k) (h37 : zv_I k 347 37 = 0) (B : zt_sc b m wd g) (A : zt_sa (zv_I k 348) m wd) (c4 : zv_I k 348 4 = 0) (S : zt_T0 b zt_usual g) (hm : m ≤ 40) : ∃ g' k', L3_head_52 (d + 26) 5 b g = some (none, g') ∧ L9_load_156 (D + 27) 347 k = L9_load_182 (D + 27) 347 k' ∧ zt_tj b g g' ∧ zm_F [348] [30, 31, 32, 33, 34, 35, 37, 38] k k' ∧ ((∃ f' t' E', zt_hdd b T n g' k' f' t' E') ∨ zt_bd T n g' k') := by
  have hb := zt_sc_la B
  have gL := zt_tx_L (zt_gd_X G)
  have hM := zt_ty_M (zt_gd_Y G)
  obtain ⟨v, ew, hw⟩ := zt_oth (d := d + 22) (D := D + 26) G K
  have qC := qL3_head_52 (d + 26) 5 b g
  rw [zm_e (zl_gI gL zt_lay5 8), zt_gd_f1 G, if_pos rfl] at qC
  have qR := qL9_load_156 (D + 27) 347 k
  rw [zm_e (zm_f40 hM), zm_e ew] at qR
  dsimp only at qR
  rcases hw 1 (by decide) with ⟨p1, p2, p3⟩ | ⟨p1, p2, p3⟩
  rotate_left
  · -- no join
    rw [zm_e (show C3_is (d + 26) 5 1000001 g = some (0, g) from p3)] at qC
    dsimp only at qC
    rw [if_pos rfl] at qC
    rw [if_neg (show ¬ v = 1 from p1)] at qR
    have W := zt_sa_W A hm (by rw [c4]; decide) (Or.inl c4)
    obtain ⟨U, V, N⟩ := zt_alone A hm B W
    have J : zt_J b (zv_I k 348) g := ⟨zt_usual, ⟨zt_T0_sz S, by decide, zt_T0_st S, zt_T0_rg S, zt_us_ph⟩, Or.inl ⟨c4, rfl⟩⟩
    exact ⟨g, k, qC, qR, zt_tj_r b g, zm_F_r _ _ k, Or.inl ⟨f, t, E, G, R, ⟨U, J, V, N⟩, zt_sa_e1 A, zt_sa_e2 A⟩⟩
  rw [zm_e (show C3_is (d + 26) 5 1000001 g = some (1, g) from p3)] at qC
  dsimp only at qC
  rw [if_neg (by decide)] at qC
  rw [if_pos (show v = 1 from p1)] at qR
  have t1 : t = 1 := p2.1
  obtain ⟨v1, g1, k1, n1, r1, f1, F1, R1, o1⟩ := zj_nx3 (d := d + 24) (D := D + 22) G R (by rw [t1]; decide)
  have gL1 := zt_L_12 gL f1.1 f1.2.1
  have hM1 := zm_F_M F1 hM
  rw [zm_e n1] at qC
  dsimp only at qC
  rw [zm_e r1] at qR
  rcases o1 with ⟨w1, f1', t1', E1', G1, l1⟩ | ⟨w1, B1⟩
  rotate_left
  · rw [if_pos w1] at qC
    have tb := zt_test_b (D := D + 18) B1
    have B2 := zt_bd_ms B1
    rw [zm_e tb, zm_e (zt_takes_b (D := D + 21) B2.1 59), zt_ms_f B2.2] at qR
    exact ⟨g1, zt_ms 0 2 k1, qC, qR, zt_tj_rf f1, zm_F_t (zm_F_s F1 rfl rfl) (zm_F_s (zt_ms_F 0 2 k1) rfl rfl), Or.inr B2.1⟩
  obtain ⟨l22, _, _, _⟩ := zt_jn_l hb
  have e22 : zv_gR g1 b 0 8 = some (b + 22) := zl_gF gL1 hb 8 22
  have ec : C1_clear (d + 26) (b + 22) g1 = some (zv_sI g1 (b + 22) 3 0) := lC1_clear (zl_ob gL1 l22) (by
    rw [qE1_clear, zm_e (zl_pI gL1 l22 3 0)])
  have gL2 : zt_L (zv_sI g1 (b + 22) 3 0) := gL1
  have e22' : zv_gR (zv_sI g1 (b + 22) 3 0) b 0 8 = some (b + 22) := zl_gF gL2 hb 8 22
  rw [if_neg (by omega), zm_e e22, zm_e ec, zm_e e22'] at qC
  have J2 : zt_ja b g1 (zv_sI g1 (b + 22) 3 0) := ⟨rfl, rfl, fun r k q _ _ => zy_In _ _ (fun z => q z.1)⟩
  have S2 : zt_T0 b [] (zv_sI g1 (b + 22) 3 0) := zt_T0_0 (zy_I _ _ _ _)
  generalize zv_sI g1 (b + 22) 3 0 = g2 at qC gL2 J2 S2
  have G2 := zt_gd_ja hb G1 J2
  have c348 : zv_I k1 348 = zv_I k 348 := zm_F_a F1 348
  have cd0 : zm_cd (zv_I k 348) = [] := List.length_eq_zero_iff.mp (by rw [zt_cd_len, c4]; rfl)
  have tg : zt_tg b T n g2 k1 f1' t1' E1' := ⟨G2, zm_K_F K F1, by rw [c348, cd0]; exact S2, by rw [c348, c4]; exact Int.le_refl _, by rw [c348, c4]; omega⟩
  have h37' : zv_I k1 347 37 = 0 := (zm_F_g F1 37).trans h37
  obtain ⟨v3, g3, k3, s3, u3, to3⟩ := zj_tst (d := d) (D := D) hb tg h37'
  have hr1 := R1.2.1
  have P1 : zm_Pq k1 := ⟨⟨hM1, R1, zm_K_F K F1⟩, zt_gd_f2 G1, by rw [c348, c4]; exact Int.le_refl _, by rw [c348, c4]; omega⟩
  obtain ⟨k3', e3', Q3⟩ := zm_test D P1 h37'
  have ek : k3' = k3 := Option.some.inj (e3'.symm.trans u3)
  subst ek
  obtain ⟨_, _, R3, _, _, q3e⟩ := Q3
  have J3 : zt_tj b g g3 := zt_tj_t (zt_tj_rf f1) (zt_tj_t (zt_tj_ja J2) (zt_to_g to3))
  have F3 : zm_F [348] [30, 31, 32, 33, 34, 35, 37, 38] k k3' := zm_F_t (zm_F_s F1 rfl rfl) (zt_to_k to3)
  rw [zm_e s3] at qC
  dsimp only at qC
  rw [zm_e u3] at qR
  rcases zt_to_o to3 with ⟨w3, e, f3, t3, E3, ok⟩ | ⟨w3, B3⟩
  rotate_left
  · have B3' := zt_bd_ms (zt_bq_B B3)
    rw [if_pos w3] at qC
    rw [zm_e (zt_takes_b (D := D + 21) (zt_bq_B B3) 59)] at qR
    exact ⟨g3, zt_ms 0 2 k3', qC, qR, J3, zm_F_t F3 (zm_F_s (zt_ms_F 0 2 k3') rfl rfl), Or.inr B3'.1⟩
  have tg3 := zt_gk_t ok
  have G3 := zt_tg_G tg3
  have ecl := zt_closed (e := d + 24) G3
  rw [if_neg (by omega)] at qC
  by_cases c : t3 = 3 ∧ T f3 = 59
  rotate_left
  · rw [if_neg c] at ecl
    rw [zm_e ecl] at qC
    dsimp only at qC
    rw [if_pos rfl] at qC
    rw [zm_e (zt_takesR0 (D := D + 21) G3 (x := 59) (by decide) c)] at qR
    exact ⟨_, zt_ms 0 2 k3', qC, qR, zt_tj_t J3 (zt_tj_rf (zt_rf_fail g3 2)), zm_F_t F3 (zm_F_s (zt_ms_F 0 2 k3') rfl rfl), Or.inr (zj_fail G3 (by decide))⟩
  rw [if_pos c] at ecl
  obtain ⟨v4, g4, k4, n4, r4, f4, F4, R4, o4⟩ := zj_nx3 (d := d + 24) (D := D + 21) G3 R3 (by rw [c.1]; decide)
  rw [zm_e ecl] at qC
  dsimp only at qC
  rw [if_neg (by decide), zm_e n4] at qC
  rw [zm_e (zt_takesR1 (D := D + 21) G3 (x := 59) (by decide) c r4)] at qR
  have J4 : zt_tj b g g4 := zt_tj_t J3 (zt_tj_rf f4)
  have F04 : zm_F [348] [30, 31, 32, 33, 34, 35, 37, 38] k k4 := zm_F_t F3 (zm_F_s F4 rfl rfl)
  refine ⟨g4, k4, qC, qR, J4, F04, ?_⟩
  rcases o4 with ⟨w4, f4', t4', E4', G4, l4⟩ | ⟨w4, B4⟩
  rotate_left
  · exact Or.inr B4
  have c448 : zv_I k4 348 = zv_I k3' 348 := zm_F_a F4 348
  have A4 : zt_sa (zv_I k4 348) m wd := zt_sa_k A (fun i i1 i2 => by rw [c448, zt_gk_k ok i i1 i2, c348])
  have ecd : zm_cd (zv_I k4 348) = e := by
    rw [c448, zt_gk_e ok, c348, cd0]
    rfl
  have el := zt_gk_l ok
  have c175 := zt_c175 tg3
  have c40 := zt_tg_c0 tg3
  have elen : (e.length : Int) = zv_I k4 348 4 := by
    have := congrArg List.length ecd
    rw [zt_cd_len, c448] at this
    rw [c448]
    omega
  obtain ⟨e', pe, y2, _⟩ := q3e (zt_gd_f2 G3)
  have ee : e' = e := by
    rw [c348, cd0] at y2
    rw [c448, y2] at ecd
    exact ecd
  have W := zt_sa_W A4 hm (by rw [c448]; omega) (Or.inr (by rw [ecd, ← ee]; exact zm_pe_ph pe))
  have B4 := zt_sc_tj B J4
  obtain ⟨U, V, N⟩ := zt_alone A4 hm B4 W
  have S4 : zt_T0 b e g4 := by
    have := zt_T0_rf (zt_tg_S tg3) f4 hb
    rw [← c448, ecd] at this
    exact this
  have ph : zt_ph e 0 := by
    have := zt_gk_p ok [] 0 (by decide) rfl
    rw [List.append_nil] at this
    exact this
  have J : zt_J b (zv_I k4 348) g4 := ⟨e, ⟨zt_T0_sz S4, by rw [c448] at elen; omega, zt_T0_st S4, zt_T0_rg S4, ph⟩, Or.inr ⟨by omega, ecd.symm⟩⟩
  exact Or.inl ⟨f4', t4', E4', G4, R4, ⟨U, J, V, N⟩, zt_sa_e1 A4, zt_sa_e2 A4⟩
end
