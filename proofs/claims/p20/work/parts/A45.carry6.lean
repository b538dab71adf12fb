/-! ===== the tie: carrying one, both sides ===== -/
section
variable {a : Nat} {c : Nat → Int} {g k : zv_H} {sf : Nat → Int}
/-- what carrying one leaves as it was, too -/
def zt_cy (a : Nat) (c : Nat → Int) (sf : Nat → Int) (g : zv_H) (k : zv_H) (q : Int × zv_H) (q' : Int × zv_H) : Prop := (zt_Z a 1 g k q q') ∧ (zt_oh a g q.2) ∧ (zt_sd a sf q.2 q'.2) ∧ (zm_F [348, 351, 352, 353, 354, 355, 358, 359, 360] [3, 10, 11, 12, 19] k q'.2) ∧ (zm_Dn c q'.1 (zv_I q'.2 348))
theorem zt_cy_Z {a : Nat} {c : Nat → Int} {sf : Nat → Int} {g : zv_H} {k : zv_H} {q : Int × zv_H} {q' : Int × zv_H} (t : zt_cy a c sf g k q q') : zt_Z a 1 g k q q' := t.1
theorem zt_cy_oh {a : Nat} {c : Nat → Int} {sf : Nat → Int} {g : zv_H} {k : zv_H} {q : Int × zv_H} {q' : Int × zv_H} (t : zt_cy a c sf g k q q') : zt_oh a g q.2 := t.2.1
theorem zt_cy_D {a : Nat} {c : Nat → Int} {sf : Nat → Int} {g : zv_H} {k : zv_H} {q : Int × zv_H} {q' : Int × zv_H} (t : zt_cy a c sf g k q q') : zt_sd a sf q.2 q'.2 := t.2.2.1
theorem zt_cy_F {a : Nat} {c : Nat → Int} {sf : Nat → Int} {g : zv_H} {k : zv_H} {q : Int × zv_H} {q' : Int × zv_H} (t : zt_cy a c sf g k q q') : zm_F [348, 351, 352, 353, 354, 355, 358, 359, 360] [3, 10, 11, 12, 19] k q'.2 := t.2.2.2.1
theorem zt_cy_Dn {a : Nat} {c : Nat → Int} {sf : Nat → Int} {g : zv_H} {k : zv_H} {q : Int × zv_H} {q' : Int × zv_H} (t : zt_cy a c sf g k q q') : zm_Dn c q'.1 (zv_I q'.2 348) := t.2.2.2.2
theorem zt_Z_com {y : Int} {g1 k1 : zv_H} {q q' : Int × zv_H} (X : zc_X g q.2) (kk : zt_k a g g1) (F1 : zm_F [348, 351, 352, 353, 354, 355, 358, 359, 360, 362, 363, 364, 365] [3, 10, 11, 12, 19, 24] k k1) (e1 : zv_I k1 348 = zv_I k 348) (Z : zt_Z a y g1 k1 q q') : zt_Z a y g k q q' := by
  have g1' := zt_Z_g1 Z
  have g2' := zt_Z_g2 Z
  rw [e1] at g1' g2'
  exact ⟨X, zt_k_t kk (zt_Z_k Z), zm_F_t F1 (zt_Z_F Z), zt_Z_a1 Z, zt_Z_H Z, g1', g2'⟩
theorem zt_sd_t (D : zt_sd a sf g k) {g' k' : zv_H} (o : zt_oh a g g') {A B : List Nat} (F : zm_F A B k k') (n : A.contains 362 = false) : zt_sd a sf g' k' := by
  refine ⟨fun i hi => (o 6 i (Or.inr (Or.inl rfl))).trans (zt_sd_cl D i hi), fun i hi => ?_, zt_sd_z D, zt_sd_r D⟩
  rw [zm_F_a F 362 n]
  exact zt_sd_rf D i hi
/-- a cut, carried -/
theorem zj_co_cut {d D : Nat} (hA : zc_A g) (H : zt_H a c g) (hM : zm_M k) (hc : zv_I k 348 = c) (b : c 2 < 2000000000) (Ds : zt_sd a sf g k) {s : Int} (hs : zm_st c s) (hk : zm_o c s 2 = 1) : ∃ q q', C0_carryOne (d + 5) a (zt_r a s) g = some q ∧ C9_carries (D + 8) 347 s k = some q' ∧ zt_cy a c sf g k q q' := by
  have U := zt_H_U H
  have W := zt_U_W U
  have la := zt_U_la U
  have gL := zt_L_A hA
  have lS := zt_r_l la hs.1
  have S := zt_U_st U s hs
  have s48 := zm_st48 hs
  have he : zm_ed c s := Or.inr hk
  obtain ⟨l, hl, ok, g0, gt, W1⟩ := zt_line W W.2.1
  obtain ⟨src, hok⟩ := zt_src0 U hl
  have tok := zt_tk_ok W hs hk
  obtain ⟨f, v, e1, e2, R⟩ := zt_ctk (d := d) gL U lS src hok (fun x hx => zt_takes (d := d) gL U Ds hs hk tok hx)
  -- the reference looks
  obtain ⟨k1, es, Fs, Sn⟩ := zm_sees hM hc (D + 2) (s := c 0) W.2.1.1.1 hl (Nat.le_succ_of_le ok.2.2.2) g0 gt
  have hM1 := zm_F_M Fs hM
  have c1 : zv_I k1 348 = c := (zm_F_a Fs 348).trans hc
  have hrl := zm_row_le g0
  have l48 := ok.2.2.2
  have hrl2 : (zm_row c (c 0 :: l)).length ≤ 640 := by clear hs hk he; omega
  have rf1 : ∀ i : Nat, i < 48 → zv_I k1 362 i = sf i := fun i hi => by rw [zm_F_a Fs 362]; exact zt_sd_rf Ds i hi
  have R18 := zt_cc18 D (h := k1) hM1 (R := zm_row c (c 0 :: l)) (sn := zm_sn c (c 0 :: l)) (s := s) (P := zt_tP c sf s) Sn.2.1.1 Sn.2.2.2.1 hrl2 (fun i x hx => by
    have il : i < 640 := Nat.lt_of_lt_of_le (zm_lt_of_get hx) hrl2
    exact zt_isTaken hM1 c1 W (D + 4) hs hk tok rf1 il (Sn.2.1.2 i x hx).1 (Sn.2.1.2 i x hx).2) (zm_row c (c 0 :: l)) [] (List.nil_append _) (-1) 0 (Or.inl ⟨rfl, rfl, fun x hx => by cases hx⟩)
  have cls : ∀ {q : Int × zv_H}, (if v = 0 then (some (some (zv_i (-10)), g) : zv_O) else ((C0_cutOut (d + 4) a f v g).bind fun q4 => (some (some (zv_i q4.1), q4.2) : zv_O))) = some (some (zv_i q.1), q.2) → C0_carryOne (d + 5) a (zt_r a s) g = some q := fun {q} e => by
    refine lC0_carryOne (zl_ob gL la) ?_
    rw [qE0_carryOne, zm_e (zl_gI gL lS 6), zt_S_ac S, if_pos hk, zm_e e1]
    dsimp only
    rw [zm_e e2]
    exact e
  have rfc : ∀ {q : Int × zv_H}, L9_carriesCut_18 (D + 6) 347 s (-1) 0 0 0 k1 = some (some (zv_i q.1), q.2) → C9_carries (D + 8) 347 s k = some q := fun {q} e => by
    have ec : C9_carriesCut (D + 7) 347 s k = some q := by
      refine lC9_carriesCut (zm_ob hM) ?_
      rw [qE9_carriesCut, zm_e (zm_here hM _), hc]
      dsimp only
      rw [zm_e es]
      exact e
    refine lC9_carries (zm_ob hM) ?_
    rw [qE9_carries, zm_e (zm_of hM _ s48 (by decide)), hc]
    dsimp only
    rw [if_pos hk, zm_e ec]
  obtain ⟨⟨w', k'⟩, er, Fr, Dn⟩ := zm_carries hM hc W D hs he
  rcases R with ⟨v0, no⟩ | ⟨f0, m0, ef, ev, bk⟩
  · rcases R18 with ⟨r1, _⟩ | ⟨f', m', bk, _⟩
    · have e2' := rfc (q := (-1, zv_sI k1 347 3 10)) r1
      have ee : ((w', k') : Int × zv_H) = (-1, zv_sI k1 347 3 10) := Option.some.inj (er.symm.trans e2')
      refine ⟨(-10, g), (w', k'), cls (q := (-10, g)) (by rw [if_pos v0]), er, ?_, fun _ _ _ => rfl, zt_sd_t Ds (fun _ _ _ => rfl) Fr rfl, Fr, Dn⟩
      have ew : w' = -1 := congrArg Prod.fst ee
      have ek : k' = zv_sI k1 347 3 10 := congrArg Prod.snd ee
      rw [ew]
      refine zt_Z_no (by decide) H hc (zc_X_r hA) (zt_k_r a g) H (zm_F_s Fr rfl rfl) (by decide) ?_
      rw [ek]
      exact (zm_so k1 _ _).trans c1
    · exact absurd bk (no f' m')
  · rcases R18 with ⟨_, no⟩ | ⟨f', m', bk', r1⟩
    · exact absurd bk (no f0 m0)
    · obtain ⟨i1, i2⟩ := zt_blk_u bk bk'
      subst i1
      subst i2
      have b120 := zt_src_n120 src
      have b2 := bk.2.1
      have b1 := bk.1
      have rg1 : zv_rg (f0 : Int) := by unfold zv_rg; clear hs hk he; omega
      have rg2 : zv_rg (m0 : Int) := by unfold zv_rg; clear hs hk he; omega
      obtain ⟨q, q', z1, z2, Z, oh⟩ := zj_cut (d := d) (D := D) hA H hM1 c1 b rg1 rg2
      have v0 : ¬ v = 0 := by rw [ev]; clear hs hk he; omega
      have e1' := cls (q := q) (by rw [if_neg v0, ef, ev, zm_e z1])
      have e2' := rfc (q := q') (r1.trans (by rw [zm_e z2]))
      have ee : ((w', k') : Int × zv_H) = q' := Option.some.inj (er.symm.trans e2')
      rw [ee] at er Fr Dn
      refine ⟨q, q', e1', er, zt_Z_com (zt_Z_X Z) (zt_k_r a g) (zm_F_s Fs rfl rfl) (c1.trans hc.symm) Z, oh, zt_sd_t Ds oh Fr rfl, Fr, Dn⟩
end
