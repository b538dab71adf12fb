/-! ===== the tie: carrying one ===== -/
section
variable {a : Nat} {c : Nat → Int} {g k : zv_H} {sf : Nat → Int}
theorem zt_U_V {h : zv_H} (U : zt_U a c h) {s : Int} (hs : zm_st c s) : zc_V h (zt_r a s) := by
  have i48 : s.toNat < 48 := by have := hs.1; omega
  refine ⟨zt_r_l (zt_U_la U) hs.1, ?_⟩
  rw [zt_r_p hs.1.1, zt_U_lv U _ i48, Int.toNat_of_nonneg hs.1.1]
  exact hs.2
theorem zt_src0 (U : zt_U a c g) {l : List Int} (hl : zm_Ln c (c 0 :: l) (c 0)) : zt_src (zt_r a (c 0)) (zt_dc c (c 0 :: l)) g ∧ (∀ x ∈ zt_dc c (c 0 :: l), zt_ok x) := by
  have W := zt_U_W U
  obtain ⟨ok, g0, gt, W1⟩ := zt_line_u W W.2.1 hl
  have S0 := zt_U_st U _ W.2.1
  exact ⟨⟨zt_r_l (zt_U_la U) W.2.1.1, zt_S_ln S0 l hl, W1.2.2.2.2.2.2, zt_S_dc S0 l hl⟩, fun x hx => zt_row_ok ok.2.2.1 g0 x (List.mem_filter.mp hx).1⟩
theorem zt_tk_ok {c : Nat → Int} (W : zm_W c) {s : Int} (hs : zm_st c s) (hk : zm_o c s 2 = 1) : ∀ p ∈ zm_tk c s, zt_ok p := by
  obtain ⟨l, hl, ok, g0, gt, W1⟩ := zt_line W hs
  exact fun p hp => zt_row_ok ok.2.2.1 g0 p (gt s List.mem_cons_self hk p hp)
theorem zt_ctk {d : Nat} (gL : zt_L g) (U : zt_U a c g) {S : Nat} (lS : zv_lay S = (1, 5)) {E : List (Int × Int)} {P : Int × Int → Prop} (src : zt_src (zt_r a (c 0)) E g) (hok : ∀ x ∈ E, zt_ok x) (tk : ∀ x, zt_ok x → ∃ v, C0_takes (d + 3) a S (zt_id x) g = some (v, g) ∧ (v ≠ 0 ↔ P x)) : ∃ f v, C0_firstTaken (d + 4) a S g = some (f, g) ∧ C0_takenFrom (d + 4) a S f g = some (v, g) ∧ ((v = 0 ∧ ∀ f' m', ¬ zt_blk P E f' m') ∨ ∃ f0 m0 : Nat, f = f0 ∧ v = m0 ∧ zt_blk P E f0 m0) := by
  have la := zt_U_la U
  obtain ⟨f, ef, R⟩ := zt_firstTaken (d := d) gL U src hok tk E.length 0 (Nat.zero_add _) (fun j x hj => absurd hj (Nat.not_lt_zero _))
  have e1 : C0_firstTaken (d + 4) a S g = some (f, g) := by
    refine lC0_firstTaken (zl_ob gL la) ?_
    rw [qE0_firstTaken]
    exact ef
  rcases R with ⟨f1, no⟩ | ⟨f0, x, f1, fx, px, no⟩
  · refine ⟨f, 0, e1, lC0_takenFrom (zl_ob gL la) ?_, Or.inl ⟨rfl, fun f' m' => zt_blk_no no f' m'⟩⟩
    rw [qE0_takenFrom, f1, show max (-1 : Int) 0 = ((0 : Nat) : Int) from rfl]
    exact zt_takenNone (d := d) gL U src hok tk no E.length 0 (Nat.zero_add _)
  · have fl := zm_lt_of_get fx
    obtain ⟨v, ev, R2⟩ := zt_takenFrom (d := d) gL U src hok tk ⟨x, fx, px⟩ (E.length - f0) f0 0 (Nat.add_sub_cancel' (Nat.le_of_lt fl)) (Nat.le_refl _) (Or.inl rfl) (fun j y hj hy => ⟨fun q => absurd q (no j y hj hy), fun q => absurd q.1 (Nat.not_le.mpr hj)⟩)
    have mx : max (f0 : Int) 0 = (f0 : Int) := by omega
    refine ⟨f, v, e1, lC0_takenFrom (zl_ob gL la) ?_, ?_⟩
    · rw [qE0_takenFrom, f1, mx]
      exact ev
    · rcases R2 with R2 | ⟨m', e, b⟩
      · exact Or.inl R2
      · exact Or.inr ⟨f0, m', f1, e, b⟩
/-- the letters of what is carried -/
theorem zt_C7_clear {d r : Nat} (gL : zt_L g) (lr : zv_lay r = (1, 7)) : C7_clear (d + 1) r g = some (zv_sI g r 1 0) := by
  refine lC7_clear (zl_ob gL lr) ?_
  rw [qE7_clear, zm_e (zl_pI gL lr 1 0)]
theorem zt_C7_add {d r : Nat} (gL : zt_L g) (lr : zv_lay r = (1, 7)) (lr1 : zv_lay (r + 1) = (2, 40)) {i : Nat} (i40 : i < 40) (hi : zv_I g r 1 = i) (v : Int) : C7_add (d + 1) r v g = some (zv_sI (zv_sI g (r + 1) i v) r 1 (i + 1 : Nat)) := by
  have ne : ¬ (r = r + 1 ∧ 1 = i) := fun q => by omega
  refine lC7_add (zl_ob gL lr) ?_
  have w1 : zv_w ((i : Int) + 1) = ((i + 1 : Nat) : Int) := by
    rw [zm_w (by omega)]
    rfl
  rw [qE7_add, zm_e (zl_gI gL lr 1), hi, if_neg (by omega), zm_e (zl_gI gL lr 1), hi, zm_e (zl_gF gL lr 0 1), zm_e (zl_al gL lr1), if_pos (by omega), zm_e (zl_gF gL lr 0 1), zm_e (zl_gI gL lr 1), hi, zm_e (zl_wI gL lr1 (by omega) (by omega) v), Int.toNat_natCast, zm_e (zl_gI (g := zv_sI g (r + 1) i v) gL lr 1), zy_In _ _ ne, hi, w1, zm_e (zl_pI (g := zv_sI g (r + 1) i v) gL lr 1 _)]
theorem zt_glyph {d : Nat} (gL : zt_L g) (U : zt_U a c g) {s : Int} (hs : zm_st c s) (hk : zm_o c s 2 = 0) {i : Nat} (hi : (i : Int) < zm_o c s 5) : C0_glyph (d + 1) a (zt_id (s, (i : Int))) g = some (zm_o c s (12 + (i : Int)), g) := by
  have la := zt_U_la U
  have ok := zt_ok_of (zt_U_W U) hs (Or.inl hk) hi
  have ir := zt_id_r ok
  have l5 : zv_lay (a + 5) = (2, 604) := by cases zc_lh la with
    | inl e => rw [e]; rfl
    | inr e => rw [e]; rfl
  refine lC0_glyph (zl_ob gL la) ?_
  rw [qE0_glyph, if_neg (by omega), if_pos (by omega), zm_e (zl_gF gL la 2 5), zm_e (zl_aI gL l5 ir.1 ir.2), zt_S_gl (zt_U_st U s hs) (Or.inl hk) i hi]
theorem zt_co91 {d : Nat} {g0 : zv_H} {s : Int} (hs : zm_st c s) (hk : zm_o c s 2 = 0) {m : Nat} (hm : zm_o c s 5 = m) (h12 : m ≤ 12) (pl : Int) : ∀ (n i : Nat) (g : zv_H), i + n = m → zc_A g → zt_U a c g → zt_q g0 g → zv_I g (a + 26) 1 = i → (∀ j : Nat, j < i → zv_I g (a + 27) j = zm_o c s (12 + (j : Int))) → ∃ g', L0_carryOne_91 (d + 1) a (zt_r a s) pl i g = ((C0_putWord (d + 1) a pl (a + 26) g').bind fun q8 => (some (some (zv_i q8.1), q8.2) : zv_O)) ∧ zc_A g' ∧ zt_U a c g' ∧ zt_q g0 g' ∧ zt_wd (a + 26) m (fun j => zm_o c s (12 + (j : Int))) g' := by
  have s47 := hs.1
  intro n
  induction n with
  | zero =>
    intro i g hi hA U q h1 hw
    have gL := zt_L_A hA
    have la := zt_U_la U
    obtain ⟨_, l26, l27⟩ := zt_sta_l la
    have lS := zt_r_l la s47
    have S := zt_U_st U s hs
    have e : i = m := hi
    subst e
    refine ⟨g, ?_, hA, U, q, l26, l27, Nat.le_trans h12 (by decide), h1, hw⟩
    rw [qL0_carryOne_91, zm_e (zl_gI gL lS 9), zt_S_sz S, hm, if_neg (Int.lt_irrefl _), zm_e (zl_gF gL la 9 26)]
  | succ n ih =>
    intro i g hi hA U q h1 hw
    have gL := zt_L_A hA
    have la := zt_U_la U
    obtain ⟨_, l26, l27⟩ := zt_sta_l la
    have lS := zt_r_l la s47
    have S := zt_U_st U s hs
    have im : i < m := by omega
    have iI : (i : Int) < (m : Int) := Int.ofNat_lt.mpr im
    have w1 : zv_w ((i : Int) + 1) = ((i + 1 : Nat) : Int) := by
      rw [zm_w (by clear hm hs S; omega)]
      rfl
    have xa : ∀ j, zt_x (a + 27) j := fun j => zt_xa la (by omega)
    have xb : zt_x (a + 26) 1 := by
      rcases zc_lh la with e | e
      · exact Or.inr (Or.inr (Or.inr ⟨9, Or.inl rfl, by omega⟩))
      · exact Or.inr (Or.inr (Or.inr ⟨178, Or.inr rfl, by omega⟩))
    have q2 : zt_q g (zv_sI (zv_sI g (a + 27) i (zm_o c s (12 + (i : Int)))) (a + 26) 1 (i + 1 : Nat)) := zt_q_t (zt_q_sI _ (xa _)) (zt_q_sI _ xb)
    have eg := zt_glyph (d := d) gL U hs hk (i := i) (by rw [hm]; exact iI)
    have ok := zt_id_r (zt_ok_of (zt_U_W U) hs (Or.inl hk) (k := i) (by rw [hm]; exact iI))
    have rv : zv_rg (zm_o c s (12 + (i : Int))) := by
      obtain ⟨q, e, _, r, _⟩ := zc_C0_glyph (d := d) hA la (a1 := zt_id (s, (i : Int))) (by unfold zv_rg; clear hm hs S; omega)
      rw [eg] at e
      cases e
      exact r
    have ea := zt_C7_add (d := d) gL l26 l27 (by clear hm hs S; omega) h1 (zm_o c s (12 + (i : Int)))
    have hA2 : zc_A (zv_sI (zv_sI g (a + 27) i (zm_o c s (12 + (i : Int)))) (a + 26) 1 (i + 1 : Nat)) := by
      obtain ⟨q, e, w⟩ := zc_C7_add (d := d) hA l26 rv
      rw [ea] at e
      cases e
      exact w.2
    obtain ⟨g', e, r1, r2, r3, r4⟩ := ih (i + 1) (zv_sI (zv_sI g (a + 27) i (zm_o c s (12 + (i : Int)))) (a + 26) 1 (i + 1 : Nat)) (by omega) hA2 (zt_U_q U q2) (zt_q_t q q2) (zy_I _ _ _ _) (fun j hj => by
      rw [zy_In _ _ (fun q => by omega)]
      by_cases e : j = i
      · rw [e, zy_I]
      · rw [zy_In _ _ (fun q => e q.2)]
        exact hw j (by omega))
    refine ⟨g', ?_, r1, r2, r3, r4⟩
    rw [qL0_carryOne_91, zm_e (zl_gI gL lS 9), zt_S_sz S, hm, if_pos iI, zm_e (zl_gF gL la 9 26), zm_e (zl_gI gL lS 0), zt_num U hs, zm_e (zt_C4_id s47 (by clear hm hs S; omega))]
    dsimp only
    rw [zm_e eg]
    dsimp only
    rw [zm_e ea, w1]
    exact e
/-- the reference's letters -/
theorem zt_ca116 {d : Nat} {s : Int} (hs : zm_st c s) (pl : Int) {m : Nat} (h12 : m ≤ 12) : ∀ (n i : Nat) (h : zv_H), i + n = m → zm_M h → zv_I h 348 = c → zv_I h 347 19 = m → (∀ j : Nat, j < i → zv_I h 360 j = zm_o c s (12 + (j : Int))) → ∃ h', L9_carries_116 (d + 1) 347 s pl i h = ((C9_putNow (d + 1) 347 pl h').bind fun q5 => (some (some (zv_i q5.1), q5.2) : zv_O)) ∧ zm_F [360] [] h h' ∧ ∀ j : Nat, j < m → zv_I h' 360 j = zm_o c s (12 + (j : Int)) := by
  have s48 := zm_st48 hs
  clear hs
  intro n
  induction n with
  | zero =>
    intro i h hi hM hc h19 hw
    have e : i = m := hi
    subst e
    refine ⟨h, ?_, zm_F_r _ _ h, hw⟩
    rw [qL9_carries_116, zm_e (zm_gI hM 19), h19, if_neg (Int.lt_irrefl _)]
  | succ n ih =>
    intro i h hi hM hc h19 hw
    have im : i < m := by omega
    have w1 : zv_w ((i : Int) + 1) = ((i + 1 : Nat) : Int) := by
      rw [zm_w (by omega)]
      rfl
    have w2 : zv_w (12 + (i : Int)) = 12 + (i : Int) := zm_w (by omega)
    have f0 : zm_F [360] [] h (zv_sI h 360 i (zm_o c s (12 + (i : Int)))) := zm_F_I (zm_F_r _ _ h) rfl _ _
    obtain ⟨h', e, F, hh⟩ := ih (i + 1) (zv_sI h 360 i (zm_o c s (12 + (i : Int)))) (by omega) hM ((zm_so h _ _).trans hc) h19 (fun j hj => by
      by_cases z : j = i
      · rw [z, zy_I]
      · rw [zy_In _ _ (fun q => z q.2)]
        exact hw j (by omega))
    refine ⟨h', ?_, zm_F_t f0 F, hh⟩
    rw [qL9_carries_116, zm_e (zm_gI hM 19), h19, if_pos (Int.ofNat_lt.mpr im), zm_e (zm_f17 hM), w2, zm_e (zm_of hM d s48 (w := 12 + (i : Int)) (by omega)), hc, w1]
    dsimp only
    rw [zm_e (zm_wI hM zm_l360 rfl (by omega) (by omega) _), Int.toNat_natCast]
    exact e
theorem zt_ca74 {d : Nat} {h : zv_H} (hM : zm_M h) {R : List (Int × Int)} {sn : Int × Int → Bool} {s : Int} (r5 : ∀ (i : Nat) (x : Int × Int), R[i]? = some x → zv_I h 355 i = if sn x = true then 1 else 0) (hn : R.length ≤ 640) {j : Nat} (hj : j < R.length) : ∀ (n i : Nat), i + n = j + 1 → L9_carries_74 d 347 s (((R.take i).filter sn).length : Int) j i h = L9_carries_104 d 347 s (((R.take (j + 1)).filter sn).length : Int) h := by
  intro n
  induction n with
  | zero =>
    intro i hi
    have e : i = j + 1 := hi
    subst e
    rw [qL9_carries_74, if_neg (by omega)]
  | succ n ih =>
    intro i hi
    obtain ⟨x, hx⟩ : ∃ x, R[i]? = some x := ⟨_, List.getElem?_eq_getElem (by omega)⟩
    have w1 : zv_w ((i : Int) + 1) = ((i + 1 : Nat) : Int) := by
      rw [zm_w (by omega)]
      rfl
    have fl : ((R.take i).filter sn).length ≤ 640 := Nat.le_trans (List.length_filter_le _ _) (by rw [List.length_take]; omega)
    have ih' := ih (i + 1) (by omega)
    rw [zt_take_s hx, List.filter_append, List.length_append] at ih'
    have r355 : zv_aB h 355 (i : Int) = some (if sn x = true then 1 else 0) := by
      rw [zm_aB hM zm_l355 (Or.inl rfl) rfl (by omega) (by omega), Int.toNat_natCast, r5 _ _ hx]
    rw [qL9_carries_74, if_pos (by omega), zm_e (zm_f9 hM), zm_e r355, w1]
    generalize ((R.take i).filter sn).length = F at *
    by_cases e : sn x = true
    · rw [List.filter_cons_of_pos e] at ih'
      rw [if_pos e, if_neg (by decide), zm_w (by omega)]
      exact ih'
    · rw [List.filter_cons_of_neg e] at ih'
      rw [if_neg e, if_pos rfl, zm_w (by omega), Int.add_zero]
      exact ih'
end
