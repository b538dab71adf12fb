/-! A42.carry3 -/
section
/-! ===== the tie: carrying, the reference's loops ===== -/
section
variable {c : Nat → Int} {sf : Nat → Int}
theorem zt_ok_47 {p : Int × Int} (h : zt_ok p) : 0 ≤ p.1 ∧ p.1 ≤ 47 := by rcases h with q | q <;> omega
theorem zt_isTaken_1 {h : zv_H} (hM : zm_M h) {d : Nat} {s : Int} {i m : Nat} (im : i < m) (h12 : m ≤ 12) {u w : Int} (o5 : C9_of d 347 s 5 h = some ((m : Int), h)) (ou : C9_of d 347 s (52 + 2 * (i : Int)) h = some (u, h)) (ow : C9_of d 347 s (52 + 2 * (i : Int) + 1) h = some (w, h)) (u0 : 0 ≤ u) (u47 : u ≤ 47) (rf : ∀ i : Nat, i < 48 → zv_I h 362 i = sf i) {r : Nat} (hr : r < 640) {x : Int × Int} (e1 : zv_I h 352 r = x.1) (e2 : zv_I h 353 r = x.2) : L9_isTaken_2 d 347 s r i h = if sf u.toNat = x.1 then (if w = x.2 then (some (some (zv_i 1), h) : zv_O) else L9_isTaken_2 d 347 s r ((i + 1 : Nat) : Int) h) else L9_isTaken_2 d 347 s r ((i + 1 : Nat) : Int) h := by
  have w1 : zv_w (52 + zv_w (2 * (i : Int))) = 52 + 2 * (i : Int) := by
    rw [zm_w (x := 2 * (i : Int)) (by omega), zm_w (by omega)]
  have w2 : zv_w ((i : Int) + 1) = ((i + 1 : Nat) : Int) := by
    rw [zm_w (by omega)]
    rfl
  have w3 : zv_w (52 + 2 * (i : Int) + 1) = 52 + 2 * (i : Int) + 1 := zm_w (by omega)
  have a362 : zv_aI h 362 u = some (sf u.toNat) := by
    rw [zm_aI hM zm_l362 rfl u0 (by omega), rf _ (by omega)]
  have a352 : zv_aI h 352 (r : Int) = some x.1 := by
    rw [zm_aI hM zm_l352 rfl (by omega) (by omega), show ((r : Nat) : Int).toNat = r by omega, e1]
  have a353 : zv_aI h 353 (r : Int) = some x.2 := by
    rw [zm_aI hM zm_l353 rfl (by omega) (by omega), show ((r : Nat) : Int).toNat = r by omega, e2]
  rw [qL9_isTaken_2, zm_e o5]
  dsimp only
  rw [if_pos (by omega), zm_e (zm_f21 hM), w1, zm_e ou]
  dsimp only
  rw [zm_e a362, zm_e (zm_f6 hM), zm_e a352, w3, w2, zm_e ow]
  dsimp only
  rw [zm_e (zm_f7 hM), zm_e a353]
theorem zt_isTaken_l {h : zv_H} (hM : zm_M h) (hc : zv_I h 348 = c) (d : Nat) {s : Int} (hs : zm_st c s) {m : Nat} (hm : zm_o c s 5 = m) (h12 : m ≤ 12) (hok : ∀ p ∈ zm_tk c s, zt_ok p) (rf : ∀ i : Nat, i < 48 → zv_I h 362 i = sf i) {r : Nat} (hr : r < 640) {x : Int × Int} (e1 : zv_I h 352 r = x.1) (e2 : zv_I h 353 r = x.2) : ∀ (n i : Nat), i + n = m → ∃ v : Int, L9_isTaken_2 (d + 1) 347 s r i h = some (some (zv_i v), h) ∧ (v ≠ 0 ↔ ∃ j p, i ≤ j ∧ (zm_tk c s)[j]? = some p ∧ zt_so sf p = x) := by
  subst hc
  have s48 := zm_st48 hs
  have tl : (zm_tk (zv_I h 348) s).length = m := by rw [zm_tk_len, hm]; rfl
  have tm : (zm_o (zv_I h 348) s 5).toNat = m := by rw [hm]; rfl
  have o5 : C9_of (d + 1) 347 s 5 h = some ((m : Int), h) := by rw [zm_of hM d s48 (by decide), hm]
  clear hs hm
  intro n
  induction n with
  | zero =>
    intro i hi
    refine ⟨0, ?_, fun q => absurd rfl q, fun q => ?_⟩
    · rw [qL9_isTaken_2, zm_e o5]
      dsimp only
      rw [if_neg (by omega)]
    · obtain ⟨j, p, j1, j2, _⟩ := q
      have := zm_lt_of_get j2
      omega
  | succ n ih =>
    intro i hi
    obtain ⟨v, ev, iv⟩ := ih (i + 1) (by omega)
    have im : i < m := by omega
    have hp := zm_tk_get (zv_I h 348) s (i := i) (by rw [tm]; exact im)
    have pok := hok _ (List.mem_of_getElem? hp)
    have p47 := zt_ok_47 pok
    have ou := zm_of hM d s48 (w := 52 + 2 * (i : Int)) (by clear p47 pok hp iv ev hi tl tm; omega)
    have ow := zm_of hM d s48 (w := 52 + 2 * (i : Int) + 1) (by clear p47 pok hp iv ev hi tl tm; omega)
    have go := zt_isTaken_1 (sf := sf) hM im h12 o5 ou ow p47.1 p47.2 rf hr e1 e2
    have skip : zt_so sf (zm_o (zv_I h 348) s (52 + 2 * (i : Int)), zm_o (zv_I h 348) s (52 + 2 * (i : Int) + 1)) ≠ x → (v ≠ 0 ↔ ∃ j p, i ≤ j ∧ (zm_tk (zv_I h 348) s)[j]? = some p ∧ zt_so sf p = x) := fun ne => by
      constructor
      · intro q
        obtain ⟨j, p', j1, j2, j3⟩ := iv.mp q
        exact ⟨j, p', Nat.le_of_succ_le j1, j2, j3⟩
      · rintro ⟨j, p', j1, j2, j3⟩
        refine iv.mpr ⟨j, p', ?_, j2, j3⟩
        by_cases z : j = i
        · rw [z, hp] at j2
          cases j2
          exact absurd j3 ne
        · exact Nat.lt_of_le_of_ne j1 (fun q => z q.symm)
    by_cases c1 : sf (zm_o (zv_I h 348) s (52 + 2 * (i : Int))).toNat = x.1
    · by_cases c2 : zm_o (zv_I h 348) s (52 + 2 * (i : Int) + 1) = x.2
      · refine ⟨1, go.trans (by rw [if_pos c1, if_pos c2]), fun _ => ⟨i, _, Nat.le_refl _, hp, Prod.ext c1 c2⟩, fun _ => by decide⟩
      · exact ⟨v, go.trans (by rw [if_pos c1, if_neg c2]; exact ev), skip (fun q => c2 (congrArg Prod.snd q))⟩
    · exact ⟨v, go.trans (by rw [if_neg c1]; exact ev), skip (fun q => c1 (congrArg Prod.fst q))⟩
theorem zt_isTaken {h : zv_H} (hM : zm_M h) (hc : zv_I h 348 = c) (W : zm_W c) (d : Nat) {s : Int} (hs : zm_st c s) (hk : zm_o c s 2 = 1) (hok : ∀ p ∈ zm_tk c s, zt_ok p) (rf : ∀ i : Nat, i < 48 → zv_I h 362 i = sf i) {r : Nat} (hr : r < 640) {x : Int × Int} (e1 : zv_I h 352 r = x.1) (e2 : zv_I h 353 r = x.2) : ∃ v : Int, C9_isTaken (d + 2) 347 s r h = some (v, h) ∧ (v ≠ 0 ↔ zt_tP c sf s x) := by
  have hm0 := zm_ed_m W.1 hs (Or.inr hk)
  obtain ⟨v, ev, iv⟩ := zt_isTaken_l hM hc d hs (m := (zm_o c s 5).toNat) (by omega) (by omega) hok rf hr e1 e2 _ 0 (Nat.zero_add _)
  refine ⟨v, lC9_isTaken (zm_ob hM) ?_, ?_⟩
  · rw [qE9_isTaken]
    exact ev
  · rw [iv]
    unfold zt_tP
    constructor
    · rintro ⟨j, p, _, j2, j3⟩
      exact ⟨p, List.mem_of_getElem? j2, j3⟩
    · rintro ⟨p, hp, e⟩
      obtain ⟨j, hj⟩ := List.mem_iff_getElem?.mp hp
      exact ⟨j, p, Nat.zero_le _, hj, e⟩
end
end
/-! A43.carry4 -/
section
/-! ===== the tie: carrying a cut, the reference's way through the row ===== -/
/-- what it has found so far -/
def zt_cc (P : Int × Int → Prop) (A : List (Int × Int)) (a0 m0 : Int) : Prop := (a0 = -1 ∧ m0 = 0 ∧ ∀ x ∈ A, ¬ P x) ∨ ∃ f m : Nat, a0 = (f : Int) ∧ m0 = (m : Int) ∧ 1 ≤ m ∧ f + m ≤ A.length ∧ ∀ (j : Nat) (x : Int × Int), A[j]? = some x → (P x ↔ f ≤ j ∧ j < f + m)
theorem zt_cc_ge {A : List (Int × Int)} {x : Int × Int} (j : Nat) (y : Int × Int) (hy : (A ++ [x])[j]? = some y) : (j < A.length ∧ A[j]? = some y) ∨ (j = A.length ∧ y = x) := by
  by_cases z : j < A.length
  · rw [List.getElem?_append_left z] at hy
    exact Or.inl ⟨z, hy⟩
  · have jl := zm_lt_of_get hy
    rw [List.length_append] at jl
    have jl2 : j < A.length + 1 := jl
    have ej : j = A.length := by omega
    rw [ej, List.getElem?_concat_length] at hy
    exact Or.inr ⟨ej, (Option.some.inj hy).symm⟩
theorem zt_cc_no {P : Int × Int → Prop} {A : List (Int × Int)} {x : Int × Int} {a0 m0 : Int} (st : zt_cc P A a0 m0) (np : ¬ P x) : zt_cc P (A ++ [x]) a0 m0 := by
  rcases st with ⟨s1, s2, s3⟩ | ⟨f, m, s1, s2, s3, s4, s5⟩
  · refine Or.inl ⟨s1, s2, fun y hy => ?_⟩
    rcases List.mem_append.mp hy with q | q
    · exact s3 y q
    · rw [List.mem_singleton.mp q]; exact np
  · refine Or.inr ⟨f, m, s1, s2, s3, ?_, fun j y hy => ?_⟩
    · rw [List.length_append]
      exact Nat.le_trans s4 (Nat.le_add_right _ _)
    · rcases zt_cc_ge j y hy with ⟨q1, q2⟩ | ⟨q1, q2⟩
      · exact s5 j y q2
      · rw [q2]
        exact ⟨fun q => absurd q np, fun q => by omega⟩
theorem zt_cc_1 {P : Int × Int → Prop} {A : List (Int × Int)} {x : Int × Int} (s3 : ∀ x ∈ A, ¬ P x) (px : P x) : zt_cc P (A ++ [x]) A.length 1 := by
  refine Or.inr ⟨A.length, 1, rfl, rfl, Nat.le_refl _, ?_, fun j y hy => ?_⟩
  · rw [List.length_append]
    exact Nat.le_refl _
  · rcases zt_cc_ge j y hy with ⟨q1, q2⟩ | ⟨q1, q2⟩
    · exact ⟨fun q => absurd q (s3 y (List.mem_of_getElem? q2)), fun q => by omega⟩
    · rw [q2]
      exact ⟨fun _ => by omega, fun _ => px⟩
theorem zt_cc_2 {P : Int × Int → Prop} {A : List (Int × Int)} {x : Int × Int} {f m : Nat} (s4 : A.length = f + m) (s5 : ∀ (j : Nat) (x : Int × Int), A[j]? = some x → (P x ↔ f ≤ j ∧ j < f + m)) (px : P x) : zt_cc P (A ++ [x]) f (m + 1 : Nat) := by
  refine Or.inr ⟨f, m + 1, rfl, rfl, Nat.le_add_left _ _, ?_, fun j y hy => ?_⟩
  · rw [List.length_append, s4]
    exact Nat.le_refl _
  · rcases zt_cc_ge j y hy with ⟨q1, q2⟩ | ⟨q1, q2⟩
    · rw [s5 j y q2]
      omega
    · rw [q2]
      exact ⟨fun _ => by omega, fun _ => px⟩
theorem zt_cc_g {P : Int × Int → Prop} {A T : List (Int × Int)} {x : Int × Int} {f m : Nat} (h1 : 1 ≤ m) (s4 : f + m < A.length) (s5 : ∀ (j : Nat) (x : Int × Int), A[j]? = some x → (P x ↔ f ≤ j ∧ j < f + m)) (px : P x) (f' m' : Nat) : ¬ zt_blk P ((A ++ [x]) ++ T) f' m' := by
  have lift : ∀ (j : Nat) (y : Int × Int), (A ++ [x])[j]? = some y → ((A ++ [x]) ++ T)[j]? = some y := fun j y hy => by
    rw [List.getElem?_append_left (zm_lt_of_get hy)]
    exact hy
  have gA : ∀ j, (hj : j < A.length) → (A ++ [x])[j]? = some (A[j]) := fun j hj => by
    rw [List.getElem?_append_left hj]
    exact List.getElem?_eq_getElem hj
  have h2 : f < A.length := by omega
  exact zt_blk_gap (lift _ _ (gA f h2)) (lift _ _ (gA (f + m) s4)) (lift _ _ (List.getElem?_concat_length)) (by omega) s4 ((s5 f _ (List.getElem?_eq_getElem h2)).mpr ⟨by omega, by omega⟩) (fun q => by have := (s5 (f + m) _ (List.getElem?_eq_getElem s4)).mp q; omega) px _ _
theorem zt_cc_w {A : List (Int × Int)} {sn : Int × Int → Bool} (h : A.length < 1000) : zv_w (((A.filter sn).length : Int) + 1) = ((A.filter sn).length : Int) + 1 := by
  have := List.length_filter_le sn A
  generalize (A.filter sn).length = n at *
  rw [zm_w (by omega)]
/-- what the reference's way through the row finds -/
theorem zt_cc18 (d : Nat) {h : zv_H} (hM : zm_M h) {R : List (Int × Int)} {sn : Int × Int → Bool} {s : Int} {P : Int × Int → Prop} (h11 : zv_I h 347 11 = (R.length : Int)) (r5 : ∀ (i : Nat) (x : Int × Int), R[i]? = some x → zv_I h 355 i = if sn x = true then 1 else 0) (hn : R.length ≤ 640) (tk : ∀ (i : Nat) (x : Int × Int), R[i]? = some x → ∃ v : Int, C9_isTaken (d + 6) 347 s i h = some (v, h) ∧ (v ≠ 0 ↔ P x)) : ∀ (b A : List (Int × Int)), A ++ b = R → ∀ (a0 m0 : Int), zt_cc P (A.filter sn) a0 m0 → (L9_carriesCut_18 (d + 6) 347 s a0 m0 ((A.filter sn).length : Int) A.length h = some (some (zv_i (-1)), zv_sI h 347 3 10) ∧ ∀ f' m', ¬ zt_blk P (R.filter sn) f' m') ∨ ∃ f m : Nat, zt_blk P (R.filter sn) f m ∧ L9_carriesCut_18 (d + 6) 347 s a0 m0 ((A.filter sn).length : Int) A.length h = ((C9_cutNow (d + 6) 347 f m h).bind fun q7 => (some (some (zv_i q7.1), q7.2) : zv_O)) := by
  intro b
  induction b with
  | nil =>
    intro A e a0 m0 st
    rw [List.append_nil] at e
    subst e
    rcases st with ⟨s1, s2, s3⟩ | ⟨f, m, s1, s2, s3, s4, s5⟩
    · refine Or.inl ⟨?_, fun f' m' => zt_blk_no s3 f' m'⟩
      rw [qL9_carriesCut_18, zm_e (zm_gI hM 11), h11, if_neg (Int.lt_irrefl _), if_pos s2, zm_e (zm_refuse hM _ 10)]
    · refine Or.inr ⟨f, m, ⟨s3, s4, s5⟩, ?_⟩
      have m0 : ¬ (m : Int) = 0 := by clear s4; omega
      rw [qL9_carriesCut_18, zm_e (zm_gI hM 11), h11, if_neg (Int.lt_irrefl _), s1, s2, if_neg m0]
  | cons x b ih =>
    intro A e a0 m0 st
    have hx : R[A.length]? = some x := by
      rw [← e, List.getElem?_append_right (Nat.le_refl _), Nat.sub_self]
      rfl
    have il := zm_lt_of_get hx
    have iL : (A.length : Int) < (R.length : Int) := Int.ofNat_lt.mpr il
    have al' : A.length < 640 := Nat.lt_of_lt_of_le il hn
    have e' : (A ++ [x]) ++ b = R := by rw [List.append_assoc]; exact e
    have al : A.length < 640 := Nat.lt_of_lt_of_le il hn
    have w1 : zv_w ((A.length : Int) + 1) = (((A ++ [x]).length : Nat) : Int) := by
      rw [List.length_append]
      clear ih st e e' hx
      generalize A.length = n at *
      rw [zm_w (by omega)]
      rfl
    have r355 : zv_aB h 355 (A.length : Int) = some (if sn x = true then 1 else 0) := by
      rw [zm_aB hM zm_l355 (Or.inl rfl) rfl (Int.natCast_nonneg _) (Int.ofNat_lt.mpr al), Int.toNat_natCast, r5 _ _ hx]
    have wE := zt_cc_w (sn := sn) (Nat.lt_of_lt_of_le al (show 640 ≤ 1000 by decide))
    have ih' := ih (A ++ [x]) e'
    rw [qL9_carriesCut_18, zm_e (zm_gI hM 11), h11, if_pos iL, zm_e (zm_f9 hM), zm_e r355, w1]
    have eD : R.filter sn = (A ++ [x]).filter sn ++ b.filter sn := by rw [← e', List.filter_append]
    clear ih iL r355 r5 h11 hn e e' il al
    by_cases c1 : sn x = true
    · have ef : (A ++ [x]).filter sn = A.filter sn ++ [x] := by rw [List.filter_append, List.filter_cons_of_pos c1]; rfl
      have el : ((A.filter sn ++ [x]).length : Int) = ((A.filter sn).length : Int) + 1 := by rw [List.length_append]; rfl
      rw [ef, el] at ih'
      rw [ef] at eD
      obtain ⟨v, ev, iv⟩ := tk A.length x hx
      rw [if_pos c1, if_neg (by decide), zm_e ev]
      dsimp only
      have bl : (A.filter sn).length ≤ 640 := Nat.le_trans (List.length_filter_le _ _) (Nat.le_of_lt al')
      clear tk hx ef el
      generalize A.filter sn = B at *
      by_cases z : v = 0
      · have np : ¬ P x := fun q => iv.mpr q z
        rw [if_pos z, wE]
        exact ih' a0 m0 (zt_cc_no st np)
      · have px := iv.mp z
        rw [if_neg z]
        clear iv ev z
        rcases st with ⟨s1, s2, s3⟩ | ⟨f, m, s1, s2, s3, s4, s5⟩
        · have w0 : zv_w (0 + 1) = 1 := by decide
          rw [if_pos (by rw [s1]; decide), qL9_carriesCut_69, if_pos (by rw [s1]; decide), w1, wE, s2, w0]
          exact ih' _ _ (zt_cc_1 s3 px)
        · rw [s1, s2, if_neg (Int.not_lt.mpr (Int.natCast_nonneg _))]
          have wm : zv_w ((m : Int) + 1) = ((m + 1 : Nat) : Int) := by
            clear ih' s1 s2 s5 w1 wE eD
            generalize B.length = n at *
            rw [zm_w (by omega)]
            rfl
          have wf : zv_w ((f : Int) + m) = ((f + m : Nat) : Int) := by
            clear ih' s1 s2 s5 w1 wE eD wm
            generalize B.length = n at *
            rw [zm_w (by omega)]
            rfl
          rw [wf]
          by_cases c2 : ((B.length : Nat) : Int) = ((f + m : Nat) : Int)
          · rw [if_pos c2, qL9_carriesCut_69, if_neg (Int.not_lt.mpr (Int.natCast_nonneg _)), w1, wE, wm]
            exact ih' _ _ (zt_cc_2 (Int.ofNat_inj.mp c2) s5 px)
          · rw [if_neg c2, zm_e (zm_refuse hM _ 10)]
            refine Or.inl ⟨rfl, fun f' m' => ?_⟩
            rw [eD]
            exact zt_cc_g s3 (Nat.lt_of_le_of_ne s4 (fun q => c2 (congrArg Nat.cast q.symm))) s5 px f' m'
    · have ef : (A ++ [x]).filter sn = A.filter sn := by rw [List.filter_append, List.filter_cons_of_neg c1, List.filter_nil, List.append_nil]
      rw [ef] at ih'
      rw [if_neg c1, if_pos rfl]
      exact ih' a0 m0 st
end
/-! A44.carry5 -/
section
/-! ===== the tie: carrying one ===== -/
section
variable {a : Nat} {c : Nat → Int} {g k : zv_H} {sf : Nat → Int}
theorem zt_U_V {h : zv_H} (U : zt_U a c h) {s : Int} (hs : zm_st c s) : zc_V h (zt_r a s) := by
  have i48 : s.toNat < 48 := by have := hs.1; omega
  refine ⟨zt_r_l (zt_U_la U) hs.1, ?_⟩
  rw [zt_r_p hs.1.1, zt_U_lv U _ i48, Int.toNat_of_nonneg hs.1.1]
  exact hs.2
theorem zt_src0 (U : zt_U a c g) {l : List Int} (hl : zm_Ln c (c 0 :: l) (c 0)) : zt_src (zt_r a (c 0)) (zt_dc c (c 0 :: l)) g ∧ (∀ x ∈ zt_dc c (c 0 :: l), zt_ok x) := by
  have W := zt_U_W U
  obtain ⟨ok, g0, gt, W1⟩ := zt_line_u W W.2.1 hl
  have S0 := zt_U_st U _ W.2.1
  exact ⟨⟨zt_r_l (zt_U_la U) W.2.1.1, zt_S_ln S0 l hl, W1.2.2.2.2.2.2, zt_S_dc S0 l hl⟩, fun x hx => zt_row_ok ok.2.2.1 g0 x (List.mem_filter.mp hx).1⟩
theorem zt_tk_ok {c : Nat → Int} (W : zm_W c) {s : Int} (hs : zm_st c s) (hk : zm_o c s 2 = 1) : ∀ p ∈ zm_tk c s, zt_ok p := by
  obtain ⟨l, hl, ok, g0, gt, W1⟩ := zt_line W hs
  exact fun p hp => zt_row_ok ok.2.2.1 g0 p (gt s List.mem_cons_self hk p hp)
theorem zt_ctk {d : Nat} (gL : zt_L g) (U : zt_U a c g) {S : Nat} (lS : zv_lay S = (1, 5)) {E : List (Int × Int)} {P : Int × Int → Prop} (src : zt_src (zt_r a (c 0)) E g) (hok : ∀ x ∈ E, zt_ok x) (tk : ∀ x, zt_ok x → ∃ v, C0_takes (d + 3) a S (zt_id x) g = some (v, g) ∧ (v ≠ 0 ↔ P x)) : ∃ f v, C0_firstTaken (d + 4) a S g = some (f, g) ∧ C0_takenFrom (d + 4) a S f g = some (v, g) ∧ ((v = 0 ∧ ∀ f' m', ¬ zt_blk P E f' m') ∨ ∃ f0 m0 : Nat, f = f0 ∧ v = m0 ∧ zt_blk P E f0 m0) := by
  have la := zt_U_la U
  obtain ⟨f, ef, R⟩ := zt_firstTaken (d := d) gL U src hok tk E.length 0 (Nat.zero_add _) (fun j x hj => absurd hj (Nat.not_lt_zero _))
  have e1 : C0_firstTaken (d + 4) a S g = some (f, g) := by
    refine lC0_firstTaken (zl_ob gL la) ?_
    rw [qE0_firstTaken]
    exact ef
  rcases R with ⟨f1, no⟩ | ⟨f0, x, f1, fx, px, no⟩
  · refine ⟨f, 0, e1, lC0_takenFrom (zl_ob gL la) ?_, Or.inl ⟨rfl, fun f' m' => zt_blk_no no f' m'⟩⟩
    rw [qE0_takenFrom, f1, show max (-1 : Int) 0 = ((0 : Nat) : Int) from rfl]
    exact zt_takenNone (d := d) gL U src hok tk no E.length 0 (Nat.zero_add _)
  · have fl := zm_lt_of_get fx
    obtain ⟨v, ev, R2⟩ := zt_takenFrom (d := d) gL U src hok tk ⟨x, fx, px⟩ (E.length - f0) f0 0 (Nat.add_sub_cancel' (Nat.le_of_lt fl)) (Nat.le_refl _) (Or.inl rfl) (fun j y hj hy => ⟨fun q => absurd q (no j y hj hy), fun q => absurd q.1 (Nat.not_le.mpr hj)⟩)
    have mx : max (f0 : Int) 0 = (f0 : Int) := by omega
    refine ⟨f, v, e1, lC0_takenFrom (zl_ob gL la) ?_, ?_⟩
    · rw [qE0_takenFrom, f1, mx]
      exact ev
    · rcases R2 with R2 | ⟨m', e, b⟩
      · exact Or.inl R2
      · exact Or.inr ⟨f0, m', f1, e, b⟩
/-- the letters of what is carried -/
theorem zt_C7_clear {d r : Nat} (gL : zt_L g) (lr : zv_lay r = (1, 7)) : C7_clear (d + 1) r g = some (zv_sI g r 1 0) := by
  refine lC7_clear (zl_ob gL lr) ?_
  rw [qE7_clear, zm_e (zl_pI gL lr 1 0)]
theorem zt_C7_add {d r : Nat} (gL : zt_L g) (lr : zv_lay r = (1, 7)) (lr1 : zv_lay (r + 1) = (2, 40)) {i : Nat} (i40 : i < 40) (hi : zv_I g r 1 = i) (v : Int) : C7_add (d + 1) r v g = some (zv_sI (zv_sI g (r + 1) i v) r 1 (i + 1 : Nat)) := by
  have ne : ¬ (r = r + 1 ∧ 1 = i) := fun q => by omega
  refine lC7_add (zl_ob gL lr) ?_
  have w1 : zv_w ((i : Int) + 1) = ((i + 1 : Nat) : Int) := by
    rw [zm_w (by omega)]
    rfl
  rw [qE7_add, zm_e (zl_gI gL lr 1), hi, if_neg (by omega), zm_e (zl_gI gL lr 1), hi, zm_e (zl_gF gL lr 0 1), zm_e (zl_al gL lr1), if_pos (by omega), zm_e (zl_gF gL lr 0 1), zm_e (zl_gI gL lr 1), hi, zm_e (zl_wI gL lr1 (by omega) (by omega) v), Int.toNat_natCast, zm_e (zl_gI (g := zv_sI g (r + 1) i v) gL lr 1), zy_In _ _ ne, hi, w1, zm_e (zl_pI (g := zv_sI g (r + 1) i v) gL lr 1 _)]
theorem zt_glyph {d : Nat} (gL : zt_L g) (U : zt_U a c g) {s : Int} (hs : zm_st c s) (hk : zm_o c s 2 = 0) {i : Nat} (hi : (i : Int) < zm_o c s 5) : C0_glyph (d + 1) a (zt_id (s, (i : Int))) g = some (zm_o c s (12 + (i : Int)), g) := by
  have la := zt_U_la U
  have ok := zt_ok_of (zt_U_W U) hs (Or.inl hk) hi
  have ir := zt_id_r ok
  have l5 : zv_lay (a + 5) = (2, 604) := by cases zc_lh la with
    | inl e => rw [e]; rfl
    | inr e => rw [e]; rfl
  refine lC0_glyph (zl_ob gL la) ?_
  rw [qE0_glyph, if_neg (by omega), if_pos (by omega), zm_e (zl_gF gL la 2 5), zm_e (zl_aI gL l5 ir.1 ir.2), zt_S_gl (zt_U_st U s hs) (Or.inl hk) i hi]
theorem zt_co91 {d : Nat} {g0 : zv_H} {s : Int} (hs : zm_st c s) (hk : zm_o c s 2 = 0) {m : Nat} (hm : zm_o c s 5 = m) (h12 : m ≤ 12) (pl : Int) : ∀ (n i : Nat) (g : zv_H), i + n = m → zc_A g → zt_U a c g → zt_q g0 g → zv_I g (a + 26) 1 = i → (∀ j : Nat, j < i → zv_I g (a + 27) j = zm_o c s (12 + (j : Int))) → ∃ g', L0_carryOne_91 (d + 1) a (zt_r a s) pl i g = ((C0_putWord (d + 1) a pl (a + 26) g').bind fun q8 => (some (some (zv_i q8.1), q8.2) : zv_O)) ∧ zc_A g' ∧ zt_U a c g' ∧ zt_q g0 g' ∧ zt_wd (a + 26) m (fun j => zm_o c s (12 + (j : Int))) g' := by
  have s47 := hs.1
  intro n
  induction n with
  | zero =>
    intro i g hi hA U q h1 hw
    have gL := zt_L_A hA
    have la := zt_U_la U
    obtain ⟨_, l26, l27⟩ := zt_sta_l la
    have lS := zt_r_l la s47
    have S := zt_U_st U s hs
    have e : i = m := hi
    subst e
    refine ⟨g, ?_, hA, U, q, l26, l27, Nat.le_trans h12 (by decide), h1, hw⟩
    rw [qL0_carryOne_91, zm_e (zl_gI gL lS 9), zt_S_sz S, hm, if_neg (Int.lt_irrefl _), zm_e (zl_gF gL la 9 26)]
  | succ n ih =>
    intro i g hi hA U q h1 hw
    have gL := zt_L_A hA
    have la := zt_U_la U
    obtain ⟨_, l26, l27⟩ := zt_sta_l la
    have lS := zt_r_l la s47
    have S := zt_U_st U s hs
    have im : i < m := by omega
    have iI : (i : Int) < (m : Int) := Int.ofNat_lt.mpr im
    have w1 : zv_w ((i : Int) + 1) = ((i + 1 : Nat) : Int) := by
      rw [zm_w (by clear hm hs S; omega)]
      rfl
    have xa : ∀ j, zt_x (a + 27) j := fun j => zt_xa la (by omega)
    have xb : zt_x (a + 26) 1 := by
      rcases zc_lh la with e | e
      · exact Or.inr (Or.inr (Or.inr ⟨9, Or.inl rfl, by omega⟩))
      · exact Or.inr (Or.inr (Or.inr ⟨178, Or.inr rfl, by omega⟩))
    have q2 : zt_q g (zv_sI (zv_sI g (a + 27) i (zm_o c s (12 + (i : Int)))) (a + 26) 1 (i + 1 : Nat)) := zt_q_t (zt_q_sI _ (xa _)) (zt_q_sI _ xb)
    have eg := zt_glyph (d := d) gL U hs hk (i := i) (by rw [hm]; exact iI)
    have ok := zt_id_r (zt_ok_of (zt_U_W U) hs (Or.inl hk) (k := i) (by rw [hm]; exact iI))
    have rv : zv_rg (zm_o c s (12 + (i : Int))) := by
      obtain ⟨q, e, _, r, _⟩ := zc_C0_glyph (d := d) hA la (a1 := zt_id (s, (i : Int))) (by unfold zv_rg; clear hm hs S; omega)
      rw [eg] at e
      cases e
      exact r
    have ea := zt_C7_add (d := d) gL l26 l27 (by clear hm hs S; omega) h1 (zm_o c s (12 + (i : Int)))
    have hA2 : zc_A (zv_sI (zv_sI g (a + 27) i (zm_o c s (12 + (i : Int)))) (a + 26) 1 (i + 1 : Nat)) := by
      obtain ⟨q, e, w⟩ := zc_C7_add (d := d) hA l26 rv
      rw [ea] at e
      cases e
      exact w.2
    obtain ⟨g', e, r1, r2, r3, r4⟩ := ih (i + 1) (zv_sI (zv_sI g (a + 27) i (zm_o c s (12 + (i : Int)))) (a + 26) 1 (i + 1 : Nat)) (by omega) hA2 (zt_U_q U q2) (zt_q_t q q2) (zy_I _ _ _ _) (fun j hj => by
      rw [zy_In _ _ (fun q => by omega)]
      by_cases e : j = i
      · rw [e, zy_I]
      · rw [zy_In _ _ (fun q => e q.2)]
        exact hw j (by omega))
    refine ⟨g', ?_, r1, r2, r3, r4⟩
    rw [qL0_carryOne_91, zm_e (zl_gI gL lS 9), zt_S_sz S, hm, if_pos iI, zm_e (zl_gF gL la 9 26), zm_e (zl_gI gL lS 0), zt_num U hs, zm_e (zt_C4_id s47 (by clear hm hs S; omega))]
    dsimp only
    rw [zm_e eg]
    dsimp only
    rw [zm_e ea, w1]
    exact e
/-- the reference's letters -/
theorem zt_ca116 {d : Nat} {s : Int} (hs : zm_st c s) (pl : Int) {m : Nat} (h12 : m ≤ 12) : ∀ (n i : Nat) (h : zv_H), i + n = m → zm_M h → zv_I h 348 = c → zv_I h 347 19 = m → (∀ j : Nat, j < i → zv_I h 360 j = zm_o c s (12 + (j : Int))) → ∃ h', L9_carries_116 (d + 1) 347 s pl i h = ((C9_putNow (d + 1) 347 pl h').bind fun q5 => (some (some (zv_i q5.1), q5.2) : zv_O)) ∧ zm_F [360] [] h h' ∧ ∀ j : Nat, j < m → zv_I h' 360 j = zm_o c s (12 + (j : Int)) := by
  have s48 := zm_st48 hs
  clear hs
  intro n
  induction n with
  | zero =>
    intro i h hi hM hc h19 hw
    have e : i = m := hi
    subst e
    refine ⟨h, ?_, zm_F_r _ _ h, hw⟩
    rw [qL9_carries_116, zm_e (zm_gI hM 19), h19, if_neg (Int.lt_irrefl _)]
  | succ n ih =>
    intro i h hi hM hc h19 hw
    have im : i < m := by omega
    have w1 : zv_w ((i : Int) + 1) = ((i + 1 : Nat) : Int) := by
      rw [zm_w (by omega)]
      rfl
    have w2 : zv_w (12 + (i : Int)) = 12 + (i : Int) := zm_w (by omega)
    have f0 : zm_F [360] [] h (zv_sI h 360 i (zm_o c s (12 + (i : Int)))) := zm_F_I (zm_F_r _ _ h) rfl _ _
    obtain ⟨h', e, F, hh⟩ := ih (i + 1) (zv_sI h 360 i (zm_o c s (12 + (i : Int)))) (by omega) hM ((zm_so h _ _).trans hc) h19 (fun j hj => by
      by_cases z : j = i
      · rw [z, zy_I]
      · rw [zy_In _ _ (fun q => z q.2)]
        exact hw j (by omega))
    refine ⟨h', ?_, zm_F_t f0 F, hh⟩
    rw [qL9_carries_116, zm_e (zm_gI hM 19), h19, if_pos (Int.ofNat_lt.mpr im), zm_e (zm_f17 hM), w2, zm_e (zm_of hM d s48 (w := 12 + (i : Int)) (by omega)), hc, w1]
    dsimp only
    rw [zm_e (zm_wI hM zm_l360 rfl (by omega) (by omega) _), Int.toNat_natCast]
    exact e
theorem zt_ca74 {d : Nat} {h : zv_H} (hM : zm_M h) {R : List (Int × Int)} {sn : Int × Int → Bool} {s : Int} (r5 : ∀ (i : Nat) (x : Int × Int), R[i]? = some x → zv_I h 355 i = if sn x = true then 1 else 0) (hn : R.length ≤ 640) {j : Nat} (hj : j < R.length) : ∀ (n i : Nat), i + n = j + 1 → L9_carries_74 d 347 s (((R.take i).filter sn).length : Int) j i h = L9_carries_104 d 347 s (((R.take (j + 1)).filter sn).length : Int) h := by
  intro n
  induction n with
  | zero =>
    intro i hi
    have e : i = j + 1 := hi
    subst e
    rw [qL9_carries_74, if_neg (by omega)]
  | succ n ih =>
    intro i hi
    obtain ⟨x, hx⟩ : ∃ x, R[i]? = some x := ⟨_, List.getElem?_eq_getElem (by omega)⟩
    have w1 : zv_w ((i : Int) + 1) = ((i + 1 : Nat) : Int) := by
      rw [zm_w (by omega)]
      rfl
    have fl : ((R.take i).filter sn).length ≤ 640 := Nat.le_trans (List.length_filter_le _ _) (by rw [List.length_take]; omega)
    have ih' := ih (i + 1) (by omega)
    rw [zt_take_s hx, List.filter_append, List.length_append] at ih'
    have r355 : zv_aB h 355 (i : Int) = some (if sn x = true then 1 else 0) := by
      rw [zm_aB hM zm_l355 (Or.inl rfl) rfl (by omega) (by omega), Int.toNat_natCast, r5 _ _ hx]
    rw [qL9_carries_74, if_pos (by omega), zm_e (zm_f9 hM), zm_e r355, w1]
    generalize ((R.take i).filter sn).length = F at *
    by_cases e : sn x = true
    · rw [List.filter_cons_of_pos e] at ih'
      rw [if_pos e, if_neg (by decide), zm_w (by omega)]
      exact ih'
    · rw [List.filter_cons_of_neg e] at ih'
      rw [if_neg e, if_pos rfl, zm_w (by omega), Int.add_zero]
      exact ih'
end
end
/-! A45.carry6 -/
section
/-! ===== the tie: carrying one, both sides ===== -/
section
variable {a : Nat} {c : Nat → Int} {g k : zv_H} {sf : Nat → Int}
/-- what carrying one leaves as it was, too -/
def zt_cy (a : Nat) (c : Nat → Int) (sf : Nat → Int) (g : zv_H) (k : zv_H) (q : Int × zv_H) (q' : Int × zv_H) : Prop := (zt_Z a 1 g k q q') ∧ (zt_oh a g q.2) ∧ (zt_sd a sf q.2 q'.2) ∧ (zm_F [348, 351, 352, 353, 354, 355, 358, 359, 360] [3, 10, 11, 12, 19] k q'.2) ∧ (zm_Dn c q'.1 (zv_I q'.2 348))
theorem zt_cy_Z {a : Nat} {c : Nat → Int} {sf : Nat → Int} {g : zv_H} {k : zv_H} {q : Int × zv_H} {q' : Int × zv_H} (t : zt_cy a c sf g k q q') : zt_Z a 1 g k q q' := t.1
theorem zt_cy_oh {a : Nat} {c : Nat → Int} {sf : Nat → Int} {g : zv_H} {k : zv_H} {q : Int × zv_H} {q' : Int × zv_H} (t : zt_cy a c sf g k q q') : zt_oh a g q.2 := t.2.1
theorem zt_cy_D {a : Nat} {c : Nat → Int} {sf : Nat → Int} {g : zv_H} {k : zv_H} {q : Int × zv_H} {q' : Int × zv_H} (t : zt_cy a c sf g k q q') : zt_sd a sf q.2 q'.2 := t.2.2.1
theorem zt_cy_F {a : Nat} {c : Nat → Int} {sf : Nat → Int} {g : zv_H} {k : zv_H} {q : Int × zv_H} {q' : Int × zv_H} (t : zt_cy a c sf g k q q') : zm_F [348, 351, 352, 353, 354, 355, 358, 359, 360] [3, 10, 11, 12, 19] k q'.2 := t.2.2.2.1
theorem zt_cy_Dn {a : Nat} {c : Nat → Int} {sf : Nat → Int} {g : zv_H} {k : zv_H} {q : Int × zv_H} {q' : Int × zv_H} (t : zt_cy a c sf g k q q') : zm_Dn c q'.1 (zv_I q'.2 348) := t.2.2.2.2
theorem zt_Z_com {y : Int} {g1 k1 : zv_H} {q q' : Int × zv_H} (X : zc_X g q.2) (kk : zt_k a g g1) (F1 : zm_F [348, 351, 352, 353, 354, 355, 358, 359, 360, 362, 363, 364, 365] [3, 10, 11, 12, 19, 24] k k1) (e1 : zv_I k1 348 = zv_I k 348) (Z : zt_Z a y g1 k1 q q') : zt_Z a y g k q q' := by
  have g1' := zt_Z_g1 Z
  have g2' := zt_Z_g2 Z
  rw [e1] at g1' g2'
  exact ⟨X, zt_k_t kk (zt_Z_k Z), zm_F_t F1 (zt_Z_F Z), zt_Z_a1 Z, zt_Z_H Z, g1', g2'⟩
theorem zt_sd_t (D : zt_sd a sf g k) {g' k' : zv_H} (o : zt_oh a g g') {A B : List Nat} (F : zm_F A B k k') (n : A.contains 362 = false) : zt_sd a sf g' k' := by
  refine ⟨fun i hi => (o 6 i (Or.inr (Or.inl rfl))).trans (zt_sd_cl D i hi), fun i hi => ?_, zt_sd_z D, zt_sd_r D⟩
  rw [zm_F_a F 362 n]
  exact zt_sd_rf D i hi
/-- a cut, carried -/
theorem zj_co_cut {d D : Nat} (hA : zc_A g) (H : zt_H a c g) (hM : zm_M k) (hc : zv_I k 348 = c) (b : c 2 < 2000000000) (Ds : zt_sd a sf g k) {s : Int} (hs : zm_st c s) (hk : zm_o c s 2 = 1) : ∃ q q', C0_carryOne (d + 5) a (zt_r a s) g = some q ∧ C9_carries (D + 8) 347 s k = some q' ∧ zt_cy a c sf g k q q' := by
  have U := zt_H_U H
  have W := zt_U_W U
  have la := zt_U_la U
  have gL := zt_L_A hA
  have lS := zt_r_l la hs.1
  have S := zt_U_st U s hs
  have s48 := zm_st48 hs
  have he : zm_ed c s := Or.inr hk
  obtain ⟨l, hl, ok, g0, gt, W1⟩ := zt_line W W.2.1
  obtain ⟨src, hok⟩ := zt_src0 U hl
  have tok := zt_tk_ok W hs hk
  obtain ⟨f, v, e1, e2, R⟩ := zt_ctk (d := d) gL U lS src hok (fun x hx => zt_takes (d := d) gL U Ds hs hk tok hx)
  -- the reference looks
  obtain ⟨k1, es, Fs, Sn⟩ := zm_sees hM hc (D + 2) (s := c 0) W.2.1.1.1 hl (Nat.le_succ_of_le ok.2.2.2) g0 gt
  have hM1 := zm_F_M Fs hM
  have c1 : zv_I k1 348 = c := (zm_F_a Fs 348).trans hc
  have hrl := zm_row_le g0
  have l48 := ok.2.2.2
  have hrl2 : (zm_row c (c 0 :: l)).length ≤ 640 := by clear hs hk he; omega
  have rf1 : ∀ i : Nat, i < 48 → zv_I k1 362 i = sf i := fun i hi => by rw [zm_F_a Fs 362]; exact zt_sd_rf Ds i hi
  have R18 := zt_cc18 D (h := k1) hM1 (R := zm_row c (c 0 :: l)) (sn := zm_sn c (c 0 :: l)) (s := s) (P := zt_tP c sf s) Sn.2.1.1 Sn.2.2.2.1 hrl2 (fun i x hx => by
    have il : i < 640 := Nat.lt_of_lt_of_le (zm_lt_of_get hx) hrl2
    exact zt_isTaken hM1 c1 W (D + 4) hs hk tok rf1 il (Sn.2.1.2 i x hx).1 (Sn.2.1.2 i x hx).2) (zm_row c (c 0 :: l)) [] (List.nil_append _) (-1) 0 (Or.inl ⟨rfl, rfl, fun x hx => by cases hx⟩)
  have cls : ∀ {q : Int × zv_H}, (if v = 0 then (some (some (zv_i (-10)), g) : zv_O) else ((C0_cutOut (d + 4) a f v g).bind fun q4 => (some (some (zv_i q4.1), q4.2) : zv_O))) = some (some (zv_i q.1), q.2) → C0_carryOne (d + 5) a (zt_r a s) g = some q := fun {q} e => by
    refine lC0_carryOne (zl_ob gL la) ?_
    rw [qE0_carryOne, zm_e (zl_gI gL lS 6), zt_S_ac S, if_pos hk, zm_e e1]
    dsimp only
    rw [zm_e e2]
    exact e
  have rfc : ∀ {q : Int × zv_H}, L9_carriesCut_18 (D + 6) 347 s (-1) 0 0 0 k1 = some (some (zv_i q.1), q.2) → C9_carries (D + 8) 347 s k = some q := fun {q} e => by
    have ec : C9_carriesCut (D + 7) 347 s k = some q := by
      refine lC9_carriesCut (zm_ob hM) ?_
      rw [qE9_carriesCut, zm_e (zm_here hM _), hc]
      dsimp only
      rw [zm_e es]
      exact e
    refine lC9_carries (zm_ob hM) ?_
    rw [qE9_carries, zm_e (zm_of hM _ s48 (by decide)), hc]
    dsimp only
    rw [if_pos hk, zm_e ec]
  obtain ⟨⟨w', k'⟩, er, Fr, Dn⟩ := zm_carries hM hc W D hs he
  rcases R with ⟨v0, no⟩ | ⟨f0, m0, ef, ev, bk⟩
  · rcases R18 with ⟨r1, _⟩ | ⟨f', m', bk, _⟩
    · have e2' := rfc (q := (-1, zv_sI k1 347 3 10)) r1
      have ee : ((w', k') : Int × zv_H) = (-1, zv_sI k1 347 3 10) := Option.some.inj (er.symm.trans e2')
      refine ⟨(-10, g), (w', k'), cls (q := (-10, g)) (by rw [if_pos v0]), er, ?_, fun _ _ _ => rfl, zt_sd_t Ds (fun _ _ _ => rfl) Fr rfl, Fr, Dn⟩
      have ew : w' = -1 := congrArg Prod.fst ee
      have ek : k' = zv_sI k1 347 3 10 := congrArg Prod.snd ee
      rw [ew]
      refine zt_Z_no (by decide) H hc (zc_X_r hA) (zt_k_r a g) H (zm_F_s Fr rfl rfl) (by decide) ?_
      rw [ek]
      exact (zm_so k1 _ _).trans c1
    · exact absurd bk (no f' m')
  · rcases R18 with ⟨_, no⟩ | ⟨f', m', bk', r1⟩
    · exact absurd bk (no f0 m0)
    · obtain ⟨i1, i2⟩ := zt_blk_u bk bk'
      subst i1
      subst i2
      have b120 := zt_src_n120 src
      have b2 := bk.2.1
      have b1 := bk.1
      have rg1 : zv_rg (f0 : Int) := by unfold zv_rg; clear hs hk he; omega
      have rg2 : zv_rg (m0 : Int) := by unfold zv_rg; clear hs hk he; omega
      obtain ⟨q, q', z1, z2, Z, oh⟩ := zj_cut (d := d) (D := D) hA H hM1 c1 b rg1 rg2
      have v0 : ¬ v = 0 := by rw [ev]; clear hs hk he; omega
      have e1' := cls (q := q) (by rw [if_neg v0, ef, ev, zm_e z1])
      have e2' := rfc (q := q') (r1.trans (by rw [zm_e z2]))
      have ee : ((w', k') : Int × zv_H) = q' := Option.some.inj (er.symm.trans e2')
      rw [ee] at er Fr Dn
      refine ⟨q, q', e1', er, zt_Z_com (zt_Z_X Z) (zt_k_r a g) (zm_F_s Fs rfl rfl) (c1.trans hc.symm) Z, oh, zt_sd_t Ds oh Fr rfl, Fr, Dn⟩
end
end
/-! A46.carry7 -/
section
/-! ===== the tie: carrying one, a put; carrying ===== -/
section
variable {a : Nat} {c : Nat → Int} {g k : zv_H} {sf : Nat → Int}
theorem zt_co74 {d : Nat} (hA : zc_A g) (U : zt_U a c g) {s : Int} (hs : zm_st c s) (hk : zm_o c s 2 = 0) {m : Nat} (hm : zm_o c s 5 = m) (h12 : m ≤ 12) {pl : Int} (np : pl ≠ -1) : ∃ g', L0_carryOne_74 (d + 1) a (zt_r a s) pl g = ((C0_putWord (d + 1) a pl (a + 26) g').bind fun q8 => (some (some (zv_i q8.1), q8.2) : zv_O)) ∧ zc_A g' ∧ zt_U a c g' ∧ zt_q g g' ∧ zt_wd (a + 26) m (fun j => zm_o c s (12 + (j : Int))) g' := by
  have la := zt_U_la U
  have gL := zt_L_A hA
  obtain ⟨_, l26, l27⟩ := zt_sta_l la
  have xb : zt_x (a + 26) 1 := by
    rcases zc_lh la with e | e
    · exact Or.inr (Or.inr (Or.inr ⟨9, Or.inl rfl, by omega⟩))
    · exact Or.inr (Or.inr (Or.inr ⟨178, Or.inr rfl, by omega⟩))
  have ec := zt_C7_clear (d := d) gL l26
  have hA2 : zc_A (zv_sI g (a + 26) 1 0) := by
    obtain ⟨q, e, w⟩ := zc_C7_clear (d := d) hA l26
    rw [ec] at e
    cases e
    exact w.2
  have q2 : zt_q g (zv_sI g (a + 26) 1 0) := zt_q_sI _ xb
  obtain ⟨g', e, r⟩ := zt_co91 (d := d) (g0 := g) hs hk hm h12 pl m 0 (zv_sI g (a + 26) 1 0) (Nat.zero_add _) hA2 (zt_U_q U q2) q2 (zy_I _ _ _ _) (fun j hj => absurd hj (Nat.not_lt_zero _))
  refine ⟨g', ?_, r⟩
  rw [qL0_carryOne_74, if_neg np, zm_e (zl_gF gL la 9 26), zm_e ec]
  exact e
theorem zt_at_in {p : Int × Int} : ∀ {r : List (Int × Int)}, 0 ≤ zm_at r p → p ∈ r
  | [], h => absurd h (by unfold zm_at; decide)
  | x :: r, h => by
    unfold zm_at at h
    by_cases e : x = p
    · rw [e]; exact List.mem_cons_self
    · rw [if_neg e] at h
      refine List.mem_cons_of_mem _ (zt_at_in ?_)
      by_cases z : zm_at r p < 0
      · rw [if_pos z] at h
        exact absurd h (by decide)
      · exact Int.not_lt.mp z
theorem zt_ca104 {D : Nat} {h : zv_H} (hM : zm_M h) (hc : zv_I h 348 = c) {s : Int} (hs : zm_st c s) {m : Nat} (hm : zm_o c s 5 = m) (h12 : m ≤ 12) (pl : Int) : ∃ h', L9_carries_104 (D + 1) 347 s pl h = ((C9_putNow (D + 1) 347 pl h').bind fun q5 => (some (some (zv_i q5.1), q5.2) : zv_O)) ∧ zm_F [360] [19] h h' ∧ zv_I h' 347 19 = m ∧ ∀ j : Nat, j < m → zv_I h' 360 j = zm_o c s (12 + (j : Int)) := by
  have s48 := zm_st48 hs
  have h19 : zv_I (zv_sI h 347 19 (m : Int)) 347 19 = m := zy_I _ _ _ _
  obtain ⟨h', e, F, w⟩ := zt_ca116 (d := D) hs pl h12 m 0 (zv_sI h 347 19 (m : Int)) (Nat.zero_add _) hM ((zm_so h _ _).trans hc) h19 (fun j hj => absurd hj (Nat.not_lt_zero _))
  refine ⟨h', ?_, zm_F_t (zm_F_f (zm_F_r _ _ h) rfl _) (zm_F_s F rfl rfl), (zm_F_g F 19).trans h19, w⟩
  rw [qL9_carries_104, zm_e (zm_of hM _ s48 (by decide)), hc, hm]
  dsimp only
  rw [zm_e (zm_pI hM 19 _)]
  exact e
/-- both put, at one place -/
theorem zj_co_fin {d D : Nat} {g1 k1 : zv_H} (hA : zc_A g) (H : zt_H a c g) (hM : zm_M k) (hc : zv_I k 348 = c) (b : c 2 < 2000000000) (Ds : zt_sd a sf g k) {s : Int} (hs : zm_st c s) (hk : zm_o c s 2 = 0) (hA1 : zc_A g1) (Q1 : zt_q g g1) (F1 : zm_F [351, 352, 353, 354, 355] [10, 11, 12] k k1) {pl : Int} (np : pl ≠ -1) (rp : zv_rg pl) (e1 : ∀ {q}, L0_carryOne_74 (d + 4) a (zt_r a s) pl g1 = some (some (zv_i q.1), q.2) → C0_carryOne (d + 5) a (zt_r a s) g = some q) (e2 : ∀ {q}, L9_carries_104 (D + 7) 347 s pl k1 = some (some (zv_i q.1), q.2) → C9_carries (D + 8) 347 s k = some q) : ∃ q q', C0_carryOne (d + 5) a (zt_r a s) g = some q ∧ C9_carries (D + 8) 347 s k = some q' ∧ zt_cy a c sf g k q q' := by
  have U := zt_H_U H
  have W := zt_U_W U
  have la := zt_U_la U
  have hM1 := zm_F_M F1 hM
  have c1 : zv_I k1 348 = c := (zm_F_a F1 348).trans hc
  obtain ⟨m, h12, em⟩ := zm_ed_n W.1 hs (Or.inl hk)
  have hm := em _ rfl
  obtain ⟨g2, f1, hA2, U2, Q2, wd⟩ := zt_co74 (d := d + 3) hA1 (zt_U_q U Q1) hs hk hm h12 np
  obtain ⟨k2, f2, F2, h19, wd2⟩ := zt_ca104 (D := D + 6) hM1 c1 hs hm h12 pl
  have hM2 := zm_F_M F2 hM1
  have c2 : zv_I k2 348 = c := (zm_F_a F2 348).trans c1
  have Q := zt_q_t Q1 Q2
  have wd' : zt_wd (a + 26) m (zv_I k2 360) g2 := ⟨wd.1, wd.2.1, wd.2.2.1, wd.2.2.2.1, fun j hj => (wd.2.2.2.2 j hj).trans (wd2 j hj).symm⟩
  obtain ⟨q, q', z1, z2, Z, oh⟩ := zj_put (d := d) (D := D + 1) hA2 (zt_H_q H Q) hM2 c2 b wd' h12 (Or.inr (Or.inr rfl)) h19 (fun j hj => by rw [wd2 j hj]; exact zt_cw_lt (zt_S_cw (zt_U_st U s hs)) (Or.inl hk) j (by omega) (by omega)) rp
  have y1 := e1 (q := q) (by rw [f1, zm_e z1])
  have y2 := e2 (q := q') (by rw [f2, zm_e z2])
  obtain ⟨p, er, Fr, Dn⟩ := zm_carries hM hc W D hs (Or.inl hk)
  have ee : p = q' := Option.some.inj (er.symm.trans y2)
  rw [ee] at Fr Dn
  obtain ⟨p2, ep, O⟩ := zc_C0_carryOne (d := d) hA la (zt_U_V U hs)
  have ee2 : p2 = q := Option.some.inj (ep.symm.trans y1)
  rw [ee2] at O
  have ohq := zt_oh_t (zt_oh_q la Q) oh
  exact ⟨q, q', y1, y2, zt_Z_com O.1 (zt_q_k a Q) (zm_F_t (zm_F_s F1 rfl rfl) (zm_F_s F2 rfl rfl)) (c2.trans hc.symm) Z, ohq, zt_sd_t Ds ohq Fr rfl, Fr, Dn⟩
theorem zj_co_put {d D : Nat} (hA : zc_A g) (H : zt_H a c g) (hM : zm_M k) (hc : zv_I k 348 = c) (b : c 2 < 2000000000) (Ds : zt_sd a sf g k) {s : Int} (hs : zm_st c s) (hk : zm_o c s 2 = 0) : ∃ q q', C0_carryOne (d + 5) a (zt_r a s) g = some q ∧ C9_carries (D + 8) 347 s k = some q' ∧ zt_cy a c sf g k q q' := by
  have U := zt_H_U H
  have W := zt_U_W U
  have la := zt_U_la U
  have gL := zt_L_A hA
  have lS := zt_r_l la hs.1
  have S := zt_U_st U s hs
  have s48 := zm_st48 hs
  have n1 : ¬ zm_o c s 2 = 1 := by rw [hk]; decide
  obtain ⟨l, hl, ok, g0, gt, W1⟩ := zt_line W W.2.1
  obtain ⟨k1, es, Fs, Sn⟩ := zm_sees hM hc (D + 3) (s := c 0) W.2.1.1.1 hl (Nat.le_succ_of_le ok.2.2.2) g0 gt
  have hM1 := zm_F_M Fs hM
  have c1 : zv_I k1 348 = c := (zm_F_a Fs 348).trans hc
  have hrl := zm_row_le g0
  have l48 := ok.2.2.2
  have r604 : (zm_row c (c 0 :: l)).length ≤ 604 := by clear hs hk n1; omega
  have hrl2 : (zm_row c (c 0 :: l)).length ≤ 640 := Nat.le_trans r604 (by decide)
  have an := zt_S_an S
  have ref : ∀ {R : zv_O}, (if zm_o c s 8 < 0 then L9_carries_104 (D + 7) 347 s 0 k1 else (if zm_at (zm_row c (c 0 :: l)) (sf (zm_o c s 8).toNat, zm_o c s 9) < 0 then (some (some (zv_i (-1)), zv_sI k1 347 3 10) : zv_O) else L9_carries_74 (D + 7) 347 s 0 (zm_at (zm_row c (c 0 :: l)) (sf (zm_o c s 8).toNat, zm_o c s 9)) 0 k1)) = R → ∀ {q : Int × zv_H}, R = some (some (zv_i q.1), q.2) → C9_carries (D + 8) 347 s k = some q := by
    intro R hR q hq
    refine lC9_carries (zm_ob hM) ?_
    rw [qE9_carries, zm_e (zm_of hM _ s48 (by decide)), hc]
    dsimp only
    rw [if_neg n1, zm_e (zm_here hM _), hc]
    dsimp only
    rw [zm_e es, zm_e (zm_of hM1 _ s48 (by decide)), c1]
    dsimp only
    by_cases h8 : zm_o c s 8 < 0
    · rw [if_pos h8] at hR ⊢
      exact hR.trans hq
    · have bh := zm_bh W.1 hs h8
      have a362 : zv_aI k1 362 (zm_o c s 8) = some (sf (zm_o c s 8).toNat) := by
        rw [zm_aI hM1 zm_l362 rfl bh.1 bh.2, zm_F_a Fs 362, zt_sd_rf Ds _ (by omega)]
      rw [if_neg h8] at hR ⊢
      rw [zm_e (zm_f21 hM1), zm_e (zm_of hM1 _ s48 (by decide)), c1]
      dsimp only
      rw [zm_e a362, zm_e (zm_of hM1 _ s48 (by decide)), c1]
      dsimp only
      rw [zm_e (zm_rowOf hM1 _ _ _ Sn.2.1 hrl2)]
      dsimp only
      by_cases h9 : zm_at (zm_row c (c 0 :: l)) (sf (zm_o c s 8).toNat, zm_o c s 9) < 0
      · rw [if_pos h9] at hR ⊢
        rw [zm_e (zm_refuse hM1 _ 10)]
        exact hR.trans hq
      · rw [if_neg h9] at hR ⊢
        exact hR.trans hq
  have cls : ∀ {R : zv_O}, ((C0_carryOne (d + 5) a (zt_r a s) g) = (C0_carryOne (d + 5) a (zt_r a s) g)) → E0_carryOne (d + 4) a (zt_r a s) g = R → ∀ {q : Int × zv_H}, R = some (some (zv_i q.1), q.2) → C0_carryOne (d + 5) a (zt_r a s) g = some q := by
    intro R _ hR q hq
    exact lC0_carryOne (zl_ob gL la) (hR.trans hq)
  by_cases h8 : zm_o c s 8 < 0
  · rw [if_neg (show ¬ (zm_o c s 2 = 0 ∧ 0 ≤ zm_o c s 8) from fun q => absurd q.2 (Int.not_le.mpr h8))] at an
    refine zj_co_fin (d := d) (D := D) (pl := 0) (g1 := g) (k1 := k1) hA H hM hc b Ds hs hk hA (zt_q_r g) Fs (by decide) (by unfold zv_rg; decide) (fun {q} e => cls rfl ?_ e) (fun {q} e => ref (if_pos h8) e)
    rw [qE0_carryOne, zm_e (zl_gI gL lS 6), zt_S_ac S, if_neg n1, zm_e (zl_gI gL lS 15), an, if_pos rfl]
  · have h8' : 0 ≤ zm_o c s 8 := Int.not_lt.mp h8
    rw [if_pos ⟨hk, h8'⟩] at an
    obtain ⟨ls, hls, oks, gs, _⟩ := zt_line W hs
    have pm := zt_cw_an (zt_S_cw S) ls hls hk h8'
    have pok : zt_ok (zm_o c s 8, zm_o c s 9) := by
      by_cases e : ls = []
      · rw [e] at pm
        cases pm
      · exact zt_row_ok (fun t ht => oks.2.2.1 t (List.mem_cons_of_mem _ ht)) (zm_G0_t e gs).1 _ pm
    have xok := zt_so_ok Ds pok
    obtain ⟨g1, el, B, rw1, lo⟩ := zt_lay (d := d) gL U W.2.1 hl
    obtain ⟨gL1, U1, Q1, wk⟩ := B
    have hA1 : zc_A g1 := by
      obtain ⟨q, e, w⟩ := zc_C4_lay (d := d + 1) hA (zt_row_l la).1 (zt_U_V U W.2.1)
      rw [el] at e
      cases e
      exact w.2
    have D1 : zt_sd a sf g1 k := ⟨fun i hi => (zt_oh_q la Q1 6 i (Or.inr (Or.inl rfl))).trans (zt_sd_cl Ds i hi), zt_sd_rf Ds, zt_sd_z Ds, zt_sd_r Ds⟩
    have S1 := zt_U_st U1 s hs
    have an1 := zt_S_an S1
    rw [if_pos ⟨hk, h8'⟩] at an1
    have idr := zt_id_r pok
    have est := zt_standOf (d := d + 2) gL1 la D1 pok
    have B' : zt_B a c (c 0 :: l) g g1 := ⟨gL1, U1, Q1, wk⟩
    have se : ∀ (i : Nat) (p : Int × Int), (zm_row c (c 0 :: l))[i]? = some p → zv_I g1 (a + 11) i = if zm_sn c (c 0 :: l) p = true then 1 else 0 := fun i p hp => by
      rw [lo.1 i p hp, zt_lay_sn W.2.1 hl B' (List.mem_of_getElem? hp)]
    obtain ⟨v, ev, R⟩ := zt_seenUpTo (d := d + 1) gL1 la (zt_rw_sz rw1) (zt_rw_id rw1) se r604 (fun x hx => zt_row_ok ok.2.2.1 g0 x hx) xok
    have top : E0_carryOne (d + 4) a (zt_r a s) g = L0_carryOne_74 (d + 4) a (zt_r a s) v g1 := by
      rw [qE0_carryOne, zm_e (zl_gI gL lS 6), zt_S_ac S, if_neg n1, zm_e (zl_gI gL lS 15), an, if_neg (by clear hs hk n1; omega), zm_e (zl_gF gL la 5 8), zm_e (zl_gR gL la 10), zt_U_he U, zm_e el, zm_e (zl_gF gL1 la 5 8), zm_e (zl_gI gL1 lS 15), an1, zm_e est]
      dsimp only
      rw [zm_e ev]
    have atge := zm_at_ge (sf (zm_o c s 8).toNat, zm_o c s 9) (zm_row c (c 0 :: l))
    rcases R with ⟨v1, nm⟩ | ⟨i, hi, v1⟩
    · -- no such letter here
      have neg : zm_at (zm_row c (c 0 :: l)) (sf (zm_o c s 8).toNat, zm_o c s 9) < 0 := by
        exact Int.not_le.mp (fun q => nm (zt_at_in q))
      have e1 : C0_carryOne (d + 5) a (zt_r a s) g = some (-10, g1) := cls rfl top (by rw [v1, qL0_carryOne_74, if_pos rfl])
      have e2 : C9_carries (D + 8) 347 s k = some (-1, zv_sI k1 347 3 10) := ref ((if_neg h8).trans (if_pos neg)) rfl
      obtain ⟨p, er, Fr, Dn⟩ := zm_carries hM hc W D hs (Or.inl hk)
      have ee : p = (-1, zv_sI k1 347 3 10) := Option.some.inj (er.symm.trans e2)
      rw [ee] at Fr Dn
      have ohq := zt_oh_q la Q1
      obtain ⟨p2, ep, O⟩ := zc_C0_carryOne (d := d) hA la (zt_U_V U hs)
      have ee2 : p2 = (-10, g1) := Option.some.inj (ep.symm.trans e1)
      rw [ee2] at O
      exact ⟨_, _, e1, e2, zt_Z_no (by decide) H hc O.1 (zt_q_k a Q1) (zt_H_q H Q1) (zm_F_s Fr rfl rfl) (by decide) ((zm_so k1 _ _).trans c1), ohq, zt_sd_t Ds ohq Fr rfl, Fr, Dn⟩
    · have pin : (sf (zm_o c s 8).toNat, zm_o c s 9) ∈ zm_row c (c 0 :: l) := List.mem_of_getElem? hi
      obtain ⟨at0, ate⟩ := zm_at_mem pin
      have nd : (zm_row c (c 0 :: l)).Nodup := zm_row_nd g0.1
      have il := zm_lt_of_get hi
      have ei : (zm_at (zm_row c (c 0 :: l)) (sf (zm_o c s 8).toNat, zm_o c s 9)).toNat = i := (List.getElem?_inj (zm_lt_of_get ate) nd).mp (ate.trans hi.symm)
      have ei2 : zm_at (zm_row c (c 0 :: l)) (sf (zm_o c s 8).toNat, zm_o c s 9) = (i : Int) := by rw [← ei, Int.toNat_of_nonneg at0]
      have go := zt_ca74 (d := D + 7) (s := s) hM1 (R := zm_row c (c 0 :: l)) (sn := zm_sn c (c 0 :: l)) Sn.2.2.2.1 hrl2 il (i + 1) 0 (Nat.zero_add _)
      have fl : (((zm_row c (c 0 :: l)).take (i + 1)).filter (zm_sn c (c 0 :: l))).length ≤ 640 := Nat.le_trans (List.length_filter_le _ _) (Nat.le_trans (List.length_take_le' _ _) hrl2)
      refine zj_co_fin (d := d) (D := D) (pl := v) (g1 := g1) (k1 := k1) hA H hM hc b Ds hs hk hA1 Q1 Fs ?_ ?_ (fun {q} e => cls rfl top e) (fun {q} e => ref ((if_neg h8).trans ((if_neg (by rw [ei2]; exact Int.not_lt.mpr (Int.natCast_nonneg _))).trans (by rw [ei2, v1]; exact go))) e)
      · rw [v1]
        exact fun q => absurd (q ▸ Int.natCast_nonneg _ : (0 : Int) ≤ -1) (by decide)
      · rw [v1]
        unfold zv_rg
        generalize (((zm_row c (c 0 :: l)).take (i + 1)).filter (zm_sn c (c 0 :: l))).length = F at *
        clear hs hk n1
        omega
theorem zj_carryOne {d D : Nat} (hA : zc_A g) (H : zt_H a c g) (hM : zm_M k) (hc : zv_I k 348 = c) (b : c 2 < 2000000000) (Ds : zt_sd a sf g k) {s : Int} (hs : zm_st c s) (he : zm_ed c s) : ∃ q q', C0_carryOne (d + 5) a (zt_r a s) g = some q ∧ C9_carries (D + 8) 347 s k = some q' ∧ zt_cy a c sf g k q q' := by
  rcases he with hk | hk
  · exact zj_co_put hA H hM hc b Ds hs hk
  · exact zj_co_cut hA H hM hc b Ds hs hk
end
end
/-! A47.over -/
section
/-! ===== the tie: carrying; what merging keeps beside ===== -/
/-- cells of half a of which nothing is asked -/
def zt_y (a r k : Nat) : Prop := (r = a ∧ k = 13) ∨ r = a + 6 ∨ r = a + 20 ∨ r = a + 21 ∨ (r = a + 17 ∧ k = 5)
def zt_hy (a : Nat) (h : zv_H) (h' : zv_H) : Prop := (h'.1 = h.1) ∧ (h'.2.2 = h.2.2) ∧ (∀ r k, ¬ zt_y a r k → zv_I h' r k = zv_I h r k)
theorem zt_hy_n {a : Nat} {h : zv_H} {h' : zv_H} (t : zt_hy a h h') : h'.1 = h.1 := t.1
theorem zt_hy_q {a : Nat} {h : zv_H} {h' : zv_H} (t : zt_hy a h h') : h'.2.2 = h.2.2 := t.2.1
theorem zt_hy_i {a : Nat} {h : zv_H} {h' : zv_H} (t : zt_hy a h h') : ∀ r k, ¬ zt_y a r k → zv_I h' r k = zv_I h r k := t.2.2
theorem zt_hy_r (a : Nat) (h : zv_H) : zt_hy a h h := ⟨rfl, rfl, fun _ _ _ => rfl⟩
theorem zt_hy_t {a : Nat} {h h1 h2 : zv_H} (f : zt_hy a h h1) (g : zt_hy a h1 h2) : zt_hy a h h2 := ⟨(zt_hy_n g).trans (zt_hy_n f), (zt_hy_q g).trans (zt_hy_q f), fun r k q => (zt_hy_i g r k q).trans (zt_hy_i f r k q)⟩
theorem zt_y_S {a i x k : Nat} (hx : x ≤ 2) : ¬ zt_y a (zc_stt a i + x) k := by
  intro q
  rcases q with q | q | q | q | q
  · exact zt_sepH (a := a) (n := 0) (i := i) (x := x) (by decide) hx (by decide) (by decide) (by decide) q.1.symm
  · exact zt_sepH (a := a) (n := 6) (i := i) (x := x) (by decide) hx (by decide) (by decide) (by decide) q.symm
  · exact zt_sepH (a := a) (n := 20) (i := i) (x := x) (by decide) hx (by decide) (by decide) (by decide) q.symm
  · exact zt_sepH (a := a) (n := 21) (i := i) (x := x) (by decide) hx (by decide) (by decide) (by decide) q.symm
  · exact zt_sepH (a := a) (n := 17) (i := i) (x := x) (by decide) hx (by decide) (by decide) (by decide) q.1.symm
theorem zt_y_H {a n k : Nat} (h0 : ¬ (n = 0 ∧ k = 13)) (h6 : n ≠ 6) (h20 : n ≠ 20) (h21 : n ≠ 21) (h17 : ¬ (n = 17 ∧ k = 5)) : ¬ zt_y a (a + n) k := by
  intro q
  rcases q with q | q | q | q | q
  · exact h0 ⟨by omega, q.2⟩
  · exact h6 (by omega)
  · exact h20 (by omega)
  · exact h21 (by omega)
  · exact h17 ⟨by omega, q.2⟩
theorem zt_U_y {a : Nat} {c : Nat → Int} {h h' : zv_H} (t : zt_U a c h) (f : zt_hy a h h') : zt_U a c h' := by
  have la := zt_U_la t
  have hI : ∀ n k, n ≤ 27 → ¬ (n = 0 ∧ k = 13) → n ≠ 6 → n ≠ 20 → n ≠ 21 → ¬ (n = 17 ∧ k = 5) → zv_I h' (a + n) k = zv_I h (a + n) k := fun n k _ h0 h6 h20 h21 h17 => zt_hy_i f _ _ (zt_y_H h0 h6 h20 h21 h17)
  have hR : ∀ r k, zv_R h' r k = zv_R h r k := fun r k => by
    unfold zv_R
    rw [zt_hy_q f]
  have eS : ∀ i, i < 48 → ∀ k, k ≠ 14 → zv_I h' (zc_stt a i) k = zv_I h (zc_stt a i) k := fun i _ k _ => zt_hy_i f _ _ (zt_y_S (x := 0) (by decide))
  have eI : ∀ s, zm_st c s → ∀ k, k ≠ 14 → zv_I h' (zt_r a s) k = zv_I h (zt_r a s) k := fun s hs k hk => by
    rw [zt_r_p hs.1.1]
    exact zt_hy_i f _ _ (zt_y_S (x := 0) (by decide))
  have eJ : ∀ s, zm_st c s → ∀ k, zv_J h' (zt_r a s) k = zv_J h (zt_r a s) k := fun s hs k => by
    unfold zv_J
    rw [zt_hy_q f]
  have eR : ∀ s, zm_st c s → ∀ k, zv_R h' (zt_r a s) k = zv_R h (zt_r a s) k := fun s hs k => hR _ _
  have eA : ∀ s, zm_st c s → ∀ x k, x = 1 ∨ x = 2 → zv_I h' (zt_r a s + x) k = zv_I h (zt_r a s + x) k := fun s hs x k hx => by
    rw [zt_r_p hs.1.1]
    exact zt_hy_i f _ _ (zt_y_S (by omega))
  have h5 : ∀ k, zv_I h' (a + 5) k = zv_I h (a + 5) k := fun k => hI 5 k (by decide) (fun q => absurd q.1 (by decide)) (by decide) (by decide) (by decide) (fun q => absurd q.1 (by decide))
  refine ⟨la, zt_U_W t, fun i hi => (eS i hi 3 (by decide)).trans (zt_U_lv t i hi), fun i hi => (eS i hi 0 (by decide)).trans (zt_U_nr t i hi), fun s hs => ?_, ?_, ?_, ?_⟩
  · have u := zt_U_st t s hs
    refine ⟨(eR s hs 4).trans (zt_S_pa u), (eR s hs 5).trans (zt_S_fi u), (eI s hs 6 (by decide)).trans (zt_S_ac u), (eI s hs 7 (by decide)).trans (zt_S_ti u), (eI s hs 8 (by decide)).trans (zt_S_pl u), (eI s hs 9 (by decide)).trans (zt_S_sz u), (eI s hs 13 (by decide)).trans (zt_S_vi u), (eI s hs 15 (by decide)).trans (zt_S_an u), fun k hk => by rw [eJ s hs]; exact zt_S_nm u k hk, fun k hk => by rw [eJ s hs]; exact zt_S_bs u k hk, fun q k x hx => (eA s hs 1 k (Or.inl rfl)).trans (zt_S_tk u q k x hx), fun q k hk => ?_, fun l hl => (eI s hs 12 (by decide)).trans (zt_S_ln u l hl), fun l hl n x hx => (eA s hs 2 n (Or.inr rfl)).trans (zt_S_dc u l hl n x hx), fun l hl => (eI s hs 10 (by decide)).trans (zt_S_de u l hl), (eI s hs 11 (by decide)).trans (zt_S_ch u), zt_S_cw u⟩
    rw [h5]
    exact zt_S_gl u q k hk
  · exact (hR a 10).trans (zt_U_he t)
  · exact (hI 0 11 (by decide) (fun q => absurd q.2 (by decide)) (by decide) (by decide) (by decide) (by decide)).trans (zt_U_nw t)
  · exact (hI 0 12 (by decide) (fun q => absurd q.2 (by decide)) (by decide) (by decide) (by decide) (by decide)).trans (zt_U_ct t)
theorem zt_H_y {a : Nat} {c : Nat → Int} {h h' : zv_H} (H : zt_H a c h) (f : zt_hy a h h') : zt_H a c h' := by
  have e : ∀ n k, (n = 14 ∨ n = 15 ∨ n = 16 ∨ (n = 17 ∧ k = 4) ∨ n = 18 ∨ n = 19 ∨ n = 22 ∨ n = 23 ∨ n = 24) → zv_I h' (a + n) k = zv_I h (a + n) k := fun n k hk => zt_hy_i f _ _ (zt_y_H (fun q => by omega) (by omega) (by omega) (by omega) (fun q => by omega))
  have V := zt_H_V H
  refine ⟨zt_U_y (zt_H_U H) f, zt_J_cg (zt_H_J H) (fun r k r1 r2 => ?_), ⟨?_, zt_V_c0 V, zt_V_c5 V, fun i hi => ?_, fun i hi => ?_, zt_V_vb V, zt_V_vd V⟩, zt_N_c (zt_H_N H) ((zt_U_W (zt_H_U H)).2.2.1.2) rfl (fun _ _ _ => rfl) (fun r k r1 r2 => ?_)⟩
  · obtain ⟨n, rfl⟩ : ∃ n, r = a + n := ⟨r - a, by omega⟩
    exact e n k (by omega)
  · rw [e 17 4 (by omega)]; exact zt_V_ct V
  · rw [e 18 _ (by omega)]; exact zt_V_ls V i hi
  · rw [e 19 _ (by omega)]; exact zt_V_lt V i hi
  · obtain ⟨n, rfl⟩ : ∃ n, r = a + n := ⟨r - a, by omega⟩
    exact e n k (by omega)
theorem zt_hy_k {a : Nat} (la : zv_lay a = (1, 0)) {h h' : zv_H} (f : zt_hy a h h') : zt_k a h h' := by
  refine ⟨zt_hy_n f, by rw [zt_hy_q f], fun r k _ n => zt_hy_i f r k (fun q => ?_), fun r _ _ => by rw [zt_hy_q f], fun r _ _ _ => by rw [zt_hy_q f]⟩
  rcases q with q | q | q | q | q
  · rw [q.1] at n; exact n (zt_inA la (n := 0) (by decide))
  · rw [q] at n; exact n (zt_inA la (by decide))
  · rw [q] at n; exact n (zt_inA la (by decide))
  · rw [q] at n; exact n (zt_inA la (by decide))
  · rw [q.1] at n; exact n (zt_inA la (by decide))
theorem zt_hy_sI {a : Nat} {h g : zv_H} (f : zt_hy a h g) {r k : Nat} (q : zt_y a r k) (v : Int) : zt_hy a h (zv_sI g r k v) := ⟨f.1, f.2.1, fun r' k' n => (zy_In _ _ (fun z => n (by rw [z.1, z.2]; exact q))).trans (zt_hy_i f r' k' n)⟩
/-- each stands for itself -/
theorem zt_stand_l {d : Nat} {a : Nat} (la : zv_lay a = (1, 0)) : ∀ (n i : Nat) (g : zv_H), i + n = 48 → zt_L g → (∀ k : Nat, k < i → zv_I g (a + 6) k = k) → ∃ g', L0_standForThemselves_2 d a i g = some (none, g') ∧ zt_hy a g g' ∧ (∀ r k, r ≠ a + 6 → zv_I g' r k = zv_I g r k) ∧ ∀ k : Nat, k < 48 → zv_I g' (a + 6) k = k := by
  have l6 := (zt_sta_l la).1
  intro n
  induction n with
  | zero =>
    intro i g hi gL hk
    have e : i = 48 := hi
    subst e
    refine ⟨g, ?_, zt_hy_r _ _, fun _ _ _ => rfl, hk⟩
    rw [qL0_standForThemselves_2, if_neg (by decide)]
  | succ n ih =>
    intro i g hi gL hk
    have w1 : zv_w ((i : Int) + 1) = ((i + 1 : Nat) : Int) := by
      rw [zm_w (by omega)]
      rfl
    obtain ⟨g', e, f, o, w⟩ := ih (i + 1) (zv_sI g (a + 6) i i) (by omega) gL (fun k hk2 => by
      by_cases z : k = i
      · rw [z, zy_I]
      · rw [zy_In _ _ (fun q => z q.2)]
        exact hk k (by omega))
    refine ⟨g', ?_, zt_hy_t (zt_hy_sI (zt_hy_r a g) (Or.inr (Or.inl rfl)) _) f, fun r k q => (o r k q).trans (zy_In _ _ (fun z => q z.1)), w⟩
    rw [qL0_standForThemselves_2, if_pos (by omega), zm_e (zl_gF gL la 3 6), zm_e (zl_wI gL l6 (by omega) (by omega) _), Int.toNat_natCast, w1]
    exact e
theorem zt_stand {d : Nat} {a : Nat} (la : zv_lay a = (1, 0)) {g : zv_H} (gL : zt_L g) : ∃ g', C0_standForThemselves (d + 1) a g = some g' ∧ zt_hy a g g' ∧ (∀ r k, r ≠ a + 6 → zv_I g' r k = zv_I g r k) ∧ ∀ k : Nat, k < 48 → zv_I g' (a + 6) k = k := by
  obtain ⟨g', e, r⟩ := zt_stand_l (d := d) la 48 0 g (Nat.zero_add _) gL (fun k hk => absurd hk (Nat.not_lt_zero _))
  refine ⟨g', lC0_standForThemselves (zl_ob gL la) ?_, r⟩
  rw [qE0_standForThemselves]
  exact e
def zt_id0 (i : Nat) : Int := i
theorem zt_sd_0 {a : Nat} {g k : zv_H} (h1 : ∀ i : Nat, i < 48 → zv_I g (a + 6) i = i) (h2 : ∀ i : Nat, i < 48 → zv_I k 362 i = i) : zt_sd a zt_id0 g k := ⟨h1, h2, rfl, fun i h1 h2 => ⟨by unfold zt_id0; omega, by unfold zt_id0; omega⟩⟩
theorem zj_carry {d D : Nat} {a : Nat} {c : Nat → Int} {g k : zv_H} (hA : zc_A g) (H : zt_H a c g) (hM : zm_M k) (hc : zv_I k 348 = c) (b : c 2 < 2000000000) {s : Int} (rs : zv_rg s) : ∃ q q', C0_carryOver (d + 6) a s g = some q ∧ C9_carryNow (D + 9) 347 s k = some q' ∧ zt_Z a 1 g k q q' := by
  have U := zt_H_U H
  have W := zt_U_W U
  have la := zt_U_la U
  have gL := zt_L_A hA
  have hh := W.2.1
  have ea := zt_at (d := d + 4) gL U s
  have ei := zm_isState hM (D + 6) s
  rw [hc] at ei
  by_cases hs : zm_st c s
  · rw [if_pos hs] at ea ei
    obtain ⟨l, hl, ok, _⟩ := zt_line W hh
    have lS := zt_r_l la hs.1
    have S := zt_U_st U s hs
    have ee := zt_C5_edits (d := d + 4) gL lS
    rw [zt_S_ac S] at ee
    have eo := zt_onLine (d := d + 4) gL U hs hh hl
    have io := zm_isOfLine hM (D + 6) s (l := c 0 :: l) (s := c 0) (by rw [hc]; exact hl)
    have ie := zm_isEdit hM (D + 6) (zm_st48 hs)
    rw [hc] at ie
    have no : ¬ (zm_ed c s ∧ ¬ s ∈ c 0 :: l) → C0_carryOver (d + 6) a s g = some (-7, g) ∧ C9_carryNow (D + 9) 347 s k = some (-1, zv_sI k 347 3 7) := fun nq => by
      refine ⟨lC0_carryOver (zl_ob gL la) ?_, lC9_carryNow (zm_ob hM) ?_⟩
      · rw [qE0_carryOver, zm_e ea]
        dsimp only
        rw [if_neg (zt_r0 U hs), zm_e ee]
        dsimp only
        by_cases he : zm_ed c s
        · have hi : s ∈ c 0 :: l := Classical.byContradiction (fun z => nq ⟨he, z⟩)
          rw [if_pos hi] at eo
          rw [if_pos he, if_neg (by decide), zm_e (zl_gR gL la 10), zt_U_he U, zm_e eo]
          dsimp only
          rw [if_neg (by decide)]
        · rw [if_neg he, if_pos rfl]
      · rw [qE9_carryNow, zm_e ei]
        dsimp only
        rw [if_neg (by decide), zm_e (zm_here hM _), hc]
        dsimp only
        rw [zm_e io]
        dsimp only
        by_cases hi : s ∈ c 0 :: l
        · rw [if_pos hi, if_neg (by decide), qL9_carryNow_34, zm_e (zm_refuse hM _ 7)]
        · have he : ¬ zm_ed c s := fun z => nq ⟨z, hi⟩
          rw [if_neg he] at ie
          rw [if_neg hi, if_pos rfl, zm_e ie]
          dsimp only
          rw [if_pos rfl, qL9_carryNow_34, zm_e (zm_refuse hM _ 7)]
    by_cases q : zm_ed c s ∧ ¬ s ∈ c 0 :: l
    · obtain ⟨he, hi⟩ := q
      obtain ⟨g1, e1, f1, _, w1⟩ := zt_stand (d := d + 4) la gL
      obtain ⟨k1, e2, F2, w2⟩ := zm_plain hM (D + 7)
      have hA1 : zc_A g1 := by
        obtain ⟨q, e, w⟩ := zc_C0_standForThemselves (d := d + 4) hA la
        rw [e1] at e
        cases e
        exact w.2
      have c1 : zv_I k1 348 = c := (zm_F_a F2 348).trans hc
      obtain ⟨q, q', z1, z2, cy⟩ := zj_carryOne (d := d) (D := D) hA1 (zt_H_y H f1) (zm_F_M F2 hM) c1 b (zt_sd_0 w1 w2) hs he
      rw [if_neg hi] at eo io
      rw [if_pos he] at ie
      have y1 : C0_carryOver (d + 6) a s g = some q := by
        refine lC0_carryOver (zl_ob gL la) ?_
        rw [qE0_carryOver, zm_e ea]
        dsimp only
        rw [if_neg (zt_r0 U hs), zm_e ee]
        dsimp only
        rw [if_pos he, if_neg (by decide), zm_e (zl_gR gL la 10), zt_U_he U, zm_e eo]
        dsimp only
        rw [if_pos rfl, zm_e e1, zm_e z1]
      have y2 : C9_carryNow (D + 9) 347 s k = some q' := by
        refine lC9_carryNow (zm_ob hM) ?_
        rw [qE9_carryNow, zm_e ei]
        dsimp only
        rw [if_neg (by decide), zm_e (zm_here hM _), hc]
        dsimp only
        rw [zm_e io]
        dsimp only
        rw [if_pos rfl, zm_e ie]
        dsimp only
        rw [if_neg (by decide), zm_e e2, zm_e z2]
      obtain ⟨p, ep, O⟩ := zc_C0_carryOver (d := d) hA la rs
      have e3 : p = q := Option.some.inj (ep.symm.trans y1)
      rw [e3] at O
      exact ⟨q, q', y1, y2, zt_Z_com O.1 (zt_hy_k la f1) (zm_F_s F2 rfl rfl) (c1.trans hc.symm) (zt_cy_Z cy)⟩
    · exact ⟨_, _, (no q).1, (no q).2, zt_Z_rf (by decide) hA H hc (by decide) 7⟩
  · rw [if_neg hs] at ea ei
    refine ⟨(-2, g), (-1, zv_sI k 347 3 2), lC0_carryOver (zl_ob gL la) ?_, lC9_carryNow (zm_ob hM) ?_, zt_Z_rf (by decide) hA H hc (by decide) 2⟩
    · rw [qE0_carryOver, zm_e ea]
      rfl
    · rw [qE9_carryNow, zm_e ei]
      dsimp only
      rw [if_pos rfl, zm_e (zm_refuse hM _ 2)]
end
/-! A48.wf -/
section
/-! ===== the tie: merging, what is merged ===== -/
/-- what is merged in: edits in force on the line l, not of HERE's -/
def zt_wf (c : Nat → Int) (l lh : List Int) (x : Int) : Prop := zm_ed c x ∧ zm_fc c l x ≠ 0 ∧ ¬ x ∈ c 0 :: lh
theorem zt_merge44 (d : Nat) {c : Nat → Int} (w : zm_W c) {l lh : List Int} (hlh : zm_Ln c (c 0 :: lh) (c 0)) (hl : ∀ t ∈ l, zm_st c t) (hn : l.length ≤ 48) : ∀ (b a : List Int), a ++ b = l.reverse → ∀ h : zv_H, zm_M h → zv_I h 348 = c → (∀ (k : Nat) (x : Int), l.reverse[k]? = some x → zv_I h 351 k = x) → (∀ x ∈ l, zv_I h 354 x.toNat = zm_fc c l x) → (∀ (k : Nat) (x : Int), k < a.length → l.reverse[k]? = some x → zv_I h 363 k = x ∧ (zv_I h 364 k ≠ 0 ↔ zt_wf c l lh x)) → ∃ h', L9_mergeNow_44 (d + 3) 347 l.length a.length h = L9_mergeNow_44 (d + 3) 347 l.length l.length h' ∧ zm_F [363, 364] [] h h' ∧ (∀ (k : Nat) (x : Int), l.reverse[k]? = some x → zv_I h' 363 k = x ∧ (zv_I h' 364 k ≠ 0 ↔ zt_wf c l lh x))
  | [], a, e, h, _, _, _, _, hk => by
    rw [List.append_nil] at e
    have el : a.length = l.length := by rw [e, List.length_reverse]
    exact ⟨h, by rw [el], zm_F_r _ _ h, fun k x hx => hk k x (by rw [e]; exact zm_lt_of_get hx) hx⟩
  | t :: b, a, e, h, hM, hc, h351, h354, hk => by
    have hlen : l.length = a.length + (b.length + 1) := by rw [← List.length_reverse (as := l), ← e, List.length_append, List.length_cons]
    have htl : t ∈ l := by
      rw [← List.mem_reverse, ← e]
      exact List.mem_append_right _ List.mem_cons_self
    have hst := hl t htl
    have h48 := zm_st48 hst
    have hx : l.reverse[a.length]? = some t := by
      rw [← e, List.getElem?_append_right (Nat.le_refl _), Nat.sub_self]
      rfl
    have e' : (a ++ [t]) ++ b = l.reverse := by
      rw [List.append_assoc]
      exact e
    have w1 : zv_w ((a.length : Int) + 1) = (((a ++ [t]).length : Nat) : Int) := by
      clear hst
      rw [zm_w (by omega), List.length_append]
      rfl
    have j0 : (0 : Int) ≤ (a.length : Int) := by omega
    have j1 : (a.length : Int) < ((49 : Nat) : Int) := by
      clear hst
      omega
    have j2 : ((a.length : Int)).toNat = a.length := by omega
    have j3 : (a.length : Int) < (l.length : Int) := by
      clear hst
      omega
    have t49 : t < ((49 : Nat) : Int) := by
      clear hst
      omega
    have a1 : ∀ g : zv_H, zm_M g → zv_I g 351 = zv_I h 351 → zv_aI g 351 (a.length : Int) = some t := by
      intro g hg eg
      rw [zm_aI hg zm_l351 rfl j0 j1, j2, eg, h351 _ _ hx]
    have go : ∀ (g : zv_H) (v : Int), zm_F [363, 364] [] h g → zm_M g → zv_I g 363 = zm_u (zv_I h 363) a.length t → zv_I g 364 = zv_I h 364 → (v ≠ 0 ↔ zt_wf c l lh t) → (v = 0 ∨ v = 1) → ∃ h', ((zv_wB g 364 (a.length : Int) v).bind fun g => L9_mergeNow_44 (d + 3) 347 l.length (((a ++ [t]).length : Nat) : Int) g) = L9_mergeNow_44 (d + 3) 347 l.length l.length h' ∧ zm_F [363, 364] [] h h' ∧ (∀ (k : Nat) (x : Int), l.reverse[k]? = some x → zv_I h' 363 k = x ∧ (zv_I h' 364 k ≠ 0 ↔ zt_wf c l lh x)) := by
      intro g v fg hg e363 e364 hv hv01
      have nv : zv_nz v = v := by
        unfold zv_nz
        clear hst
        omega
      rw [zm_e (zm_wB hg zm_l364 rfl j0 j1 v), nv, j2]
      obtain ⟨h', i1, i2, i3⟩ := zt_merge44 d w hlh hl hn b (a ++ [t]) e' (zv_sI g 364 a.length v) hg ((zm_so g _ _).trans ((zm_F_a fg 348).trans hc)) (fun k x hx => by rw [zm_so g _ _, zm_F_a fg 351]; exact h351 k x hx) (fun x hx => by rw [zm_so g _ _, zm_F_a fg 354]; exact h354 x hx) (fun k x hk2 hx2 => by
        rw [zm_so g _ _, zm_ss, e363, e364]
        rw [List.length_append, List.length_singleton] at hk2
        by_cases q : k = a.length
        · rw [q, zm_u_s, zm_u_s]
          rw [q, hx] at hx2
          rw [← Option.some.inj hx2]
          exact ⟨rfl, hv⟩
        · rw [zm_u_o _ _ q, zm_u_o _ _ q]
          clear hst
          exact hk k x (by omega) hx2)
      exact ⟨h', i1, zm_F_t (zm_F_I fg rfl _ _) i2, i3⟩
    rw [qL9_mergeNow_44, if_pos j3, zm_e (zm_f22 hM), zm_e (zm_f5 hM), zm_e (a1 h hM rfl), zm_e (zm_wI hM zm_l363 rfl j0 j1 _), j2, w1]
    have f1 : zm_F [363, 364] [] h (zv_sI h 363 a.length t) := zm_F_I (zm_F_r _ _ h) rfl _ _
    have e363 : zv_I (zv_sI h 363 a.length t) 363 = zm_u (zv_I h 363) a.length t := zm_ss _ _ _ _
    have e364 : zv_I (zv_sI h 363 a.length t) 364 = zv_I h 364 := zm_so _ _ _
    generalize zv_sI h 363 a.length t = h1 at f1 e363 e364
    have hM1 := zm_F_M f1 hM
    have c1 : zv_I h1 348 = c := (zm_F_a f1 348).trans hc
    have e354 : zv_I h1 354 t.toNat = zm_fc c l t := by rw [zm_F_a f1 354]; exact h354 t htl
    rw [zm_e (zm_f23 hM1), zm_e (zm_f5 hM1), zm_e (a1 h1 hM1 (zm_F_a f1 351)), zm_e (zm_isEdit hM1 _ h48), c1]
    dsimp only
    by_cases q1 : zm_ed c t
    · rw [if_pos q1, if_neg (by decide), zm_e (zm_f8 hM1), zm_e (zm_f5 hM1), zm_e (a1 h1 hM1 (zm_F_a f1 351)), zm_e (zm_aB hM1 zm_l354 (Or.inl rfl) rfl h48.1 t49)]
      by_cases q2 : zv_I h1 354 t.toNat = 0
      · rw [if_pos q2]
        exact go h1 0 f1 hM1 e363 e364 ⟨fun z => absurd rfl z, fun z => absurd (e354.symm.trans q2) z.2.1⟩ (Or.inl rfl)
      · have hl' : zm_Ln (zv_I h1 348) (c 0 :: lh) (c 0) := by
          rw [c1]
          exact hlh
        rw [if_neg q2, zm_e (zm_f5 hM1), zm_e (a1 h1 hM1 (zm_F_a f1 351)), zm_e (zm_here hM1 _), c1]
        dsimp only
        rw [zm_e (zm_isOfLine hM1 _ t hl')]
        dsimp only
        by_cases q3 : t ∈ c 0 :: lh
        · rw [if_pos q3, if_neg (by decide)]
          exact go h1 0 f1 hM1 e363 e364 ⟨fun z => absurd rfl z, fun z => absurd q3 z.2.2⟩ (Or.inl rfl)
        · rw [if_neg q3, if_pos rfl]
          exact go h1 1 f1 hM1 e363 e364 ⟨fun _ => ⟨q1, fun z => q2 (e354.trans z), q3⟩, fun _ => by decide⟩ (Or.inr rfl)
    · rw [if_neg q1, if_pos rfl]
      exact go h1 0 f1 hM1 e363 e364 ⟨fun z => absurd rfl z, fun z => absurd z.1 q1⟩ (Or.inl rfl)
theorem zt_wf_b {c : Nat → Int} {l lh : List Int} {v w : Int64} (hv : ∀ t : Nat, t < 64 → (zt_b v t = true ↔ t < 48 ∧ (t : Int) ∈ l ∧ zm_ed c t ∧ zm_fc c l t = 1)) (hw : ∀ t : Nat, t < 64 → (zt_b w t = true ↔ t < 48 ∧ (t : Int) ∈ c 0 :: lh ∧ zm_ed c t)) {x : Int} (hx : 0 ≤ x ∧ x ≤ 47) (xl : x ∈ l) : zv_lcmp ((v &&& (w ^^^ (-1 : Int64))) &&& zt_bt x.toNat) (Int64.ofNat 0) = 0 ↔ ¬ zt_wf c l lh x := by
  have x48 : x.toNat < 48 := by omega
  have x64 : x.toNat < 64 := by omega
  have ex : ((x.toNat : Nat) : Int) = x := by omega
  have a1 := hv x.toNat x64
  have a2 := hw x.toNat x64
  rw [ex] at a1 a2
  rw [zt_lcmp_bt _ x48, zt_b_and, zt_b_not _ x64]
  have f01 := zm_fc_01 c x l
  have f1 : zm_fc c l x ≠ 0 ↔ zm_fc c l x = 1 := by
    rcases f01 with f | f <;> rw [f] <;> decide
  unfold zt_wf
  rw [f1]
  by_cases b1 : zt_b v x.toNat = true
  · obtain ⟨_, _, c3, c4⟩ := a1.mp b1
    by_cases b2 : zt_b w x.toNat = true
    · have d2 := (a2.mp b2).2.1
      rw [b1, b2]
      exact ⟨fun _ q => q.2.2 d2, fun _ => rfl⟩
    · have d2 : ¬ x ∈ c 0 :: lh := fun q => b2 (a2.mpr ⟨x48, q, c3⟩)
      rw [b1, Bool.eq_false_iff.mpr b2]
      exact ⟨fun q => absurd q (by decide), fun q => absurd ⟨c3, c4, d2⟩ q⟩
  · rw [Bool.eq_false_iff.mpr b1]
    exact ⟨fun _ q => b1 (a1.mpr ⟨x48, xl, q.1, q.2.1⟩), fun _ => rfl⟩
end
/-! A49.mloop -/
section
/-! ===== the tie: merging, the loop ===== -/
/-- made one behind the other -/
def zt_cn (c0 : Nat → Int) : Nat → (Nat → Int) → Prop
  | 0, c => c = c0
  | n + 1, c => ∃ c1 s, zt_cn c0 n c1 ∧ zm_W c1 ∧ (1 ≤ s ∧ s ≤ 47) ∧ zm_o c1 s 0 ≠ 1 ∧ zm_Nw c1 c s
theorem zt_vc_1 (c : Nat → Int) (s : Int) : zm_vc c s 1 = c 1 := by
  unfold zm_vc
  rw [if_neg (by decide), if_neg (by decide), if_neg (by decide), if_neg (by omega), if_neg (by omega), if_neg (by decide), if_neg (by decide)]
theorem zt_rsplit {L : List Int} {i : Nat} {x : Int} (h : L.reverse[i]? = some x) : ∃ p b, L = p ++ x :: b ∧ b.length = i := by
  have il := zm_lt_of_get h
  have e := List.getElem?_eq_getElem il
  rw [h] at e
  have e2 : L.reverse = L.reverse.take i ++ x :: L.reverse.drop (i + 1) := by
    rw [Option.some.inj e, ← List.drop_eq_getElem_cons il, List.take_append_drop]
  refine ⟨(L.reverse.drop (i + 1)).reverse, (L.reverse.take i).reverse, ?_, ?_⟩
  · have e3 := congrArg List.reverse e2
    rw [List.reverse_reverse, List.reverse_append, List.reverse_cons, List.append_assoc] at e3
    exact e3
  · rw [List.length_reverse, List.length_take]
    exact Nat.min_eq_left (Nat.le_of_lt il)
theorem zt_u0w {x : Int} (h0 : 0 ≤ x) (h1 : x < 1000) : zv_w (x + 0) = x := by
  rw [zm_w (by omega), Int.add_zero]
theorem zt_u1w {x : Int} (h0 : 0 ≤ x) (h1 : x < 1000) : zv_w (x + 1) = x + 1 := zm_w (by omega)
theorem zt_u2w {x : Int} {i : Nat} (h : 0 ≤ x ∧ x < i) : 0 ≤ x + 1 ∧ x + 1 < ((i + 1 : Nat) : Int) := by omega
theorem zt_u3w {x : Int} {i : Nat} (h : 0 ≤ x ∧ x < i) : 0 ≤ x ∧ x < ((i + 1 : Nat) : Int) := by omega
theorem zt_u4w {u v B : Int} {n : Nat} (h : u + ((n + 1 : Nat) : Int) ≤ B) (h2 : v ≤ u + 1) : v + (n : Int) ≤ B := by omega
theorem zt_u5w {u B : Int} {n : Nat} (h : u + (n : Int) ≤ B) (h2 : B < 2000000000) : u < 2000000000 ∧ u ≤ B := by omega
theorem zt_u7w {a n j : Nat} (z : n = 20 ∨ n = 21 ∨ (n = 17 ∧ j = 5)) (w : a + n = a ∧ j = 13) : False := by omega
theorem zt_u8w {n j : Nat} (z : n = 20 ∨ n = 21 ∨ (n = 17 ∧ j = 5)) : n ≠ 6 := by omega
theorem zt_u6w {x : Int} (h : 0 ≤ x ∧ x ≤ 47) : x < 48 ∧ x.toNat < 48 ∧ zv_rg x := by unfold zv_rg; omega
/-- what one sees of the loop from outside -/
def zt_ml (a : Nat) (c0 : Nat → Int) (B : Int) (g : zv_H) (k : zv_H) (v : Int) (g' : zv_H) (k' : zv_H) : Prop := (0 ≤ v ∧ v ≤ 48) ∧ (zt_k a g g') ∧ (zt_H a (zv_I k' 348) g') ∧ (zc_A g') ∧ (zt_cn c0 v.toNat (zv_I k' 348)) ∧ (zv_I k' 348 1 = c0 1) ∧ (c0 2 ≤ zv_I k' 348 2 ∧ zv_I k' 348 2 ≤ B) ∧ (zv_I g' a 13 = zv_I k' 347 24) ∧ (∀ n j : Nat, (n = 20 ∨ n = 21 ∨ (n = 17 ∧ j = 5)) → zv_I g' (a + n) j = zv_I g (a + n) j) ∧ (0 ≤ zv_I k' 347 24)
theorem zt_ml_v {a : Nat} {c0 : Nat → Int} {B : Int} {g : zv_H} {k : zv_H} {v : Int} {g' : zv_H} {k' : zv_H} (t : zt_ml a c0 B g k v g' k') : 0 ≤ v ∧ v ≤ 48 := t.1
theorem zt_ml_k {a : Nat} {c0 : Nat → Int} {B : Int} {g : zv_H} {k : zv_H} {v : Int} {g' : zv_H} {k' : zv_H} (t : zt_ml a c0 B g k v g' k') : zt_k a g g' := t.2.1
theorem zt_ml_H {a : Nat} {c0 : Nat → Int} {B : Int} {g : zv_H} {k : zv_H} {v : Int} {g' : zv_H} {k' : zv_H} (t : zt_ml a c0 B g k v g' k') : zt_H a (zv_I k' 348) g' := t.2.2.1
theorem zt_ml_A {a : Nat} {c0 : Nat → Int} {B : Int} {g : zv_H} {k : zv_H} {v : Int} {g' : zv_H} {k' : zv_H} (t : zt_ml a c0 B g k v g' k') : zc_A g' := t.2.2.2.1
theorem zt_ml_n {a : Nat} {c0 : Nat → Int} {B : Int} {g : zv_H} {k : zv_H} {v : Int} {g' : zv_H} {k' : zv_H} (t : zt_ml a c0 B g k v g' k') : zt_cn c0 v.toNat (zv_I k' 348) := t.2.2.2.2.1
theorem zt_ml_g1 {a : Nat} {c0 : Nat → Int} {B : Int} {g : zv_H} {k : zv_H} {v : Int} {g' : zv_H} {k' : zv_H} (t : zt_ml a c0 B g k v g' k') : zv_I k' 348 1 = c0 1 := t.2.2.2.2.2.1
theorem zt_ml_g2 {a : Nat} {c0 : Nat → Int} {B : Int} {g : zv_H} {k : zv_H} {v : Int} {g' : zv_H} {k' : zv_H} (t : zt_ml a c0 B g k v g' k') : c0 2 ≤ zv_I k' 348 2 ∧ zv_I k' 348 2 ≤ B := t.2.2.2.2.2.2.1
theorem zt_ml_lo {a : Nat} {c0 : Nat → Int} {B : Int} {g : zv_H} {k : zv_H} {v : Int} {g' : zv_H} {k' : zv_H} (t : zt_ml a c0 B g k v g' k') : zv_I g' a 13 = zv_I k' 347 24 := t.2.2.2.2.2.2.2.1
theorem zt_ml_kp {a : Nat} {c0 : Nat → Int} {B : Int} {g : zv_H} {k : zv_H} {v : Int} {g' : zv_H} {k' : zv_H} (t : zt_ml a c0 B g k v g' k') : ∀ n j : Nat, (n = 20 ∨ n = 21 ∨ (n = 17 ∧ j = 5)) → zv_I g' (a + n) j = zv_I g (a + n) j := t.2.2.2.2.2.2.2.2.1
theorem zt_ml_l0 {a : Nat} {c0 : Nat → Int} {B : Int} {g : zv_H} {k : zv_H} {v : Int} {g' : zv_H} {k' : zv_H} (t : zt_ml a c0 B g k v g' k') : 0 ≤ zv_I k' 347 24 := t.2.2.2.2.2.2.2.2.2
theorem zt_ml_g {a : Nat} {c0 : Nat → Int} {B : Int} {g g1 k k1 : zv_H} {v : Int} {g' k' : zv_H} (kk : zt_k a g g1) (kp : ∀ n j : Nat, (n = 20 ∨ n = 21 ∨ (n = 17 ∧ j = 5)) → zv_I g1 (a + n) j = zv_I g (a + n) j) (m : zt_ml a c0 B g1 k1 v g' k') : zt_ml a c0 B g k v g' k' :=
  ⟨zt_ml_v m, zt_k_t kk (zt_ml_k m), zt_ml_H m, zt_ml_A m, zt_ml_n m, zt_ml_g1 m, zt_ml_g2 m, zt_ml_lo m, fun n j q => (zt_ml_kp m n j q).trans (kp n j q), zt_ml_l0 m⟩
theorem zt_A13 {h : zv_H} (hA : zc_A h) {a : Nat} (la : zv_lay a = (1, 0)) {v : Int} (hv : zv_rg v) : zc_A (zv_sI h a 13 v) := by
  refine (zc_QI hA ?_ hv).2
  rcases zc_lh la with e | e
  · subst e
    exact ⟨by decide, fun q => absurd q (by decide), fun c q => by cases q; rfl, fun q => absurd q (by decide)⟩
  · subst e
    exact ⟨by decide, fun q => absurd q (by decide), fun c q => by cases q; rfl, fun q => absurd q (by decide)⟩
theorem zt_A6 {h : zv_H} (hA : zc_A h) {a : Nat} (la : zv_lay a = (1, 0)) (j : Nat) {v : Int} (hv : zv_rg v) : zc_A (zv_sI h (a + 6) j v) := by
  refine (zc_QI hA ?_ hv).2
  rcases zc_lh la with e | e
  · subst e
    exact ⟨by decide, fun q => absurd q (by decide), fun c q => absurd (congrArg Prod.fst q) (by decide : ¬ (2 : Nat) = 1), fun q => absurd q (by decide)⟩
  · subst e
    exact ⟨by decide, fun q => absurd q (by decide), fun c q => absurd (congrArg Prod.fst q) (by decide : ¬ (2 : Nat) = 1), fun q => absurd q (by decide)⟩
theorem zt_f24 {k : zv_H} (hM : zm_M k) (v : Int) : zm_F [] [24] k (zv_sI k 347 24 v) := zm_F_f (zm_F_r _ _ k) rfl v
theorem zj_mloop {d D : Nat} {a : Nat} {c0 : Nat → Int} {e : Int} {l lh : List Int} {B : Int} (W0 : zm_W c0) (he : zm_st c0 e) (hl : zm_Ln c0 (e :: l) e) (hB : B < 2000000000) {wd : Int64} (hw : ∀ x ∈ e :: l, zv_lcmp (wd &&& zt_bt x.toNat) (Int64.ofNat 0) = 0 ↔ ¬ zt_wf c0 (e :: l) lh x) : ∀ (n i : Nat) (m : Nat) (c : Nat → Int) (g k : zv_H) (sf : Nat → Int), i + n = (e :: l).length → 1 ≤ i → m < i → zc_A g → zt_H a c g → zm_M k → zv_I k 348 = c → zm_ex c0 c → zt_sd a sf g k → (∀ (j : Nat) (x : Int), (e :: l).reverse[j]? = some x → zv_I k 363 j = x ∧ (zv_I k 364 j ≠ 0 ↔ zt_wf c0 (e :: l) lh x)) → (0 ≤ zv_I k 347 24 ∧ zv_I k 347 24 < i) → zv_I g a 13 = zv_I k 347 24 → c0 2 ≤ c 2 → c 2 + n ≤ B → c 1 = c0 1 → zt_cn c0 m c → ∃ v g' k', L0_mergeIn_84 (d + 5) a (zt_r a e) wd m i g = some (some (zv_i v), g') ∧ L9_mergeNow_136 (D + 8) 347 (e :: l).length m i k = some (some (zv_i v), k') ∧ zt_ml a c0 B g k v g' k' := by
  have okl := (zt_line_u W0 he hl).1
  have l48 := okl.2.2.2
  intro n
  induction n with
  | zero =>
    intro i m c g k sf hi i1 mi hA H hM hc ex Ds hk h24 h13 b0 b1 b2 cn
    have U := zt_H_U H
    have la := zt_U_la U
    have gL := zt_L_A hA
    have est := (ex e he).1
    have ag : ∀ t ∈ e :: l, zm_ag c0 c t := fun t ht => (ex t (okl.2.2.1 t ht)).2
    have S := zt_U_st U e est
    have de := zt_S_de S l (zm_Ln_cg ag hl)
    have ei : i = (e :: l).length := hi
    have ei2 : i = l.length + 1 := ei
    have k3 : zv_I (zv_sI k 347 3 0) 348 = c := (zm_so k _ _).trans hc
    refine ⟨m, g, zv_sI k 347 3 0, ?_, ?_, ⟨by omega, by omega⟩, zt_k_r a g, by rw [k3]; exact H, hA, ?_, by rw [k3]; exact b2, by rw [k3]; exact ⟨b0, by omega⟩, ?_, fun _ _ _ => rfl, ?_⟩
    · rw [qL0_mergeIn_84, zm_e (zl_gI gL (zt_r_l la he.1) 10), de, if_neg (by clear he est; omega)]
    · rw [qL9_mergeNow_136, if_neg (by rw [ei]; exact Int.lt_irrefl _), zm_e (zm_pI hM 3 0)]
    · rw [k3, Int.toNat_natCast]
      exact cn
    · rw [zy_In _ _ (fun q => absurd q.2 (by decide))]
      exact h13
    · rw [zy_In _ _ (fun q => absurd q.2 (by decide))]
      exact h24.1
  | succ n ih =>
    intro i m c g k sf hi i1 mi hA H hM hc ex Ds hk h24 h13 b0 b1 b2 cn
    have U := zt_H_U H
    have la := zt_U_la U
    have gL := zt_L_A hA
    have est := (ex e he).1
    have ag : ∀ t ∈ e :: l, zm_ag c0 c t := fun t ht => (ex t (okl.2.2.1 t ht)).2
    have S := zt_U_st U e est
    have hlc := zm_Ln_cg ag hl
    have de := zt_S_de S l hlc
    have il : i < (e :: l).length := by clear he est; omega
    have il2 : i < l.length + 1 := il
    have i48 : i < 48 := Nat.lt_of_lt_of_le il l48
    obtain ⟨x, hx⟩ : ∃ x, (e :: l).reverse[i]? = some x := ⟨_, List.getElem?_eq_getElem (by rw [List.length_reverse]; exact il)⟩
    have xl : x ∈ e :: l := List.mem_reverse.mp (List.mem_of_getElem? hx)
    have xst0 := okl.2.2.1 x xl
    have xst := (ex x xst0).1
    obtain ⟨p, b, ep, eb⟩ := zt_rsplit hx
    have eab := zt_above (d := d + 4) gL U est hlc ep
    rw [eb] at eab
    have i1000 : (i : Int) < 1000 := Int.lt_trans (Int.ofNat_lt.mpr i48) (by decide)
    have w1 : zv_w ((i : Int) + 1) = ((i + 1 : Nat) : Int) := zt_u1w (Int.natCast_nonneg i) i1000
    have m1000 : (m : Int) < 1000 := Int.lt_trans (Int.ofNat_lt.mpr mi) i1000
    have w24 := zt_u0w h24.1 (Int.lt_trans h24.2 i1000)
    have w24' := zt_u1w h24.1 (Int.lt_trans h24.2 i1000)
    have wm0 := zt_u0w (Int.natCast_nonneg m) m1000
    have wm1 : zv_w ((m : Int) + 1) = ((m + 1 : Nat) : Int) := zt_u1w (Int.natCast_nonneg m) m1000
    have j0 : (0 : Int) ≤ (i : Int) := Int.natCast_nonneg _
    have j1 : (i : Int) < ((49 : Nat) : Int) := Int.ofNat_lt.mpr (Nat.lt_succ_of_lt i48)
    have j3 : (i : Int) < ((e :: l).length : Int) := Int.ofNat_lt.mpr il
    have dl : (i : Int) ≤ (l.length : Int) := Int.ofNat_le.mpr (Nat.le_of_lt_succ il2)
    have hik : (i + 1) + n = (e :: l).length := by clear he est xst xst0; omega
    have mi' : m < i + 1 := Nat.lt_succ_of_lt mi
    have hkx := hk i x hx
    have e364 : zv_aB k 364 (i : Int) = some (zv_I k 364 i) := by rw [zm_aB hM zm_l364 (Or.inl rfl) rfl j0 j1, Int.toNat_natCast]
    have cls : ∀ {R : zv_O}, (if zv_lcmp (wd &&& zt_bt x.toNat) (Int64.ofNat 0) = 0 then L0_mergeIn_84 (d + 5) a (zt_r a e) wd m ((i + 1 : Nat) : Int) g else ((C0_carryOne (d + 5) a (zt_r a x) g).bind fun q4 => (if q4.1 < 0 then ((zv_gI q4.2 a 0 13).bind fun v5 => ((zv_pI q4.2 a 0 13 (zv_w (v5 + (1 : Int)))).bind fun g6 => L0_mergeIn_84 (d + 5) a (zt_r a e) wd m ((i + 1 : Nat) : Int) g6)) else ((zv_gI q4.2 (zt_r a x) 5 0).bind fun v7 => (if v7 < (48 : Int) then ((zv_gR q4.2 a 0 3).bind fun v8 => ((zv_gI q4.2 (zt_r a x) 5 0).bind fun v9 => ((zv_wI q4.2 v8 v9 q4.1).bind fun g10 => L0_mergeIn_84 (d + 5) a (zt_r a e) wd ((m + 1 : Nat) : Int) ((i + 1 : Nat) : Int) g10))) else ((zv_gI q4.2 a 0 13).bind fun v11 => ((zv_pI q4.2 a 0 13 (zv_w (v11 + (1 : Int)))).bind fun g12 => L0_mergeIn_84 (d + 5) a (zt_r a e) wd m ((i + 1 : Nat) : Int) g12))))))) = R → L0_mergeIn_84 (d + 5) a (zt_r a e) wd m i g = R := fun {R} hR => by
      rw [qL0_mergeIn_84, zm_e (zl_gI gL (zt_r_l la he.1) 10), de, if_pos dl, zm_e eab]
      dsimp only
      rw [if_neg (zt_r0 U xst), zm_e (zt_bitr gL U xst), w1, wm1]
      exact hR
    by_cases P : zt_wf c0 (e :: l) lh x
    · have hed : zm_ed c x := (zm_ed_cg (ex x xst0).2).mpr P.1
      obtain ⟨q, q', z1, z2, cy⟩ := zj_carryOne (d := d) (D := D) hA H hM hc (zt_u5w b1 hB).1 Ds xst hed
      have Z := zt_cy_Z cy
      have oh := zt_cy_oh cy
      have D2 := zt_cy_D cy
      have F := zt_cy_F cy
      have Dn := zt_cy_Dn cy
      have hA2 : zc_A q.2 := (zt_Z_X Z).2
      have gL2 := zt_L_A hA2
      have hM2 := zm_F_M F hM
      have H2 := zt_Z_H Z
      have U2 := zt_H_U H2
      have ex2 := zm_ex_t ex (zm_Dn_ex Dn)
      have g2 := zt_Z_g2 Z
      rw [hc] at g2
      have xst2 := (ex2 x xst0).1
      have c1' : zv_I q'.2 348 1 = c0 1 := by
        rcases Dn.2 with w | w
        · rw [w.2]; exact b2
        · rw [w.2.2.1 1 (Or.inl (by decide)) (by decide), zt_vc_1]; exact b2
      have k24 : zv_I q'.2 347 24 = zv_I k 347 24 := zm_F_g F 24
      have k13 : zv_I q.2 a 13 = zv_I g a 13 := oh 0 13 (Or.inl ⟨rfl, rfl⟩)
      have kpq : ∀ n j : Nat, (n = 20 ∨ n = 21 ∨ (n = 17 ∧ j = 5)) → zv_I q.2 (a + n) j = zv_I g (a + n) j := fun n j z => oh n j (Or.inr (Or.inr z))
      have hk2 : ∀ (j : Nat) (y : Int), (e :: l).reverse[j]? = some y → zv_I q'.2 363 j = y ∧ (zv_I q'.2 364 j ≠ 0 ↔ zt_wf c0 (e :: l) lh y) := fun j y hy => by
        rw [zm_F_a F 363, zm_F_a F 364]
        exact hk j y hy
      have e363 : zv_aI k 363 (i : Int) = some x := by rw [zm_aI hM zm_l363 rfl j0 j1, Int.toNat_natCast, hkx.1]
      have e363' : zv_aI q'.2 363 (i : Int) = some x := by rw [zm_aI hM2 zm_l363 rfl j0 j1, Int.toNat_natCast, (hk2 i x hx).1]
      have nl : ¬ zv_lcmp (wd &&& zt_bt x.toNat) (Int64.ofNat 0) = 0 := fun z => (hw x xl).mp z P
      have n364 : ¬ zv_I k 364 i = 0 := hkx.2.mpr P
      rcases zt_Z_a1 Z with ⟨v0, v1⟩ | ⟨v0, v1⟩
      · -- not carried: one more is left out
        have f1 : zt_hy a q.2 (zv_sI q.2 a 13 (zv_w (zv_I q.2 a 13 + 1))) := zt_hy_sI (zt_hy_r a q.2) (Or.inl ⟨rfl, rfl⟩) _
        have hA3 : zc_A (zv_sI q.2 a 13 (zv_w (zv_I q.2 a 13 + 1))) := zt_A13 hA2 la (zc_w _)
        have f2 := zt_f24 hM2 (zv_w (zv_I q'.2 347 24 + 1))
        have cc : zv_I (zv_sI q'.2 347 24 (zv_w (zv_I q'.2 347 24 + 1))) 348 = zv_I q'.2 348 := zm_F_a f2 348
        have ec : zv_I q'.2 348 = c := by
          rcases Dn.2 with w | w
          · exact w.2
          · exact absurd (v1 ▸ w.1.1) (by decide)
        have D3 : zt_sd a sf (zv_sI q.2 a 13 (zv_w (zv_I q.2 a 13 + 1))) (zv_sI q'.2 347 24 (zv_w (zv_I q'.2 347 24 + 1))) := ⟨fun j hj => (zy_In _ _ (fun z => absurd z.1 (Nat.ne_of_gt (Nat.lt_add_of_pos_right (by decide))))).trans (zt_sd_cl D2 j hj), fun j hj => by rw [zm_F_a f2 362]; exact zt_sd_rf D2 j hj, zt_sd_z D2, zt_sd_r D2⟩
        have n24 : zv_I (zv_sI q'.2 347 24 (zv_w (zv_I q'.2 347 24 + 1))) 347 24 = zv_I k 347 24 + 1 := by rw [zy_I, k24, w24']
        obtain ⟨v, g', k', y1, y2, ml⟩ := ih (i + 1) m (zv_I q'.2 348) _ _ sf hik (Nat.le_succ_of_le i1) mi' hA3 (zt_H_y H2 f1) (zm_F_M f2 hM2) cc ex2 D3 (fun j y hy => by rw [zm_F_a f2 363, zm_F_a f2 364]; exact hk2 j y hy) (by rw [n24]; exact zt_u2w h24) (by rw [n24, zy_I, k13, h13, w24']) (by rw [ec]; exact b0) (zt_u4w b1 g2.2) c1' (by rw [ec]; exact cn)
        refine ⟨v, g', k', cls ?_, ?_, zt_ml_g (zt_k_t (zt_Z_k Z) (zt_hy_k la f1)) (fun n j z => (zy_In _ _ (fun w => zt_u7w z w)).trans (kpq n j z)) ml⟩
        · rw [if_neg nl, zm_e z1, if_pos v0, zm_e (zl_gI gL2 la 13), zm_e (zl_pI gL2 la 13 _)]
          exact y1
        · rw [qL9_mergeNow_136, if_pos j3, zm_e (zm_f23 hM), zm_e e364, if_neg n364, zm_e (zm_f22 hM), zm_e e363, zm_e z2, if_pos (by rw [v1]; decide), qL9_mergeNow_187, if_pos (by rw [v1]; decide), qL9_mergeNow_198, zm_e (zm_gI hM2 24), if_pos (by rw [v1]; decide), zm_e (zm_pI hM2 24 _), wm0, w1]
          exact y2
      · -- carried
        rcases Dn.2 with w | w
        · exact absurd (v1.symm.trans w.1) (fun z => absurd v0 (by rw [z]; decide))
        · obtain ⟨⟨s0, s47⟩, sd, nw⟩ := w
          have Wc := zt_U_W U
          have x47 := xst0.1
          have x0 : x ≠ 0 := fun z => by
            have z2 := W0.1.2.1.2.2.1
            rw [← z] at z2
            rcases P.1 with z3 | z3 <;> rw [z2] at z3 <;> exact absurd z3 (by decide)
          have s1 : 1 ≤ q'.1 := by
            rcases Int.lt_or_eq_of_le s0 with z | z
            · exact z
            · exact absurd (by rw [← z]; exact Wc.1.2.1.1.2) sd
          have lo6 := (zt_sta_l la).1
          have x48 : x < 48 := (zt_u6w x47).1
          have rq : zv_rg q'.1 := (zt_u6w ⟨s0, s47⟩).2.2
          have f1 : zt_hy a q.2 (zv_sI q.2 (a + 6) x.toNat q'.1) := zt_hy_sI (zt_hy_r a q.2) (Or.inr (Or.inl rfl)) _
          have hA3 : zc_A (zv_sI q.2 (a + 6) x.toNat q'.1) := zt_A6 hA2 la _ rq
          have f0 : zm_F [362] [] q'.2 (zv_sI q'.2 362 x.toNat q'.1) := zm_F_I (zm_F_r _ _ _) rfl _ _
          have hM3 := zm_F_M f0 hM2
          have f2 := zt_f24 hM3 (zv_w (zv_I (zv_sI q'.2 362 x.toNat q'.1) 347 24 + 0))
          have hM4 := zm_F_M f2 hM3
          have cc : zv_I (zv_sI (zv_sI q'.2 362 x.toNat q'.1) 347 24 (zv_w (zv_I (zv_sI q'.2 362 x.toNat q'.1) 347 24 + 0))) 348 = zv_I q'.2 348 := (zm_F_a f2 348).trans (zm_F_a f0 348)
          have k24' : zv_I (zv_sI q'.2 362 x.toNat q'.1) 347 24 = zv_I k 347 24 := (zm_F_g f0 24).trans k24
          have n24 : zv_I (zv_sI (zv_sI q'.2 362 x.toNat q'.1) 347 24 (zv_w (zv_I (zv_sI q'.2 362 x.toNat q'.1) 347 24 + 0))) 347 24 = zv_I k 347 24 := by rw [zy_I, k24', w24]
          have D3 : zt_sd a (fun j => if j = x.toNat then q'.1 else sf j) (zv_sI q.2 (a + 6) x.toNat q'.1) (zv_sI (zv_sI q'.2 362 x.toNat q'.1) 347 24 (zv_w (zv_I (zv_sI q'.2 362 x.toNat q'.1) 347 24 + 0))) := by
            refine ⟨fun j hj => ?_, fun j hj => ?_, ?_, fun j hj1 hj2 => ?_⟩
            · dsimp only
              by_cases z : j = x.toNat
              · rw [if_pos z, z, zy_I]
              · rw [if_neg z, zy_In _ _ (fun q => z q.2)]
                exact zt_sd_cl D2 j hj
            · dsimp only
              rw [zm_F_a f2 362]
              by_cases z : j = x.toNat
              · rw [if_pos z, z, zy_I]
              · rw [if_neg z, zy_In _ _ (fun q => z q.2)]
                exact zt_sd_rf D2 j hj
            · dsimp only
              rw [if_neg (fun z => x0 (Int.le_antisymm (Int.toNat_eq_zero.mp z.symm) x47.1))]
              exact zt_sd_z D2
            · dsimp only
              by_cases z : j = x.toNat
              · rw [if_pos z]; exact ⟨s1, s47⟩
              · rw [if_neg z]; exact zt_sd_r D2 j hj1 hj2
          have gw : ∀ n j : Nat, n ≠ 6 → zv_I (zv_sI q.2 (a + 6) x.toNat q'.1) (a + n) j = zv_I q.2 (a + n) j := fun n j hn => zy_In _ _ (fun z => hn (Nat.add_left_cancel z.1))
          obtain ⟨v, g', k', y1, y2, ml⟩ := ih (i + 1) (m + 1) (zv_I q'.2 348) _ _ _ hik (Nat.le_succ_of_le i1) (Nat.succ_lt_succ mi) hA3 (zt_H_y H2 f1) hM4 cc ex2 D3 (fun j y hy => by rw [zm_F_a f2 363, zm_F_a f2 364, zm_F_a f0 363, zm_F_a f0 364]; exact hk2 j y hy) (by rw [n24]; exact zt_u3w h24) (by rw [n24]; exact ((gw 0 13 (by decide)).trans k13).trans h13) (Int.le_trans b0 g2.1) (zt_u4w b1 g2.2) c1' ⟨c, q'.1, cn, Wc, ⟨s1, s47⟩, sd, nw⟩
          have ql : ¬ q'.1 < 0 := Int.not_lt.mpr s0
          have qq : q.1 = q'.1 := v1.symm
          refine ⟨v, g', k', cls ?_, ?_, zt_ml_g (zt_k_t (zt_Z_k Z) (zt_hy_k la f1)) (fun n j z => (gw n j (zt_u8w z)).trans (kpq n j z)) ml⟩
          · rw [if_neg nl, zm_e z1, if_neg (by rw [qq]; exact ql), zm_e (zl_gI gL2 (zt_r_l la xst.1) 0), zt_num U2 xst2, if_pos x48, zm_e (zl_gF gL2 la 3 6), zm_e (zl_gI gL2 (zt_r_l la xst.1) 0), zt_num U2 xst2, zm_e (zl_wI gL2 lo6 x47.1 x48 _), qq]
            exact y1
          · have wz : zm_F [] [] q'.2 q'.2 := zm_F_r _ _ _
            rw [qL9_mergeNow_136, if_pos j3, zm_e (zm_f23 hM), zm_e e364, if_neg n364, zm_e (zm_f22 hM), zm_e e363, zm_e z2, if_neg ql, zm_e (zm_f21 hM2), zm_e (zm_f22 hM2), zm_e e363', zm_e (zm_wI hM2 zm_l362 rfl x47.1 x48 _), qL9_mergeNow_187, if_neg ql, qL9_mergeNow_198, zm_e (zm_gI hM3 24), if_neg ql, zm_e (zm_pI hM3 24 _), wm1, w1]
            exact y2
    · have nl := (hw x xl).mpr P
      have z364 : zv_I k 364 i = 0 := Classical.byContradiction (fun z => P (hkx.2.mp z))
      obtain ⟨v, g', k', y1, y2, ml⟩ := ih (i + 1) m c g k sf hik (Nat.le_succ_of_le i1) mi' hA H hM hc ex Ds hk (zt_u3w h24) h13 b0 (zt_u4w b1 (Int.le_add_of_nonneg_right (by decide))) b2 cn
      refine ⟨v, g', k', cls ?_, ?_, ml⟩
      · rw [if_pos nl]
        exact y1
      · rw [qL9_mergeNow_136, if_pos j3, zm_e (zm_f23 hM), zm_e e364, if_pos z364, w1]
        exact y2
end
