/-! ===== the tie: carrying a cut, the reference's way through the row ===== -/
/-- what it has found so far -/
def zt_cc (P : Int × Int → Prop) (A : List (Int × Int)) (a0 m0 : Int) : Prop := (a0 = -1 ∧ m0 = 0 ∧ ∀ x ∈ A, ¬ P x) ∨ ∃ f m : Nat, a0 = (f : Int) ∧ m0 = (m : Int) ∧ 1 ≤ m ∧ f + m ≤ A.length ∧ ∀ (j : Nat) (x : Int × Int), A[j]? = some x → (P x ↔ f ≤ j ∧ j < f + m)
theorem zt_cc_ge {A : List (Int × Int)} {x : Int × Int} (j : Nat) (y : Int × Int) (hy : (A ++ [x])[j]? = some y) : (j < A.length ∧ A[j]? = some y) ∨ (j = A.length ∧ y = x) := by
  by_cases z : j < A.length
  · rw [List.getElem?_append_left z] at hy
    exact Or.inl ⟨z, hy⟩
  · have jl := zm_lt_of_get hy
    rw [List.length_append] at jl
    have jl2 : j < A.length + 1 := jl
    have ej : j = A.length := by omega
    rw [ej, List.getElem?_concat_length] at hy
    exact Or.inr ⟨ej, (Option.some.inj hy).symm⟩
theorem zt_cc_no {P : Int × Int → Prop} {A : List (Int × Int)} {x : Int × Int} {a0 m0 : Int} (st : zt_cc P A a0 m0) (np : ¬ P x) : zt_cc P (A ++ [x]) a0 m0 := by
  rcases st with ⟨s1, s2, s3⟩ | ⟨f, m, s1, s2, s3, s4, s5⟩
  · refine Or.inl ⟨s1, s2, fun y hy => ?_⟩
    rcases List.mem_append.mp hy with q | q
    · exact s3 y q
    · rw [List.mem_singleton.mp q]; exact np
  · refine Or.inr ⟨f, m, s1, s2, s3, ?_, fun j y hy => ?_⟩
    · rw [List.length_append]
      exact Nat.le_trans s4 (Nat.le_add_right _ _)
    · rcases zt_cc_ge j y hy with ⟨q1, q2⟩ | ⟨q1, q2⟩
      · exact s5 j y q2
      · rw [q2]
        exact ⟨fun q => absurd q np, fun q => by omega⟩
theorem zt_cc_1 {P : Int × Int → Prop} {A : List (Int × Int)} {x : Int × Int} (s3 : ∀ x ∈ A, ¬ P x) (px : P x) : zt_cc P (A ++ [x]) A.length 1 := by
  refine Or.inr ⟨A.length, 1, rfl, rfl, Nat.le_refl _, ?_, fun j y hy => ?_⟩
  · rw [List.length_append]
    exact Nat.le_refl _
  · rcases zt_cc_ge j y hy with ⟨q1, q2⟩ | ⟨q1, q2⟩
    · exact ⟨fun q => absurd q (s3 y (List.mem_of_getElem? q2)), fun q => by omega⟩
    · rw [q2]
      exact ⟨fun _ => by omega, fun _ => px⟩
theorem zt_cc_2 {P : Int × Int → Prop} {A : List (Int × Int)} {x : Int × Int} {f m : Nat} (s4 : A.length = f + m) (s5 : ∀ (j : Nat) (x : Int × Int), A[j]? = some x → (P x ↔ f ≤ j ∧ j < f + m)) (px : P x) : zt_cc P (A ++ [x]) f (m + 1 : Nat) := by
  refine Or.inr ⟨f, m + 1, rfl, rfl, Nat.le_add_left _ _, ?_, fun j y hy => ?_⟩
  · rw [List.length_append, s4]
    exact Nat.le_refl _
  · rcases zt_cc_ge j y hy with ⟨q1, q2⟩ | ⟨q1, q2⟩
    · rw [s5 j y q2]
      omega
    · rw [q2]
      exact ⟨fun _ => by omega, fun _ => px⟩
theorem zt_cc_g {P : Int × Int → Prop} {A T : List (Int × Int)} {x : Int × Int} {f m : Nat} (h1 : 1 ≤ m) (s4 : f + m < A.length) (s5 : ∀ (j : Nat) (x : Int × Int), A[j]? = some x → (P x ↔ f ≤ j ∧ j < f + m)) (px : P x) (f' m' : Nat) : ¬ zt_blk P ((A ++ [x]) ++ T) f' m' := by
  have lift : ∀ (j : Nat) (y : Int × Int), (A ++ [x])[j]? = some y → ((A ++ [x]) ++ T)[j]? = some y := fun j y hy => by
    rw [List.getElem?_append_left (zm_lt_of_get hy)]
    exact hy
  have gA : ∀ j, (hj : j < A.length) → (A ++ [x])[j]? = some (A[j]) := fun j hj => by
    rw [List.getElem?_append_left hj]
    exact List.getElem?_eq_getElem hj
  have h2 : f < A.length := by omega
  exact zt_blk_gap (lift _ _ (gA f h2)) (lift _ _ (gA (f + m) s4)) (lift _ _ (List.getElem?_concat_length)) (by omega) s4 ((s5 f _ (List.getElem?_eq_getElem h2)).mpr ⟨by omega, by omega⟩) (fun q => by have := (s5 (f + m) _ (List.getElem?_eq_getElem s4)).mp q; omega) px _ _
theorem zt_cc_w {A : List (Int × Int)} {sn : Int × Int → Bool} (h : A.length < 1000) : zv_w (((A.filter sn).length : Int) + 1) = ((A.filter sn).length : Int) + 1 := by
  have := List.length_filter_le sn A
  generalize (A.filter sn).length = n at *
  rw [zm_w (by omega)]
/-- what the reference's way through the row finds -/
theorem zt_cc18 (d : Nat) {h : zv_H} (hM : zm_M h) {R : List (Int × Int)} {sn : Int × Int → Bool} {s : Int} {P : Int × Int → Prop} (h11 : zv_I h 347 11 = (R.length : Int)) (r5 : ∀ (i : Nat) (x : Int × Int), R[i]? = some x → zv_I h 355 i = if sn x = true then 1 else 0) (hn : R.length ≤ 640) (tk : ∀ (i : Nat) (x : Int × Int), R[i]? = some x → ∃ v : Int, C9_isTaken (d + 6) 347 s i h = some (v, h) ∧ (v ≠ 0 ↔ P x)) : ∀ (b A : List (Int × Int)), A ++ b = R → ∀ (a0 m0 : Int), zt_cc P (A.filter sn) a0 m0 → (L9_carriesCut_18 (d + 6) 347 s a0 m0 ((A.filter sn).length : Int) A.length h = some (some (zv_i (-1)), zv_sI h 347 3 10) ∧ ∀ f' m', ¬ zt_blk P (R.filter sn) f' m') ∨ ∃ f m : Nat, zt_blk P (R.filter sn) f m ∧ L9_carriesCut_18 (d + 6) 347 s a0 m0 ((A.filter sn).length : Int) A.length h = ((C9_cutNow (d + 6) 347 f m h).bind fun q7 => (some (some (zv_i q7.1), q7.2) : zv_O)) := by
  intro b
  induction b with
  | nil =>
    intro A e a0 m0 st
    rw [List.append_nil] at e
    subst e
    rcases st with ⟨s1, s2, s3⟩ | ⟨f, m, s1, s2, s3, s4, s5⟩
    · refine Or.inl ⟨?_, fun f' m' => zt_blk_no s3 f' m'⟩
      rw [qL9_carriesCut_18, zm_e (zm_gI hM 11), h11, if_neg (Int.lt_irrefl _), if_pos s2, zm_e (zm_refuse hM _ 10)]
    · refine Or.inr ⟨f, m, ⟨s3, s4, s5⟩, ?_⟩
      have m0 : ¬ (m : Int) = 0 := by clear s4; omega
      rw [qL9_carriesCut_18, zm_e (zm_gI hM 11), h11, if_neg (Int.lt_irrefl _), s1, s2, if_neg m0]
  | cons x b ih =>
    intro A e a0 m0 st
    have hx : R[A.length]? = some x := by
      rw [← e, List.getElem?_append_right (Nat.le_refl _), Nat.sub_self]
      rfl
    have il := zm_lt_of_get hx
    have iL : (A.length : Int) < (R.length : Int) := Int.ofNat_lt.mpr il
    have al' : A.length < 640 := Nat.lt_of_lt_of_le il hn
    have e' : (A ++ [x]) ++ b = R := by rw [List.append_assoc]; exact e
    have al : A.length < 640 := Nat.lt_of_lt_of_le il hn
    have w1 : zv_w ((A.length : Int) + 1) = (((A ++ [x]).length : Nat) : Int) := by
      rw [List.length_append]
      clear ih st e e' hx
      generalize A.length = n at *
      rw [zm_w (by omega)]
      rfl
    have r355 : zv_aB h 355 (A.length : Int) = some (if sn x = true then 1 else 0) := by
      rw [zm_aB hM zm_l355 (Or.inl rfl) rfl (Int.natCast_nonneg _) (Int.ofNat_lt.mpr al), Int.toNat_natCast, r5 _ _ hx]
    have wE := zt_cc_w (sn := sn) (Nat.lt_of_lt_of_le al (show 640 ≤ 1000 by decide))
    have ih' := ih (A ++ [x]) e'
    rw [qL9_carriesCut_18, zm_e (zm_gI hM 11), h11, if_pos iL, zm_e (zm_f9 hM), zm_e r355, w1]
    have eD : R.filter sn = (A ++ [x]).filter sn ++ b.filter sn := by rw [← e', List.filter_append]
    clear ih iL r355 r5 h11 hn e e' il al
    by_cases c1 : sn x = true
    · have ef : (A ++ [x]).filter sn = A.filter sn ++ [x] := by rw [List.filter_append, List.filter_cons_of_pos c1]; rfl
      have el : ((A.filter sn ++ [x]).length : Int) = ((A.filter sn).length : Int) + 1 := by rw [List.length_append]; rfl
      rw [ef, el] at ih'
      rw [ef] at eD
      obtain ⟨v, ev, iv⟩ := tk A.length x hx
      rw [if_pos c1, if_neg (by decide), zm_e ev]
      dsimp only
      have bl : (A.filter sn).length ≤ 640 := Nat.le_trans (List.length_filter_le _ _) (Nat.le_of_lt al')
      clear tk hx ef el
      generalize A.filter sn = B at *
      by_cases z : v = 0
      · have np : ¬ P x := fun q => iv.mpr q z
        rw [if_pos z, wE]
        exact ih' a0 m0 (zt_cc_no st np)
      · have px := iv.mp z
        rw [if_neg z]
        clear iv ev z
        rcases st with ⟨s1, s2, s3⟩ | ⟨f, m, s1, s2, s3, s4, s5⟩
        · have w0 : zv_w (0 + 1) = 1 := by decide
          rw [if_pos (by rw [s1]; decide), qL9_carriesCut_69, if_pos (by rw [s1]; decide), w1, wE, s2, w0]
          exact ih' _ _ (zt_cc_1 s3 px)
        · rw [s1, s2, if_neg (Int.not_lt.mpr (Int.natCast_nonneg _))]
          have wm : zv_w ((m : Int) + 1) = ((m + 1 : Nat) : Int) := by
            clear ih' s1 s2 s5 w1 wE eD
            generalize B.length = n at *
            rw [zm_w (by omega)]
            rfl
          have wf : zv_w ((f : Int) + m) = ((f + m : Nat) : Int) := by
            clear ih' s1 s2 s5 w1 wE eD wm
            generalize B.length = n at *
            rw [zm_w (by omega)]
            rfl
          rw [wf]
          by_cases c2 : ((B.length : Nat) : Int) = ((f + m : Nat) : Int)
          · rw [if_pos c2, qL9_carriesCut_69, if_neg (Int.not_lt.mpr (Int.natCast_nonneg _)), w1, wE, wm]
            exact ih' _ _ (zt_cc_2 (Int.ofNat_inj.mp c2) s5 px)
          · rw [if_neg c2, zm_e (zm_refuse hM _ 10)]
            refine Or.inl ⟨rfl, fun f' m' => ?_⟩
            rw [eD]
            exact zt_cc_g s3 (Nat.lt_of_le_of_ne s4 (fun q => c2 (congrArg Nat.cast q.symm))) s5 px f' m'
    · have ef : (A ++ [x]).filter sn = A.filter sn := by rw [List.filter_append, List.filter_cons_of_neg c1, List.filter_nil, List.append_nil]
      rw [ef] at ih'
      rw [if_neg c1, if_pos rfl]
      exact ih' a0 m0 st
