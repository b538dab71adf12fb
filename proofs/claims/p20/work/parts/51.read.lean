/-! ===== the reference: small readers ===== -/
def zm_o (c : Nat → Int) (s w : Int) : Int := c (432 + 76 * s.toNat + w.toNat)
/-- a state -/
abbrev zm_st (c : Nat → Int) (s : Int) : Prop := (0 ≤ s ∧ s ≤ 47) ∧ zm_o c s 0 = 1
/-- a put or a cut -/
abbrev zm_ed (c : Nat → Int) (s : Int) : Prop := zm_o c s 2 = 0 ∨ zm_o c s 2 = 1
theorem zm_ix {s w : Int} (hs : 0 ≤ s ∧ s ≤ 48) (hw : 0 ≤ w ∧ w < 76) : zv_w (zv_w (432 + zv_w (76 * s)) + w) = ((432 + 76 * s.toNat + w.toNat : Nat) : Int) := by
  rw [zm_w (x := 76 * s) (by omega), zm_w (x := 432 + 76 * s) (by omega), zm_w (by omega)]
  omega
theorem zm_of {h : zv_H} (hM : zm_M h) (d : Nat) {s w : Int} (hs : 0 ≤ s ∧ s ≤ 48) (hw : 0 ≤ w ∧ w < 76) : C9_of (d + 1) 347 s w h = some (zm_o (zv_I h 348) s w, h) := by
  refine lC9_of (zm_ob hM) ?_
  rw [qE9_of, zm_e (zm_f0 hM), zm_ix hs hw, zm_e (zm_aI hM zm_l348 rfl (by omega) (by omega))]
  rfl
theorem zm_sets {h : zv_H} (hM : zm_M h) (d : Nat) {s w : Int} (hs : 0 ≤ s ∧ s ≤ 48) (hw : 0 ≤ w ∧ w < 76) (v : Int) : C9_sets (d + 1) 347 s w v h = some (zv_sI h 348 (432 + 76 * s.toNat + w.toNat) v) := by
  refine lC9_sets (zm_ob hM) ?_
  rw [qE9_sets, zm_e (zm_f0 hM), zm_ix hs hw, zm_e (zm_wI hM zm_l348 rfl (by omega) (by omega) v)]
  rfl
def zm_os (c : Nat → Int) (s w v : Int) : Nat → Int := zm_u c (432 + 76 * s.toNat + w.toNat) v
theorem zm_os_s (c : Nat → Int) (s w v : Int) : zm_o (zm_os c s w v) s w = v := zm_u_s _ _ _
theorem zm_os_o (c : Nat → Int) {s w s' w' : Int} (v : Int) (hs : 0 ≤ s) (hw : 0 ≤ w ∧ w < 76) (hs' : 0 ≤ s') (hw' : 0 ≤ w' ∧ w' < 76) (h : ¬ (s' = s ∧ w' = w)) : zm_o (zm_os c s w v) s' w' = zm_o c s' w' := zm_u_o _ _ (by omega)
theorem zm_isIn {h : zv_H} (d : Nat) (v a b : Int) : C9_isIn (d + 1) v a b h = some (if a ≤ v ∧ v ≤ b then 1 else 0, h) := by
  refine lC9_isIn ?_
  rw [qE9_isIn]
  by_cases h1 : v < a
  · rw [if_pos h1, if_neg (by omega)]
  · rw [if_neg h1]
    by_cases h2 : v ≤ b
    · rw [if_pos h2, if_pos (by omega)]
    · rw [if_neg h2, if_neg (by omega)]
theorem zm_isState {h : zv_H} (hM : zm_M h) (d : Nat) (s : Int) : C9_isState (d + 2) 347 s h = some (if zm_st (zv_I h 348) s then 1 else 0, h) := by
  refine lC9_isState (zm_ob hM) ?_
  rw [qE9_isState, zm_e (zm_isIn d s 0 47)]
  dsimp only
  by_cases h1 : 0 ≤ s ∧ s ≤ 47
  · rw [if_pos h1, if_neg (by decide), zm_e (zm_of hM d (by omega) (by decide))]
    dsimp only
    by_cases h2 : zm_o (zv_I h 348) s 0 = 1
    · rw [if_pos h2, if_pos ⟨h1, h2⟩]
    · rw [if_neg h2, if_neg (fun q => h2 q.2)]
  · rw [if_neg h1, if_pos rfl, if_neg (fun q => h1 q.1)]
theorem zm_isEdit {h : zv_H} (hM : zm_M h) (d : Nat) {s : Int} (hs : 0 ≤ s ∧ s ≤ 48) : C9_isEdit (d + 2) 347 s h = some (if zm_ed (zv_I h 348) s then 1 else 0, h) := by
  refine lC9_isEdit (zm_ob hM) ?_
  rw [qE9_isEdit, zm_e (zm_of hM d hs (by decide))]
  dsimp only
  by_cases h1 : zm_o (zv_I h 348) s 2 = 0
  · rw [if_pos h1, if_pos (Or.inl h1)]
  · rw [if_neg h1, zm_e (zm_of hM d hs (by decide))]
    dsimp only
    by_cases h2 : zm_o (zv_I h 348) s 2 = 1
    · rw [if_pos h2, if_pos (Or.inr h2)]
    · rw [if_neg h2, if_neg (fun q => q.elim h1 h2)]
theorem zm_here {h : zv_H} (hM : zm_M h) (d : Nat) : C9_here (d + 1) 347 h = some (zv_I h 348 0, h) := by
  refine lC9_here (zm_ob hM) ?_
  rw [qE9_here, zm_e (zm_f0 hM), zm_e (zm_aI hM zm_l348 rfl (by decide) (by decide))]
  rfl
theorem zm_refuse {h : zv_H} (hM : zm_M h) (d : Nat) (w : Int) : C9_refuse (d + 1) 347 w h = some (-1, zv_sI h 347 3 w) := by
  refine lC9_refuse (zm_ob hM) ?_
  rw [qE9_refuse, zm_e (zm_pI hM 3 w)]
theorem zm_is {h : zv_H} (hM : zm_M h) (d : Nat) (w : Int) : C9_is (d + 1) 347 w h = some (if w = 0 then 1 else 0, zv_sI (zv_sI h 347 4 0) 347 3 w) := by
  refine lC9_is (zm_ob hM) ?_
  rw [qE9_is, zm_e (zm_pI hM 4 0), zm_e (zm_pI (zm_M_sI hM) 3 w)]
  by_cases h1 : w = 0
  · rw [if_pos h1, if_pos h1]
  · rw [if_neg h1, if_neg h1]
/-- a bit of the names -/
abbrev zm_nm (c : Nat → Int) (s t : Int) : Prop := zv_and (zv_shr (zm_o c s (if t < 24 then 10 else 11)) (t.tmod 24)) 1 = 1

theorem zm_names {h : zv_H} (hM : zm_M h) (d : Nat) {s : Int} (hs : 0 ≤ s ∧ s ≤ 48) (t : Int) : C9_names (d + 2) 347 s t h = some (if zm_nm (zv_I h 348) s t then 1 else 0, h) := by
  refine lC9_names (zm_ob hM) ?_
  rw [qE9_names]
  by_cases h1 : t < 24
  · rw [if_pos h1, qL9_names_15, zm_e (zm_of hM d hs (by decide))]
    dsimp only
    by_cases h2 : zm_nm (zv_I h 348) s t
    · rw [if_pos h2]
      unfold zm_nm at h2
      rw [if_pos h1] at h2
      rw [if_pos h2]
    · rw [if_neg h2]
      unfold zm_nm at h2
      rw [if_pos h1] at h2
      rw [if_neg h2]
  · rw [if_neg h1, qL9_names_15, zm_e (zm_of hM d hs (by decide))]
    dsimp only
    by_cases h2 : zm_nm (zv_I h 348) s t
    · rw [if_pos h2]
      unfold zm_nm at h2
      rw [if_neg h1] at h2
      rw [if_pos h2]
    · rw [if_neg h2]
      unfold zm_nm at h2
      rw [if_neg h1] at h2
      rw [if_neg h2]
/-! the line of a state: from it to the start -/
def zm_Ln (c : Nat → Int) : List Int → Int → Prop
  | [], s => s < 0
  | t :: l, s => (s = t ∧ 0 ≤ t ∧ t ≤ 48) ∧ zm_Ln c l (zm_o c t 1)
theorem zm_Ln_u {c : Nat → Int} : ∀ {l l' : List Int} {s : Int}, zm_Ln c l s → zm_Ln c l' s → l = l'
  | [], [], _, _, _ => rfl
  | [], t :: l, s, h1, h2 => by
    have h3 : s < 0 := h1
    have := h2.1
    omega
  | t :: l, [], s, h1, h2 => by
    have h3 : s < 0 := h2
    have := h1.1
    omega
  | t :: l, t' :: l', s, h1, h2 => by
    have e : t = t' := h1.1.1.symm.trans h2.1.1
    subst e
    rw [zm_Ln_u h1.2 h2.2]
theorem zm_Ln_r {c : Nat → Int} : ∀ {l : List Int} {s : Int}, zm_Ln c l s → ∀ t ∈ l, 0 ≤ t ∧ t ≤ 48
  | [], _, _, t, ht => by cases ht
  | u :: l, _, h, t, ht => by
    rcases List.mem_cons.mp ht with e | e
    · rw [e]
      exact h.1.2
    · exact zm_Ln_r h.2 t e
/-- the line of one of the line is its end -/
theorem zm_Ln_s {c : Nat → Int} : ∀ {l : List Int} {s : Int}, zm_Ln c l s → ∀ t ∈ l, ∃ a b, l = a ++ t :: b ∧ zm_Ln c (t :: b) t
  | [], _, _, t, ht => by cases ht
  | u :: l, _, h, t, ht => by
    rcases List.mem_cons.mp ht with e | e
    · subst e
      exact ⟨[], l, rfl, ⟨⟨rfl, h.1.2⟩, h.2⟩⟩
    · obtain ⟨a, b, e1, e2⟩ := zm_Ln_s h.2 t e
      exact ⟨u :: a, b, by rw [e1]; rfl, e2⟩
theorem zm_isOfLine_l {h : zv_H} (hM : zm_M h) (d : Nat) (t : Int) : ∀ {l : List Int} {s : Int}, zm_Ln (zv_I h 348) l s → L9_isOfLine_2 (d + 1) 347 t s h = some (some (zv_i (if t ∈ l then 1 else 0)), h)
  | [], s, hl => by
    rw [qL9_isOfLine_2, if_pos (show s < 0 from hl), if_neg List.not_mem_nil]
  | u :: l, s, hl => by
    obtain ⟨⟨e, hu⟩, hl'⟩ := hl
    subst e
    rw [qL9_isOfLine_2, if_neg (by omega)]
    by_cases h1 : s = t
    · rw [if_pos h1, if_pos (by rw [h1]; exact List.mem_cons_self)]
    · rw [if_neg h1, zm_e (zm_of hM d hu (by decide))]
      rw [zm_isOfLine_l hM d t hl']
      by_cases h2 : t ∈ l
      · rw [if_pos h2, if_pos (List.mem_cons_of_mem _ h2)]
      · rw [if_neg h2, if_neg]
        intro q
        rcases List.mem_cons.mp q with e | e
        · exact h1 e.symm
        · exact h2 e
theorem zm_isOfLine {h : zv_H} (hM : zm_M h) (d : Nat) (t : Int) {l : List Int} {s : Int} (hl : zm_Ln (zv_I h 348) l s) : C9_isOfLine (d + 2) 347 t s h = some (if t ∈ l then 1 else 0, h) := by
  refine lC9_isOfLine (zm_ob hM) ?_
  rw [qE9_isOfLine, zm_isOfLine_l hM d t hl]
theorem zm_depth_l {h : zv_H} (hM : zm_M h) (d : Nat) : ∀ {l : List Int} {s : Int} (n : Int), zm_Ln (zv_I h 348) l s → 0 ≤ n → n + l.length < 2000000000 → L9_depthOf_9 (d + 1) 347 n s h = some (some (zv_i (n + l.length)), h)
  | [], s, n, hl, _, _ => by
    rw [qL9_depthOf_9, if_pos (show s < 0 from hl)]
    rw [show n + (([] : List Int).length : Int) = n by simp]
  | u :: l, s, n, hl, h0, h1 => by
    obtain ⟨⟨e, hu⟩, hl'⟩ := hl
    subst e
    rw [List.length_cons] at h1 ⊢
    rw [qL9_depthOf_9, if_neg (by omega), zm_e (zm_of hM d hu (by decide))]
    rw [zm_w (by omega), zm_depth_l hM d (n + 1) hl' (by omega) (by omega)]
    rw [show n + 1 + (l.length : Int) = n + ((l.length + 1 : Nat) : Int) by omega]
theorem zm_depthOf {h : zv_H} (hM : zm_M h) (d : Nat) {l : List Int} {s : Int} (hl : zm_Ln (zv_I h 348) (s :: l) s) (hn : l.length < 2000000000) : C9_depthOf (d + 2) 347 s h = some ((l.length : Int), h) := by
  refine lC9_depthOf (zm_ob hM) ?_
  rw [qE9_depthOf, zm_e (zm_of hM d hl.1.2 (by decide))]
  rw [zm_depth_l hM d 0 hl.2 (by omega) (by omega)]
  rw [Int.zero_add]
/-! how many states, a free one, children, names -/
def zm_sum (f : Nat → Int) : Nat → Int
  | 0 => 0
  | n + 1 => zm_sum f n + f n
theorem zm_sum_le {f : Nat → Int} {a b : Int} (hf : ∀ k, a ≤ f k ∧ f k ≤ b) : ∀ n, n * a ≤ zm_sum f n ∧ zm_sum f n ≤ n * b
  | 0 => by
    show ((0 : Nat) : Int) * a ≤ 0 ∧ 0 ≤ ((0 : Nat) : Int) * b
    omega
  | n + 1 => by
    have h1 := zm_sum_le hf n
    have h2 := hf n
    show ((n + 1 : Nat) : Int) * a ≤ zm_sum f n + f n ∧ zm_sum f n + f n ≤ ((n + 1 : Nat) : Int) * b
    rw [Int.natCast_add, Int.add_mul, Int.add_mul]
    omega
