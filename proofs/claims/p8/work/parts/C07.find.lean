/-! ===== what is asked, answered alike: where a word stands ===== -/
/-- the first place of a word in letters -/
def za_pl (A : List Int) (x : Nat) (w : Nat → Int) : Nat → Nat → Int
  | 0, _ => -1
  | n + 1, p => if p + x ≤ A.length then (if (∀ i, i < x → za_nth A (p + i) = w i) then (p : Int) else za_pl A x w n (p + 1)) else -1
theorem za_pl_r (A : List Int) (x : Nat) (w : Nat → Int) : ∀ n p : Nat, za_pl A x w n p = -1 ∨ 0 ≤ za_pl A x w n p
  | 0, _ => Or.inl rfl
  | n + 1, p => by
    have e : za_pl A x w (n + 1) p = if p + x ≤ A.length then (if (∀ i, i < x → za_nth A (p + i) = w i) then (p : Int) else za_pl A x w n (p + 1)) else -1 := rfl
    rw [e]
    split
    · split
      · exact Or.inr (by omega)
      · exact za_pl_r A x w n (p + 1)
    · exact Or.inl rfl
section
variable {a b m : Nat} {g k : zv_H}
theorem za_C7_at {d r x : Nat} {w : Nat → Int} (gL : zt_L g) (h : zt_wd r x w g) {i : Nat} (hi : i < x) : C7_at (d + 1) r (i : Int) g = some (w i, g) := by
  have x40 := zt_wd_m12 h
  have e1 : zv_gR g r 7 0 = some (r + 1) := zl_gF gL (zt_wd_l7 h) 0 1
  refine lC7_at (zl_ob gL (zt_wd_l7 h)) ?_
  rw [qE7_at, if_neg (by omega), zm_e (zl_gI gL (zt_wd_l7 h) 1), zt_wd_sz h, if_pos (by omega), zm_e e1, zm_e (zl_al gL (zt_wd_la h)), if_pos (by omega), zm_e e1, zm_e (zl_aI gL (zt_wd_la h) (by omega) (by omega)), Int.toNat_natCast, zt_wd_lt h i hi]
/-- one place, in the class -/
theorem za_pl18 {d r x : Nat} {w : Nat → Int} {c : Nat → Int} (gL : zt_L g) (U : zt_U a c g) {s : Int} (hs : zm_st c s) {A : List Int} (hD : za_D c s A) (h120 : A.length ≤ 120) (h : zt_wd r x w g) {p : Nat} (hp : p + x ≤ A.length) : ∀ (n j : Nat), j + n = x → (∀ i, i < j → za_nth A (p + i) = w i) → L0_placeIn_18 (d + 2) a (zt_r a s) r (p : Int) (j : Int) g = if (∀ i, i < x → za_nth A (p + i) = w i) then some (some (zv_i (p : Int)), g) else L0_placeIn_2 (d + 2) a (zt_r a s) r ((p + 1 : Nat) : Int) g
  | 0, j, hj, hb => by
    have e : j = x := by omega
    subst e
    rw [qL0_placeIn_18, zm_e (zl_gI gL (zt_wd_l7 h) 1), zt_wd_sz h, if_neg (by omega), qL0_placeIn_51, zm_e (zl_gI gL (zt_wd_l7 h) 1), zt_wd_sz h, if_pos rfl, if_pos hb]
  | n + 1, j, hj, hb => by
    have w1 : zv_w ((p : Int) + j) = ((p + j : Nat) : Int) := by
      rw [zm_w (by omega)]
      omega
    have w2 : zv_w ((j : Int) + 1) = ((j + 1 : Nat) : Int) := by
      rw [zm_w (by omega)]
      omega
    have w3 : zv_w ((p : Int) + 1) = ((p + 1 : Nat) : Int) := by
      rw [zm_w (by omega)]
      omega
    rw [qL0_placeIn_18, zm_e (zl_gI gL (zt_wd_l7 h) 1), zt_wd_sz h, if_pos (by omega), w1, zm_e (za_letterAt (d := d) gL U hs hD (p + j)), w2]
    dsimp only
    rw [zm_e (za_C7_at (d := d + 1) gL h (show j < x by omega))]
    dsimp only
    by_cases c1 : za_nth A (p + j) = w j
    · rw [if_pos c1]
      refine za_pl18 gL U hs hD h120 h hp n (j + 1) (by omega) (fun i hi => ?_)
      by_cases e : i = j
      · rw [e]; exact c1
      · exact hb i (by omega)
    · rw [if_neg c1, qL0_placeIn_51, zm_e (zl_gI gL (zt_wd_l7 h) 1), zt_wd_sz h, if_neg (by omega), w3, if_neg (fun q => c1 (q j (by omega)))]
theorem za_pl2 {d r x : Nat} {w : Nat → Int} {c : Nat → Int} (gL : zt_L g) (U : zt_U a c g) {s : Int} (hs : zm_st c s) {A : List Int} (hD : za_D c s A) (h120 : A.length ≤ 120) (hn : zv_I g (zt_r a s) 12 = A.length) (h : zt_wd r x w g) : ∀ (n p : Nat), p + n = A.length + 1 → L0_placeIn_2 (d + 2) a (zt_r a s) r (p : Int) g = some (some (zv_i (za_pl A x w n p)), g)
  | 0, p, hp => by
    have x40 := zt_wd_m12 h
    have lr := zt_r_l (zt_U_la U) hs.1
    rw [qL0_placeIn_2, zm_e (zl_gI gL (zt_wd_l7 h) 1), zt_wd_sz h, zm_e (zl_gI gL lr 12), hn, zm_w (by omega), if_neg (by omega)]
    rfl
  | n + 1, p, hp => by
    have x40 := zt_wd_m12 h
    have lr := zt_r_l (zt_U_la U) hs.1
    have e : za_pl A x w (n + 1) p = if p + x ≤ A.length then (if (∀ i, i < x → za_nth A (p + i) = w i) then (p : Int) else za_pl A x w n (p + 1)) else -1 := rfl
    rw [qL0_placeIn_2, zm_e (zl_gI gL (zt_wd_l7 h) 1), zt_wd_sz h, zm_e (zl_gI gL lr 12), hn, zm_w (by omega), e]
    by_cases c1 : p + x ≤ A.length
    · have e18 := za_pl18 (d := d) gL U hs hD h120 h c1 x 0 (Nat.zero_add _) (fun i hi => absurd hi (Nat.not_lt_zero i))
      rw [if_pos (show (p : Int) + x ≤ A.length by omega), if_pos c1]
      refine Eq.trans e18 ?_
      by_cases c2 : ∀ i, i < x → za_nth A (p + i) = w i
      · rw [if_pos c2, if_pos c2]
      · rw [if_neg c2, if_neg c2]
        exact za_pl2 gL U hs hD h120 hn h n (p + 1) (by omega)
    · rw [if_neg (show ¬ (p : Int) + x ≤ A.length by omega), if_neg c1]
/-- one place, in the reference -/
theorem za_pl28 {D x : Nat} {w : Nat → Int} {A : List Int} (hM : zm_M k) (h120 : A.length ≤ 120) (h20 : zv_I k 347 20 = x) (x12 : x ≤ 12) (hw : ∀ i, i < x → zv_I k 361 i = w i) (hA : ∀ i (hi : i < A.length), zv_I k 356 i = A[i]) {p : Nat} (hp : p + x ≤ A.length) : ∀ (n j : Nat), j + n = x → (∀ i, i < j → za_nth A (p + i) = w i) → L9_placeIn_28 D 347 (A.length : Int) (p : Int) 1 (j : Int) k = if (∀ i, i < x → za_nth A (p + i) = w i) then some (some (zv_i (p : Int)), k) else L9_placeIn_12 D 347 (A.length : Int) ((p + 1 : Nat) : Int) k
  | 0, j, hj, hb => by
    have e : j = x := by omega
    subst e
    rw [qL9_placeIn_28, zm_e (zm_gI hM 20), h20, if_neg (by omega), qL9_placeIn_74, if_neg (by decide), if_pos hb]
  | n + 1, j, hj, hb => by
    have w1 : zv_w ((p : Int) + j) = ((p + j : Nat) : Int) := by
      rw [zm_w (by omega)]
      omega
    have w2 : zv_w ((j : Int) + 1) = ((j + 1 : Nat) : Int) := by
      rw [zm_w (by omega)]
      omega
    have w3 : zv_w ((p : Int) + 1) = ((p + 1 : Nat) : Int) := by
      rw [zm_w (by omega)]
      omega
    have pj : p + j < A.length := by omega
    have en := za_nth_in pj
    rw [qL9_placeIn_28, zm_e (zm_gI hM 20), h20, if_pos (by omega), if_neg (by decide), zm_e (zm_gR hM rfl rfl : zv_gR k 347 9 13 = some 356), w1, zm_e (zm_aI hM (show zv_lay 356 = (2, 640) from rfl) rfl (by omega) (by omega)), Int.toNat_natCast, hA _ pj, ← en, zm_e (zm_f18 hM), zm_e (zm_aI hM zm_l361 rfl (by omega) (by omega)), Int.toNat_natCast, hw j (by omega), w2]
    by_cases c1 : za_nth A (p + j) = w j
    · rw [if_pos c1]
      refine za_pl28 hM h120 h20 x12 hw hA hp n (j + 1) (by omega) (fun i hi => ?_)
      by_cases e : i = j
      · rw [e]; exact c1
      · exact hb i (by omega)
    · have z : ∀ y : Int, L9_placeIn_28 D 347 (A.length : Int) (p : Int) 0 y k = L9_placeIn_12 D 347 (A.length : Int) ((p + 1 : Nat) : Int) k := fun y => by
        have e74 : L9_placeIn_74 D 347 (A.length : Int) (p : Int) 0 k = L9_placeIn_12 D 347 (A.length : Int) ((p + 1 : Nat) : Int) k := by
          rw [qL9_placeIn_74, if_pos rfl, w3]
        rw [qL9_placeIn_28, zm_e (zm_gI hM 20), h20]
        by_cases c2 : y < (x : Int)
        · rw [if_pos c2, if_pos rfl, e74]
        · rw [if_neg c2, e74]
      rw [if_neg c1, z, if_neg (fun q => c1 (q j (by omega)))]
theorem za_pl12 {D x : Nat} {w : Nat → Int} {A : List Int} (hM : zm_M k) (h120 : A.length ≤ 120) (h20 : zv_I k 347 20 = x) (x12 : x ≤ 12) (hw : ∀ i, i < x → zv_I k 361 i = w i) (hA : ∀ i (hi : i < A.length), zv_I k 356 i = A[i]) : ∀ (n p : Nat), p + n = A.length + 1 → L9_placeIn_12 D 347 (A.length : Int) (p : Int) k = some (some (zv_i (za_pl A x w n p)), k)
  | 0, p, hp => by
    rw [qL9_placeIn_12, zm_e (zm_gI hM 20), h20, zm_w (by omega), if_neg (by omega)]
    rfl
  | n + 1, p, hp => by
    have e : za_pl A x w (n + 1) p = if p + x ≤ A.length then (if (∀ i, i < x → za_nth A (p + i) = w i) then (p : Int) else za_pl A x w n (p + 1)) else -1 := rfl
    rw [qL9_placeIn_12, zm_e (zm_gI hM 20), h20, zm_w (by omega), e]
    by_cases c1 : p + x ≤ A.length
    · have e28 := za_pl28 (D := D) hM h120 h20 x12 hw hA c1 x 0 (Nat.zero_add _) (fun i hi => absurd hi (Nat.not_lt_zero i))
      rw [if_pos (show (p : Int) + x ≤ A.length by omega), if_pos c1]
      refine Eq.trans e28 ?_
      by_cases c2 : ∀ i, i < x → za_nth A (p + i) = w i
      · rw [if_pos c2, if_pos c2]
      · rw [if_neg c2, if_neg c2]
        exact za_pl12 hM h120 h20 x12 hw hA n (p + 1) (by omega)
    · rw [if_neg (show ¬ (p : Int) + x ≤ A.length by omega), if_neg c1]
/-- where the word stands in one -/
theorem za_C0_placeIn {d r x : Nat} {w : Nat → Int} (hA : zc_A g) (S : zt_GG m a b g k) {s : Int} (hs : zm_st (zv_I k 348) s) {A : List Int} (hD : za_D (zv_I k 348) s A) (h : zt_wd r x w g) : C0_placeIn (d + 3) a (zt_r a s) r g = some (za_pl A x w (A.length + 1) 0, g) := by
  have gL := zt_L_A hA
  have U := zt_H_U (zt_GG_H S)
  obtain ⟨n1, n2⟩ := za_D_n S hs hD
  refine lC0_placeIn (zl_ob gL (zt_U_la U)) ?_
  rw [qE0_placeIn]
  exact za_pl2 (d := d) gL U hs hD n2 n1 h (A.length + 1) 0 (Nat.zero_add _)
theorem za_C9_placeIn {D x : Nat} {w : Nat → Int} (hM : zm_M k) {c : Nat → Int} (hc : zv_I k 348 = c) (W : zm_W c) (h20 : zv_I k 347 20 = x) (x12 : x ≤ 12) (hw : ∀ i, i < x → zv_I k 361 i = w i) {s : Int} (hs : zm_st c s) {A : List Int} (hD : za_D c s A) (h120 : A.length ≤ 120) : ∃ k', C9_placeIn (D + 6) 347 s k = some (za_pl A x w (A.length + 1) 0, k') ∧ zm_F [351, 352, 353, 354, 355, 356] [10, 11, 12] k k' := by
  obtain ⟨k1, e1, F1, hA⟩ := za_copies (D := D) hM hc W hs hD (r := 356) (Or.inl rfl)
  have M1 := zm_F_M F1 hM
  have F1' : zm_F [351, 352, 353, 354, 355, 356] [10, 11, 12] k k1 := zm_F_s F1 rfl rfl
  refine ⟨k1, lC9_placeIn (zm_ob hM) ?_, F1'⟩
  rw [qE9_placeIn, zm_e (zm_gR hM rfl rfl : zv_gR k 347 9 13 = some 356), zm_e e1]
  exact za_pl12 (D := D + 5) M1 h120 ((zm_F_g F1' 20).trans h20) x12 (fun i hi => (congrFun (zm_F_a F1' 361) i).trans (hw i hi)) hA (A.length + 1) 0 (Nat.zero_add _)
/-- where it stands, State by State -/
theorem za_fx (c : Nat → Int) (x : Nat) (w : Nat → Int) (he : ∀ s, zm_st c s → ∃ A, za_D c s A ∧ A.length ≤ 120) : ∃ f : Int → Int, ∀ s, zm_st c s → ∃ A, za_D c s A ∧ A.length ≤ 120 ∧ f s = za_pl A x w (A.length + 1) 0 := by
  have h : ∀ s, ∃ v : Int, zm_st c s → ∃ A, za_D c s A ∧ A.length ≤ 120 ∧ v = za_pl A x w (A.length + 1) 0 := fun s => by
    by_cases hs : zm_st c s
    · obtain ⟨A, h1, h2⟩ := he s hs
      exact ⟨_, fun _ => ⟨A, h1, h2, rfl⟩⟩
    · exact ⟨0, fun q => absurd q hs⟩
  exact ⟨fun s => Classical.choose (h s), fun s => Classical.choose_spec (h s)⟩
/-- who has it -/
abbrev za_has (c : Nat → Int) (f : Int → Int) (i : Int) : Prop := zm_st c i ∧ ¬ f i = -1
/-- the class: the least, and how many -/
theorem za_least {d r x : Nat} {w : Nat → Int} (hA : zc_A g) (S : zt_GG m a b g k) (h : zt_wd r x w g) {f : Int → Int} (hf : ∀ s, zm_st (zv_I k 348) s → ∃ A, za_D (zv_I k 348) s A ∧ A.length ≤ 120 ∧ f s = za_pl A x w (A.length + 1) 0) : ∀ (n i : Nat), i + n = 48 → (∀ j : Nat, j < i → ¬ za_has (zv_I k 348) f j) → ∃ u : Int, L0_leastWith_2 (d + 3) a r (i : Int) g = some (some (zv_i u), g) ∧ zt_ix (fun j => za_has (zv_I k 348) f j) 48 u
  | 0, i, hi, hb => ⟨-1, by rw [qL0_leastWith_2, if_neg (by omega)], Or.inl ⟨rfl, fun j hj => hb j (by omega)⟩⟩
  | n + 1, i, hi, hb => by
    have w1 : zv_w ((i : Int) + 1) = ((i + 1 : Nat) : Int) := by
      rw [zm_w (by omega)]
      omega
    have nx : ¬ za_has (zv_I k 348) f i → ∃ u : Int, L0_leastWith_2 (d + 3) a r ((i + 1 : Nat) : Int) g = some (some (zv_i u), g) ∧ zt_ix (fun j => za_has (zv_I k 348) f j) 48 u := fun z => za_least hA S h hf n (i + 1) (by omega) (fun j hj => by
      by_cases e : j = i
      · rw [e]; exact z
      · exact hb j (by omega))
    rw [qL0_leastWith_2, if_pos (by omega), zm_e (za_at (d := d + 2) hA S (i : Int)), w1]
    dsimp only
    by_cases hs : zm_st (zv_I k 348) (i : Int)
    · obtain ⟨A, h1, h2, h3⟩ := hf _ hs
      rw [if_pos hs, if_neg (za_r0 S hs), zm_e (za_C0_placeIn (d := d) hA S hs h1 h), ← h3]
      dsimp only
      by_cases c1 : f (i : Int) = -1
      · rw [if_pos c1]
        exact nx (fun q => q.2 c1)
      · rw [if_neg c1]
        exact ⟨(i : Int), rfl, Or.inr ⟨i, rfl, by omega, ⟨hs, c1⟩, fun j hj => hb j hj⟩⟩
    · rw [if_neg hs, if_pos rfl]
      exact nx (fun q => hs q.1)
theorem za_cnt {d r x : Nat} {w : Nat → Int} (hA : zc_A g) (S : zt_GG m a b g k) (h : zt_wd r x w g) {f : Int → Int} (hf : ∀ s, zm_st (zv_I k 348) s → ∃ A, za_D (zv_I k 348) s A ∧ A.length ≤ 120 ∧ f s = za_pl A x w (A.length + 1) 0) : ∀ (n i : Nat), i + n = 48 → (0 ≤ zm_sum (fun j => if za_has (zv_I k 348) f j then 1 else 0) i ∧ zm_sum (fun j => if za_has (zv_I k 348) f j then 1 else 0) i ≤ i) → L0_statesWith_4 (d + 3) a r (zm_sum (fun j => if za_has (zv_I k 348) f j then 1 else 0) i) (i : Int) g = some (some (zv_i (zm_sum (fun j => if za_has (zv_I k 348) f j then 1 else 0) 48)), g)
  | 0, i, hi, hb => by
    have e : i = 48 := by omega
    subst e
    rw [qL0_statesWith_4, if_neg (by omega)]
  | n + 1, i, hi, hb => by
    have w1 : zv_w ((i : Int) + 1) = ((i + 1 : Nat) : Int) := by
      rw [zm_w (by omega)]
      omega
    have es : zm_sum (fun j => if za_has (zv_I k 348) f j then 1 else 0) (i + 1) = zm_sum (fun j => if za_has (zv_I k 348) f j then 1 else 0) i + (if za_has (zv_I k 348) f i then 1 else 0) := rfl
    have go := za_cnt (d := d) hA S h hf n (i + 1) (by omega)
    generalize zm_sum (fun j => if za_has (zv_I k 348) f j then 1 else 0) i = v at hb es
    have w2 : zv_w (v + 1) = v + 1 := zm_w (by omega)
    have w0 : zv_w (v + 0) = v := by
      rw [zm_w (by omega)]
      omega
    rw [qL0_statesWith_4, if_pos (by omega), zm_e (za_at (d := d + 2) hA S (i : Int)), w1, w2, w0]
    dsimp only
    by_cases hs : zm_st (zv_I k 348) (i : Int)
    · obtain ⟨A, h1, h2, h3⟩ := hf _ hs
      rw [if_pos hs, if_neg (za_r0 S hs), zm_e (za_C0_placeIn (d := d) hA S hs h1 h), ← h3]
      dsimp only
      by_cases c1 : f (i : Int) = -1
      · rw [if_neg (fun q : za_has (zv_I k 348) f i => q.2 c1), Int.add_zero] at es
        rw [if_pos c1]
        rw [es] at go
        exact go (by omega)
      · rw [if_pos (show za_has (zv_I k 348) f i from ⟨hs, c1⟩)] at es
        rw [if_neg c1]
        rw [es] at go
        exact go (by omega)
    · rw [if_neg (fun q : za_has (zv_I k 348) f i => hs q.1), Int.add_zero] at es
      rw [if_neg hs, if_pos rfl]
      rw [es] at go
      exact go (by omega)
/-- the least of those from n on -/
def za_ge (P : Nat → Prop) (n : Nat) (u : Int) : Prop := (u = -1 ∧ ∀ j : Nat, n ≤ j → j < 48 → ¬ P j) ∨ ∃ j : Nat, u = (j : Int) ∧ n ≤ j ∧ j < 48 ∧ P j ∧ ∀ i : Nat, n ≤ i → i < j → ¬ P i
theorem za_ge0 {P : Nat → Prop} {u : Int} (h : za_ge P 0 u) : zt_ix P 48 u := by
  rcases h with ⟨h1, h2⟩ | ⟨j, h1, h2, h3, h4, h5⟩
  · exact Or.inl ⟨h1, fun j hj => h2 j (Nat.zero_le _) (by omega)⟩
  · exact Or.inr ⟨j, h1, by omega, h4, fun i hi => h5 i (Nat.zero_le _) hi⟩
/-- the reference: both at once, the last State first -/
theorem za_38 {D x : Nat} {w : Nat → Int} {c : Nat → Int} (W : zm_W c) (x12 : x ≤ 12) {f : Int → Int} (hf : ∀ s, zm_st c s → ∃ A, za_D c s A ∧ A.length ≤ 120 ∧ f s = za_pl A x w (A.length + 1) 0) {q : Int} (hq : q = 0 ∨ q = 1) : ∀ (n : Nat) (k : zv_H) (v u : Int), n ≤ 48 → zm_M k → zv_I k 348 = c → zv_I k 347 20 = x → (∀ i, i < x → zv_I k 361 i = w i) → za_ge (fun j => za_has c f j) n u → (0 ≤ v ∧ v + zm_sum (fun j => if za_has c f j then 1 else 0) n = zm_sum (fun j => if za_has c f j then 1 else 0) 48 ∧ v + n ≤ 48) → ∃ (u' : Int) (k' : zv_H), L9_find_38 (D + 6) 347 q v u ((n : Int) - 1) k = L9_find_81 (D + 6) 347 q (zm_sum (fun j => if za_has c f j then 1 else 0) 48) u' k' ∧ zm_M k' ∧ zt_ix (fun j => za_has c f j) 48 u'
  | 0, k, v, u, hn, hM, hc, h20, hw, hu, hv => by
    have e0 : zm_sum (fun j => if za_has c f (j : Int) then (1 : Int) else 0) 0 = 0 := rfl
    refine ⟨u, k, ?_, hM, za_ge0 hu⟩
    rw [qL9_find_38, if_pos (by omega), show v = zm_sum (fun j => if za_has c f j then 1 else 0) 48 by omega]
  | n + 1, k, v, u, hn, hM, hc, h20, hw, hu, hv => by
    have es : zm_sum (fun j => if za_has c f j then 1 else 0) (n + 1) = zm_sum (fun j => if za_has c f j then 1 else 0) n + (if za_has c f n then 1 else 0) := rfl
    rw [es] at hv
    have en : (((n + 1 : Nat) : Int) - 1) = (n : Int) := by omega
    have w1 : zv_w ((n : Int) + -1) = (n : Int) - 1 := by
      rw [zm_w (by omega)]
      omega
    have w2 : zv_w (v + 1) = v + 1 := zm_w (by omega)
    have is := zm_isState hM (D + 4) (n : Int)
    rw [hc] at is
    have no : ¬ za_has c f n → za_ge (fun j => za_has c f j) n u := fun z => by
      rcases hu with ⟨h1, h2⟩ | ⟨j, h1, h2, h3, h4, h5⟩
      · refine Or.inl ⟨h1, fun j hj hj2 => ?_⟩
        by_cases e : j = n
        · rw [e]; exact z
        · exact h2 j (by omega) hj2
      · refine Or.inr ⟨j, h1, by omega, h3, h4, fun i hi hi2 => ?_⟩
        by_cases e : i = n
        · rw [e]; exact z
        · exact h5 i (by omega) hi2
    rw [en, qL9_find_38, if_neg (by omega), if_pos (by omega), zm_e is, w1, w2]
    dsimp only
    by_cases hs : zm_st c (n : Int)
    · obtain ⟨A, h1, h2, h3⟩ := hf _ hs
      obtain ⟨k1, e1, F1⟩ := za_C9_placeIn (D := D) hM hc W h20 x12 hw hs h1 h2
      have M1 := zm_F_M F1 hM
      have r := za_pl_r A x w (A.length + 1) 0
      rw [if_pos hs, if_neg (by decide), zm_e e1, ← h3]
      rw [← h3] at r
      dsimp only
      by_cases c1 : f (n : Int) = -1
      · rw [if_neg (fun q : za_has c f n => q.2 c1), Int.add_zero] at hv
        rw [if_pos (by omega)]
        exact za_38 W x12 hf hq n k1 v u (by omega) M1 ((zm_F_a F1 348).trans hc) ((zm_F_g F1 20).trans h20) (fun i hi => (congrFun (zm_F_a F1 361) i).trans (hw i hi)) (no (fun q => q.2 c1)) (by omega)
      · rw [if_pos (show za_has c f n from ⟨hs, c1⟩)] at hv
        rw [if_neg (by omega)]
        exact za_38 W x12 hf hq n k1 (v + 1) n (by omega) M1 ((zm_F_a F1 348).trans hc) ((zm_F_g F1 20).trans h20) (fun i hi => (congrFun (zm_F_a F1 361) i).trans (hw i hi)) (Or.inr ⟨n, rfl, Nat.le_refl _, by omega, ⟨hs, c1⟩, fun i h1 h2 => by omega⟩) (by omega)
    · rw [if_neg (fun q : za_has c f n => hs q.1), Int.add_zero] at hv
      rw [if_neg hs, if_pos rfl]
      exact za_38 W x12 hf hq n k v u (by omega) hM hc h20 hw (no (fun q => hs q.1)) (by omega)
theorem zp_find {d D : Nat} (hA : zc_A g) (I : zm_MI k) (S : zt_GG m a b g k) (q : Int) : ∃ v g' k', C8_find (d + 28) 1 q g = some (v, g') ∧ C9_find (D + 28) 347 q k = some (v, k') := by
  have gL := zt_L_A hA
  have hM := I.1
  have l1 : zv_lay 1 = (1, 8) := rfl
  have la := (zt_lab (zt_GG_ab S)).1
  obtain ⟨x, w1, w2, w3, w4⟩ := zt_GG_wt S
  have qC := qE8_find (d + 27) 1 q g
  have qR := qE9_find (D + 27) 347 q k
  rw [zm_e (zc_within (d := d + 26) g q 0 2)] at qC
  rw [zm_e (zm_isIn (h := k) (D + 26) q 0 2)] at qR
  dsimp only at qC qR
  by_cases cq : 0 ≤ q ∧ q ≤ 2
  rotate_left
  · rw [if_neg cq, if_pos rfl, qL8_find_19, za_ref gL] at qC
    rw [if_neg cq, if_pos rfl, qL9_find_21, qL9_find_22, za_isn hM (by decide)] at qR
    exact ⟨_, _, _, lC8_find (zl_ob gL l1) qC, lC9_find (zm_ob hM) qR⟩
  rw [if_pos cq, if_neg (by decide), zm_e (zp_e1 hA), zm_e (zl_gI gL (zt_wd_l7 w3) 1), zt_wd_sz w3] at qC
  rw [if_pos cq, if_neg (by decide), zm_e (zm_gI hM 20), w1] at qR
  by_cases x0 : x = 0
  · subst x0
    rw [if_pos (by decide), qL8_find_19, za_ref gL] at qC
    rw [if_pos (by decide), qL9_find_21, qL9_find_22, za_isn hM (by decide)] at qR
    exact ⟨_, _, _, lC8_find (zl_ob gL l1) qC, lC9_find (zm_ob hM) qR⟩
  obtain ⟨k1, i1, F1⟩ := zp_is hM
  have S1 := zt_GG_F S F1
  have M1 := zm_F_M F1 hM
  have U := zt_H_U (zt_GG_H S1)
  have W := zt_U_W U
  have h20 : zv_I k1 347 20 = x := (zm_F_g F1 20).trans w1
  have h361 : ∀ i, i < x → zv_I k1 361 i = zv_I k 361 i := fun i _ => congrFun (zm_F_a F1 361) i
  obtain ⟨f, hf⟩ := za_fx (zv_I k1 348) x (zv_I k 361) (fun s hs => za_D_ex S1 hs)
  rw [if_neg (by omega)] at qC
  rw [if_neg (by omega), qL9_find_22, za_isy i1] at qR
  dsimp only at qR
  have r81 : q = 0 ∨ q = 1 → ∃ (u' : Int) (k' : zv_H), L9_find_38 (D + 27) 347 q 0 (-1) 47 k1 = L9_find_81 (D + 27) 347 q (zm_sum (fun j => if za_has (zv_I k1 348) f j then 1 else 0) 48) u' k' ∧ zm_M k' ∧ zt_ix (fun j => za_has (zv_I k1 348) f j) 48 u' := fun hq => by
    obtain ⟨u', k', h1, h2, h3⟩ := za_38 (D := D + 21) W w2 hf hq 48 k1 0 (-1) (Nat.le_refl _) M1 rfl h20 h361 (Or.inl ⟨rfl, fun j h1 h2 => by omega⟩) ⟨Int.le_refl _, by rw [Int.zero_add], by decide⟩
    exact ⟨u', k', h1, h2, h3⟩
  by_cases q1 : q = 1
  · have hc := za_cnt (d := d + 23) hA S1 w3 hf 48 0 rfl ⟨Int.le_refl _, Int.le_refl _⟩
    have ec : C0_statesWith (d + 27) a 3 g = some (zm_sum (fun j => if za_has (zv_I k1 348) f j then 1 else 0) 48, g) := lC0_statesWith (zl_ob gL la) (by rw [qE0_statesWith]; exact hc)
    obtain ⟨u', k', h1, M2, _⟩ := r81 (Or.inr q1)
    have nn : 0 ≤ zm_sum (fun j => if za_has (zv_I k1 348) f j then 1 else 0) 48 := by
      have : ∀ n : Nat, 0 ≤ zm_sum (fun j => if za_has (zv_I k1 348) f j then 1 else 0) n := fun n => by
        induction n with
        | zero => exact Int.le_refl _
        | succ n ih =>
          show 0 ≤ zm_sum (fun j => if za_has (zv_I k1 348) f j then 1 else 0) n + (if za_has (zv_I k1 348) f n then 1 else 0)
          split <;> omega
      exact this 48
    rw [if_pos q1, zm_e (zp_e3 hA S), zm_e (zp_e1 hA), zm_e ec] at qC
    dsimp only at qC
    rw [za_giv gL] at qC
    rw [h1, qL9_find_81, if_neg (by omega), if_pos q1, qL9_find_107, if_neg (by omega)] at qR
    exact ⟨_, _, _, lC8_find (zl_ob gL l1) qC, lC9_find (zm_ob hM) qR⟩
  rw [if_neg q1] at qC
  have fin : ∀ (u : Int) (k' : zv_H), zm_M k' → (u = -1 ∨ 0 ≤ u) → E8_find (d + 27) 1 q g = L8_find_82 (d + 27) 1 u g → E9_find (D + 27) 347 q k = L9_find_107 (D + 27) 347 u k' → ∃ v g' k', C8_find (d + 28) 1 q g = some (v, g') ∧ C9_find (D + 28) 347 q k = some (v, k') := fun u k' M2 hu e1 e2 => by
    rw [qL8_find_82] at e1
    rw [qL9_find_107] at e2
    by_cases u1 : u = -1
    · rw [if_pos u1, za_ref gL] at e1
      rw [if_pos (by omega), za_rf M2] at e2
      exact ⟨_, _, _, lC8_find (zl_ob gL l1) e1, lC9_find (zm_ob hM) e2⟩
    · rw [if_neg u1, za_giv gL] at e1
      rw [if_neg (by omega)] at e2
      exact ⟨_, _, _, lC8_find (zl_ob gL l1) e1, lC9_find (zm_ob hM) e2⟩
  by_cases q0 : q = 0
  · obtain ⟨u, hu, ix⟩ := za_least (d := d + 23) hA S1 w3 hf 48 0 rfl (fun j hj => absurd hj (Nat.not_lt_zero j))
    have ec : C0_leastWith (d + 27) a 3 g = some (u, g) := lC0_leastWith (zl_ob gL la) (by rw [qE0_leastWith]; exact hu)
    obtain ⟨u', k', h1, M2, ix'⟩ := r81 (Or.inl q0)
    have eu := zt_ix_u ix' ix
    subst eu
    have ur : u' = -1 ∨ 0 ≤ u' := by
      rcases ix' with ⟨z, _⟩ | ⟨j, z, _⟩ <;> omega
    rw [if_pos q0, zm_e (zp_e3 hA S), zm_e (zp_e1 hA), zm_e ec] at qC
    rw [h1, qL9_find_81, if_neg (by omega), if_neg q1] at qR
    exact fin u' k' M2 ur qC qR
  · have q2 : q = 2 := by omega
    obtain ⟨A, h1, h2, h3⟩ := hf _ W.2.1
    have e1 := za_C0_placeIn (d := d + 24) hA S1 W.2.1 h1 w3
    obtain ⟨k2, e2, F2⟩ := za_C9_placeIn (D := D + 21) M1 rfl W h20 w2 h361 W.2.1 h1 h2
    rw [if_neg q0, zm_e (zp_e3 hA S), zm_e (zp_e3 hA S), zm_e (zl_gR gL la 10), zt_U_he U, zm_e (zp_e1 hA), zm_e e1] at qC
    rw [qL9_find_38, if_neg (by decide), if_neg (by omega), qL9_find_81, if_pos q2, zm_e (zm_here M1 _)] at qR
    dsimp only at qR
    rw [zm_e e2] at qR
    exact fin _ k2 (zm_F_M F2 M1) (za_pl_r A x _ _ _) qC qR
end
