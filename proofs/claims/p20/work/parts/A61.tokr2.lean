/-! ===== the tie: TOKENS, the reference: signs, numbers, any ===== -/
theorem zt_getD_mem {l : List Int} {i : Nat} (hi : i < l.length) : l.getD i 0 ∈ l := by
  rw [List.getD_eq_getElem?_getD, List.getElem?_eq_getElem hi]
  exact List.getElem_mem hi
theorem zt_mem_getD {l : List Int} {v : Int} (h : v ∈ l) : ∃ j, j < l.length ∧ l.getD j 0 = v := by
  obtain ⟨j, hj, e⟩ := List.mem_iff_getElem.mp h
  refine ⟨j, hj, ?_⟩
  rw [List.getD_eq_getElem?_getD, List.getElem?_eq_getElem hj]
  exact e
theorem zt_iox {r : Nat} (h : zv_H) (d : Nat) (hr : 1000000 ≤ r ∧ r < 1000024) {m : Nat} (hm : m = (zm_tx r).length) (v : Int) : ∀ n i : Nat, i + n = m → (∀ j : Nat, j < i → (zm_tx r).getD j 0 ≠ v) → ∃ u : Int, L14_indexOfChar_7 d (r + 100) m v i h = some (some (zv_i u), h) ∧ (u < 0 ↔ ¬ v ∈ zm_tx r) := by
  intro n
  induction n with
  | zero =>
    intro i hi no
    have im : i = m := hi
    refine ⟨-1, by rw [qL14_indexOfChar_7, im, if_neg (Int.lt_irrefl _)], fun _ q => ?_, fun _ => by decide⟩
    obtain ⟨j, hj, e⟩ := zt_mem_getD q
    exact no j (by rw [im, hm]; exact hj) e
  | succ n ih =>
    intro i hi no
    have h2 := (zm_tx_l (r := r)).1
    rw [← hm] at h2
    have iM : i < m := by clear hr hm no; omega
    have il : i < (zm_tx r).length := by rw [← hm]; exact iM
    have w1 : zv_w ((i : Int) + 1) = ((i + 1 : Nat) : Int) := zt_tkw (Nat.le_trans (Nat.le_of_lt iM) (Nat.le_trans h2 (by decide)))
    rw [qL14_indexOfChar_7, if_pos (Int.ofNat_lt.mpr iM), zm_e (zm_taB h hr (Int.natCast_nonneg _) (Int.ofNat_lt.mpr il)), Int.toNat_natCast]
    by_cases c1 : (zm_tx r).getD i 0 = v
    · rw [if_pos c1]
      refine ⟨i, rfl, fun q => absurd q (Int.not_lt.mpr (Int.natCast_nonneg _)), fun q => absurd ?_ q⟩
      rw [← c1]
      exact zt_getD_mem il
    · rw [if_neg c1, w1]
      exact ih (i + 1) (by clear hr hm no c1; omega) (fun j hj => by
        by_cases z : j = i
        · rw [z]; exact c1
        · exact no j (Nat.lt_of_le_of_ne (Nat.le_of_lt_succ hj) z))
theorem zt_jIndexOf {r : Nat} (h : zv_H) (d : Nat) (hr : 1000000 ≤ r ∧ r < 1000024) (ch : Int) : ∃ u : Int, C13_indexOf (d + 4) r ch h = some (u, h) ∧ (u < 0 ↔ ¬ ((0 ≤ ch ∧ ch ≤ 255) ∧ zv_i2b ch ∈ zm_tx r)) := by
  have h2 := (zm_tx_l (r := r)).1
  have can : C14_canEncode (d + 1) ch h = some ((if 0 ≤ ch ∧ ch ≤ 255 then 1 else 0), h) := by
    refine lC14_canEncode ?_
    rw [qE14_canEncode]
    by_cases c1 : ch < 0
    · rw [if_pos c1, if_neg (fun q => absurd q.1 (Int.not_le.mpr c1))]
    · rw [if_neg c1]
      by_cases c2 : ch ≤ 255
      · rw [if_pos c2, if_pos ⟨Int.not_lt.mp c1, c2⟩]
      · rw [if_neg c2, if_neg (fun q => c2 q.2)]
  have e1 : ∃ u : Int, C14_indexOf (d + 2) (r + 100) ch 0 ((zm_tx r).length : Int) h = some (u, h) ∧ (u < 0 ↔ ¬ ((0 ≤ ch ∧ ch ≤ 255) ∧ zv_i2b ch ∈ zm_tx r)) := by
    have main : ∃ u : Int, E14_indexOf (d + 1) (r + 100) ch 0 ((zm_tx r).length : Int) h = some (some (zv_i u), h) ∧ (u < 0 ↔ ¬ ((0 ≤ ch ∧ ch ≤ 255) ∧ zv_i2b ch ∈ zm_tx r)) := by
      rw [qE14_indexOf, zm_e can]
      dsimp only
      by_cases c0 : 0 ≤ ch ∧ ch ≤ 255
      · rw [if_pos c0, if_neg (by decide), zm_e (zm_tal h hr), Int.max_self, Int.min_self]
        by_cases c2 : (0 : Int) < (zm_tx r).length
        · obtain ⟨u, eu, iu⟩ := zt_iox h d hr (m := (zm_tx r).length) rfl (zv_i2b ch) (zm_tx r).length 0 (Nat.zero_add _) (fun j hj => absurd hj (Nat.not_lt_zero _))
          have e3 : C14_indexOfChar (d + 1) (r + 100) ch 0 ((zm_tx r).length : Int) h = some (u, h) := by
            refine lC14_indexOfChar ?_
            rw [qE14_indexOfChar]
            exact eu
          rw [if_pos c2, zm_e e3]
          exact ⟨u, rfl, iu.trans ⟨fun q w => q w.2, fun q w => q ⟨c0, w⟩⟩⟩
        · rw [if_neg c2]
          refine ⟨-1, rfl, fun _ q => ?_, fun _ => by decide⟩
          have := List.length_pos_of_mem q.2
          omega
      · rw [if_neg c0, if_pos rfl]
        exact ⟨-1, rfl, fun _ q => c0 q.1, fun _ => by decide⟩
    obtain ⟨u, e, i⟩ := main
    exact ⟨u, lC14_indexOf e, i⟩
  obtain ⟨u, eu, iu⟩ := e1
  have e2 : C13_indexOf2 (d + 3) r ch 0 h = some (u, h) := by
    refine lC13_indexOf2 hr ?_
    rw [qE13_indexOf2, zm_e (zm_isLatin1 h _ hr)]
    dsimp only
    rw [if_neg (by decide), zm_e (zm_tV hr), zm_e (zm_slen h d hr)]
    dsimp only
    rw [zm_e eu]
  refine ⟨u, lC13_indexOf hr ?_, iu⟩
  rw [qE13_indexOf, zm_e e2]
theorem zt_sgn_d : ∀ x : Nat, x ≤ 255 → (((0 ≤ zv_i2c (zt_sb x) ∧ zv_i2c (zt_sb x) ≤ 255) ∧ zv_i2b (zv_i2c (zt_sb x)) ∈ zm_tx 1000023) ↔ zt_sgn x) := by decide +kernel
section
variable {T : Nat → Int} {n : Nat}
theorem zt_nv10 (v t : Int) : 10 * v + t - 48 = v * 10 + t - 48 := by rw [Int.mul_comm]
theorem zt_nw3 {v t : Int} (h0 : 0 ≤ v) (h1 : v ≤ 999) (h2 : zt_dg t) : zv_w (zv_w (zv_w (10 * v) + t) - 48) = v * 10 + t - 48 := by
  unfold zt_dg at h2
  rw [zm_w (x := 10 * v) (by omega), zm_w (x := 10 * v + t) (by omega), zm_w (by omega)]
  omega
/-- the reference passes a number -/
theorem zt_rd250 {d f : Nat} : ∀ (m x : Nat) (h : zv_H), x + m = n → f ≤ x → zt_ty T n h → zv_I h 347 32 = f → zv_I h 347 33 = x → zv_I h 347 35 = zt_nv T f (min (x - f) 3) → (∀ i : Nat, f ≤ i → i < x → zt_dg (T i)) → ∃ (E : Nat) (h' : zv_H), L9_reads_250 (d + 2) 347 h = some (none, h') ∧ zt_up zt_dg T n f E ∧ zm_rF h h' ∧ zv_I h' 347 32 = f ∧ zv_I h' 347 33 = E ∧ zv_I h' 347 34 = (if E ≤ f + 3 then 2 else 4) ∧ zv_I h' 347 35 = zt_nv T f (min (E - f) 3) := by
  intro m
  have stop : ∀ (x : Nat) (h : zv_H), f ≤ x → x ≤ n → zt_ty T n h → zv_I h 347 32 = f → zv_I h 347 33 = x → zv_I h 347 35 = zt_nv T f (min (x - f) 3) → (∀ i : Nat, f ≤ i → i < x → zt_dg (T i)) → (x < n → ¬ zt_dg (T x)) → ∃ (E : Nat) (h' : zv_H), L9_reads_250 (d + 2) 347 h = some (none, h') ∧ zt_up zt_dg T n f E ∧ zm_rF h h' ∧ zv_I h' 347 32 = f ∧ zv_I h' 347 33 = E ∧ zv_I h' 347 34 = (if E ≤ f + 3 then 2 else 4) ∧ zv_I h' 347 35 = zt_nv T f (min (E - f) 3) := by
    intro x h fx xn Y h2 h3 hv hs c
    have hM := zt_ty_M Y
    have n7 := zt_ty_n Y
    have is := zt_isOf (d := d) Y (a := 48) (b := 57) (by decide) (by decide) x
    rw [if_neg (fun q => c q.1 q.2)] at is
    have top : L9_reads_250 (d + 2) 347 h = some (none, zv_sI h 347 34 (if x ≤ f + 3 then 2 else 4)) := by
      rw [qL9_reads_250, zm_e (zm_gI hM 33), h3, zm_e is]
      dsimp only
      rw [if_pos rfl, zm_e (zm_gI hM 33), h3, zm_e (zm_gI hM 32), h2, zt_tkd fx (Nat.le_trans xn (Nat.le_succ_of_le n7))]
      by_cases c3 : x ≤ f + 3
      · rw [if_pos (show ((x - f : Nat) : Int) ≤ 3 by omega), if_pos c3, zm_e (zm_pI hM 34 _)]
      · rw [if_neg (show ¬ ((x - f : Nat) : Int) ≤ 3 by omega), if_neg c3, zm_e (zm_pI hM 34 _)]
    refine ⟨x, _, top, ⟨fx, xn, hs, c⟩, zm_rF_f (zm_F_r _ _ h) (Or.inr (Or.inr (Or.inl rfl))) _, ?_, ?_, zy_I _ _ _ _, ?_⟩
    · rw [zy_In _ _ (fun q => absurd q.2 (by decide))]; exact h2
    · rw [zy_In _ _ (fun q => absurd q.2 (by decide))]; exact h3
    · rw [zy_In _ _ (fun q => absurd q.2 (by decide))]; exact hv
  induction m with
  | zero =>
    intro x h he fx Y h2 h3 hv hs
    have en : x = n := he
    exact stop x h fx (Nat.le_of_eq en) Y h2 h3 hv hs (fun q => absurd q (by rw [en]; exact Nat.lt_irrefl _))
  | succ m ih =>
    intro x h he fx Y h2 h3 hv hs
    have hM := zt_ty_M Y
    have n7 := zt_ty_n Y
    have xn : x < n := by omega
    have x7 : x ≤ 700 := by omega
    by_cases c : zt_dg (T x)
    · have is := zt_isOf (d := d) Y (a := 48) (b := 57) (by decide) (by decide) x
      rw [if_pos ⟨xn, c⟩] at is
      have e128 : T x < 128 := Int.lt_of_le_of_lt c.2 (by decide)
      have ba := zt_aB8 Y xn
      rw [zt_sb_lt e128] at ba
      have hs' : ∀ i : Nat, f ≤ i → i < x + 1 → zt_dg (T i) := fun i h1 h2 => by
        by_cases z : i = x
        · rw [z]; exact c
        · exact hs i h1 (by omega)
      have nx : ∀ v : Int, v = zt_nv T f (min (x + 1 - f) 3) → ∃ (E : Nat) (h' : zv_H), L9_reads_250 (d + 2) 347 (zv_sI (zv_sI h 347 35 v) 347 33 ((x + 1 : Nat) : Int)) = some (none, h') ∧ zt_up zt_dg T n f E ∧ zm_rF h h' ∧ zv_I h' 347 32 = f ∧ zv_I h' 347 33 = E ∧ zv_I h' 347 34 = (if E ≤ f + 3 then 2 else 4) ∧ zv_I h' 347 35 = zt_nv T f (min (E - f) 3) := fun v hv' => by
        have st : zm_rF h (zv_sI (zv_sI h 347 35 v) 347 33 ((x + 1 : Nat) : Int)) := zm_rF_f (zm_rF_f (zm_F_r _ _ h) (Or.inr (Or.inr (Or.inr rfl))) _) (Or.inr (Or.inl rfl)) _
        obtain ⟨E, h', y1, y2, y3, y4⟩ := ih (x + 1) _ (by omega) (Nat.le_succ_of_le fx) (zt_ty_r Y st) ((zy_In _ _ (fun q => absurd q.2 (by decide))).trans ((zy_In _ _ (fun q => absurd q.2 (by decide))).trans h2)) (zy_I _ _ _ _) ((zy_In _ _ (fun q => absurd q.2 (by decide))).trans ((zy_I _ _ _ _).trans hv')) hs'
        exact ⟨E, h', y1, y2, zm_rF_t st y3, y4⟩
      have hM1 : ∀ v : Int, zm_M (zv_sI h 347 35 v) := fun v => hM
      have e33 : ∀ v : Int, zv_I (zv_sI h 347 35 v) 347 33 = x := fun v => (zy_In _ _ (fun q => absurd q.2 (by decide))).trans h3
      by_cases c3 : x - f < 3
      · have vb := zt_nv_b (T := T) (f := f) (x - f) (fun i h1 h2 => hs i h1 (by rw [Nat.add_sub_cancel' fx] at h2; exact h2))
        have hv2 : zv_I h 347 35 = zt_nv T f (x - f) := by rw [hv, Nat.min_eq_left (Nat.le_of_lt c3)]
        have w3 := zt_nw3 vb.1 (Int.le_trans vb.2 (zt_nb3 _ (Nat.le_of_lt c3))) c
        obtain ⟨E, h', y1, y2⟩ := nx (zt_nv T f (x - f) * 10 + T x - 48) (by
          rw [Nat.min_eq_left (show x + 1 - f ≤ 3 by omega), show x + 1 - f = (x - f) + 1 by omega]
          show _ = zt_nv T f (x - f) * 10 + T (f + (x - f)) - 48
          rw [Nat.add_sub_cancel' fx])
        refine ⟨E, h', ?_, y2⟩
        rw [qL9_reads_250, zm_e (zm_gI hM 33), h3, zm_e is]
        dsimp only
        rw [if_neg (by decide), zm_e (zm_gI hM 33), h3, zm_e (zm_gI hM 32), h2, zt_tkd fx (Nat.le_succ_of_le x7), if_pos (show ((x - f : Nat) : Int) < 3 from Int.ofNat_lt.mpr c3), zm_e (zm_gI hM 35), hv2, zm_e (zm_f26 hM), zm_e (zm_gI hM 33), h3, zm_e ba, w3, zm_e (zm_pI hM 35 _), zm_e (zm_gI (hM1 _) 33), e33, zt_tkw x7, zm_e (zm_pI (hM1 _) 33 _)]
        exact y1
      · obtain ⟨E, h', y1, y2⟩ := nx (zv_I h 347 35) (by
          rw [hv, Nat.min_eq_right (Nat.not_lt.mp c3), Nat.min_eq_right (show 3 ≤ x + 1 - f by omega)])
        refine ⟨E, h', ?_, y2⟩
        rw [qL9_reads_250, zm_e (zm_gI hM 33), h3, zm_e is]
        dsimp only
        rw [if_neg (by decide), zm_e (zm_gI hM 33), h3, zm_e (zm_gI hM 32), h2, zt_tkd fx (Nat.le_succ_of_le x7), if_neg (show ¬ ((x - f : Nat) : Int) < 3 from fun q => c3 (Int.ofNat_lt.mp q)), zm_e (zm_gI hM 35), zm_e (zm_pI hM 35 _), zm_e (zm_gI (hM1 _) 33), e33, zt_tkw x7, zm_e (zm_pI (hM1 _) 33 _)]
        exact y1
    · exact stop x h fx (Nat.le_of_lt xn) Y h2 h3 hv hs (fun _ => c)
end
