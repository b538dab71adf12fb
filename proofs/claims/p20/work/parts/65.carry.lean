/-! ===== the reference: carrying, merging ===== -/
def zm_ex (c c' : Nat → Int) : Prop := ∀ t, zm_st c t → zm_st c' t ∧ zm_ag c c' t
theorem zm_ex_r (c : Nat → Int) : zm_ex c c := fun _ q => ⟨q, fun _ _ _ _ => rfl⟩
theorem zm_ex_t {a b c : Nat → Int} (f : zm_ex a b) (g : zm_ex b c) : zm_ex a c := fun t q => ⟨(g t (f t q).1).1, fun w w0 w1 w7 => ((g t (f t q).1).2 w w0 w1 w7).trans ((f t q).2 w w0 w1 w7)⟩
theorem zm_ex_n {c c' : Nat → Int} {s : Int} (hs : 0 ≤ s ∧ s ≤ 47) (hd : zm_o c s 0 ≠ 1) (n : zm_Nw c c' s) : zm_ex c c' := by
  intro t q
  have e : t ≠ s := fun e => hd (by rw [← e]; exact q.2)
  exact ⟨(zm_Nw_st hs n).mpr (Or.inr ⟨e, q⟩), zm_Nw_ag n q.1.1 (by omega) e⟩
/-- what a call that may make one new state leaves -/
def zm_Dn (c : Nat → Int) (v : Int) (c' : Nat → Int) : Prop := zm_W c' ∧ ((v = -1 ∧ c' = c) ∨ ((0 ≤ v ∧ v ≤ 47) ∧ zm_o c v 0 ≠ 1 ∧ zm_Nw c c' v))
theorem zm_Dn_ex {c c' : Nat → Int} {v : Int} (h : zm_Dn c v c') : zm_ex c c' := by
  rcases h.2 with q | q
  · rw [q.2]
    exact zm_ex_r c
  · exact zm_ex_n q.1 q.2.1 q.2.2
theorem zm_plain_l (d : Nat) : ∀ (n i : Nat) (h : zv_H), i + n = 48 → zm_M h → (∀ k : Nat, k < i → zv_I h 362 k = k) → ∃ h', L9_plain_2 d 347 i h = L9_plain_2 d 347 48 h' ∧ zm_F [362] [] h h' ∧ ∀ k : Nat, k < 48 → zv_I h' 362 k = k
  | 0, i, h, hi, _, hk => by
    have e : i = 48 := by omega
    subst e
    exact ⟨h, rfl, zm_F_r _ _ h, hk⟩
  | n + 1, i, h, hi, hM, hk => by
    rw [qL9_plain_2, if_pos (by omega), zm_e (zm_f21 hM), zm_e (zm_wI hM zm_l362 rfl (by omega) (by omega) _), zm_w (by omega)]
    obtain ⟨h', i1, i2, i3⟩ := zm_plain_l d n (i + 1) (zv_sI h 362 ((i : Int)).toNat i) (by omega) hM (fun k hk2 => by
      rw [zm_ss]
      by_cases q : k = i
      · rw [q, show ((i : Int)).toNat = i by omega, zm_u_s]
      · rw [zm_u_o _ _ (by omega)]
        exact hk k (by omega))
    exact ⟨h', i1, zm_F_t (zm_F_I (zm_F_r _ _ h) rfl _ _) i2, i3⟩
theorem zm_plain {h : zv_H} (hM : zm_M h) (d : Nat) : zm_R (C9_plain (d + 1) 347 h) (fun h' => zm_F [362] [] h h' ∧ ∀ k : Nat, k < 48 → zv_I h' 362 k = k) := by
  refine zm_cV (lC9_plain (zm_ob hM)) ?_
  obtain ⟨h', i1, i2, i3⟩ := zm_plain_l d 48 0 h rfl hM (fun k hk => by omega)
  rw [qE9_plain, show L9_plain_2 d 347 0 h = _ from i1, qL9_plain_2, if_neg (by decide)]
  exact zm_iV ⟨i2, i3⟩
/-- whose letters one took live -/
theorem zm_tk_st {c : Nat → Int} (w : zm_Wt c) {s : Int} (hs : zm_st c s) (hk : zm_o c s 2 = 1) {i : Nat} (hi : (i : Int) < zm_o c s 5) : zm_st c (zm_o c s (52 + 2 * (i : Int))) := by
  obtain ⟨l, hl, _⟩ := zm_W_l w hs
  have hp := hl.2.2.2.2.1 hk _ (List.mem_of_getElem? (zm_tk_get c s (i := i) (by omega)))
  have := (zm_row_mem hp).1
  exact hl.2.1.2.2 _ (List.mem_cons_of_mem _ this)
theorem zm_isTaken_l {h : zv_H} {c : Nat → Int} (hM : zm_M h) (hc : zv_I h 348 = c) (w : zm_Wt c) (d : Nat) {s : Int} (hs : zm_st c s) (hk : zm_o c s 2 = 1) (hm : 0 ≤ zm_o c s 5 ∧ zm_o c s 5 ≤ 12) {r : Int} (hr : 0 ≤ r ∧ r < 640) : ∀ n i : Nat, (i : Int) + n = zm_o c s 5 → ∃ v : Int, L9_isTaken_2 (d + 1) 347 s r i h = some (some (zv_i v), h) ∧ (v = 0 ∨ v = 1)
  | 0, i, hi => by
    have h48 := hs.1
    rw [qL9_isTaken_2, zm_e (zm_of hM d (by omega) (by decide)), hc]
    dsimp only
    rw [if_neg (by omega)]
    exact ⟨0, rfl, Or.inl rfl⟩
  | n + 1, i, hi => by
    have h48 := hs.1
    have h49 : (∀ v : Int, v = zm_o c s (52 + 2 * (i : Int)) → 0 ≤ v) ∧ ∀ v : Int, v = zm_o c s (52 + 2 * (i : Int)) → v < 48 := ⟨fun v hv => by rw [hv]; exact (zm_tk_st w hs hk (i := i) (by omega)).1.1, fun v hv => by rw [hv]; exact Int.lt_of_le_of_lt (zm_tk_st w hs hk (i := i) (by omega)).1.2 (by decide)⟩
    have w1 : zv_w (52 + zv_w (2 * (i : Int))) = 52 + 2 * (i : Int) := by
      rw [zm_w (x := 2 * (i : Int)) (by omega), zm_w (by omega)]
    obtain ⟨v, ev, qv⟩ := zm_isTaken_l hM hc w d hs hk hm hr n (i + 1) (by omega)
    have w2 : zv_w ((i : Int) + 1) = ((i + 1 : Nat) : Int) := by
      rw [zm_w (by omega)]
      rfl
    rw [qL9_isTaken_2, zm_e (zm_of hM d (by omega) (by decide)), hc]
    dsimp only
    rw [if_pos (by omega), zm_e (zm_f21 hM), w1, zm_e (zm_of hM d (by omega) (by omega)), hc]
    dsimp only
    rw [zm_e (zm_aI hM zm_l362 rfl (h49.1 _ rfl) (h49.2 _ rfl)), zm_e (zm_f6 hM), zm_e (zm_aI hM zm_l352 rfl hr.1 (by omega)), w2, ev]
    by_cases c1 : zv_I h 362 (zm_o c s (52 + 2 * (i : Int))).toNat = zv_I h 352 r.toNat
    · rw [if_pos c1, zm_w (x := 52 + 2 * (i : Int) + 1) (by omega), zm_e (zm_of hM d (by omega) (by omega)), hc]
      dsimp only
      rw [zm_e (zm_f7 hM), zm_e (zm_aI hM zm_l353 rfl hr.1 (by omega)), ev]
      by_cases c2 : zm_o c s (52 + 2 * (i : Int) + 1) = zv_I h 353 r.toNat
      · rw [if_pos c2]
        exact ⟨1, rfl, Or.inr rfl⟩
      · rw [if_neg c2]
        exact ⟨v, rfl, qv⟩
    · rw [if_neg c1]
      exact ⟨v, rfl, qv⟩
theorem zm_isTaken {h : zv_H} {c : Nat → Int} (hM : zm_M h) (hc : zv_I h 348 = c) (w : zm_Wt c) (d : Nat) {s : Int} (hs : zm_st c s) (hk : zm_o c s 2 = 1) (hm : 0 ≤ zm_o c s 5 ∧ zm_o c s 5 ≤ 12) {r : Int} (hr : 0 ≤ r ∧ r < 640) : ∃ v : Int, C9_isTaken (d + 2) 347 s r h = some (v, h) ∧ (v = 0 ∨ v = 1) := by
  obtain ⟨v, e, q⟩ := zm_isTaken_l hM hc w d hs hk hm hr (zm_o c s 5).toNat 0 (by omega)
  refine ⟨v, lC9_isTaken (zm_ob hM) ?_, q⟩
  rw [qE9_isTaken]
  exact e
/-- of a put or a cut -/
theorem zm_ed_m {c : Nat → Int} (w : zm_Wt c) {s : Int} (hs : zm_st c s) (he : zm_ed c s) : 0 ≤ zm_o c s 5 ∧ zm_o c s 5 ≤ 12 := by
  obtain ⟨l, hl, _⟩ := zm_W_l w hs
  refine hl.2.2.2.1 (fun e => ?_) he
  have := w.2.1.2.2.1
  rw [e] at he
  rcases he with q | q
  · rw [this] at q
    cases q
  · rw [this] at q
    cases q
