/-! ===== the tie: a word, on both sides the same ===== -/
theorem zt_rl8_get {T : Nat → Int} {f : Nat} : ∀ j m : Nat, m < j → (zt_rl8 T f j)[m]? = some (T (f + (j - 1 - m)) - 96)
  | 0, m, h => absurd h (Nat.not_lt_zero _)
  | j + 1, 0, _ => rfl
  | j + 1, m + 1, h => by
    have ih := zt_rl8_get (T := T) (f := f) j m (Nat.lt_of_succ_lt_succ h)
    rw [show j + 1 - 1 - (m + 1) = j - 1 - m by omega, ← ih]
    rfl
theorem zt_rm_get {l : List Int} {m : Nat} (h : m < l.length) : (l.reverse.map fun x => x - 96)[m]? = some (l.getD (l.length - 1 - m) 0 - 96) := by
  have h2 : l.length - 1 - m < l.length := by omega
  rw [List.getElem?_map, List.getElem?_reverse h, List.getD_eq_getElem?_getD, List.getElem?_eq_getElem h2]
  rfl
theorem zt_rl8_w {T : Nat → Int} {f : Nat} {l : List Int} : (∀ i : Nat, i < l.length → T (f + i) = l.getD i 0) ↔ zt_rl8 T f l.length = l.reverse.map fun x => x - 96 := by
  constructor
  · intro h
    refine List.ext_getElem? (fun m => ?_)
    by_cases c : m < l.length
    · rw [zt_rl8_get _ _ c, zt_rm_get c, h _ (by omega)]
    · rw [List.getElem?_eq_none (by rw [zt_rl8_len]; omega), List.getElem?_eq_none (by rw [List.length_map, List.length_reverse]; omega)]
  · intro e i hi
    have c : l.length - 1 - i < l.length := by omega
    have a := zt_rl8_get (T := T) (f := f) l.length (l.length - 1 - i) c
    rw [e, zt_rm_get c, show l.length - 1 - (l.length - 1 - i) = i by omega] at a
    have b := Option.some.inj a
    generalize T (f + i) = x at *
    generalize l.getD i 0 = y at *
    clear a
    omega
theorem zt_isw_C {T : Nat → Int} {f t E : Nat} {l : List Int} (l8 : l.length ≤ 8) (fE : t = 1 → f ≤ E) : zt_isw T f t E l ↔ zt_isC T f t E (l.reverse.map fun x => x - 96) := by
  unfold zt_isw zt_isC
  constructor
  · rintro ⟨h1, h2, h3⟩
    refine ⟨h1, by rw [h2]; exact Nat.add_le_add_left l8 f, ?_⟩
    rw [h2, Nat.add_sub_cancel_left]
    exact zt_rl8_w.mp h3
  · rintro ⟨h1, h2, h3⟩
    have el : E - f = l.length := by
      have := congrArg List.length h3
      rw [zt_rl8_len, List.length_map, List.length_reverse] at this
      exact this
    rw [el] at h3
    exact ⟨h1, by rw [← el]; exact (Nat.add_sub_cancel' (fE h1)).symm, zt_rl8_w.mpr h3⟩
