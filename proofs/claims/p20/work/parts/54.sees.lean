theorem zm_row_1 (c : Nat → Int) (t : Int) : zm_row c [t] = zm_rs t (zm_o c t 5) := rfl
theorem zm_row_c (c : Nat → Int) (t : Int) {b : List Int} (hb : b ≠ []) : zm_row c (t :: b) = if zm_o c t 2 = 0 then zm_ins c t (zm_row c b) else zm_row c b := by
  cases b with
  | nil => exact absurd rfl hb
  | cons u b => rfl
theorem zm_fc_c (c : Nat → Int) (t : Int) {b : List Int} (hb : b ≠ []) (x : Int) : zm_fc c (t :: b) x = if ¬ zm_ed c t ∧ zm_nm c t x then (if zm_o c t 2 = 3 then 1 else 0) else if x = t then (if zm_ed c t then 1 else 0) else zm_fc c b x := by
  cases b with
  | nil => exact absurd rfl hb
  | cons u b => rfl
theorem zm_fc_01 (c : Nat → Int) (x : Int) : ∀ l : List Int, zm_fc c l x = 0 ∨ zm_fc c l x = 1
  | [] => Or.inl rfl
  | [t] => by
    unfold zm_fc
    dsimp only
    split
    · exact Or.inr rfl
    · exact Or.inl rfl
  | t :: u :: l => by
    rw [zm_fc_c c t (by exact List.cons_ne_nil _ _)]
    split
    · split
      · exact Or.inr rfl
      · exact Or.inl rfl
    · split
      · split
        · exact Or.inr rfl
        · exact Or.inl rfl
      · exact zm_fc_01 c x (u :: l)
/-- what the line of a state must be for its row to be reckoned -/
def zm_G0 (c : Nat → Int) (l : List Int) : Prop := l.Nodup ∧ l.getLast? = some 0 ∧ (0 ≤ zm_o c 0 5 ∧ zm_o c 0 5 ≤ 40) ∧ zm_o c 0 2 = -1 ∧ ∀ t ∈ l, t ≠ 0 → zm_ed c t → 0 ≤ zm_o c t 5 ∧ zm_o c t 5 ≤ 12
theorem zm_G0_t {c : Nat → Int} {t : Int} {b : List Int} (hb : b ≠ []) (g : zm_G0 c (t :: b)) : zm_G0 c b ∧ t ≠ 0 ∧ ¬ t ∈ b := by
  obtain ⟨g1, g2, g3, g4, g5⟩ := g
  have h1 := List.nodup_cons.mp g1
  have h2 : b.getLast? = some 0 := by
    cases b with
    | nil => exact absurd rfl hb
    | cons u b => rw [List.getLast?_cons_cons] at g2; exact g2
  refine ⟨⟨h1.2, h2, g3, g4, fun u hu => g5 u (List.mem_cons_of_mem _ hu)⟩, fun e => ?_, h1.1⟩
  rw [e] at h1
  exact h1.1 (List.mem_of_getLast? h2)
theorem zm_row_le {c : Nat → Int} : ∀ {l : List Int}, zm_G0 c l → (zm_row c l).length ≤ 28 + 12 * l.length
  | [], _ => by
    show 0 ≤ _
    omega
  | [t], g => by
    have e : t = 0 := by
      have := g.2.1
      exact Option.some.inj this
    rw [zm_row_1, zm_rs_len, e]
    have := g.2.2.1
    show _ ≤ 28 + 12 * 1
    omega
  | t :: u :: b, g => by
    have hb : u :: b ≠ [] := List.cons_ne_nil _ _
    obtain ⟨g1, g2, g3⟩ := zm_G0_t hb g
    have ih := zm_row_le g1
    rw [zm_row_c c t hb, List.length_cons (a := t)]
    by_cases h1 : zm_o c t 2 = 0
    · have := g.2.2.2.2 t List.mem_cons_self g2 (Or.inl h1)
      rw [if_pos h1, zm_ins_len]
      omega
    · rw [if_neg h1]
      omega
theorem zm_ins_mem {c : Nat → Int} {t : Int} {row : List (Int × Int)} {p : Int × Int} : p ∈ zm_ins c t row ↔ p ∈ row ∨ p ∈ zm_rs t (zm_o c t 5) := by
  rw [zm_ins_e, List.mem_append, List.mem_append]
  have e : p ∈ row ↔ p ∈ row.take (zm_ps c t row).toNat ∨ p ∈ row.drop (zm_ps c t row).toNat := by
    rw [← List.mem_append, List.take_append_drop]
  rw [e]
  constructor
  · rintro (h | h | h)
    · exact Or.inl (Or.inl h)
    · exact Or.inr h
    · exact Or.inl (Or.inr h)
  · rintro ((h | h) | h)
    · exact Or.inl h
    · exact Or.inr (Or.inr h)
    · exact Or.inr (Or.inl h)
theorem zm_rs_mem {t n : Int} {p : Int × Int} : p ∈ zm_rs t n ↔ p.1 = t ∧ 0 ≤ p.2 ∧ p.2 < n := by
  unfold zm_rs
  rw [List.mem_map]
  constructor
  · rintro ⟨k, hk, e⟩
    have := List.mem_range.mp hk
    rw [← e]
    exact ⟨rfl, by dsimp only; omega, by dsimp only; omega⟩
  · rintro ⟨h1, h2, h3⟩
    exact ⟨p.2.toNat, List.mem_range.mpr (by omega), Prod.ext h1.symm (by dsimp only; omega)⟩
/-- whose letters stand in the row -/
theorem zm_row_mem {c : Nat → Int} {p : Int × Int} : ∀ {l : List Int}, p ∈ zm_row c l → p.1 ∈ l ∧ 0 ≤ p.2 ∧ p.2 < zm_o c p.1 5
  | [], h => by cases h
  | [t], h => by
    rw [zm_row_1, zm_rs_mem] at h
    rw [h.1]
    exact ⟨List.mem_cons_self, h.2⟩
  | t :: u :: b, h => by
    rw [zm_row_c c t (List.cons_ne_nil _ _)] at h
    by_cases h1 : zm_o c t 2 = 0
    · rw [if_pos h1, zm_ins_mem] at h
      rcases h with h | h
      · have := zm_row_mem h
        exact ⟨List.mem_cons_of_mem _ this.1, this.2⟩
      · rw [zm_rs_mem] at h
        rw [h.1]
        exact ⟨List.mem_cons_self, h.2⟩
    · rw [if_neg h1] at h
      have := zm_row_mem h
      exact ⟨List.mem_cons_of_mem _ this.1, this.2⟩
theorem zm_rs_nd (t n : Int) : (zm_rs t n).Nodup := by
  unfold zm_rs
  rw [List.Nodup, List.pairwise_map]
  refine List.Pairwise.imp ?_ (List.nodup_range (n := n.toNat))
  intro a b hab e
  have := congrArg Prod.snd e
  dsimp only at this
  omega
theorem zm_row_nd {c : Nat → Int} : ∀ {l : List Int}, l.Nodup → (zm_row c l).Nodup
  | [], _ => List.nodup_nil
  | [t], _ => zm_rs_nd _ _
  | t :: u :: b, g => by
    have g1 := List.nodup_cons.mp g
    have ih := zm_row_nd (c := c) g1.2
    rw [zm_row_c c t (List.cons_ne_nil _ _)]
    by_cases h1 : zm_o c t 2 = 0
    · rw [if_pos h1, zm_ins_e]
      have e := List.take_append_drop (zm_ps c t (zm_row c (u :: b))).toNat (zm_row c (u :: b))
      have ih' := ih
      rw [← e] at ih'
      obtain ⟨i1, i2, i3⟩ := List.nodup_append.mp ih'
      have hno : ∀ p ∈ zm_row c (u :: b), ∀ q ∈ zm_rs t (zm_o c t 5), p ≠ q := by
        intro p hp q hq e
        have h2 := (zm_row_mem hp).1
        rw [e, (zm_rs_mem.mp hq).1] at h2
        exact g1.1 h2
      refine List.nodup_append.mpr ⟨i1, List.nodup_append.mpr ⟨zm_rs_nd _ _, i2, fun a ha b hb e => hno b (List.mem_of_mem_drop hb) a ha e.symm⟩, fun a ha b hb => ?_⟩
      rcases List.mem_append.mp hb with hb | hb
      · exact hno a (List.mem_of_mem_take ha) b hb
      · exact i3 a ha b hb
    · rw [if_neg h1]
      exact ih
/-- what the reckoning leaves in the cells -/
def zm_Sn (h : zv_H) (c : Nat → Int) (l : List Int) : Prop := (zv_I h 347 10 = l.length ∧ ∀ (k : Nat) (x : Int), l.reverse[k]? = some x → zv_I h 351 k = x) ∧ zm_rw h (zm_row c l) ∧ (∀ x ∈ l, zv_I h 354 x.toNat = zm_fc c l x) ∧ (∀ (k : Nat) (x : Int × Int), (zm_row c l)[k]? = some x → zv_I h 355 k = if zm_sn c l x = true then 1 else 0) ∧ zv_I h 347 12 = ((zm_row c l).filter (zm_sn c l)).length
theorem zm_sees20 (d : Nat) (c : Nat → Int) : ∀ (b : List Int) (s : Int), zm_Ln c b s → b.length ≤ 49 → ∀ h : zv_H, zm_M h → zv_I h 348 = c → ∃ h' s', L9_sees_20 (d + 1) 347 ((b.length : Int) - 1) s h = L9_sees_20 (d + 1) 347 (-1) s' h' ∧ s' < 0 ∧ zm_F [351] [] h h' ∧ (∀ (k : Nat) (x : Int), b.reverse[k]? = some x → zv_I h' 351 k = x) ∧ ∀ k : Nat, b.length ≤ k → zv_I h' 351 k = zv_I h 351 k
  | [], s, hl, _, h, _, _ => ⟨h, s, rfl, hl, zm_F_r _ _ h, fun k x hx => by simp at hx, fun _ _ => rfl⟩
  | t :: b, s, hl, hn, h, hM, hc => by
    obtain ⟨⟨e, ht⟩, hl'⟩ := hl
    subst e
    rw [List.length_cons] at hn
    rw [show (((s :: b).length : Nat) : Int) - 1 = (b.length : Int) by rw [List.length_cons]; omega]
    have hM1 := zm_M_sI (r := 351) (k := ((b.length : Int)).toNat) (v := s) hM
    rw [qL9_sees_20, if_neg (by omega), zm_e (zm_f5 hM), zm_e (zm_wI hM zm_l351 rfl (by omega) (by omega) _), zm_e (zm_of hM1 _ ht (by decide)), zm_so h _ _, hc, zm_w (by omega)]
    dsimp only
    obtain ⟨h', s', i1, i2, i3, i4, i5⟩ := zm_sees20 d c b _ hl' (by omega) (zv_sI h 351 ((b.length : Int)).toNat s) hM1 ((zm_so h _ _).trans hc)
    refine ⟨h', s', i1, i2, zm_F_t (zm_F_I (zm_F_r _ _ h) rfl _ _) i3, fun k x hx => ?_, fun k hk => ?_⟩
    · rw [List.reverse_cons] at hx
      by_cases h1 : k < b.length
      · rw [List.getElem?_append_left (by rw [List.length_reverse]; exact h1)] at hx
        exact i4 k x hx
      · rw [List.getElem?_append_right (by rw [List.length_reverse]; omega), List.length_reverse] at hx
        have h2 : k = b.length := by
          apply Classical.byContradiction
          intro q
          rw [List.getElem?_eq_none (by show 1 ≤ _; omega)] at hx
          cases hx
        rw [h2, Nat.sub_self] at hx
        have e : s = x := Option.some.inj hx
        rw [i5 k (by omega), zm_ss, h2, show ((b.length : Int)).toNat = b.length by omega, zm_u_s, e]
    · rw [List.length_cons] at hk
      rw [i5 k (by omega), zm_ss, zm_u_o _ _ (by omega)]
theorem zm_sees56 (d n : Nat) (hn : n ≤ 40) : ∀ (m i : Nat), i + m = n → ∀ h : zv_H, zm_M h → zv_I h 347 11 = n → (∀ k : Nat, k < i → zv_I h 352 k = 0 ∧ zv_I h 353 k = k) → ∃ h', L9_sees_56 d 347 i h = L9_sees_56 d 347 n h' ∧ zm_F [352, 353] [] h h' ∧ ∀ k : Nat, k < n → zv_I h' 352 k = 0 ∧ zv_I h' 353 k = k
  | 0, i, hi, h, _, _, hk => by
    have e : i = n := by omega
    subst e
    exact ⟨h, rfl, zm_F_r _ _ h, hk⟩
  | m + 1, i, hi, h, hM, h11, hk => by
    have hM1 := zm_M_sI (r := 352) (k := ((i : Int)).toNat) (v := 0) hM
    rw [qL9_sees_56, zm_e (zm_gI hM 11), h11, if_pos (by omega), zm_e (zm_f6 hM), zm_e (zm_wI hM zm_l352 rfl (by omega) (by omega) _), zm_e (zm_f7 hM1), zm_e (zm_wI hM1 zm_l353 rfl (by omega) (by omega) _), zm_w (by omega)]
    obtain ⟨h', i1, i2, i3⟩ := zm_sees56 d n hn m (i + 1) (by omega) (zv_sI (zv_sI h 352 ((i : Int)).toNat 0) 353 ((i : Int)).toNat i) hM1 h11 (fun k hk2 => by
      rw [zm_so _ _ _, zm_ss, zm_ss, zm_so _ _ _]
      by_cases c1 : k = i
      · rw [c1, show ((i : Int)).toNat = i by omega, zm_u_s, zm_u_s]
        exact ⟨rfl, rfl⟩
      · rw [zm_u_o _ _ (by omega), zm_u_o _ _ (by omega)]
        exact hk k (by omega))
    exact ⟨h', i1, zm_F_t (zm_F_I (zm_F_I (zm_F_r _ _ h) rfl _ _) rfl _ _) i2, i3⟩
