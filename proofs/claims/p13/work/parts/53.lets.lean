/-! 53.lets -/
section
def zm_ps (c : Nat → Int) (t : Int) (row : List (Int × Int)) : Int := if zm_o c t 8 < 0 then 0 else zm_at row (zm_o c t 8, zm_o c t 9) + 1
theorem zm_ps_r (c : Nat → Int) (t : Int) (row : List (Int × Int)) : 0 ≤ zm_ps c t row ∧ zm_ps c t row ≤ row.length := by
  have h := zm_at_ge (zm_o c t 8, zm_o c t 9) row
  unfold zm_ps
  split
  · omega
  · omega
theorem zm_ins_e (c : Nat → Int) (t : Int) (row : List (Int × Int)) : zm_ins c t row = row.take (zm_ps c t row).toNat ++ (zm_rs t (zm_o c t 5) ++ row.drop (zm_ps c t row).toNat) := rfl
theorem zm_ins_get {c : Nat → Int} {t : Int} {row : List (Int × Int)} {k : Nat} {x : Int × Int} (h : (zm_ins c t row)[k]? = some x) : (k < (zm_ps c t row).toNat ∧ row[k]? = some x) ∨ ((zm_ps c t row).toNat ≤ k ∧ k < (zm_ps c t row).toNat + (zm_o c t 5).toNat ∧ x = (t, (k : Int) - zm_ps c t row)) ∨ ((zm_ps c t row).toNat + (zm_o c t 5).toNat ≤ k ∧ row[k - (zm_o c t 5).toNat]? = some x) := by
  have hp := zm_ps_r c t row
  have hl : (row.take (zm_ps c t row).toNat).length = (zm_ps c t row).toNat := by
    rw [List.length_take]
    omega
  rw [zm_ins_e] at h
  by_cases h1 : k < (zm_ps c t row).toNat
  · rw [List.getElem?_append_left (by omega), List.getElem?_take_of_lt h1] at h
    exact Or.inl ⟨h1, h⟩
  · rw [List.getElem?_append_right (by omega), hl] at h
    by_cases h2 : k < (zm_ps c t row).toNat + (zm_o c t 5).toNat
    · rw [List.getElem?_append_left (by rw [zm_rs_len]; omega), zm_rs_get _ _ (by omega)] at h
      refine Or.inr (Or.inl ⟨by omega, h2, ?_⟩)
      have e := Option.some.inj h
      rw [← e, show ((k - (zm_ps c t row).toNat : Nat) : Int) = (k : Int) - zm_ps c t row by omega]
    · rw [List.getElem?_append_right (by rw [zm_rs_len]; omega), zm_rs_len, List.getElem?_drop] at h
      refine Or.inr (Or.inr ⟨by omega, ?_⟩)
      rw [← h]
      congr 1
      omega
theorem zm_letsIn {h : zv_H} {row : List (Int × Int)} (hM : zm_M h) (d : Nat) {s : Int} (hs : 0 ≤ s ∧ s ≤ 48) (hn : 0 ≤ zm_o (zv_I h 348) s 5) (hk : row.length + zm_o (zv_I h 348) s 5 ≤ 640) (hr : zm_rw h row) : zm_R (C9_letsIn (d + 3) 347 s h) (fun h' => zm_F [352, 353] [11] h h' ∧ zm_rw h' (zm_ins (zv_I h 348) s row)) := by
  have hp := zm_ps_r (zv_I h 348) s row
  obtain ⟨n, en⟩ : ∃ n : Nat, zm_o (zv_I h 348) s 5 = n := ⟨(zm_o (zv_I h 348) s 5).toNat, by omega⟩
  have main : zm_R (L9_letsIn_34 (d + 2) 347 s (zm_ps (zv_I h 348) s row) h) (zm_V fun h' => zm_F [352, 353] [11] h h' ∧ zm_rw h' (zm_ins (zv_I h 348) s row)) := by
    rw [qL9_letsIn_34, zm_e (zm_of hM _ hs (by decide)), zm_e (zm_gI hM 11), hr.1, zm_w (by omega)]
    dsimp only
    rw [en]
    obtain ⟨h1, i1, i2, i3, i4⟩ := zm_lets50 (d + 2) s (zm_ps (zv_I h 348) s row) n (zv_I h 352) (zv_I h 353) (L := row.length) (by omega) (by omega) (row.length - (zm_ps (zv_I h 348) s row).toNat) h hM (by omega) (by
        funext k
        rw [if_neg (by omega)]) (by
        funext k
        rw [if_neg (by omega)])
    have hM1 := zm_F_M i2 hM
    rw [show (row.length : Int) - 1 = zm_ps (zv_I h 348) s row + ((row.length - (zm_ps (zv_I h 348) s row).toNat : Nat) : Int) - 1 by omega, i1]
    rw [qL9_letsIn_50, if_pos (by omega)]
    obtain ⟨h2, j1, j2, j3, j4⟩ := zm_lets97 (d + 2) s (zm_ps (zv_I h 348) s row) n (by omega) (by omega) (zv_I h1 352) (zv_I h1 353) n 0 h1 (by omega) hM1 (by
        funext k
        rw [if_neg (by omega)]) (by
        funext k
        rw [if_neg (by omega)])
    have hM2 := zm_F_M j2 hM1
    rw [show (0 : Int) = ((0 : Nat) : Int) from rfl, j1, qL9_letsIn_97, if_neg (by omega), zm_e (zm_gI hM2 11), zm_e (zm_pI hM2 11 _)]
    have f2 := zm_F_t i2 j2
    have e11 : zv_I h2 347 11 = row.length := (zm_F_g f2 11).trans hr.1
    rw [e11, zm_w (by omega)]
    refine zm_iV ⟨zm_F_f (zm_F_s f2 rfl rfl) rfl _, ?_, ?_⟩
    · rw [zm_ss, zm_u_s, zm_ins_len]
      omega
    · intro k x hx
      rw [zm_so _ _ _, zm_so _ _ _, j3, j4, i3, i4]
      dsimp only
      rcases zm_ins_get hx with ⟨c1, c2⟩ | ⟨c1, c2, c3⟩ | ⟨c1, c2⟩
      · have := hr.2 k x c2
        rw [if_neg (by omega), if_neg (by omega), if_neg (by omega), if_neg (by omega)]
        exact this
      · rw [if_pos (by omega), if_pos (by omega), c3]
        exact ⟨rfl, rfl⟩
      · have h9 := hr.2 _ x c2
        have h8 : k - (zm_o (zv_I h 348) s 5).toNat < row.length := by
          apply Classical.byContradiction
          intro q
          rw [List.getElem?_eq_none (by omega)] at c2
          cases c2
        have e9 : k - n = k - (zm_o (zv_I h 348) s 5).toNat := by omega
        refine ⟨?_, ?_⟩
        · rw [if_neg (by omega), if_pos (by omega), e9]
          exact h9.1
        · rw [if_neg (by omega), if_pos (by omega), e9]
          exact h9.2
  refine zm_cV (lC9_letsIn (zm_ob hM)) ?_
  rw [qE9_letsIn, zm_e (zm_of hM _ hs (by decide))]
  dsimp only
  by_cases c1 : zm_o (zv_I h 348) s 8 < 0
  · rw [if_pos c1]
    have e : zm_ps (zv_I h 348) s row = 0 := if_pos c1
    rw [e] at main
    exact main
  · have e : zm_ps (zv_I h 348) s row = zm_at row (zm_o (zv_I h 348) s 8, zm_o (zv_I h 348) s 9) + 1 := if_neg c1
    rw [if_neg c1, zm_e (zm_of hM _ hs (by decide)), zm_e (zm_of hM _ hs (by decide)), zm_e (zm_rowOf hM _ _ _ hr (by omega))]
    dsimp only
    rw [zm_w (by omega), ← e]
    exact main
/-! who is in force by one's names -/
theorem zm_turns_l (d : Nat) (c : Nat → Int) {s : Int} (hs : 0 ≤ s ∧ s ≤ 48) (l : List Int) (hl : ∀ t ∈ l, 0 ≤ t ∧ t ≤ 48) (hn : l.length ≤ 49) : ∀ (b a : List Int), a ++ b = l → ∀ h : zv_H, zm_M h → zv_I h 348 = c → zv_I h 347 10 = l.length → (∀ (k : Nat) (x : Int), l[k]? = some x → zv_I h 351 k = x) →
    ∃ h', L9_turns_2 (d + 2) 347 s a.length h = L9_turns_2 (d + 2) 347 s l.length h' ∧ zm_F [354] [] h h' ∧ (∀ x : Int, 0 ≤ x → zv_I h' 354 x.toNat = if x ∈ b ∧ zm_nm c s x then (if zm_o c s 2 = 3 then 1 else 0) else zv_I h 354 x.toNat)
  | [], a, e, h, _, _, _, _ => by
    rw [List.append_nil] at e
    exact ⟨h, by rw [e], zm_F_r _ _ h, fun x _ => by rw [if_neg (fun q => List.not_mem_nil q.1)]⟩
  | t :: b, a, e, h, hM, hc, h10, hli => by
    have hlen : l.length = a.length + (b.length + 1) := by rw [← e, List.length_append, List.length_cons]
    have ht := hl t (by rw [← e]; exact List.mem_append_right _ List.mem_cons_self)
    have hx : l[a.length]? = some t := by
      rw [← e, List.getElem?_append_right (Nat.le_refl _), Nat.sub_self]
      rfl
    have a1 : zv_aI h 351 (a.length : Int) = some t := by
      rw [zm_aI hM zm_l351 rfl (by omega) (by omega)]
      rw [show ((a.length : Int)).toNat = a.length by omega, hli _ _ hx]
    have w1 : zv_w ((a.length : Int) + 1) = (((a ++ [t]).length : Nat) : Int) := by
      rw [zm_w (by omega), List.length_append]
      rfl
    have e' : (a ++ [t]) ++ b = l := by
      rw [List.append_assoc]
      exact e
    rw [qL9_turns_2, zm_e (zm_gI hM 10), h10, if_pos (by omega), zm_e (zm_f5 hM), zm_e a1, zm_e (zm_names hM d hs t), w1]
    dsimp only
    rw [hc]
    by_cases c1 : zm_nm c s t
    · rw [if_pos c1, if_neg (by decide), zm_e (zm_f8 hM), zm_e (zm_f5 hM), zm_e a1, zm_e (zm_of hM _ hs (by decide))]
      dsimp only
      rw [hc]
      have fin : ∀ v : Int, v = (if zm_o c s 2 = 3 then 1 else 0) → ∃ h', ((zv_wB h 354 t v).bind fun g9 => L9_turns_2 (d + 2) 347 s ((a ++ [t]).length : Int) g9) = L9_turns_2 (d + 2) 347 s l.length h' ∧ zm_F [354] [] h h' ∧ (∀ x : Int, 0 ≤ x → zv_I h' 354 x.toNat = if x ∈ t :: b ∧ zm_nm c s x then (if zm_o c s 2 = 3 then 1 else 0) else zv_I h 354 x.toNat) := by
        intro v hv
        have nv : zv_nz v = v := by
          rw [hv]
          unfold zv_nz
          split
          · rfl
          · rfl
        rw [zm_e (zm_wB hM zm_l354 rfl (by omega) (by omega) v), nv]
        obtain ⟨h', i1, i2, i3⟩ := zm_turns_l d c hs l hl hn b (a ++ [t]) e' (zv_sI h 354 t.toNat v) hM hc h10 hli
        refine ⟨h', i1, zm_F_t (zm_F_I (zm_F_r _ _ h) rfl _ _) i2, fun x hx0 => ?_⟩
        rw [i3 x hx0, zm_ss]
        unfold zm_u
        by_cases c2 : x ∈ b ∧ zm_nm c s x
        · rw [if_pos c2, if_pos (show x ∈ t :: b ∧ zm_nm c s x from ⟨List.mem_cons_of_mem _ c2.1, c2.2⟩)]
        · rw [if_neg c2]
          by_cases c3 : x.toNat = t.toNat
          · have ex : x = t := by omega
            rw [if_pos c3, if_pos (show x ∈ t :: b ∧ zm_nm c s x from ⟨by rw [ex]; exact List.mem_cons_self, by rw [ex]; exact c1⟩), hv]
          · rw [if_neg c3, if_neg]
            intro q
            rcases List.mem_cons.mp q.1 with q1 | q1
            · exact c3 (by rw [q1])
            · exact c2 ⟨q1, q.2⟩
      by_cases c2 : zm_o c s 2 = 3
      · rw [if_pos c2]
        exact fin 1 (by rw [if_pos c2])
      · rw [if_neg c2]
        exact fin 0 (by rw [if_neg c2])
    · rw [if_neg c1, if_pos rfl]
      obtain ⟨h', i1, i2, i3⟩ := zm_turns_l d c hs l hl hn b (a ++ [t]) e' h hM hc h10 hli
      refine ⟨h', i1, i2, fun x hx0 => ?_⟩
      rw [i3 x hx0]
      by_cases c2 : x ∈ b ∧ zm_nm c s x
      · rw [if_pos c2, if_pos (show x ∈ t :: b ∧ zm_nm c s x from ⟨List.mem_cons_of_mem _ c2.1, c2.2⟩)]
      · rw [if_neg c2, if_neg]
        intro q
        rcases List.mem_cons.mp q.1 with q1 | q1
        · exact c1 (by rw [← q1]; exact q.2)
        · exact c2 ⟨q1, q.2⟩
theorem zm_turns {h : zv_H} {c : Nat → Int} (hM : zm_M h) (hc : zv_I h 348 = c) (d : Nat) {s : Int} (hs : 0 ≤ s ∧ s ≤ 48) {l : List Int} (hl : ∀ t ∈ l, 0 ≤ t ∧ t ≤ 48) (hn : l.length ≤ 49) (h10 : zv_I h 347 10 = l.length) (hli : ∀ (k : Nat) (x : Int), l[k]? = some x → zv_I h 351 k = x) : zm_R (C9_turns (d + 3) 347 s h) (fun h' => zm_F [354] [] h h' ∧ ∀ x : Int, 0 ≤ x → zv_I h' 354 x.toNat = if x ∈ l ∧ zm_nm c s x then (if zm_o c s 2 = 3 then 1 else 0) else zv_I h 354 x.toNat) := by
  refine zm_cV (lC9_turns (zm_ob hM)) ?_
  obtain ⟨h', i1, i2, i3⟩ := zm_turns_l d c hs l hl hn l [] rfl h hM hc h10 hli
  rw [qE9_turns, show (0 : Int) = ((([] : List Int).length : Nat) : Int) from rfl, i1, qL9_turns_2, zm_e (zm_gI (zm_F_M i2 hM) 10), zm_F_g i2 10, h10, if_neg (by omega)]
  exact zm_iV ⟨i2, i3⟩
end
/-! 54.sees -/
section
theorem zm_row_1 (c : Nat → Int) (t : Int) : zm_row c [t] = zm_rs t (zm_o c t 5) := rfl
theorem zm_row_c (c : Nat → Int) (t : Int) {b : List Int} (hb : b ≠ []) : zm_row c (t :: b) = if zm_o c t 2 = 0 then zm_ins c t (zm_row c b) else zm_row c b := by
  cases b with
  | nil => exact absurd rfl hb
  | cons u b => rfl
theorem zm_fc_c (c : Nat → Int) (t : Int) {b : List Int} (hb : b ≠ []) (x : Int) : zm_fc c (t :: b) x = if ¬ zm_ed c t ∧ zm_nm c t x then (if zm_o c t 2 = 3 then 1 else 0) else if x = t then (if zm_ed c t then 1 else 0) else zm_fc c b x := by
  cases b with
  | nil => exact absurd rfl hb
  | cons u b => rfl
theorem zm_fc_01 (c : Nat → Int) (x : Int) : ∀ l : List Int, zm_fc c l x = 0 ∨ zm_fc c l x = 1
  | [] => Or.inl rfl
  | [t] => by
    unfold zm_fc
    dsimp only
    split
    · exact Or.inr rfl
    · exact Or.inl rfl
  | t :: u :: l => by
    rw [zm_fc_c c t (by exact List.cons_ne_nil _ _)]
    split
    · split
      · exact Or.inr rfl
      · exact Or.inl rfl
    · split
      · split
        · exact Or.inr rfl
        · exact Or.inl rfl
      · exact zm_fc_01 c x (u :: l)
/-- what the line of a state must be for its row to be reckoned -/
def zm_G0 (c : Nat → Int) (l : List Int) : Prop := l.Nodup ∧ l.getLast? = some 0 ∧ (0 ≤ zm_o c 0 5 ∧ zm_o c 0 5 ≤ 40) ∧ zm_o c 0 2 = -1 ∧ ∀ t ∈ l, t ≠ 0 → zm_ed c t → 0 ≤ zm_o c t 5 ∧ zm_o c t 5 ≤ 12
theorem zm_G0_t {c : Nat → Int} {t : Int} {b : List Int} (hb : b ≠ []) (g : zm_G0 c (t :: b)) : zm_G0 c b ∧ t ≠ 0 ∧ ¬ t ∈ b := by
  obtain ⟨g1, g2, g3, g4, g5⟩ := g
  have h1 := List.nodup_cons.mp g1
  have h2 : b.getLast? = some 0 := by
    cases b with
    | nil => exact absurd rfl hb
    | cons u b => rw [List.getLast?_cons_cons] at g2; exact g2
  refine ⟨⟨h1.2, h2, g3, g4, fun u hu => g5 u (List.mem_cons_of_mem _ hu)⟩, fun e => ?_, h1.1⟩
  rw [e] at h1
  exact h1.1 (List.mem_of_getLast? h2)
theorem zm_row_le {c : Nat → Int} : ∀ {l : List Int}, zm_G0 c l → (zm_row c l).length ≤ 28 + 12 * l.length
  | [], _ => by
    show 0 ≤ _
    omega
  | [t], g => by
    have e : t = 0 := by
      have := g.2.1
      exact Option.some.inj this
    rw [zm_row_1, zm_rs_len, e]
    have := g.2.2.1
    show _ ≤ 28 + 12 * 1
    omega
  | t :: u :: b, g => by
    have hb : u :: b ≠ [] := List.cons_ne_nil _ _
    obtain ⟨g1, g2, g3⟩ := zm_G0_t hb g
    have ih := zm_row_le g1
    rw [zm_row_c c t hb, List.length_cons (a := t)]
    by_cases h1 : zm_o c t 2 = 0
    · have := g.2.2.2.2 t List.mem_cons_self g2 (Or.inl h1)
      rw [if_pos h1, zm_ins_len]
      omega
    · rw [if_neg h1]
      omega
theorem zm_ins_mem {c : Nat → Int} {t : Int} {row : List (Int × Int)} {p : Int × Int} : p ∈ zm_ins c t row ↔ p ∈ row ∨ p ∈ zm_rs t (zm_o c t 5) := by
  rw [zm_ins_e, List.mem_append, List.mem_append]
  have e : p ∈ row ↔ p ∈ row.take (zm_ps c t row).toNat ∨ p ∈ row.drop (zm_ps c t row).toNat := by
    rw [← List.mem_append, List.take_append_drop]
  rw [e]
  constructor
  · rintro (h | h | h)
    · exact Or.inl (Or.inl h)
    · exact Or.inr h
    · exact Or.inl (Or.inr h)
  · rintro ((h | h) | h)
    · exact Or.inl h
    · exact Or.inr (Or.inr h)
    · exact Or.inr (Or.inl h)
theorem zm_rs_mem {t n : Int} {p : Int × Int} : p ∈ zm_rs t n ↔ p.1 = t ∧ 0 ≤ p.2 ∧ p.2 < n := by
  unfold zm_rs
  rw [List.mem_map]
  constructor
  · rintro ⟨k, hk, e⟩
    have := List.mem_range.mp hk
    rw [← e]
    exact ⟨rfl, by dsimp only; omega, by dsimp only; omega⟩
  · rintro ⟨h1, h2, h3⟩
    exact ⟨p.2.toNat, List.mem_range.mpr (by omega), Prod.ext h1.symm (by dsimp only; omega)⟩
/-- whose letters stand in the row -/
theorem zm_row_mem {c : Nat → Int} {p : Int × Int} : ∀ {l : List Int}, p ∈ zm_row c l → p.1 ∈ l ∧ 0 ≤ p.2 ∧ p.2 < zm_o c p.1 5
  | [], h => by cases h
  | [t], h => by
    rw [zm_row_1, zm_rs_mem] at h
    rw [h.1]
    exact ⟨List.mem_cons_self, h.2⟩
  | t :: u :: b, h => by
    rw [zm_row_c c t (List.cons_ne_nil _ _)] at h
    by_cases h1 : zm_o c t 2 = 0
    · rw [if_pos h1, zm_ins_mem] at h
      rcases h with h | h
      · have := zm_row_mem h
        exact ⟨List.mem_cons_of_mem _ this.1, this.2⟩
      · rw [zm_rs_mem] at h
        rw [h.1]
        exact ⟨List.mem_cons_self, h.2⟩
    · rw [if_neg h1] at h
      have := zm_row_mem h
      exact ⟨List.mem_cons_of_mem _ this.1, this.2⟩
theorem zm_rs_nd (t n : Int) : (zm_rs t n).Nodup := by
  unfold zm_rs
  rw [List.Nodup, List.pairwise_map]
  refine List.Pairwise.imp ?_ (List.nodup_range (n := n.toNat))
  intro a b hab e
  have := congrArg Prod.snd e
  dsimp only at this
  omega
theorem zm_row_nd {c : Nat → Int} : ∀ {l : List Int}, l.Nodup → (zm_row c l).Nodup
  | [], _ => List.nodup_nil
  | [t], _ => zm_rs_nd _ _
  | t :: u :: b, g => by
    have g1 := List.nodup_cons.mp g
    have ih := zm_row_nd (c := c) g1.2
    rw [zm_row_c c t (List.cons_ne_nil _ _)]
    by_cases h1 : zm_o c t 2 = 0
    · rw [if_pos h1, zm_ins_e]
      have e := List.take_append_drop (zm_ps c t (zm_row c (u :: b))).toNat (zm_row c (u :: b))
      have ih' := ih
      rw [← e] at ih'
      obtain ⟨i1, i2, i3⟩ := List.nodup_append.mp ih'
      have hno : ∀ p ∈ zm_row c (u :: b), ∀ q ∈ zm_rs t (zm_o c t 5), p ≠ q := by
        intro p hp q hq e
        have h2 := (zm_row_mem hp).1
        rw [e, (zm_rs_mem.mp hq).1] at h2
        exact g1.1 h2
      refine List.nodup_append.mpr ⟨i1, List.nodup_append.mpr ⟨zm_rs_nd _ _, i2, fun a ha b hb e => hno b (List.mem_of_mem_drop hb) a ha e.symm⟩, fun a ha b hb => ?_⟩
      rcases List.mem_append.mp hb with hb | hb
      · exact hno a (List.mem_of_mem_take ha) b hb
      · exact i3 a ha b hb
    · rw [if_neg h1]
      exact ih
/-- what the reckoning leaves in the cells -/
def zm_Sn (h : zv_H) (c : Nat → Int) (l : List Int) : Prop := (zv_I h 347 10 = l.length ∧ ∀ (k : Nat) (x : Int), l.reverse[k]? = some x → zv_I h 351 k = x) ∧ zm_rw h (zm_row c l) ∧ (∀ x ∈ l, zv_I h 354 x.toNat = zm_fc c l x) ∧ (∀ (k : Nat) (x : Int × Int), (zm_row c l)[k]? = some x → zv_I h 355 k = if zm_sn c l x = true then 1 else 0) ∧ zv_I h 347 12 = ((zm_row c l).filter (zm_sn c l)).length
theorem zm_sees20 (d : Nat) (c : Nat → Int) : ∀ (b : List Int) (s : Int), zm_Ln c b s → b.length ≤ 49 → ∀ h : zv_H, zm_M h → zv_I h 348 = c → ∃ h' s', L9_sees_20 (d + 1) 347 ((b.length : Int) - 1) s h = L9_sees_20 (d + 1) 347 (-1) s' h' ∧ s' < 0 ∧ zm_F [351] [] h h' ∧ (∀ (k : Nat) (x : Int), b.reverse[k]? = some x → zv_I h' 351 k = x) ∧ ∀ k : Nat, b.length ≤ k → zv_I h' 351 k = zv_I h 351 k
  | [], s, hl, _, h, _, _ => ⟨h, s, rfl, hl, zm_F_r _ _ h, fun k x hx => by simp at hx, fun _ _ => rfl⟩
  | t :: b, s, hl, hn, h, hM, hc => by
    obtain ⟨⟨e, ht⟩, hl'⟩ := hl
    subst e
    rw [List.length_cons] at hn
    rw [show (((s :: b).length : Nat) : Int) - 1 = (b.length : Int) by rw [List.length_cons]; omega]
    have hM1 := zm_M_sI (r := 351) (k := ((b.length : Int)).toNat) (v := s) hM
    rw [qL9_sees_20, if_neg (by omega), zm_e (zm_f5 hM), zm_e (zm_wI hM zm_l351 rfl (by omega) (by omega) _), zm_e (zm_of hM1 _ ht (by decide)), zm_so h _ _, hc, zm_w (by omega)]
    dsimp only
    obtain ⟨h', s', i1, i2, i3, i4, i5⟩ := zm_sees20 d c b _ hl' (by omega) (zv_sI h 351 ((b.length : Int)).toNat s) hM1 ((zm_so h _ _).trans hc)
    refine ⟨h', s', i1, i2, zm_F_t (zm_F_I (zm_F_r _ _ h) rfl _ _) i3, fun k x hx => ?_, fun k hk => ?_⟩
    · rw [List.reverse_cons] at hx
      by_cases h1 : k < b.length
      · rw [List.getElem?_append_left (by rw [List.length_reverse]; exact h1)] at hx
        exact i4 k x hx
      · rw [List.getElem?_append_right (by rw [List.length_reverse]; omega), List.length_reverse] at hx
        have h2 : k = b.length := by
          apply Classical.byContradiction
          intro q
          rw [List.getElem?_eq_none (by show 1 ≤ _; omega)] at hx
          cases hx
        rw [h2, Nat.sub_self] at hx
        have e : s = x := Option.some.inj hx
        rw [i5 k (by omega), zm_ss, h2, show ((b.length : Int)).toNat = b.length by omega, zm_u_s, e]
    · rw [List.length_cons] at hk
      rw [i5 k (by omega), zm_ss, zm_u_o _ _ (by omega)]
theorem zm_sees56 (d n : Nat) (hn : n ≤ 40) : ∀ (m i : Nat), i + m = n → ∀ h : zv_H, zm_M h → zv_I h 347 11 = n → (∀ k : Nat, k < i → zv_I h 352 k = 0 ∧ zv_I h 353 k = k) → ∃ h', L9_sees_56 d 347 i h = L9_sees_56 d 347 n h' ∧ zm_F [352, 353] [] h h' ∧ ∀ k : Nat, k < n → zv_I h' 352 k = 0 ∧ zv_I h' 353 k = k
  | 0, i, hi, h, _, _, hk => by
    have e : i = n := by omega
    subst e
    exact ⟨h, rfl, zm_F_r _ _ h, hk⟩
  | m + 1, i, hi, h, hM, h11, hk => by
    have hM1 := zm_M_sI (r := 352) (k := ((i : Int)).toNat) (v := 0) hM
    rw [qL9_sees_56, zm_e (zm_gI hM 11), h11, if_pos (by omega), zm_e (zm_f6 hM), zm_e (zm_wI hM zm_l352 rfl (by omega) (by omega) _), zm_e (zm_f7 hM1), zm_e (zm_wI hM1 zm_l353 rfl (by omega) (by omega) _), zm_w (by omega)]
    obtain ⟨h', i1, i2, i3⟩ := zm_sees56 d n hn m (i + 1) (by omega) (zv_sI (zv_sI h 352 ((i : Int)).toNat 0) 353 ((i : Int)).toNat i) hM1 h11 (fun k hk2 => by
      rw [zm_so _ _ _, zm_ss, zm_ss, zm_so _ _ _]
      by_cases c1 : k = i
      · rw [c1, show ((i : Int)).toNat = i by omega, zm_u_s, zm_u_s]
        exact ⟨rfl, rfl⟩
      · rw [zm_u_o _ _ (by omega), zm_u_o _ _ (by omega)]
        exact hk k (by omega))
    exact ⟨h', i1, zm_F_t (zm_F_I (zm_F_I (zm_F_r _ _ h) rfl _ _) rfl _ _) i2, i3⟩
end
/-! 55.sees2 -/
section
/-- the line lies in its cells, and the array of numbers it came from -/
def zm_li (h : zv_H) (c : Nat → Int) (l : List Int) : Prop := zm_M h ∧ zv_I h 348 = c ∧ zv_I h 347 10 = l.length ∧ ∀ (k : Nat) (x : Int), l.reverse[k]? = some x → zv_I h 351 k = x
theorem zm_li_F {A B : List Nat} {h h' : zv_H} {c : Nat → Int} {l : List Int} (i : zm_li h c l) (f : zm_F A B h h') (h1 : A.contains 348 = false := by rfl) (h2 : A.contains 351 = false := by rfl) (h3 : B.contains 10 = false := by rfl) : zm_li h' c l := by
  obtain ⟨i1, i2, i3, i4⟩ := i
  refine ⟨zm_F_M f i1, (zm_F_a f 348 h1).trans i2, (zm_F_g f 10 h3).trans i3, fun k x hx => ?_⟩
  rw [zm_F_a f 351 h2]
  exact i4 k x hx
theorem zm_rev_at {l b : List Int} {t : Int} {ap : List Int} (e : (t :: ap).reverse ++ b = l) : l.reverse[b.length]? = some t := by
  rw [← e, List.reverse_append, List.reverse_reverse, List.getElem?_append_right (by rw [List.length_reverse]; exact Nat.le_refl _), List.length_reverse, Nat.sub_self]
  rfl
theorem zm_sees93 (d : Nat) (c : Nat → Int) {l : List Int} (hl : ∀ t ∈ l, 0 ≤ t ∧ t ≤ 48) (hn : l.length ≤ 49) (g : zm_G0 c l) : ∀ (ap b : List Int), ap.reverse ++ b = l → b ≠ [] → ∀ h : zv_H, zm_li h c l → zm_rw h (zm_row c b) → (∀ x ∈ b, zv_I h 354 x.toNat = zm_fc c b x) → ∃ h', L9_sees_93 (d + 3) 347 b.length h = L9_sees_93 (d + 3) 347 l.length h' ∧ zm_F [352, 353, 354] [11] h h' ∧ zm_rw h' (zm_row c l) ∧ ∀ x ∈ l, zv_I h' 354 x.toNat = zm_fc c l x
  | [], b, e, _, h, _, hr, hf => by
    have e1 : b = l := e
    subst e1
    exact ⟨h, rfl, zm_F_r _ _ h, hr, hf⟩
  | t :: ap, b, e, hb, h, hli, hr, hf => by
    have hlen : l.length = ap.length + 1 + b.length := by rw [← e, List.length_append, List.length_reverse, List.length_cons]
    have e' : ap.reverse ++ (t :: b) = l := by
      rw [← e, List.reverse_cons, List.append_assoc]
      rfl
    have htl : t ∈ l := by
      rw [← e']
      exact List.mem_append_right _ List.mem_cons_self
    have ht := hl t htl
    obtain ⟨hM, hc, h10, h351⟩ := id hli
    have gb : zm_G0 c (t :: b) := by
      obtain ⟨g1, g2, g3, g4, g5⟩ := g
      rw [← e'] at g1 g2 g5
      refine ⟨(List.nodup_append.mp g1).2.1, ?_, g3, g4, fun u hu => g5 u (List.mem_append_right _ hu)⟩
      rw [List.getLast?_append] at g2
      cases e9 : (t :: b).getLast? with
      | none => exact absurd (List.getLast?_eq_none_iff.mp e9) (List.cons_ne_nil _ _)
      | some y =>
        rw [e9] at g2
        exact g2
    obtain ⟨gb1, gb2, gb3⟩ := zm_G0_t hb gb
    have a1 : zv_aI h 351 (b.length : Int) = some t := by
      rw [zm_aI hM zm_l351 rfl (by omega) (by omega)]
      rw [show ((b.length : Int)).toNat = b.length by omega, h351 _ _ (zm_rev_at e)]
    have nv : ∀ p : Prop, ∀ [Decidable p], zv_nz (if p then 1 else 0) = if p then 1 else 0 := by
      intro p _
      unfold zv_nz
      split
      · rfl
      · rfl
    rw [qL9_sees_93, zm_e (zm_gI hM 10), h10, if_pos (by omega), zm_e (zm_f5 hM), zm_e a1, zm_e (zm_f8 hM), zm_e (zm_isEdit hM _ ht)]
    dsimp only
    rw [zm_e (zm_wB hM zm_l354 rfl (by omega) (by omega) _), nv, hc]
    have hM1 : zm_M (zv_sI h 354 t.toNat (if zm_ed c t then 1 else 0)) := hM
    have f1 : zm_F [352, 353, 354] [11] h (zv_sI h 354 t.toNat (if zm_ed c t then 1 else 0)) := zm_F_I (zm_F_r _ _ h) rfl _ _
    rw [zm_e (zm_of hM1 _ ht (by decide))]
    have c1 : zv_I (zv_sI h 354 t.toNat (if zm_ed c t then 1 else 0)) 348 = c := (zm_so h _ _).trans hc
    rw [c1]
    dsimp only
    -- the rest, once the word is in the row
    have rest : ∀ h1 : zv_H, zm_F [352, 353, 354] [11] h h1 → zm_rw h1 (zm_row c (t :: b)) → zv_I h1 354 = zm_u (zv_I h 354) t.toNat (if zm_ed c t then 1 else 0) → ∃ h', L9_sees_138 (d + 3) 347 b.length t h1 = L9_sees_93 (d + 3) 347 l.length h' ∧ zm_F [352, 353, 354] [11] h h' ∧ zm_rw h' (zm_row c l) ∧ ∀ x ∈ l, zv_I h' 354 x.toNat = zm_fc c l x := by
      intro h1 f hr1 h354
      have li1 := zm_li_F hli f
      have w1 : zv_w ((b.length : Int) + 1) = (((t :: b).length : Nat) : Int) := by
        rw [zm_w (by omega), List.length_cons]
        rfl
      have hne : ∀ x ∈ b, ¬ x.toNat = t.toNat := by
        intro x hx q
        have hx2 := hl x (by rw [← e]; exact List.mem_append_right _ hx)
        have : x = t := by omega
        rw [this] at hx
        exact gb3 hx
      rw [qL9_sees_138, zm_e (zm_isEdit li1.1 _ ht), li1.2.1, w1]
      dsimp only
      by_cases c2 : zm_ed c t
      · rw [if_pos c2, if_neg (by decide)]
        obtain ⟨h', i1, i2, i3, i4⟩ := zm_sees93 d c hl hn g ap (t :: b) e' (List.cons_ne_nil _ _) h1 li1 hr1 (fun x hx => by
          rw [h354, zm_fc_c c t hb, if_neg (show ¬ (¬ zm_ed c t ∧ zm_nm c t x) from fun q => q.1 c2), if_pos c2]
          rcases List.mem_cons.mp hx with q | q
          · rw [q, zm_u_s, if_pos rfl]
          · rw [zm_u_o _ _ (hne x q), if_neg (show ¬ x = t from fun q2 => hne x q (by rw [q2]))]
            exact hf x q)
        exact ⟨h', i1, zm_F_t f i2, i3, i4⟩
      · rw [if_neg c2, if_pos rfl]
        have hlr : ∀ u ∈ l.reverse, 0 ≤ u ∧ u ≤ 48 := fun u hu => hl u (List.mem_reverse.mp hu)
        obtain ⟨h2, e2, f2, t2⟩ := zm_turns li1.1 li1.2.1 d ht hlr (by rw [List.length_reverse]; exact hn) (by rw [List.length_reverse]; exact li1.2.2.1) li1.2.2.2
        rw [zm_e e2]
        have f2' : zm_F [352, 353, 354] [11] h1 h2 := zm_F_s f2 rfl rfl
        obtain ⟨h', i1, i2, i3, i4⟩ := zm_sees93 d c hl hn g ap (t :: b) e' (List.cons_ne_nil _ _) h2 (zm_li_F li1 f2) (zm_rw_of hr1 (zm_F_g f2 11) (zm_F_a f2 352) (zm_F_a f2 353)) (fun x hx => by
          have hxl : x ∈ l.reverse := List.mem_reverse.mpr (by rw [← e']; exact List.mem_append_right _ hx)
          rw [t2 x (hlr x hxl).1, zm_fc_c c t hb]
          by_cases c3 : zm_nm c t x
          · rw [if_pos (show x ∈ l.reverse ∧ zm_nm c t x from ⟨hxl, c3⟩), if_pos (show ¬ zm_ed c t ∧ zm_nm c t x from ⟨c2, c3⟩)]
          · rw [if_neg (show ¬ (x ∈ l.reverse ∧ zm_nm c t x) from fun q => c3 q.2), if_neg (show ¬ (¬ zm_ed c t ∧ zm_nm c t x) from fun q => c3 q.2), h354, if_neg c2]
            rcases List.mem_cons.mp hx with q | q
            · rw [q, zm_u_s, if_pos rfl]
            · rw [zm_u_o _ _ (hne x q), if_neg (show ¬ x = t from fun q2 => hne x q (by rw [q2]))]
              exact hf x q)
        exact ⟨h', i1, zm_F_t (zm_F_t f f2') i2, i3, i4⟩
    by_cases c2 : zm_o c t 2 = 0
    · rw [if_pos c2]
      have hm := gb.2.2.2.2 t List.mem_cons_self gb2 (Or.inl c2)
      have hlb := zm_row_le gb1
      have hr1 : zm_rw (zv_sI h 354 t.toNat (if zm_ed c t then 1 else 0)) (zm_row c b) := zm_rw_of hr rfl (zm_so h _ _) (zm_so h _ _)
      obtain ⟨h2, e2, f2, r2⟩ := zm_letsIn hM1 d ht (by rw [c1]; exact hm.1) (by rw [c1]; omega) hr1
      rw [zm_e e2]
      refine rest h2 (zm_F_t f1 (zm_F_s f2 rfl rfl)) ?_ ?_
      · rw [zm_row_c c t hb, if_pos c2]
        rw [c1] at r2
        exact r2
      · rw [zm_F_a f2 354, zm_ss]
    · rw [if_neg c2]
      refine rest _ f1 ?_ (zm_ss _ _ _ _)
      rw [zm_row_c c t hb, if_neg c2]
      exact zm_rw_of hr rfl (zm_so h _ _) (zm_so h _ _)
theorem zm_lt_of_get {α : Type} {l : List α} {k : Nat} {x : α} (h : l[k]? = some x) : k < l.length := by
  apply Classical.byContradiction
  intro q
  rw [List.getElem?_eq_none (by omega)] at h
  cases h
theorem zm_sees161 (d : Nat) {row : List (Int × Int)} (hn : row.length ≤ 640) (f : Int → Int) (hf : ∀ p ∈ row, (0 ≤ p.1 ∧ p.1 ≤ 48) ∧ (f p.1 = 0 ∨ f p.1 = 1)) : ∀ (m i : Nat), i + m = row.length → ∀ h : zv_H, zm_M h → zm_rw h row → (∀ p ∈ row, zv_I h 354 p.1.toNat = f p.1) → (∀ (k : Nat) (x : Int × Int), k < i → row[k]? = some x → zv_I h 355 k = f x.1) → ∃ h', L9_sees_161 d 347 i h = L9_sees_161 d 347 row.length h' ∧ zm_F [355] [] h h' ∧ ∀ (k : Nat) (x : Int × Int), row[k]? = some x → zv_I h' 355 k = f x.1
  | 0, i, hi, h, _, _, _, hs => by
    have e : i = row.length := by omega
    exact ⟨h, by rw [e], zm_F_r _ _ h, fun k x hx => hs k x (by have := zm_lt_of_get hx; omega) hx⟩
  | m + 1, i, hi, h, hM, hr, h354, hs => by
    obtain ⟨x, hx⟩ : ∃ x, row[i]? = some x := ⟨_, List.getElem?_eq_getElem (by omega)⟩
    have hxm : x ∈ row := List.mem_of_getElem? hx
    have h1 := hf x hxm
    rw [qL9_sees_161, zm_e (zm_gI hM 11), hr.1, if_pos (by omega), zm_e (zm_f9 hM), zm_e (zm_f8 hM), zm_e (zm_f6 hM), zm_e (zm_aI hM zm_l352 rfl (by omega) (by omega))]
    rw [show ((i : Int)).toNat = i by omega, (hr.2 i x hx).1, zm_e (zm_aB hM zm_l354 (Or.inl rfl) rfl (by omega) (by omega)), h354 x hxm, zm_e (zm_wB hM zm_l355 rfl (by omega) (by omega) _), zm_w (by omega)]
    have nv : zv_nz (f x.1) = f x.1 := by
      unfold zv_nz
      omega
    rw [nv, show ((i : Int)).toNat = i by omega]
    obtain ⟨h', i1, i2, i3⟩ := zm_sees161 d hn f hf m (i + 1) (by omega) (zv_sI h 355 i (f x.1)) hM (zm_rw_of hr rfl (zm_so h _ _) (zm_so h _ _)) (fun p hp => by rw [zm_so h _ _]; exact h354 p hp) (fun k y hk hy => by
      rw [zm_ss]
      by_cases c1 : k = i
      · rw [c1, zm_u_s]
        rw [c1, hx] at hy
        rw [Option.some.inj hy]
      · rw [zm_u_o _ _ c1]
        exact hs k y (by omega) hy)
    exact ⟨h', i1, zm_F_t (zm_F_I (zm_F_r _ _ h) rfl _ _) i2, i3⟩
theorem zm_nd_at {row : List (Int × Int)} (hd : row.Nodup) {p x : Int × Int} (hp : p ∈ row) {k : Nat} (hx : row[k]? = some x) : k = (zm_at row p).toNat ↔ x = p := by
  have h1 := zm_at_mem hp
  constructor
  · intro e
    rw [e, h1.2] at hx
    exact (Option.some.inj hx).symm
  · intro e
    subst e
    have h2 := zm_lt_of_get hx
    have h3 := zm_lt_of_get h1.2
    rw [List.getElem?_eq_getElem h2] at hx
    have h4 := h1.2
    rw [List.getElem?_eq_getElem h3] at h4
    have h5 : row[k] = row[(zm_at row x).toNat] := (Option.some.inj hx).trans (Option.some.inj h4).symm
    have h6 := List.pairwise_iff_getElem.mp hd
    rcases Nat.lt_trichotomy k (zm_at row x).toNat with h7 | h7 | h7
    · exact absurd h5 (h6 _ _ h2 h3 h7)
    · exact h7
    · exact absurd h5.symm (h6 _ _ h3 h2 h7)
theorem zm_tk_get (c : Nat → Int) (t : Int) {i : Nat} (hi : i < (zm_o c t 5).toNat) : (zm_tk c t)[i]? = some (zm_o c t (52 + 2 * (i : Int)), zm_o c t (52 + 2 * (i : Int) + 1)) := by
  unfold zm_tk
  rw [List.getElem?_map, List.getElem?_range hi]
  rfl
theorem zm_tk_len (c : Nat → Int) (t : Int) : (zm_tk c t).length = (zm_o c t 5).toNat := by
  unfold zm_tk
  rw [List.length_map, List.length_range]
theorem zm_sees213 (d : Nat) (c : Nat → Int) {row : List (Int × Int)} (hn : row.length ≤ 640) (hd : row.Nodup) {t : Int} (ht : 0 ≤ t ∧ t ≤ 48) (hk : zm_o c t 2 = 1) (hm : 0 ≤ zm_o c t 5 ∧ zm_o c t 5 ≤ 12) (htk : ∀ p ∈ zm_tk c t, p ∈ row) (a3 : Int) : ∀ (m i : Nat), i + m = (zm_o c t 5).toNat → ∀ h : zv_H, zm_M h → zv_I h 348 = c → zm_rw h row → zv_I h 354 t.toNat = 1 → ∃ h', L9_sees_213 (d + 3) 347 a3 t i h = L9_sees_194 (d + 3) 347 (zv_w (a3 + 1)) h' ∧ zm_F [355] [] h h' ∧ ∀ (k : Nat) (x : Int × Int), row[k]? = some x → zv_I h' 355 k = if x ∈ (zm_tk c t).drop i then 0 else zv_I h 355 k
  | m, i, hi, h, hM, hc, hr, hf => by
    have hd0 : (zm_tk c t).drop i = if h : i < (zm_o c t 5).toNat then (zm_o c t (52 + 2 * (i : Int)), zm_o c t (52 + 2 * (i : Int) + 1)) :: (zm_tk c t).drop (i + 1) else [] := by
      by_cases q : i < (zm_o c t 5).toNat
      · rw [dif_pos q]
        have h1 := zm_tk_get c t q
        have h2 : i < (zm_tk c t).length := by rw [zm_tk_len]; exact q
        rw [List.getElem?_eq_getElem h2] at h1
        rw [List.drop_eq_getElem_cons h2, Option.some.inj h1]
      · rw [dif_neg q]
        exact List.drop_eq_nil_of_le (by rw [zm_tk_len]; omega)
    rw [qL9_sees_213, zm_e (zm_of hM _ ht (by decide)), hc]
    dsimp only
    rw [if_pos hk, zm_e (zm_f8 hM), zm_e (zm_aB hM zm_l354 (Or.inl rfl) rfl (by omega) (by omega)), hf, if_neg (by decide), zm_e (zm_of hM _ ht (by decide)), hc]
    dsimp only
    cases m with
    | zero =>
      rw [if_neg (by omega)]
      refine ⟨h, rfl, zm_F_r _ _ h, fun k x _ => ?_⟩
      rw [hd0, dif_neg (by omega), if_neg List.not_mem_nil]
    | succ m =>
      have hil : i < (zm_o c t 5).toNat := by omega
      have w1 : zv_w (52 + zv_w (2 * (i : Int))) = 52 + 2 * (i : Int) := by
        rw [zm_w (x := 2 * (i : Int)) (by omega), zm_w (by omega)]
      have w2 : zv_w (zv_w (52 + zv_w (2 * (i : Int))) + 1) = 52 + 2 * (i : Int) + 1 := by
        rw [w1, zm_w (by omega)]
      have hpm : (zm_o c t (52 + 2 * (i : Int)), zm_o c t (52 + 2 * (i : Int) + 1)) ∈ row := htk _ (List.mem_of_getElem? (zm_tk_get c t hil))
      have hat := zm_at_mem hpm
      have hat2 := zm_at_ge (zm_o c t (52 + 2 * (i : Int)), zm_o c t (52 + 2 * (i : Int) + 1)) row
      rw [if_pos (by omega), zm_e (zm_f9 hM), w2, w1, zm_e (zm_of hM _ ht (by omega)), zm_e (zm_of hM _ ht (by omega)), hc, zm_e (zm_rowOf hM _ _ _ hr hn)]
      dsimp only
      rw [zm_e (zm_wB hM zm_l355 rfl (by omega) (by omega) _), zm_w (by omega), show zv_nz 0 = 0 from rfl]
      obtain ⟨h', i1, i2, i3⟩ := zm_sees213 d c hn hd ht hk hm htk a3 m (i + 1) (by omega) (zv_sI h 355 (zm_at row (zm_o c t (52 + 2 * (i : Int)), zm_o c t (52 + 2 * (i : Int) + 1))).toNat 0) hM ((zm_so h _ _).trans hc) (zm_rw_of hr rfl (zm_so h _ _) (zm_so h _ _)) (by rw [zm_so h _ _]; exact hf)
      refine ⟨h', i1, zm_F_t (zm_F_I (zm_F_r _ _ h) rfl _ _) i2, fun k x hx => ?_⟩
      rw [i3 k x hx, hd0, dif_pos hil, zm_ss]
      have h8 := zm_nd_at hd hpm hx
      unfold zm_u
      by_cases c1 : x ∈ (zm_tk c t).drop (i + 1)
      · rw [if_pos c1, if_pos (List.mem_cons_of_mem _ c1)]
      · rw [if_neg c1]
        by_cases c2 : k = (zm_at row (zm_o c t (52 + 2 * (i : Int)), zm_o c t (52 + 2 * (i : Int) + 1))).toNat
        · rw [if_pos c2, if_pos (by rw [h8.mp c2]; exact List.mem_cons_self)]
        · rw [if_neg c2, if_neg]
          intro q
          rcases List.mem_cons.mp q with q | q
          · exact c2 (h8.mpr q)
          · exact c1 q
end
/-! 56.sees3 -/
section
theorem zm_cb_c (c : Nat → Int) (l0 b : List Int) (t : Int) (p : Int × Int) : zm_cb c l0 (t :: b) p = ((decide (zm_o c t 2 = 1) && (decide (zm_fc c l0 t = 1) && (zm_tk c t).contains p)) || zm_cb c l0 b p) := rfl
theorem zm_cb_a (c : Nat → Int) (l0 a : List Int) (t : Int) (p : Int × Int) : zm_cb c l0 (a ++ [t]) p = (zm_cb c l0 a p || (decide (zm_o c t 2 = 1) && (decide (zm_fc c l0 t = 1) && (zm_tk c t).contains p))) := by
  unfold zm_cb
  rw [List.any_append, List.any_cons, List.any_nil, Bool.or_false]
theorem zm_cb_rev (c : Nat → Int) (l0 b : List Int) (p : Int × Int) : zm_cb c l0 b.reverse p = zm_cb c l0 b p := by
  unfold zm_cb
  exact List.any_reverse
theorem zm_sees194 (d : Nat) (c : Nat → Int) {l : List Int} (hl : ∀ t ∈ l, 0 ≤ t ∧ t ≤ 48) (hln : l.length ≤ 49) {row : List (Int × Int)} (hn : row.length ≤ 640) (hd : row.Nodup) (ht : ∀ t ∈ l, zm_o c t 2 = 1 → (0 ≤ zm_o c t 5 ∧ zm_o c t 5 ≤ 12) ∧ ∀ p ∈ zm_tk c t, p ∈ row) : ∀ (re pr : List Int), pr ++ re = l.reverse → ∀ h : zv_H, zm_li h c l → zm_rw h row → (∀ x ∈ l, zv_I h 354 x.toNat = zm_fc c l x) → (∀ (k : Nat) (x : Int × Int), row[k]? = some x → zv_I h 355 k = if (decide (zm_fc c l x.1 = 1) && !(zm_cb c l pr x)) = true then 1 else 0) → ∃ h', L9_sees_194 (d + 3) 347 pr.length h = L9_sees_194 (d + 3) 347 l.length h' ∧ zm_F [355] [] h h' ∧ ∀ (k : Nat) (x : Int × Int), row[k]? = some x → zv_I h' 355 k = if zm_sn c l x = true then 1 else 0
  | [], pr, e, h, _, _, _, hs => by
    rw [List.append_nil] at e
    refine ⟨h, by rw [e, List.length_reverse], zm_F_r _ _ h, fun k x hx => ?_⟩
    rw [hs k x hx, e, zm_cb_rev]
    rfl
  | t :: re, pr, e, h, hli, hr, hf, hs => by
    have hlen : l.length = pr.length + (re.length + 1) := by rw [← List.length_reverse (as := l), ← e, List.length_append, List.length_cons]
    have e' : (pr ++ [t]) ++ re = l.reverse := by
      rw [List.append_assoc]
      exact e
    have htl : t ∈ l := by
      rw [← List.mem_reverse, ← e]
      exact List.mem_append_right _ List.mem_cons_self
    have hx : l.reverse[pr.length]? = some t := by
      rw [← e, List.getElem?_append_right (Nat.le_refl _), Nat.sub_self]
      rfl
    have h01 := hl t htl
    obtain ⟨hM, hc, h10, h351⟩ := id hli
    have w1 : zv_w ((pr.length : Int) + 1) = (((pr ++ [t]).length : Nat) : Int) := by
      rw [zm_w (by omega), List.length_append]
      rfl
    rw [qL9_sees_194, zm_e (zm_gI hM 10), h10, if_pos (by omega), zm_e (zm_f5 hM), zm_e (zm_aI hM zm_l351 rfl (by omega) (by omega))]
    rw [show ((pr.length : Int)).toNat = pr.length by omega, h351 _ _ hx]
    by_cases c1 : zm_o c t 2 = 1
    · by_cases c2 : zm_fc c l t = 1
      · obtain ⟨m1, m2⟩ := ht t htl c1
        obtain ⟨h1, i1, i2, i3⟩ := zm_sees213 d c hn hd h01 c1 m1 m2 (pr.length : Int) (zm_o c t 5).toNat 0 (by omega) h hM hc hr (by rw [hf t htl, c2])
        rw [show L9_sees_213 (d + 3) 347 _ _ 0 _ = _ from i1, w1]
        obtain ⟨h', j1, j2, j3⟩ := zm_sees194 d c hl hln hn hd ht re (pr ++ [t]) e' h1 (zm_li_F hli i2) (zm_rw_of hr (zm_F_g i2 11) (zm_F_a i2 352) (zm_F_a i2 353)) (fun x hx => by rw [zm_F_a i2 354]; exact hf x hx) (fun k x hx => by
          rw [i3 k x hx, hs k x hx, List.drop_zero, zm_cb_a, decide_eq_true c1, decide_eq_true c2, Bool.true_and, Bool.true_and]
          by_cases c3 : x ∈ zm_tk c t
          · rw [if_pos c3, List.contains_iff_mem.mpr c3, Bool.or_true, Bool.not_true, Bool.and_false, if_neg (by decide)]
          · have c4 : (zm_tk c t).contains x = false := by
              cases c5 : (zm_tk c t).contains x with
              | false => rfl
              | true => exact absurd (List.contains_iff_mem.mp c5) c3
            rw [if_neg c3, c4, Bool.or_false])
        exact ⟨h', j1, zm_F_t i2 j2, j3⟩
      · have c3 : zm_fc c l t = 0 := by
          rcases zm_fc_01 c t l with q | q
          · exact q
          · exact absurd q c2
        rw [qL9_sees_213, zm_e (zm_of hM _ h01 (by decide)), hc]
        dsimp only
        rw [if_pos c1, zm_e (zm_f8 hM), zm_e (zm_aB hM zm_l354 (Or.inl rfl) rfl (by omega) (by omega)), hf t htl, c3, if_pos rfl, w1]
        exact zm_sees194 d c hl hln hn hd ht re (pr ++ [t]) e' h hli hr hf (fun k x hx => by
          rw [hs k x hx, zm_cb_a, decide_eq_false c2, Bool.false_and, Bool.and_false, Bool.or_false])
    · rw [qL9_sees_213, zm_e (zm_of hM _ h01 (by decide)), hc]
      dsimp only
      rw [if_neg c1, w1]
      exact zm_sees194 d c hl hln hn hd ht re (pr ++ [t]) e' h hli hr hf (fun k x hx => by
        rw [hs k x hx, zm_cb_a, decide_eq_false c1, Bool.false_and, Bool.or_false])
theorem zm_sees303 (d : Nat) {row : List (Int × Int)} (hn : row.length ≤ 640) (f : Int × Int → Bool) : ∀ (b a : List (Int × Int)), a ++ b = row → ∀ h : zv_H, zm_M h → zm_rw h row → zv_I h 347 12 = (a.filter f).length → (∀ (k : Nat) (x : Int × Int), row[k]? = some x → zv_I h 355 k = if f x = true then 1 else 0) → ∃ h', L9_sees_303 d 347 a.length h = L9_sees_303 d 347 row.length h' ∧ zm_F [] [12] h h' ∧ zv_I h' 347 12 = (row.filter f).length
  | [], a, e, h, _, _, h12, _ => by
    rw [List.append_nil] at e
    subst e
    exact ⟨h, rfl, zm_F_r _ _ h, h12⟩
  | x :: b, a, e, h, hM, hr, h12, hs => by
    have hlen : row.length = a.length + (b.length + 1) := by rw [← e, List.length_append, List.length_cons]
    have hx : row[a.length]? = some x := by
      rw [← e, List.getElem?_append_right (Nat.le_refl _), Nat.sub_self]
      rfl
    have e' : (a ++ [x]) ++ b = row := by
      rw [List.append_assoc]
      exact e
    have hle : (a.filter f).length ≤ a.length := List.length_filter_le f a
    have w1 : zv_w ((a.length : Int) + 1) = (((a ++ [x]).length : Nat) : Int) := by
      rw [zm_w (by omega), List.length_append]
      rfl
    rw [qL9_sees_303, zm_e (zm_gI hM 11), hr.1, if_pos (by omega), zm_e (zm_gI hM 12), zm_e (zm_f9 hM), zm_e (zm_aB hM zm_l355 (Or.inl rfl) rfl (by omega) (by omega))]
    rw [show ((a.length : Int)).toNat = a.length by omega, hs _ x hx, h12, w1]
    by_cases c1 : f x = true
    · rw [if_pos c1, if_neg (by decide), zm_e (zm_pI hM 12 _), zm_w (by omega)]
      obtain ⟨h', i1, i2, i3⟩ := zm_sees303 d hn f b (a ++ [x]) e' (zv_sI h 347 12 (((a.filter f).length : Int) + 1)) hM ⟨hr.1, fun k y hy => by rw [zm_so h _ _, zm_so h _ _]; exact hr.2 k y hy⟩ (by
        rw [zm_ss, zm_u_s, List.filter_append, List.length_append, List.filter_cons_of_pos c1]
        rfl) (fun k y hy => by rw [zm_so h _ _]; exact hs k y hy)
      exact ⟨h', i1, zm_F_t (zm_F_f (zm_F_r _ _ h) rfl _) i2, i3⟩
    · rw [if_neg c1, if_pos rfl, zm_e (zm_pI hM 12 _), zm_w (by omega)]
      obtain ⟨h', i1, i2, i3⟩ := zm_sees303 d hn f b (a ++ [x]) e' (zv_sI h 347 12 (((a.filter f).length : Int) + 0)) hM ⟨hr.1, fun k y hy => by rw [zm_so h _ _, zm_so h _ _]; exact hr.2 k y hy⟩ (by
        rw [zm_ss, zm_u_s, List.filter_append, List.length_append, List.filter_cons_of_neg c1]
        rfl) (fun k y hy => by rw [zm_so h _ _]; exact hs k y hy)
      exact ⟨h', i1, zm_F_t (zm_F_f (zm_F_r _ _ h) rfl _) i2, i3⟩
theorem zm_Ln_h {c : Nat → Int} {l : List Int} {s : Int} (hl : zm_Ln c l s) (hs : 0 ≤ s) : ∃ b, l = s :: b := by
  cases l with
  | nil =>
    have : s < 0 := hl
    omega
  | cons t b => exact ⟨b, by rw [hl.1.1]⟩
theorem zm_sees {h : zv_H} {c : Nat → Int} (hM : zm_M h) (hc : zv_I h 348 = c) (d : Nat) {l : List Int} {s : Int} (hs : 0 ≤ s) (hl : zm_Ln c l s) (hn : l.length ≤ 49) (g : zm_G0 c l) (gt : ∀ t ∈ l, zm_o c t 2 = 1 → ∀ p ∈ zm_tk c t, p ∈ zm_row c l) : zm_R (C9_sees (d + 4) 347 s h) (fun h' => zm_F [351, 352, 353, 354, 355] [10, 11, 12] h h' ∧ zm_Sn h' c l) := by
  refine zm_cV (lC9_sees (zm_ob hM)) ?_
  obtain ⟨b0, eb0⟩ := zm_Ln_h hl hs
  have hlr := zm_Ln_r hl
  have hl2 : zm_Ln (zv_I h 348) (s :: b0) s := by
    rw [hc, ← eb0]
    exact hl
  have elen : l.length = b0.length + 1 := by rw [eb0, List.length_cons]
  rw [qE9_sees, zm_e (zm_depthOf hM (d + 1) hl2 (by omega)), zm_e (zm_pI hM 10 _)]
  dsimp only
  rw [show zv_w ((b0.length : Int) + 1) = (l.length : Int) by rw [zm_w (by omega)]; omega]
  have f0 : zm_F [351, 352, 353, 354, 355] [10, 11, 12] h (zv_sI h 347 10 (l.length : Int)) := zm_F_f (zm_F_r _ _ h) rfl _
  have hM0 := zm_F_M f0 hM
  have e10 : zv_I (zv_sI h 347 10 (l.length : Int)) 347 10 = l.length := by rw [zm_ss, zm_u_s]
  rw [zm_e (zm_gI hM0 10), e10, zm_w (by omega)]
  obtain ⟨h1, s1, i1, i2, i3, i4, _⟩ := zm_sees20 (d + 2) c l s hl hn (zv_sI h 347 10 (l.length : Int)) hM0 ((zm_F_a f0 348).trans hc)
  have hM1 := zm_F_M i3 hM0
  have c1 : zv_I h1 348 = c := (zm_F_a i3 348).trans ((zm_F_a f0 348).trans hc)
  have li1 : zm_li h1 c l := ⟨hM1, c1, (zm_F_g i3 10).trans e10, i4⟩
  obtain ⟨n0, en0⟩ : ∃ n : Nat, zm_o c 0 5 = n := ⟨(zm_o c 0 5).toNat, by have := g.2.2.1; omega⟩
  have hn0 : n0 ≤ 40 := by
    have := g.2.2.1
    omega
  rw [i1, qL9_sees_20, if_pos i2, zm_e (zm_of hM1 _ (by decide) (by decide)), c1, en0]
  dsimp only
  rw [zm_e (zm_pI hM1 11 _)]
  have f2 : zm_F [] [11] h1 (zv_sI h1 347 11 (n0 : Int)) := zm_F_f (zm_F_r _ _ h1) rfl _
  obtain ⟨h3, j1, j2, j3⟩ := zm_sees56 (d + 3) n0 hn0 n0 0 (by omega) (zv_sI h1 347 11 (n0 : Int)) (zm_F_M f2 hM1) (by rw [zm_ss, zm_u_s]) (fun k hk => by omega)
  have hM3 := zm_F_M j2 (zm_F_M f2 hM1)
  have li3 := zm_li_F (zm_li_F li1 f2) j2
  have h311 : zv_I h3 347 11 = n0 := by rw [zm_F_g j2 11, zm_ss, zm_u_s]
  rw [show L9_sees_56 (d + 3) 347 0 _ = _ from j1, qL9_sees_56, zm_e (zm_gI hM3 11), h311, if_neg (by omega), zm_e (zm_f8 hM3), zm_e (zm_wB hM3 zm_l354 rfl (by decide) (by decide) _), show zv_nz 1 = 1 from rfl]
  have f4 : zm_F [354] [] h3 (zv_sI h3 354 (Int.toNat 0) 1) := zm_F_I (zm_F_r _ _ h3) rfl _ _
  have elast : l = l.reverse.tail.reverse ++ [0] := by
    have g2 := g.2.1
    have hne : l.reverse ≠ [] := by
      intro q
      rw [List.reverse_eq_nil_iff] at q
      rw [q] at eb0
      cases eb0
    have h9 : l.reverse.head? = some 0 := by rw [List.head?_reverse]; exact g2
    cases e8 : l.reverse with
    | nil => exact absurd e8 hne
    | cons y r =>
      rw [e8] at h9
      have ey : y = 0 := Option.some.inj h9
      rw [List.tail_cons]
      have := congrArg List.reverse e8
      rw [List.reverse_reverse, List.reverse_cons, ey] at this
      exact this
  have hrow0 : zm_rw (zv_sI h3 354 (Int.toNat 0) 1) (zm_row c [0]) := by
    refine ⟨?_, fun k x hx => ?_⟩
    · rw [zm_row_1, zm_rs_len, en0]
      show zv_I (zv_sI h3 354 (Int.toNat 0) 1) 347 11 = _
      rw [zm_F_g f4 11, h311]
      rfl
    · rw [zm_row_1, en0] at hx
      have hk := zm_lt_of_get hx
      rw [zm_rs_len] at hk
      rw [zm_rs_get _ _ hk] at hx
      rw [zm_so h3 _ _, zm_so h3 _ _, ← Option.some.inj hx]
      exact j3 k (by omega)
  obtain ⟨h5, k1, k2, k3, k4⟩ := zm_sees93 d c hlr hn g l.reverse.tail [0] elast.symm (List.cons_ne_nil _ _) _ (zm_li_F li3 f4) hrow0 (fun x hx => by
    have ex : x = 0 := List.mem_singleton.mp hx
    rw [ex, zm_ss]
    rfl)
  have hM5 := zm_F_M k2 (zm_F_M f4 hM3)
  have li5 := zm_li_F (zm_li_F li3 f4) k2
  rw [show L9_sees_93 (d + 3) 347 1 _ = _ from k1, qL9_sees_93, zm_e (zm_gI hM5 10), li5.2.2.1, if_neg (by omega)]
  have hrl := zm_row_le g
  have hrmem : ∀ p ∈ zm_row c l, (0 ≤ p.1 ∧ p.1 ≤ 48) ∧ (zm_fc c l p.1 = 0 ∨ zm_fc c l p.1 = 1) := fun p hp => ⟨hlr _ (zm_row_mem hp).1, zm_fc_01 c _ l⟩
  obtain ⟨h6, m1, m2, m3⟩ := zm_sees161 (d + 3) (row := zm_row c l) (by omega) (zm_fc c l) hrmem (zm_row c l).length 0 (by omega) h5 hM5 k3 (fun p hp => k4 _ (zm_row_mem hp).1) (fun k x hk => by omega)
  have hM6 := zm_F_M m2 hM5
  have r6 : zm_rw h6 (zm_row c l) := zm_rw_of k3 (zm_F_g m2 11) (zm_F_a m2 352) (zm_F_a m2 353)
  rw [show L9_sees_161 (d + 3) 347 0 _ = _ from m1, qL9_sees_161, zm_e (zm_gI hM6 11), r6.1, if_neg (by omega)]
  have c00 : ∀ p, zm_cb c l [0] p = false := by
    intro p
    rw [zm_cb_c, decide_eq_false (by rw [g.2.2.2.1]; decide), Bool.false_and, Bool.false_or]
    rfl
  have ehd : [0] ++ l.reverse.tail = l.reverse := by
    have := congrArg List.reverse elast
    rw [List.reverse_append, List.reverse_reverse] at this
    exact this.symm
  obtain ⟨h7, n1, n2, n3⟩ := zm_sees194 d c hlr hn (row := zm_row c l) (by omega) (zm_row_nd g.1) (fun t ht hk => ⟨g.2.2.2.2 t ht (fun q => by rw [q, g.2.2.2.1] at hk; cases hk) (Or.inr hk), gt t ht hk⟩) l.reverse.tail [0] ehd h6 (zm_li_F li5 m2) r6 (fun x hx => by rw [zm_F_a m2 354]; exact k4 x hx) (fun k x hx => by
    rw [m3 k x hx, c00, Bool.not_false, Bool.and_true]
    rcases zm_fc_01 c x.1 l with q | q
    · rw [q, if_neg (by decide)]
    · rw [q, if_pos (by decide)])
  have hM7 := zm_F_M n2 hM6
  have li7 := zm_li_F (zm_li_F li5 m2) n2
  have r7 : zm_rw h7 (zm_row c l) := zm_rw_of r6 (zm_F_g n2 11) (zm_F_a n2 352) (zm_F_a n2 353)
  rw [show L9_sees_194 (d + 3) 347 1 _ = _ from n1, qL9_sees_194, zm_e (zm_gI hM7 10), li7.2.2.1, if_neg (by omega), zm_e (zm_pI hM7 12 _)]
  have f8 : zm_F [] [12] h7 (zv_sI h7 347 12 0) := zm_F_f (zm_F_r _ _ h7) rfl _
  obtain ⟨h9, o1, o2, o3⟩ := zm_sees303 (d + 3) (row := zm_row c l) (by omega) (zm_sn c l) (zm_row c l) [] rfl _ (zm_F_M f8 hM7) (zm_rw_of r7 (zm_F_g f8 11) (zm_F_a f8 352) (zm_F_a f8 353)) (by rw [zm_ss, zm_u_s]; rfl) (fun k x hx => by rw [zm_so h7 _ _]; exact n3 k x hx)
  have hM9 := zm_F_M o2 (zm_F_M f8 hM7)
  have r9 : zm_rw h9 (zm_row c l) := zm_rw_of (zm_rw_of r7 (zm_F_g f8 11) (zm_F_a f8 352) (zm_F_a f8 353)) (zm_F_g o2 11) (zm_F_a o2 352) (zm_F_a o2 353)
  rw [show L9_sees_303 (d + 3) 347 0 _ = _ from o1, qL9_sees_303, zm_e (zm_gI hM9 11), r9.1, if_neg (by omega)]
  have li9 := zm_li_F (zm_li_F li7 f8) o2
  refine zm_iV ⟨?_, ⟨li9.2.2.1, li9.2.2.2⟩, r9, fun x hx => ?_, fun k x hx => ?_, o3⟩
  · refine zm_F_t f0 (zm_F_t (zm_F_s i3 rfl rfl) (zm_F_t (zm_F_s f2 rfl rfl) (zm_F_t (zm_F_s j2 rfl rfl) (zm_F_t (zm_F_s f4 rfl rfl) (zm_F_t (zm_F_s k2 rfl rfl) (zm_F_t (zm_F_s m2 rfl rfl) (zm_F_t (zm_F_s n2 rfl rfl) (zm_F_t (zm_F_s f8 rfl rfl) (zm_F_s o2 rfl rfl)))))))))
  · rw [zm_F_a o2 354, zm_F_a f8 354, zm_F_a n2 354, zm_F_a m2 354]
    exact k4 x hx
  · rw [zm_F_a o2 355, zm_F_a f8 355]
    exact n3 k x hx
end
/-! 57.wf -/
section
/-! ===== what holds of the numbers between calls ===== -/
theorem zm_nd_le {n : Nat} : ∀ {l : List Int}, l.Nodup → (∀ t ∈ l, 0 ≤ t ∧ t < n) → l.length ≤ n := by
  induction n with
  | zero =>
    intro l _ h
    cases l with
    | nil => exact Nat.le_refl _
    | cons t b =>
      have := h t List.mem_cons_self
      omega
  | succ n ih =>
    intro l hd h
    have h1 := ih (l := l.erase (n : Int)) (hd.erase _) (fun t ht => by
      have h2 := (List.Nodup.mem_erase_iff hd).mp ht
      have h3 := h t h2.2
      have h4 : t ≠ n := h2.1
      omega)
    have h2 := List.length_erase (a := (n : Int)) (l := l)
    split at h2
    · omega
    · omega
/-- one's codes -/
def zm_cd (c : Nat → Int) : List Int := (List.range (c 4).toNat).map fun k : Nat => c (8 + k)
/-- steps over a heap of so many truths, at last one -/
def zm_ph : List Int → Int → Prop
  | [], n => n = 1
  | v :: r, n => if 0 ≤ v then zm_ph r (n + 1) else if v = -1 then 1 ≤ n ∧ zm_ph r n else 2 ≤ n ∧ zm_ph r (n - 1)
/-- the line of a state, as it must be -/
def zm_Lw (c : Nat → Int) (l : List Int) : Prop := l.Nodup ∧ l.getLast? = some 0 ∧ ∀ t ∈ l, zm_st c t
/-- of one state, by its line -/
def zm_W1 (c : Nat → Int) (s : Int) (l : List Int) : Prop := zm_Ln c (s :: l) s ∧ zm_Lw c (s :: l) ∧ (s ≠ 0 → zm_o c s 6 ∈ s :: l ∧ zm_o c s 6 ≠ 0) ∧ (s ≠ 0 → zm_ed c s → 0 ≤ zm_o c s 5 ∧ zm_o c s 5 ≤ 12) ∧ (zm_o c s 2 = 1 → ∀ p ∈ zm_tk c s, p ∈ zm_row c l) ∧ (-1 ≤ zm_o c s 8 ∧ zm_o c s 8 ≤ 47) ∧ ((zm_row c (s :: l)).filter (zm_sn c (s :: l))).length ≤ 120
/-- the tree -/
def zm_Wt (c : Nat → Int) : Prop := (∀ s, 0 ≤ s → s ≤ 47 → zm_o c s 0 = 0 ∨ zm_o c s 0 = 1) ∧ (zm_st c 0 ∧ zm_o c 0 1 = -1 ∧ zm_o c 0 2 = -1 ∧ 0 ≤ zm_o c 0 5 ∧ zm_o c 0 5 ≤ 40) ∧ ∀ s, zm_st c s → ∃ l, zm_W1 c s l
/-- the head: names, codes, log -/
def zm_Wh (c : Nat → Int) : Prop := (0 ≤ c 3 ∧ c 3 ≤ 12) ∧ (0 ≤ c 4 ∧ c 4 ≤ 392) ∧ (c 4 = 0 ∨ zm_ph (zm_cd c) 0) ∧ (0 ≤ c 5 ∧ c 5 ≤ 40)
def zm_W (c : Nat → Int) : Prop := zm_Wt c ∧ zm_st c (c 0) ∧ zm_Wh c
theorem zm_row_up {c : Nat → Int} {b : List Int} (hb : b ≠ []) {p : Int × Int} (hp : p ∈ zm_row c b) : ∀ a : List Int, p ∈ zm_row c (a ++ b)
  | [] => hp
  | t :: a => by
    have ih := zm_row_up hb hp a
    have hn : a ++ b ≠ [] := fun e => hb (List.append_eq_nil_iff.mp e).2
    show p ∈ zm_row c (t :: (a ++ b))
    rw [zm_row_c c t hn]
    split
    · exact zm_ins_mem.mpr (Or.inl ih)
    · exact ih
theorem zm_Lw_ne {c : Nat → Int} {s : Int} {l : List Int} (hw : zm_Lw c (s :: l)) (hs : s ≠ 0) : l ≠ [] := by
  intro e
  rw [e] at hw
  exact hs (Option.some.inj hw.2.1)
/-- all that sees wants of the line of a state -/
theorem zm_W_l {c : Nat → Int} (hW : zm_Wt c) {s : Int} (hs : zm_st c s) : ∃ l, zm_W1 c s l ∧ l.length ≤ 47 ∧ zm_G0 c (s :: l) ∧ ∀ t ∈ s :: l, zm_o c t 2 = 1 → ∀ p ∈ zm_tk c t, p ∈ zm_row c (s :: l) := by
  obtain ⟨w1, ⟨w2, w3, w4, w5⟩, w6⟩ := hW
  obtain ⟨l, hl⟩ := w6 s hs
  obtain ⟨a1, a2, a3, a4, a5, a6, a7⟩ := id hl
  have hlen : (s :: l).length ≤ 48 := zm_nd_le (n := 48) a2.1 (fun t ht => by have := (a2.2.2 t ht).1; omega)
  rw [List.length_cons] at hlen
  refine ⟨l, hl, by omega, ⟨a2.1, a2.2.1, w5, w4, fun t ht h0 he => ?_⟩, fun t ht hk p hp => ?_⟩
  · obtain ⟨l', hl'⟩ := w6 t (a2.2.2 t ht)
    exact hl'.2.2.2.1 h0 he
  · obtain ⟨a, b, e1, e2⟩ := zm_Ln_s a1 t ht
    obtain ⟨l', hl'⟩ := w6 t (a2.2.2 t ht)
    have e3 : t :: b = t :: l' := zm_Ln_u e2 hl'.1
    have e4 : b = l' := (List.cons.inj e3).2
    have ht0 : t ≠ 0 := fun q => by rw [q, w4] at hk; cases hk
    have hne := zm_Lw_ne hl'.2.1 ht0
    rw [e1, e4]
    have hp' := hl'.2.2.2.2.1 hk p hp
    rw [show a ++ t :: l' = (a ++ [t]) ++ l' by rw [List.append_assoc]; rfl]
    exact zm_row_up hne hp' _
/-- two arrays of numbers that agree about a state (but for its life and its last visit) -/
def zm_ag (c c' : Nat → Int) (t : Int) : Prop := ∀ w : Int, 1 ≤ w → w < 76 → w ≠ 7 → zm_o c' t w = zm_o c t w
theorem zm_Ln_cg {c c' : Nat → Int} : ∀ {l : List Int} {s : Int}, (∀ t ∈ l, zm_ag c c' t) → zm_Ln c l s → zm_Ln c' l s
  | [], _, _, h => h
  | t :: l, s, ha, h => by
    refine ⟨h.1, ?_⟩
    rw [ha t List.mem_cons_self 1 (by decide) (by decide) (by decide)]
    exact zm_Ln_cg (fun u hu => ha u (List.mem_cons_of_mem _ hu)) h.2
theorem zm_ins_cg {c c' : Nat → Int} {t : Int} (ha : zm_ag c c' t) (row : List (Int × Int)) : zm_ins c' t row = zm_ins c t row := by
  unfold zm_ins
  rw [ha 8 (by decide) (by decide) (by decide), ha 9 (by decide) (by decide) (by decide), ha 5 (by decide) (by decide) (by decide)]
theorem zm_row_cg {c c' : Nat → Int} : ∀ {l : List Int}, (∀ t ∈ l, zm_ag c c' t) → zm_row c' l = zm_row c l
  | [], _ => rfl
  | [t], ha => by
    rw [zm_row_1, zm_row_1, ha t List.mem_cons_self 5 (by decide) (by decide) (by decide)]
  | t :: u :: l, ha => by
    have h1 := ha t List.mem_cons_self
    rw [zm_row_c c' t (List.cons_ne_nil _ _), zm_row_c c t (List.cons_ne_nil _ _), h1 2 (by decide) (by decide) (by decide), zm_row_cg (fun v hv => ha v (List.mem_cons_of_mem _ hv)), zm_ins_cg h1]
theorem zm_nm_cg {c c' : Nat → Int} {t : Int} (ha : zm_ag c c' t) (x : Int) : zm_nm c' t x ↔ zm_nm c t x := by
  show zv_and (zv_shr (zm_o c' t (if x < 24 then 10 else 11)) (x.tmod 24)) 1 = 1 ↔ zv_and (zv_shr (zm_o c t (if x < 24 then 10 else 11)) (x.tmod 24)) 1 = 1
  split
  · rw [ha 10 (by decide) (by decide) (by decide)]
  · rw [ha 11 (by decide) (by decide) (by decide)]
theorem zm_ed_cg {c c' : Nat → Int} {t : Int} (ha : zm_ag c c' t) : zm_ed c' t ↔ zm_ed c t := by
  show zm_o c' t 2 = 0 ∨ zm_o c' t 2 = 1 ↔ zm_o c t 2 = 0 ∨ zm_o c t 2 = 1
  rw [ha 2 (by decide) (by decide) (by decide)]
theorem zm_ic {p q : Prop} [Decidable p] [Decidable q] (h : p ↔ q) {α : Type} {a b a' b' : α} (ea : a = a') (eb : b = b') : (if p then a else b) = if q then a' else b' := by
  by_cases hp : p
  · rw [if_pos hp, if_pos (h.mp hp), ea]
  · rw [if_neg hp, if_neg (fun hq => hp (h.mpr hq)), eb]
theorem zm_fc_cg {c c' : Nat → Int} (x : Int) : ∀ {l : List Int}, (∀ t ∈ l, zm_ag c c' t) → zm_fc c' l x = zm_fc c l x
  | [], _ => rfl
  | [t], _ => rfl
  | t :: u :: l, ha => by
    have h1 := ha t List.mem_cons_self
    rw [zm_fc_c c' t (List.cons_ne_nil _ _), zm_fc_c c t (List.cons_ne_nil _ _)]
    refine zm_ic ?_ (zm_ic (by rw [h1 2 (by decide) (by decide) (by decide)]) rfl rfl) (zm_ic Iff.rfl (zm_ic (zm_ed_cg h1) rfl rfl) (zm_fc_cg x (fun v hv => ha v (List.mem_cons_of_mem _ hv))))
    rw [zm_ed_cg h1, zm_nm_cg h1]
theorem zm_tk_cg {c c' : Nat → Int} {t : Int} (ha : zm_ag c c' t) (hm : zm_o c t 5 ≤ 12) : zm_tk c' t = zm_tk c t := by
  unfold zm_tk
  rw [ha 5 (by decide) (by decide) (by decide)]
  refine List.map_congr_left ?_
  intro i hi
  have := List.mem_range.mp hi
  rw [ha _ (by omega) (by omega) (by omega), ha _ (by omega) (by omega) (by omega)]
theorem zm_any_cg {α : Type} {f g : α → Bool} : ∀ {l : List α}, (∀ t ∈ l, f t = g t) → l.any f = l.any g
  | [], _ => rfl
  | t :: l, h => by rw [List.any_cons, List.any_cons, h t List.mem_cons_self, zm_any_cg (fun u hu => h u (List.mem_cons_of_mem _ hu))]
theorem zm_cb_cg {c c' : Nat → Int} {l0 b : List Int} (p : Int × Int) (h0 : ∀ t ∈ l0, zm_ag c c' t) (hb : ∀ t ∈ b, zm_ag c c' t) (hm : ∀ t ∈ b, zm_o c t 2 = 1 → zm_o c t 5 ≤ 12) : zm_cb c' l0 b p = zm_cb c l0 b p := by
  refine zm_any_cg ?_
  intro t ht
  rw [hb t ht 2 (by decide) (by decide) (by decide), zm_fc_cg t h0]
  by_cases h1 : zm_o c t 2 = 1
  · rw [zm_tk_cg (hb t ht) (hm t ht h1)]
  · rw [decide_eq_false h1, Bool.false_and, Bool.false_and]
theorem zm_sn_cg {c c' : Nat → Int} {l : List Int} (p : Int × Int) (ha : ∀ t ∈ l, zm_ag c c' t) (hm : ∀ t ∈ l, zm_o c t 2 = 1 → zm_o c t 5 ≤ 12) : zm_sn c' l p = zm_sn c l p := by
  unfold zm_sn
  rw [zm_fc_cg p.1 ha, zm_cb_cg p ha ha hm]
theorem zm_cut12 {c : Nat → Int} {l : List Int} (g : zm_G0 c l) : ∀ t ∈ l, zm_o c t 2 = 1 → zm_o c t 5 ≤ 12 := by
  intro t ht hk
  exact (g.2.2.2.2 t ht (fun q => by rw [q, g.2.2.2.1] at hk; cases hk) (Or.inr hk)).2
theorem zm_fl_cg {α : Type} {f g : α → Bool} : ∀ {l : List α}, (∀ t ∈ l, f t = g t) → l.filter f = l.filter g
  | [], _ => rfl
  | t :: l, h => by
    have ih := zm_fl_cg (fun u hu => h u (List.mem_cons_of_mem _ hu))
    rw [List.filter_cons, List.filter_cons, h t List.mem_cons_self, ih]
/-- a state whose line agrees stands as it stood -/
theorem zm_W1_cg {c c' : Nat → Int} {s : Int} {l : List Int} (h : zm_W1 c s l) (g : zm_G0 c (s :: l)) (ha : ∀ t ∈ s :: l, zm_ag c c' t) (hst : ∀ t ∈ s :: l, zm_st c' t) : zm_W1 c' s l := by
  obtain ⟨a1, a2, a3, a4, a5, a6, a7⟩ := h
  have hs := ha s List.mem_cons_self
  have hal : ∀ t ∈ l, zm_ag c c' t := fun t ht => ha t (List.mem_cons_of_mem _ ht)
  refine ⟨zm_Ln_cg ha a1, ⟨a2.1, a2.2.1, hst⟩, ?_, ?_, ?_, ?_, ?_⟩
  · rw [hs 6 (by decide) (by decide) (by decide)]
    exact a3
  · rw [zm_ed_cg hs, hs 5 (by decide) (by decide) (by decide)]
    exact a4
  · intro hk p hp
    rw [hs 2 (by decide) (by decide) (by decide)] at hk
    rw [zm_tk_cg hs (zm_cut12 g s List.mem_cons_self hk)] at hp
    rw [zm_row_cg hal]
    exact a5 hk p hp
  · rw [hs 8 (by decide) (by decide) (by decide)]
    exact a6
  · rw [zm_row_cg ha, zm_fl_cg (fun p _ => zm_sn_cg p ha (zm_cut12 g))]
    exact a7
end
/-! 58.rd2 -/
section
/-! ===== the reference: what is read off a reckoned row ===== -/
def zm_SA : List Nat := [351, 352, 353, 354, 355]
def zm_SB : List Nat := [10, 11, 12]
theorem zm_sees_st {h : zv_H} {c : Nat → Int} (hM : zm_M h) (hc : zv_I h 348 = c) (d : Nat) {s : Int} {l : List Int} (h1 : zm_W1 c s l) (h2 : l.length ≤ 47) (h3 : zm_G0 c (s :: l)) (h4 : ∀ t ∈ s :: l, zm_o c t 2 = 1 → ∀ p ∈ zm_tk c t, p ∈ zm_row c (s :: l)) : zm_R (C9_sees (d + 4) 347 s h) (fun h' => zm_F [351, 352, 353, 354, 355] [10, 11, 12] h h' ∧ zm_Sn h' c (s :: l)) :=
  zm_sees hM hc d h1.1.1.2.1 h1.1 (by rw [List.length_cons]; omega) h3 h4
theorem zm_Sn_F {A B : List Nat} {h h' : zv_H} {c : Nat → Int} {l : List Int} (s : zm_Sn h c l) (f : zm_F A B h h') (a1 : A.contains 351 = false := by rfl) (a2 : A.contains 352 = false := by rfl) (a3 : A.contains 353 = false := by rfl) (a4 : A.contains 354 = false := by rfl) (a5 : A.contains 355 = false := by rfl) (b1 : B.contains 10 = false := by rfl) (b2 : B.contains 11 = false := by rfl) (b3 : B.contains 12 = false := by rfl) : zm_Sn h' c l := by
  obtain ⟨⟨s1, s2⟩, s3, s4, s5, s6⟩ := s
  refine ⟨⟨(zm_F_g f 10 b1).trans s1, fun k x hx => ?_⟩, zm_rw_of s3 (zm_F_g f 11 b2) (zm_F_a f 352 a2) (zm_F_a f 353 a3), fun x hx => ?_, fun k x hx => ?_, (zm_F_g f 12 b3).trans s6⟩
  · rw [zm_F_a f 351 a1]
    exact s2 k x hx
  · rw [zm_F_a f 354 a4]
    exact s4 x hx
  · rw [zm_F_a f 355 a5]
    exact s5 k x hx
def zm_inc (q : Int) : Int := if q < 0 then -1 else q + 1
/-- where the n-th stands of those that one sees -/
def zm_rp {α : Type} (f : α → Bool) : List α → Int → Int
  | [], _ => -1
  | x :: r, n => if f x = true then (if n = 0 then 0 else zm_inc (zm_rp f r (n - 1))) else zm_inc (zm_rp f r n)
theorem zm_rp_ge {α : Type} (f : α → Bool) : ∀ (r : List α) (n : Int), -1 ≤ zm_rp f r n ∧ zm_rp f r n < r.length
  | [], n => by
    show -1 ≤ (-1 : Int) ∧ (-1 : Int) < ((0 : Nat) : Int)
    omega
  | x :: r, n => by
    have h1 := zm_rp_ge f r n
    have h2 := zm_rp_ge f r (n - 1)
    unfold zm_rp zm_inc
    rw [List.length_cons]
    split
    · split
      · omega
      · split
        · omega
        · omega
    · split
      · omega
      · omega
theorem zm_rp_in {α : Type} (f : α → Bool) : ∀ (r : List α) (n : Nat), n < (r.filter f).length → 0 ≤ zm_rp f r n ∧ r[(zm_rp f r n).toNat]? = (r.filter f)[n]?
  | [], n, h => by
    exact absurd h (Nat.not_lt_zero _)
  | x :: r, n, h => by
    have ex : zm_rp f (x :: r) (n : Int) = if f x = true then (if (n : Int) = 0 then 0 else zm_inc (zm_rp f r ((n : Int) - 1))) else zm_inc (zm_rp f r n) := rfl
    rw [ex]
    by_cases c1 : f x = true
    · rw [List.filter_cons_of_pos c1] at h ⊢
      rw [if_pos c1]
      by_cases c2 : (n : Int) = 0
      · have c3 : n = 0 := by omega
        rw [if_pos c2, c3]
        exact ⟨Int.le_refl _, rfl⟩
      · obtain ⟨m, rfl⟩ : ∃ m, n = m + 1 := ⟨n - 1, by omega⟩
        rw [List.length_cons] at h
        have ih := zm_rp_in f r m (by omega)
        have e : ((m + 1 : Nat) : Int) - 1 = m := by omega
        rw [if_neg c2, e]
        unfold zm_inc
        rw [if_neg (by omega), List.getElem?_cons_succ, show (zm_rp f r m + 1).toNat = (zm_rp f r m).toNat + 1 by omega, List.getElem?_cons_succ]
        exact ⟨by omega, ih.2⟩
    · rw [List.filter_cons_of_neg c1] at h ⊢
      have ih := zm_rp_in f r n h
      rw [if_neg c1]
      unfold zm_inc
      rw [if_neg (by omega), show (zm_rp f r n + 1).toNat = (zm_rp f r n).toNat + 1 by omega, List.getElem?_cons_succ]
      exact ⟨by omega, ih.2⟩
theorem zm_rowPlace_l {h : zv_H} {row : List (Int × Int)} (hM : zm_M h) (hn : row.length ≤ 640) (d : Nat) (f : Int × Int → Bool) (h11 : zv_I h 347 11 = row.length) (hs : ∀ (k : Nat) (x : Int × Int), row[k]? = some x → zv_I h 355 k = if f x = true then 1 else 0) : ∀ (b a : List (Int × Int)), a ++ b = row → ∀ n : Int, -1000 ≤ n + (a.length : Int) → n < 2000000000 → L9_rowPlace_4 d 347 n a.length h = some (some (zv_i (if zm_rp f b n < 0 then -1 else a.length + zm_rp f b n)), h)
  | [], a, e, n, _, _ => by
    rw [List.append_nil] at e
    rw [qL9_rowPlace_4, zm_e (zm_gI hM 11), h11, e, if_neg (by omega)]
    rw [show zm_rp f [] n = -1 from rfl, if_pos (by decide)]
  | x :: b, a, e, n, n1, n2 => by
    have hlen : row.length = a.length + (b.length + 1) := by rw [← e, List.length_append, List.length_cons]
    have hx : row[a.length]? = some x := by
      rw [← e, List.getElem?_append_right (Nat.le_refl _), Nat.sub_self]
      rfl
    have e' : (a ++ [x]) ++ b = row := by
      rw [List.append_assoc]
      exact e
    have el : (((a ++ [x]).length : Nat) : Int) = (a.length : Int) + 1 := by
      rw [List.length_append]
      rfl
    have w1 : zv_w ((a.length : Int) + 1) = (((a ++ [x]).length : Nat) : Int) := by
      rw [zm_w (by omega), el]
    have ex : zm_rp f (x :: b) n = if f x = true then (if n = 0 then 0 else zm_inc (zm_rp f b (n - 1))) else zm_inc (zm_rp f b n) := rfl
    have fin : ∀ m : Int, (if zm_rp f b m < 0 then (-1 : Int) else ((a ++ [x]).length : Int) + zm_rp f b m) = if zm_inc (zm_rp f b m) < 0 then -1 else (a.length : Int) + zm_inc (zm_rp f b m) := by
      intro m
      unfold zm_inc
      by_cases q : zm_rp f b m < 0
      · rw [if_pos q, if_pos q, if_pos (by decide)]
      · rw [if_neg q, if_neg q, if_neg (by omega), el]
        omega
    rw [qL9_rowPlace_4, zm_e (zm_gI hM 11), h11, if_pos (by omega), zm_e (zm_f9 hM), zm_e (zm_aB hM zm_l355 (Or.inl rfl) rfl (by omega) (by omega))]
    rw [show ((a.length : Int)).toNat = a.length by omega, hs _ x hx, w1, ex]
    by_cases c1 : f x = true
    · rw [if_pos c1, if_neg (by decide), if_pos c1]
      by_cases c2 : n = 0
      · rw [if_pos c2, if_pos c2, if_neg (by decide), Int.add_zero]
      · rw [if_neg c2, if_neg c2, zm_w (by omega), show n + -1 = n - 1 by omega, zm_rowPlace_l hM hn d f h11 hs b (a ++ [x]) e' (n - 1) (by rw [el]; omega) (by omega), fin]
    · rw [if_neg c1, if_pos rfl, if_neg c1, zm_rowPlace_l hM hn d f h11 hs b (a ++ [x]) e' n (by rw [el]; omega) (by omega), fin]
theorem zm_rowPlace {h : zv_H} {c : Nat → Int} {l : List Int} (hM : zm_M h) (d : Nat) (hs : zm_Sn h c l) (hn : (zm_row c l).length ≤ 640) {n : Int} (n1 : 0 ≤ n) (n2 : n < 1000000) : C9_rowPlace (d + 1) 347 n h = some (zm_rp (zm_sn c l) (zm_row c l) n, h) := by
  refine lC9_rowPlace (zm_ob hM) ?_
  have h2 := zm_rp_ge (zm_sn c l) (zm_row c l) n
  rw [qE9_rowPlace, show L9_rowPlace_4 d 347 n 0 h = _ from zm_rowPlace_l hM hn d (zm_sn c l) hs.2.1.1 hs.2.2.2.1 (zm_row c l) [] rfl n (by show -1000 ≤ n + (0 : Int); omega) (by omega)]
  by_cases q : zm_rp (zm_sn c l) (zm_row c l) n < 0
  · rw [if_pos q, show zm_rp (zm_sn c l) (zm_row c l) n = -1 by omega]
  · rw [if_neg q, show ((([] : List (Int × Int)).length : Nat) : Int) = 0 from rfl, Int.zero_add]
/-- the letter itself -/
def zm_lt (c : Nat → Int) (x : Int × Int) : Int := zm_o c x.1 (12 + x.2)
theorem zm_letterIn {h : zv_H} {c : Nat → Int} {row : List (Int × Int)} (hM : zm_M h) (hc : zv_I h 348 = c) (d : Nat) (hr : zm_rw h row) (hn : row.length ≤ 640) {k : Nat} {x : Int × Int} (hx : row[k]? = some x) (h1 : 0 ≤ x.1 ∧ x.1 ≤ 48) (h2 : 0 ≤ x.2 ∧ x.2 < 64) : C9_letterIn (d + 2) 347 k h = some (zm_lt c x, h) := by
  refine lC9_letterIn (zm_ob hM) ?_
  have hk := zm_lt_of_get hx
  have h3 := hr.2 k x hx
  rw [qE9_letterIn, zm_e (zm_f6 hM), zm_e (zm_aI hM zm_l352 rfl (by omega) (by omega)), zm_e (zm_f7 hM), zm_e (zm_aI hM zm_l353 rfl (by omega) (by omega))]
  rw [show ((k : Int)).toNat = k by omega, h3.1, h3.2, zm_w (by omega), zm_e (zm_of hM d h1 (by omega)), hc]
  rfl
/-- of the letters of a row that is as it must be -/
theorem zm_row_ok {c : Nat → Int} {l : List Int} (hl : ∀ t ∈ l, 0 ≤ t ∧ t ≤ 48) (g : zm_G0 c l) : ∀ p ∈ zm_row c l, (0 ≤ p.1 ∧ p.1 ≤ 48) ∧ 0 ≤ p.2 ∧ p.2 < 40 := by
  intro p hp
  refine ⟨hl _ (zm_row_mem hp).1, ?_⟩
  revert hp
  have key : ∀ {l : List Int}, zm_G0 c l → p ∈ zm_row c l → 0 ≤ p.2 ∧ p.2 < 40 := by
    intro l
    induction l with
    | nil => exact fun _ h => by cases h
    | cons t b ih =>
      intro g hp
      by_cases hb : b = []
      · subst hb
        have e : t = 0 := Option.some.inj g.2.1
        rw [zm_row_1, zm_rs_mem, e] at hp
        have := g.2.2.1
        omega
      · rw [zm_row_c c t hb] at hp
        obtain ⟨g1, g2, _⟩ := zm_G0_t hb g
        by_cases c1 : zm_o c t 2 = 0
        · rw [if_pos c1, zm_ins_mem] at hp
          rcases hp with hp | hp
          · exact ih g1 hp
          · rw [zm_rs_mem] at hp
            have := g.2.2.2.2 t List.mem_cons_self g2 (Or.inl c1)
            omega
        · rw [if_neg c1] at hp
          exact ih g1 hp
  exact key g
theorem zm_lettersOf {h : zv_H} {c : Nat → Int} (hM : zm_M h) (d : Nat) {s : Int} {l : List Int} (hs : zm_R (C9_sees (d + 4) 347 s h) (fun h' => zm_F [351, 352, 353, 354, 355] [10, 11, 12] h h' ∧ zm_Sn h' c l)) : zm_R (C9_lettersOf (d + 5) 347 s h) (fun q => q.1 = ((zm_row c l).filter (zm_sn c l)).length ∧ zm_F [351, 352, 353, 354, 355] [10, 11, 12] h q.2 ∧ zm_Sn q.2 c l) := by
  refine zm_cI (P := fun v h' => v = ((zm_row c l).filter (zm_sn c l)).length ∧ zm_F [351, 352, 353, 354, 355] [10, 11, 12] h h' ∧ zm_Sn h' c l) (lC9_lettersOf (zm_ob hM)) ?_
  obtain ⟨h', e, f, n⟩ := hs
  rw [qE9_lettersOf, zm_e e, zm_e (zm_gI (zm_F_M f hM) 12)]
  exact zm_iI ⟨n.2.2.2.2, f, n⟩
/-- letters go into cells -/
theorem zm_copies_l (d : Nat) {c : Nat → Int} {row : List (Int × Int)} (hn : row.length ≤ 640) (f : Int × Int → Bool) (hok : ∀ p ∈ row, (0 ≤ p.1 ∧ p.1 ≤ 48) ∧ 0 ≤ p.2 ∧ p.2 < 40) {r : Nat} (hr : r = 356 ∨ r = 357) : ∀ (b a : List (Int × Int)), a ++ b = row → ∀ h : zv_H, zm_M h → zv_I h 348 = c → zm_rw h row → (∀ (k : Nat) (x : Int × Int), row[k]? = some x → zv_I h 355 k = if f x = true then 1 else 0) → (∀ (k : Nat) (x : Int × Int), (a.filter f)[k]? = some x → zv_I h r k = zm_lt c x) → ∃ h', L9_copies_10 (d + 2) 347 r ((a.filter f).length : Int) a.length h = L9_copies_10 (d + 2) 347 r ((row.filter f).length : Int) row.length h' ∧ zm_F [r] [] h h' ∧ (∀ (k : Nat) (x : Int × Int), (row.filter f)[k]? = some x → zv_I h' r k = zm_lt c x)
  | [], a, e, h, _, _, _, _, ha => by
    rw [List.append_nil] at e
    subst e
    exact ⟨h, rfl, zm_F_r _ _ h, ha⟩
  | x :: b, a, e, h, hM, hc, hrw, hs, ha => by
    have hlen : row.length = a.length + (b.length + 1) := by rw [← e, List.length_append, List.length_cons]
    have hx : row[a.length]? = some x := by
      rw [← e, List.getElem?_append_right (Nat.le_refl _), Nat.sub_self]
      rfl
    have hxm := hok x (List.mem_of_getElem? hx)
    have e' : (a ++ [x]) ++ b = row := by
      rw [List.append_assoc]
      exact e
    have hle : (a.filter f).length ≤ a.length := List.length_filter_le f a
    have w1 : zv_w ((a.length : Int) + 1) = (((a ++ [x]).length : Nat) : Int) := by
      rw [zm_w (by omega), List.length_append]
      rfl
    rw [qL9_copies_10, zm_e (zm_gI hM 11), hrw.1, if_pos (by omega), zm_e (zm_f9 hM), zm_e (zm_aB hM zm_l355 (Or.inl rfl) rfl (by omega) (by omega))]
    rw [show ((a.length : Int)).toNat = a.length by omega, hs _ x hx, w1]
    by_cases c1 : f x = true
    · rw [if_pos c1, if_neg (by decide), zm_e (zm_letterIn hM hc d hrw hn hx hxm.1 (by omega))]
      dsimp only
      have hl : zv_lay r = (2, 640) := by
        rcases hr with q | q
        · rw [q]
          exact zm_l356
        · rw [q]
          exact zm_l357
      have hb : Nat.ble r 372 = true := by
        rcases hr with q | q
        · rw [q]
          rfl
        · rw [q]
          rfl
      have e347 : Nat.beq r 347 = false := by
        rcases hr with q | q
        · rw [q]
          rfl
        · rw [q]
          rfl
      have o : ∀ r', (r' = 348 ∨ r' = 352 ∨ r' = 353 ∨ r' = 355 ∨ r' = 347) → Nat.beq r' r = false := by
        intro r' h'
        rcases hr with q | q
        · rw [q]
          rcases h' with q | q | q | q | q
          all_goals rw [q]; rfl
        · rw [q]
          rcases h' with q | q | q | q | q
          all_goals rw [q]; rfl
      have w2 : zv_w (((a.filter f).length : Int) + 1) = ((((a ++ [x]).filter f).length : Nat) : Int) := by
        rw [zm_w (by omega), List.filter_append, List.length_append, List.filter_cons_of_pos c1]
        rfl
      rw [zm_e (zm_wI hM hl hb (by omega) (by omega) _), w2]
      obtain ⟨h', i1, i2, i3⟩ := zm_copies_l d hn f hok hr b (a ++ [x]) e' (zv_sI h r (((a.filter f).length : Int)).toNat (zm_lt c x)) hM ((zm_so h _ _ (o _ (Or.inl rfl))).trans hc) (zm_rw_of hrw (by rw [zm_so h _ _ (o _ (Or.inr (Or.inr (Or.inr (Or.inr rfl)))))]) (zm_so h _ _ (o _ (Or.inr (Or.inl rfl)))) (zm_so h _ _ (o _ (Or.inr (Or.inr (Or.inl rfl)))))) (fun k y hy => by rw [zm_so h _ _ (o _ (Or.inr (Or.inr (Or.inr (Or.inl rfl)))))]; exact hs k y hy) (fun k y hy => by
        rw [List.filter_append, List.filter_cons_of_pos c1] at hy
        rw [zm_ss]
        by_cases q : k < (a.filter f).length
        · rw [List.getElem?_append_left q] at hy
          rw [zm_u_o _ _ (by omega)]
          exact ha k y hy
        · rw [List.getElem?_append_right (by omega)] at hy
          have h9 := zm_lt_of_get hy
          have h8 : k = (a.filter f).length := by
            have h9' : k - (a.filter f).length < 1 := h9
            omega
          rw [h8, Nat.sub_self] at hy
          have ey : x = y := Option.some.inj hy
          rw [h8, show (((a.filter f).length : Int)).toNat = (a.filter f).length by omega, zm_u_s, ey])
      refine ⟨h', i1, zm_F_t (zm_F_I (zm_F_r _ _ h) ?_ _ _ e347) i2, i3⟩
      rw [List.contains_iff_mem]
      exact List.mem_singleton.mpr rfl
    · have w2 : ((a.filter f).length : Int) = ((((a ++ [x]).filter f).length : Nat) : Int) := by
        rw [List.filter_append, List.length_append, List.filter_cons_of_neg c1]
        rfl
      rw [if_neg c1, if_pos rfl, w2]
      exact zm_copies_l d hn f hok hr b (a ++ [x]) e' h hM hc hrw hs (fun k y hy => by
        rw [List.filter_append, List.filter_cons_of_neg c1, List.filter_nil, List.append_nil] at hy
        exact ha k y hy)
theorem zm_copies {h : zv_H} {c : Nat → Int} (hM : zm_M h) (hc : zv_I h 348 = c) (d : Nat) {s : Int} {l : List Int} (hl : ∀ t ∈ l, 0 ≤ t ∧ t ≤ 48) (g : zm_G0 c l) (hn : l.length ≤ 49) (hs : zm_R (C9_sees (d + 4) 347 s h) (fun h' => zm_F [351, 352, 353, 354, 355] [10, 11, 12] h h' ∧ zm_Sn h' c l)) {r : Nat} (hr : r = 356 ∨ r = 357) : zm_R (C9_copies (d + 5) 347 s r h) (fun q => q.1 = ((zm_row c l).filter (zm_sn c l)).length ∧ zm_F [r, 351, 352, 353, 354, 355] [10, 11, 12] h q.2 ∧ zm_Sn q.2 c l ∧ ∀ (k : Nat) (x : Int × Int), ((zm_row c l).filter (zm_sn c l))[k]? = some x → zv_I q.2 r k = zm_lt c x) := by
  refine zm_cI (P := fun v h' => v = ((zm_row c l).filter (zm_sn c l)).length ∧ zm_F [r, 351, 352, 353, 354, 355] [10, 11, 12] h h' ∧ zm_Sn h' c l ∧ ∀ (k : Nat) (x : Int × Int), ((zm_row c l).filter (zm_sn c l))[k]? = some x → zv_I h' r k = zm_lt c x) (lC9_copies (zm_ob hM)) ?_
  obtain ⟨h1, e, f, n⟩ := hs
  have hM1 := zm_F_M f hM
  have hle := zm_row_le g
  obtain ⟨h', i1, i2, i3⟩ := zm_copies_l (d + 2) (c := c) (row := zm_row c l) (by omega) (zm_sn c l) (zm_row_ok hl g) hr (zm_row c l) [] rfl h1 hM1 ((zm_F_a f 348).trans hc) n.2.1 n.2.2.2.1 (fun k x hx => by
    have := zm_lt_of_get hx
    exact absurd this (Nat.not_lt_zero _))
  have n2 : zm_Sn h' c l := by
    rcases hr with q | q
    · rw [q] at i2
      exact zm_Sn_F n i2
    · rw [q] at i2
      exact zm_Sn_F n i2
  rw [qE9_copies, zm_e e, show L9_copies_10 (d + 4) 347 r 0 0 h1 = _ from i1, qL9_copies_10, zm_e (zm_gI (zm_F_M i2 hM1) 11), n2.2.1.1, if_neg (by omega)]
  refine zm_iI ⟨rfl, ?_, n2, i3⟩
  rcases hr with q | q
  · subst q
    exact zm_F_t (zm_F_s f rfl rfl) (zm_F_s i2 rfl rfl)
  · subst q
    exact zm_F_t (zm_F_s f rfl rfl) (zm_F_s i2 rfl rfl)
end
