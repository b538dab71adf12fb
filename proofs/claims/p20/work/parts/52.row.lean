/-! ===== the reference: the row, what is in force, what one sees ===== -/
def zm_rs (t n : Int) : List (Int × Int) := (List.range n.toNat).map fun k : Nat => (t, (k : Int))
/-- the first place of a letter, -1 if it has none -/
def zm_at : List (Int × Int) → Int × Int → Int
  | [], _ => -1
  | x :: r, p => if x = p then 0 else if zm_at r p < 0 then -1 else zm_at r p + 1
theorem zm_at_ge (p : Int × Int) : ∀ r, -1 ≤ zm_at r p ∧ zm_at r p < r.length
  | [] => by
    show -1 ≤ (-1 : Int) ∧ (-1 : Int) < ((0 : Nat) : Int)
    omega
  | x :: r => by
    have h := zm_at_ge p r
    unfold zm_at
    rw [List.length_cons]
    split
    · omega
    · split
      · omega
      · omega
theorem zm_at_mem {p : Int × Int} : ∀ {r}, p ∈ r → 0 ≤ zm_at r p ∧ r[(zm_at r p).toNat]? = some p
  | [], h => by cases h
  | x :: r, h => by
    unfold zm_at
    by_cases e : x = p
    · rw [if_pos e]
      exact ⟨by omega, by rw [e]; rfl⟩
    · rw [if_neg e]
      rcases List.mem_cons.mp h with e1 | e1
      · exact absurd e1.symm e
      · have h2 := zm_at_mem e1
        rw [if_neg (by omega)]
        refine ⟨by omega, ?_⟩
        rw [show (zm_at r p + 1).toNat = (zm_at r p).toNat + 1 by omega, List.getElem?_cons_succ]
        exact h2.2
def zm_ins (c : Nat → Int) (t : Int) (row : List (Int × Int)) : List (Int × Int) :=
  row.take (if zm_o c t 8 < 0 then 0 else zm_at row (zm_o c t 8, zm_o c t 9) + 1).toNat ++ (zm_rs t (zm_o c t 5) ++ row.drop (if zm_o c t 8 < 0 then 0 else zm_at row (zm_o c t 8, zm_o c t 9) + 1).toNat)
def zm_row (c : Nat → Int) : List Int → List (Int × Int)
  | [] => []
  | t :: l => match l with
    | [] => zm_rs t (zm_o c t 5)
    | _ :: _ => if zm_o c t 2 = 0 then zm_ins c t (zm_row c l) else zm_row c l
/-- in force: 1 or 0 -/
def zm_fc (c : Nat → Int) : List Int → Int → Int
  | [], _ => 0
  | t :: l, x => match l with
    | [] => if x = t then 1 else 0
    | _ :: _ => if ¬ zm_ed c t ∧ zm_nm c t x then (if zm_o c t 2 = 3 then 1 else 0) else if x = t then (if zm_ed c t then 1 else 0) else zm_fc c l x
/-- the letters that one takes -/
def zm_tk (c : Nat → Int) (t : Int) : List (Int × Int) := (List.range (zm_o c t 5).toNat).map fun i : Nat => (zm_o c t (52 + 2 * (i : Int)), zm_o c t (52 + 2 * (i : Int) + 1))
def zm_cb (c : Nat → Int) (l0 b : List Int) (p : Int × Int) : Bool := b.any fun t => decide (zm_o c t 2 = 1) && (decide (zm_fc c l0 t = 1) && (zm_tk c t).contains p)
def zm_sn (c : Nat → Int) (l : List Int) (p : Int × Int) : Bool := decide (zm_fc c l p.1 = 1) && !(zm_cb c l l p)
theorem zm_rs_len (t n : Int) : (zm_rs t n).length = n.toNat := by
  unfold zm_rs
  rw [List.length_map, List.length_range]
theorem zm_rs_get (t n : Int) {k : Nat} (hk : k < n.toNat) : (zm_rs t n)[k]? = some (t, (k : Int)) := by
  unfold zm_rs
  rw [List.getElem?_map, List.getElem?_range hk]
  rfl
theorem zm_ins_len (c : Nat → Int) (t : Int) (row : List (Int × Int)) : (zm_ins c t row).length = row.length + (zm_o c t 5).toNat := by
  unfold zm_ins
  generalize (if zm_o c t 8 < 0 then 0 else zm_at row (zm_o c t 8, zm_o c t 9) + 1).toNat = n
  rw [List.length_append, List.length_append, zm_rs_len, List.length_take, List.length_drop]
  omega
/-- the row stands in its cells -/
def zm_rw (h : zv_H) (row : List (Int × Int)) : Prop := zv_I h 347 11 = row.length ∧ ∀ (k : Nat) (x : Int × Int), row[k]? = some x → zv_I h 352 k = x.1 ∧ zv_I h 353 k = x.2
theorem zm_rw_of {h h' : zv_H} {row : List (Int × Int)} (r : zm_rw h row) (e1 : zv_I h' 347 11 = zv_I h 347 11) (e2 : zv_I h' 352 = zv_I h 352) (e3 : zv_I h' 353 = zv_I h 353) : zm_rw h' row := by
  refine ⟨e1.trans r.1, fun k x hx => ?_⟩
  rw [e2, e3]
  exact r.2 k x hx
theorem zm_rowOf_l {h : zv_H} (hM : zm_M h) (d : Nat) (p : Int × Int) : ∀ (b a : List (Int × Int)), zm_rw h (a ++ b) → (a ++ b).length ≤ 640 → L9_rowOf_2 d 347 p.1 p.2 (a.length : Int) h = some (some (zv_i (if zm_at b p < 0 then -1 else a.length + zm_at b p)), h)
  | [], a, hr, _ => by
    rw [List.append_nil] at hr
    rw [qL9_rowOf_2, zm_e (zm_gI hM 11), hr.1, if_neg (by omega)]
    rw [show zm_at [] p = -1 from rfl, if_pos (by decide)]
  | x :: b, a, hr, hn => by
    have hl : (a ++ x :: b).length = a.length + (b.length + 1) := by rw [List.length_append, List.length_cons]
    have hx : (a ++ x :: b)[a.length]? = some x := by
      rw [List.getElem?_append_right (Nat.le_refl _), Nat.sub_self]
      rfl
    have h1 := hr.2 _ _ hx
    have ih := zm_rowOf_l hM d p b (a ++ [x]) (by rw [List.append_assoc]; exact hr) (by rw [List.append_assoc]; exact hn)
    have e1 : (((a ++ [x]).length : Nat) : Int) = (a.length : Int) + 1 := by
      rw [List.length_append]
      rfl
    have h3 := zm_at_ge p b
    have e2 : L9_rowOf_2 d 347 p.1 p.2 (zv_w ((a.length : Int) + 1)) h = some (some (zv_i (if zm_at b p < 0 then -1 else a.length + 1 + zm_at b p)), h) := by
      rw [zm_w (by omega), ← e1, ih, e1]
    rw [qL9_rowOf_2, zm_e (zm_gI hM 11), hr.1, if_pos (by omega), zm_e (zm_f6 hM), zm_e (zm_aI hM zm_l352 rfl (by omega) (by omega))]
    rw [show ((a.length : Int)).toNat = a.length by omega, h1.1]
    by_cases c1 : x.1 = p.1
    · rw [if_pos c1, zm_e (zm_f7 hM), zm_e (zm_aI hM zm_l353 rfl (by omega) (by omega))]
      rw [show ((a.length : Int)).toNat = a.length by omega, h1.2]
      by_cases c2 : x.2 = p.2
      · have e : x = p := Prod.ext c1 c2
        rw [if_pos c2, show zm_at (x :: b) p = 0 from if_pos e, if_neg (by omega), Int.add_zero]
      · have e : ¬ x = p := fun q => c2 (by rw [q])
        rw [if_neg c2, e2, show zm_at (x :: b) p = if zm_at b p < 0 then -1 else zm_at b p + 1 from if_neg e]
        by_cases c3 : zm_at b p < 0
        · rw [if_pos c3, if_pos c3, if_pos (by decide)]
        · rw [if_neg c3, if_neg c3, if_neg (by omega), show (a.length : Int) + 1 + zm_at b p = a.length + (zm_at b p + 1) by omega]
    · have e : ¬ x = p := fun q => c1 (by rw [q])
      rw [if_neg c1, e2, show zm_at (x :: b) p = if zm_at b p < 0 then -1 else zm_at b p + 1 from if_neg e]
      by_cases c3 : zm_at b p < 0
      · rw [if_pos c3, if_pos c3, if_pos (by decide)]
      · rw [if_neg c3, if_neg c3, if_neg (by omega), show (a.length : Int) + 1 + zm_at b p = a.length + (zm_at b p + 1) by omega]
theorem zm_rowOf {h : zv_H} (hM : zm_M h) (d : Nat) (x y : Int) {row : List (Int × Int)} (hr : zm_rw h row) (hn : row.length ≤ 640) : C9_rowOf (d + 1) 347 x y h = some (zm_at row (x, y), h) := by
  refine lC9_rowOf (zm_ob hM) ?_
  have h1 := zm_rowOf_l hM d (x, y) row [] hr hn
  have h2 := zm_at_ge (x, y) row
  rw [qE9_rowOf, show (0 : Int) = ((([] : List (Int × Int)).length : Nat) : Int) from rfl, h1]
  by_cases c : zm_at row (x, y) < 0
  · rw [if_pos c, show zm_at row (x, y) = -1 by omega]
  · rw [if_neg c, show ((([] : List (Int × Int)).length : Nat) : Int) = 0 from rfl, Int.zero_add]
/-! a word goes into the row -/
theorem zm_lets50 (d : Nat) (s at_ : Int) (n : Nat) (R1 R2 : Nat → Int) {L : Nat} (hL : L + n ≤ 640) (h0 : 0 ≤ at_) : ∀ (m : Nat) (h : zv_H), zm_M h → (m : Int) + at_ ≤ L → zv_I h 352 = (fun k : Nat => if at_ + m + n ≤ k ∧ k < L + n then R1 (k - n) else R1 k) → zv_I h 353 = (fun k : Nat => if at_ + m + n ≤ k ∧ k < L + n then R2 (k - n) else R2 k) →
    ∃ h', L9_letsIn_50 d 347 s at_ n (at_ + m - 1) h = L9_letsIn_50 d 347 s at_ n (at_ - 1) h' ∧ zm_F [352, 353] [] h h' ∧ zv_I h' 352 = (fun k : Nat => if at_ + n ≤ k ∧ k < L + n then R1 (k - n) else R1 k) ∧ zv_I h' 353 = (fun k : Nat => if at_ + n ≤ k ∧ k < L + n then R2 (k - n) else R2 k)
  | 0, h, _, _, e1, e2 => ⟨h, by rw [show at_ + ((0 : Nat) : Int) - 1 = at_ - 1 by omega], zm_F_r _ _ h, by rw [e1]; funext k; rw [show at_ + ((0 : Nat) : Int) + n = at_ + n by omega], by rw [e2]; funext k; rw [show at_ + ((0 : Nat) : Int) + n = at_ + n by omega]⟩
  | m + 1, h, hM, hm, e1, e2 => by
    have a1 : zv_aI h 352 (at_ + ((m + 1 : Nat) : Int) - 1) = some (R1 (at_ + m).toNat) := by
      rw [zm_aI hM zm_l352 rfl (by omega) (by omega), e1]
      dsimp only
      rw [if_neg (by omega)]
      rw [show (at_ + ((m + 1 : Nat) : Int) - 1).toNat = (at_ + m).toNat by omega]
    have hM1 := zm_M_sI (r := 352) (k := (at_ + m + n).toNat) (v := R1 (at_ + m).toNat) hM
    have a2 : zv_aI (zv_sI h 352 (at_ + m + n).toNat (R1 (at_ + m).toNat)) 353 (at_ + ((m + 1 : Nat) : Int) - 1) = some (R2 (at_ + m).toNat) := by
      rw [zm_aI hM1 zm_l353 rfl (by omega) (by omega), zm_so h _ _, e2]
      dsimp only
      rw [if_neg (by omega)]
      rw [show (at_ + ((m + 1 : Nat) : Int) - 1).toNat = (at_ + m).toNat by omega]
    have w1 : zv_w (at_ + ((m + 1 : Nat) : Int) - 1 + n) = at_ + m + n := by
      rw [zm_w (by omega)]
      omega
    have w2 : zv_w (at_ + ((m + 1 : Nat) : Int) - 1 + -1) = at_ + m - 1 := by
      rw [zm_w (by omega)]
      omega
    rw [qL9_letsIn_50, if_neg (by omega), zm_e (zm_f6 hM), zm_e (zm_f6 hM), zm_e a1, w1, zm_e (zm_wI hM zm_l352 rfl (by omega) (by omega) _), zm_e (zm_f7 hM1), zm_e (zm_f7 hM1), zm_e a2, zm_e (zm_wI hM1 zm_l353 rfl (by omega) (by omega) _), w2]
    obtain ⟨h', i1, i2, i3, i4⟩ := zm_lets50 d s at_ n R1 R2 hL h0 m (zv_sI (zv_sI h 352 (at_ + m + n).toNat (R1 (at_ + m).toNat)) 353 (at_ + m + n).toNat (R2 (at_ + m).toNat)) hM1 (by omega) (by
        rw [zm_so _ _ _, zm_ss, e1]
        funext k
        unfold zm_u
        dsimp only
        by_cases c : k = (at_ + m + n).toNat
        · rw [if_pos c, if_pos (by omega), show k - n = (at_ + m).toNat by omega]
        · rw [if_neg c]
          by_cases c2 : at_ + ((m + 1 : Nat) : Int) + n ≤ k ∧ k < L + n
          · rw [if_pos c2, if_pos (by omega)]
          · rw [if_neg c2, if_neg (by omega)]) (by
        rw [zm_ss, zm_so _ _ _, e2]
        funext k
        unfold zm_u
        dsimp only
        by_cases c : k = (at_ + m + n).toNat
        · rw [if_pos c, if_pos (by omega), show k - n = (at_ + m).toNat by omega]
        · rw [if_neg c]
          by_cases c2 : at_ + ((m + 1 : Nat) : Int) + n ≤ k ∧ k < L + n
          · rw [if_pos c2, if_pos (by omega)]
          · rw [if_neg c2, if_neg (by omega)])
    exact ⟨h', i1, zm_F_t (zm_F_I (zm_F_I (zm_F_r _ _ h) rfl _ _) rfl _ _) i2, i3, i4⟩
theorem zm_lets97 (d : Nat) (s at_ : Int) (n : Nat) (h0 : 0 ≤ at_) (hn : at_ + n ≤ 640) (R1 R2 : Nat → Int) : ∀ (m i : Nat) (h : zv_H), i + m = n → zm_M h → zv_I h 352 = (fun k : Nat => if at_ ≤ k ∧ k < at_ + i then s else R1 k) → zv_I h 353 = (fun k : Nat => if at_ ≤ k ∧ k < at_ + i then (k : Int) - at_ else R2 k) →
    ∃ h', L9_letsIn_97 d 347 s at_ n i h = L9_letsIn_97 d 347 s at_ n n h' ∧ zm_F [352, 353] [] h h' ∧ zv_I h' 352 = (fun k : Nat => if at_ ≤ k ∧ k < at_ + n then s else R1 k) ∧ zv_I h' 353 = (fun k : Nat => if at_ ≤ k ∧ k < at_ + n then (k : Int) - at_ else R2 k)
  | 0, i, h, hi, _, e1, e2 => by
    have e : i = n := by omega
    subst e
    exact ⟨h, rfl, zm_F_r _ _ h, e1, e2⟩
  | m + 1, i, h, hi, hM, e1, e2 => by
    have hM1 := zm_M_sI (r := 352) (k := (at_ + i).toNat) (v := s) hM
    have w1 : zv_w (at_ + (i : Int)) = at_ + i := zm_w (by omega)
    have w2 : zv_w ((i : Int) + 1) = ((i + 1 : Nat) : Int) := by
      rw [zm_w (by omega)]
      rfl
    rw [qL9_letsIn_97, if_pos (by omega), zm_e (zm_f6 hM), w1, zm_e (zm_wI hM zm_l352 rfl (by omega) (by omega) _), zm_e (zm_f7 hM1), zm_e (zm_wI hM1 zm_l353 rfl (by omega) (by omega) _), w2]
    obtain ⟨h', i1, i2, i3, i4⟩ := zm_lets97 d s at_ n h0 hn R1 R2 m (i + 1) (zv_sI (zv_sI h 352 (at_ + i).toNat s) 353 (at_ + i).toNat i) (by omega) hM1 (by
        rw [zm_so _ _ _, zm_ss, e1]
        funext k
        unfold zm_u
        dsimp only
        by_cases c : k = (at_ + i).toNat
        · rw [if_pos c, if_pos (by omega)]
        · rw [if_neg c]
          by_cases c2 : at_ ≤ (k : Int) ∧ (k : Int) < at_ + i
          · rw [if_pos c2, if_pos (by omega)]
          · rw [if_neg c2, if_neg (by omega)]) (by
        rw [zm_ss, zm_so _ _ _, e2]
        funext k
        unfold zm_u
        dsimp only
        by_cases c : k = (at_ + i).toNat
        · rw [if_pos c, if_pos (by omega)]
          omega
        · rw [if_neg c]
          by_cases c2 : at_ ≤ (k : Int) ∧ (k : Int) < at_ + i
          · rw [if_pos c2, if_pos (by omega)]
          · rw [if_neg c2, if_neg (by omega)])
    exact ⟨h', i1, zm_F_t (zm_F_I (zm_F_I (zm_F_r _ _ h) rfl _ _) rfl _ _) i2, i3, i4⟩
