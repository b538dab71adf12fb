def zm_ps (c : Nat → Int) (t : Int) (row : List (Int × Int)) : Int := if zm_o c t 8 < 0 then 0 else zm_at row (zm_o c t 8, zm_o c t 9) + 1
theorem zm_ps_r (c : Nat → Int) (t : Int) (row : List (Int × Int)) : 0 ≤ zm_ps c t row ∧ zm_ps c t row ≤ row.length := by
  have h := zm_at_ge (zm_o c t 8, zm_o c t 9) row
  unfold zm_ps
  split
  · omega
  · omega
theorem zm_ins_e (c : Nat → Int) (t : Int) (row : List (Int × Int)) : zm_ins c t row = row.take (zm_ps c t row).toNat ++ (zm_rs t (zm_o c t 5) ++ row.drop (zm_ps c t row).toNat) := rfl
theorem zm_ins_get {c : Nat → Int} {t : Int} {row : List (Int × Int)} {k : Nat} {x : Int × Int} (h : (zm_ins c t row)[k]? = some x) : (k < (zm_ps c t row).toNat ∧ row[k]? = some x) ∨ ((zm_ps c t row).toNat ≤ k ∧ k < (zm_ps c t row).toNat + (zm_o c t 5).toNat ∧ x = (t, (k : Int) - zm_ps c t row)) ∨ ((zm_ps c t row).toNat + (zm_o c t 5).toNat ≤ k ∧ row[k - (zm_o c t 5).toNat]? = some x) := by
  have hp := zm_ps_r c t row
  have hl : (row.take (zm_ps c t row).toNat).length = (zm_ps c t row).toNat := by
    rw [List.length_take]
    omega
  rw [zm_ins_e] at h
  by_cases h1 : k < (zm_ps c t row).toNat
  · rw [List.getElem?_append_left (by omega), List.getElem?_take_of_lt h1] at h
    exact Or.inl ⟨h1, h⟩
  · rw [List.getElem?_append_right (by omega), hl] at h
    by_cases h2 : k < (zm_ps c t row).toNat + (zm_o c t 5).toNat
    · rw [List.getElem?_append_left (by rw [zm_rs_len]; omega), zm_rs_get _ _ (by omega)] at h
      refine Or.inr (Or.inl ⟨by omega, h2, ?_⟩)
      have e := Option.some.inj h
      rw [← e, show ((k - (zm_ps c t row).toNat : Nat) : Int) = (k : Int) - zm_ps c t row by omega]
    · rw [List.getElem?_append_right (by rw [zm_rs_len]; omega), zm_rs_len, List.getElem?_drop] at h
      refine Or.inr (Or.inr ⟨by omega, ?_⟩)
      rw [← h]
      congr 1
      omega
theorem zm_letsIn {h : zv_H} {row : List (Int × Int)} (hM : zm_M h) (d : Nat) {s : Int} (hs : 0 ≤ s ∧ s ≤ 48) (hn : 0 ≤ zm_o (zv_I h 348) s 5) (hk : row.length + zm_o (zv_I h 348) s 5 ≤ 640) (hr : zm_rw h row) : zm_R (C9_letsIn (d + 3) 347 s h) (fun h' => zm_F [352, 353] [11] h h' ∧ zm_rw h' (zm_ins (zv_I h 348) s row)) := by
  have hp := zm_ps_r (zv_I h 348) s row
  obtain ⟨n, en⟩ : ∃ n : Nat, zm_o (zv_I h 348) s 5 = n := ⟨(zm_o (zv_I h 348) s 5).toNat, by omega⟩
  have main : zm_R (L9_letsIn_34 (d + 2) 347 s (zm_ps (zv_I h 348) s row) h) (zm_V fun h' => zm_F [352, 353] [11] h h' ∧ zm_rw h' (zm_ins (zv_I h 348) s row)) := by
    rw [qL9_letsIn_34, zm_e (zm_of hM _ hs (by decide)), zm_e (zm_gI hM 11), hr.1, zm_w (by omega)]
    dsimp only
    rw [en]
    obtain ⟨h1, i1, i2, i3, i4⟩ := zm_lets50 (d + 2) s (zm_ps (zv_I h 348) s row) n (zv_I h 352) (zv_I h 353) (L := row.length) (by omega) (by omega) (row.length - (zm_ps (zv_I h 348) s row).toNat) h hM (by omega) (by
        funext k
        rw [if_neg (by omega)]) (by
        funext k
        rw [if_neg (by omega)])
    have hM1 := zm_F_M i2 hM
    rw [show (row.length : Int) - 1 = zm_ps (zv_I h 348) s row + ((row.length - (zm_ps (zv_I h 348) s row).toNat : Nat) : Int) - 1 by omega, i1]
    rw [qL9_letsIn_50, if_pos (by omega)]
    obtain ⟨h2, j1, j2, j3, j4⟩ := zm_lets97 (d + 2) s (zm_ps (zv_I h 348) s row) n (by omega) (by omega) (zv_I h1 352) (zv_I h1 353) n 0 h1 (by omega) hM1 (by
        funext k
        rw [if_neg (by omega)]) (by
        funext k
        rw [if_neg (by omega)])
    have hM2 := zm_F_M j2 hM1
    rw [show (0 : Int) = ((0 : Nat) : Int) from rfl, j1, qL9_letsIn_97, if_neg (by omega), zm_e (zm_gI hM2 11), zm_e (zm_pI hM2 11 _)]
    have f2 := zm_F_t i2 j2
    have e11 : zv_I h2 347 11 = row.length := (zm_F_g f2 11).trans hr.1
    rw [e11, zm_w (by omega)]
    refine zm_iV ⟨zm_F_f (zm_F_s f2 rfl rfl) rfl _, ?_, ?_⟩
    · rw [zm_ss, zm_u_s, zm_ins_len]
      omega
    · intro k x hx
      rw [zm_so _ _ _, zm_so _ _ _, j3, j4, i3, i4]
      dsimp only
      rcases zm_ins_get hx with ⟨c1, c2⟩ | ⟨c1, c2, c3⟩ | ⟨c1, c2⟩
      · have := hr.2 k x c2
        rw [if_neg (by omega), if_neg (by omega), if_neg (by omega), if_neg (by omega)]
        exact this
      · rw [if_pos (by omega), if_pos (by omega), c3]
        exact ⟨rfl, rfl⟩
      · have h9 := hr.2 _ x c2
        have h8 : k - (zm_o (zv_I h 348) s 5).toNat < row.length := by
          apply Classical.byContradiction
          intro q
          rw [List.getElem?_eq_none (by omega)] at c2
          cases c2
        have e9 : k - n = k - (zm_o (zv_I h 348) s 5).toNat := by omega
        refine ⟨?_, ?_⟩
        · rw [if_neg (by omega), if_pos (by omega), e9]
          exact h9.1
        · rw [if_neg (by omega), if_pos (by omega), e9]
          exact h9.2
  refine zm_cV (lC9_letsIn (zm_ob hM)) ?_
  rw [qE9_letsIn, zm_e (zm_of hM _ hs (by decide))]
  dsimp only
  by_cases c1 : zm_o (zv_I h 348) s 8 < 0
  · rw [if_pos c1]
    have e : zm_ps (zv_I h 348) s row = 0 := if_pos c1
    rw [e] at main
    exact main
  · have e : zm_ps (zv_I h 348) s row = zm_at row (zm_o (zv_I h 348) s 8, zm_o (zv_I h 348) s 9) + 1 := if_neg c1
    rw [if_neg c1, zm_e (zm_of hM _ hs (by decide)), zm_e (zm_of hM _ hs (by decide)), zm_e (zm_rowOf hM _ _ _ hr (by omega))]
    dsimp only
    rw [zm_w (by omega), ← e]
    exact main
/-! who is in force by one's names -/
theorem zm_turns_l (d : Nat) (c : Nat → Int) {s : Int} (hs : 0 ≤ s ∧ s ≤ 48) (l : List Int) (hl : ∀ t ∈ l, 0 ≤ t ∧ t ≤ 48) (hn : l.length ≤ 49) : ∀ (b a : List Int), a ++ b = l → ∀ h : zv_H, zm_M h → zv_I h 348 = c → zv_I h 347 10 = l.length → (∀ (k : Nat) (x : Int), l[k]? = some x → zv_I h 351 k = x) →
    ∃ h', L9_turns_2 (d + 2) 347 s a.length h = L9_turns_2 (d + 2) 347 s l.length h' ∧ zm_F [354] [] h h' ∧ (∀ x : Int, 0 ≤ x → zv_I h' 354 x.toNat = if x ∈ b ∧ zm_nm c s x then (if zm_o c s 2 = 3 then 1 else 0) else zv_I h 354 x.toNat)
  | [], a, e, h, _, _, _, _ => by
    rw [List.append_nil] at e
    exact ⟨h, by rw [e], zm_F_r _ _ h, fun x _ => by rw [if_neg (fun q => List.not_mem_nil q.1)]⟩
  | t :: b, a, e, h, hM, hc, h10, hli => by
    have hlen : l.length = a.length + (b.length + 1) := by rw [← e, List.length_append, List.length_cons]
    have ht := hl t (by rw [← e]; exact List.mem_append_right _ List.mem_cons_self)
    have hx : l[a.length]? = some t := by
      rw [← e, List.getElem?_append_right (Nat.le_refl _), Nat.sub_self]
      rfl
    have a1 : zv_aI h 351 (a.length : Int) = some t := by
      rw [zm_aI hM zm_l351 rfl (by omega) (by omega)]
      rw [show ((a.length : Int)).toNat = a.length by omega, hli _ _ hx]
    have w1 : zv_w ((a.length : Int) + 1) = (((a ++ [t]).length : Nat) : Int) := by
      rw [zm_w (by omega), List.length_append]
      rfl
    have e' : (a ++ [t]) ++ b = l := by
      rw [List.append_assoc]
      exact e
    rw [qL9_turns_2, zm_e (zm_gI hM 10), h10, if_pos (by omega), zm_e (zm_f5 hM), zm_e a1, zm_e (zm_names hM d hs t), w1]
    dsimp only
    rw [hc]
    by_cases c1 : zm_nm c s t
    · rw [if_pos c1, if_neg (by decide), zm_e (zm_f8 hM), zm_e (zm_f5 hM), zm_e a1, zm_e (zm_of hM _ hs (by decide))]
      dsimp only
      rw [hc]
      have fin : ∀ v : Int, v = (if zm_o c s 2 = 3 then 1 else 0) → ∃ h', ((zv_wB h 354 t v).bind fun g9 => L9_turns_2 (d + 2) 347 s ((a ++ [t]).length : Int) g9) = L9_turns_2 (d + 2) 347 s l.length h' ∧ zm_F [354] [] h h' ∧ (∀ x : Int, 0 ≤ x → zv_I h' 354 x.toNat = if x ∈ t :: b ∧ zm_nm c s x then (if zm_o c s 2 = 3 then 1 else 0) else zv_I h 354 x.toNat) := by
        intro v hv
        have nv : zv_nz v = v := by
          rw [hv]
          unfold zv_nz
          split
          · rfl
          · rfl
        rw [zm_e (zm_wB hM zm_l354 rfl (by omega) (by omega) v), nv]
        obtain ⟨h', i1, i2, i3⟩ := zm_turns_l d c hs l hl hn b (a ++ [t]) e' (zv_sI h 354 t.toNat v) hM hc h10 hli
        refine ⟨h', i1, zm_F_t (zm_F_I (zm_F_r _ _ h) rfl _ _) i2, fun x hx0 => ?_⟩
        rw [i3 x hx0, zm_ss]
        unfold zm_u
        by_cases c2 : x ∈ b ∧ zm_nm c s x
        · rw [if_pos c2, if_pos (show x ∈ t :: b ∧ zm_nm c s x from ⟨List.mem_cons_of_mem _ c2.1, c2.2⟩)]
        · rw [if_neg c2]
          by_cases c3 : x.toNat = t.toNat
          · have ex : x = t := by omega
            rw [if_pos c3, if_pos (show x ∈ t :: b ∧ zm_nm c s x from ⟨by rw [ex]; exact List.mem_cons_self, by rw [ex]; exact c1⟩), hv]
          · rw [if_neg c3, if_neg]
            intro q
            rcases List.mem_cons.mp q.1 with q1 | q1
            · exact c3 (by rw [q1])
            · exact c2 ⟨q1, q.2⟩
      by_cases c2 : zm_o c s 2 = 3
      · rw [if_pos c2]
        exact fin 1 (by rw [if_pos c2])
      · rw [if_neg c2]
        exact fin 0 (by rw [if_neg c2])
    · rw [if_neg c1, if_pos rfl]
      obtain ⟨h', i1, i2, i3⟩ := zm_turns_l d c hs l hl hn b (a ++ [t]) e' h hM hc h10 hli
      refine ⟨h', i1, i2, fun x hx0 => ?_⟩
      rw [i3 x hx0]
      by_cases c2 : x ∈ b ∧ zm_nm c s x
      · rw [if_pos c2, if_pos (show x ∈ t :: b ∧ zm_nm c s x from ⟨List.mem_cons_of_mem _ c2.1, c2.2⟩)]
      · rw [if_neg c2, if_neg]
        intro q
        rcases List.mem_cons.mp q.1 with q1 | q1
        · exact c1 (by rw [← q1]; exact q.2)
        · exact c2 ⟨q1, q.2⟩
theorem zm_turns {h : zv_H} {c : Nat → Int} (hM : zm_M h) (hc : zv_I h 348 = c) (d : Nat) {s : Int} (hs : 0 ≤ s ∧ s ≤ 48) {l : List Int} (hl : ∀ t ∈ l, 0 ≤ t ∧ t ≤ 48) (hn : l.length ≤ 49) (h10 : zv_I h 347 10 = l.length) (hli : ∀ (k : Nat) (x : Int), l[k]? = some x → zv_I h 351 k = x) : zm_R (C9_turns (d + 3) 347 s h) (fun h' => zm_F [354] [] h h' ∧ ∀ x : Int, 0 ≤ x → zv_I h' 354 x.toNat = if x ∈ l ∧ zm_nm c s x then (if zm_o c s 2 = 3 then 1 else 0) else zv_I h 354 x.toNat) := by
  refine zm_cV (lC9_turns (zm_ob hM)) ?_
  obtain ⟨h', i1, i2, i3⟩ := zm_turns_l d c hs l hl hn l [] rfl h hM hc h10 hli
  rw [qE9_turns, show (0 : Int) = ((([] : List Int).length : Nat) : Int) from rfl, i1, qL9_turns_2, zm_e (zm_gI (zm_F_M i2 hM) 10), zm_F_g i2 10, h10, if_neg (by omega)]
  exact zm_iV ⟨i2, i3⟩
