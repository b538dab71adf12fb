/-! A35.marks -/
section
/-! ===== the tie: marks, in the reference ===== -/
theorem zt_leansOn_l {h : zv_H} {c : Nat → Int} (hM : zm_M h) (hc : zv_I h 348 = c) (d : Nat) {t : Int} (ht : 0 ≤ t ∧ t ≤ 48) (s : Int) {m : Nat} (hm : m ≤ 12) (h5 : ∀ x : Int, x = zm_o c t 5 → x = m) : ∀ (n i : Nat), i + n = m → ∃ v : Int, L9_leansOn_28 (d + 1) 347 t s i h = some (some (zv_i v), h) ∧ (v ≠ 0 ↔ ∃ j : Nat, i ≤ j ∧ j < m ∧ zm_o c t (52 + 2 * (j : Int)) = s) := by
  subst hc
  intro n
  induction n with
  | zero =>
    intro i hi
    refine ⟨0, ?_, fun q => absurd rfl q, fun q => by obtain ⟨j, j1, j2, _⟩ := q; omega⟩
    rw [qL9_leansOn_28, zm_e (zm_of hM d ht (by decide))]
    dsimp only
    rw [h5 _ rfl, if_neg (by omega)]
  | succ n ih =>
    intro i hi
    have w1 : zv_w (52 + zv_w (2 * (i : Int))) = 52 + 2 * (i : Int) := by
      rw [zm_w (x := 2 * (i : Int)) (by omega), zm_w (by omega)]
    have w2 : zv_w ((i : Int) + 1) = ((i + 1 : Nat) : Int) := by
      rw [zm_w (by omega)]
      rfl
    have hw : 0 ≤ 52 + 2 * (i : Int) ∧ 52 + 2 * (i : Int) < 76 := by omega
    obtain ⟨v, ev, iv⟩ := ih (i + 1) (by omega)
    by_cases c1 : zm_o (zv_I h 348) t (52 + 2 * (i : Int)) = s
    · refine ⟨1, ?_, fun _ => ⟨i, Nat.le_refl _, by omega, c1⟩, fun _ => by decide⟩
      rw [qL9_leansOn_28, zm_e (zm_of hM d ht (by decide))]
      dsimp only
      rw [h5 _ rfl, if_pos (by omega), w1, zm_e (zm_of hM d ht hw)]
      dsimp only
      rw [if_pos c1]
    · refine ⟨v, ?_, fun q => ?_, fun q => ?_⟩
      · rw [qL9_leansOn_28, zm_e (zm_of hM d ht (by decide))]
        dsimp only
        rw [h5 _ rfl, if_pos (by omega), w1, zm_e (zm_of hM d ht hw), w2]
        dsimp only
        rw [if_neg c1]
        exact ev
      · obtain ⟨j, j1, j2, j3⟩ := iv.mp q
        exact ⟨j, by omega, j2, j3⟩
      · obtain ⟨j, j1, j2, j3⟩ := q
        refine iv.mpr ⟨j, ?_, j2, j3⟩
        by_cases e : j = i
        · rw [e] at j3
          exact absurd j3 c1
        · omega
theorem zt_leansOn {h : zv_H} {c : Nat → Int} (hM : zm_M h) (hc : zv_I h 348 = c) (d : Nat) (W : zm_W c) {t : Int} (ht : zm_st c t) (he : zm_ed c t) (s : Int) : ∃ v : Int, C9_leansOn (d + 2) 347 t s h = some (v, h) ∧ (v ≠ 0 ↔ zt_ln c t s) := by
  have hm0 := zm_ed_m W.1 ht he
  obtain ⟨m, em⟩ : ∃ m : Nat, zm_o c t 5 = m := ⟨(zm_o c t 5).toNat, by omega⟩
  have t48 := zm_st48 ht
  have main : ∃ v : Int, E9_leansOn (d + 1) 347 t s h = some (some (zv_i v), h) ∧ (v ≠ 0 ↔ zt_ln c t s) := by
    rw [qE9_leansOn, zm_e (zm_of hM d t48 (by decide)), hc]
    dsimp only
    unfold zt_ln
    by_cases c1 : zm_o c t 2 = 0
    · rw [if_pos c1, zm_e (zm_of hM d t48 (by decide)), hc]
      dsimp only
      by_cases c2 : zm_o c t 8 = s
      · rw [if_pos c2]
        exact ⟨1, rfl, fun _ => Or.inl ⟨c1, c2⟩, fun _ => by decide⟩
      · rw [if_neg c2]
        refine ⟨0, rfl, fun q => absurd rfl q, fun q => ?_⟩
        rcases q with q | q
        · exact absurd q.2 c2
        · exact absurd (c1.symm.trans q.1) (by decide)
    · have c2 : zm_o c t 2 = 1 := he.resolve_left c1
      rw [if_neg c1]
      obtain ⟨v, ev, iv⟩ := zt_leansOn_l hM hc d t48 s (m := m) (by omega) (fun x hx => hx.trans em) m 0 (Nat.zero_add _)
      refine ⟨v, ev, fun q => ?_, fun q => ?_⟩
      · obtain ⟨j, _, j2, j3⟩ := iv.mp q
        refine Or.inr ⟨c2, _, List.mem_of_getElem? (zm_tk_get c t (i := j) (by omega)), j3⟩
      · rcases q with q | ⟨_, p, hp, e⟩
        · exact absurd q.1 c1
        · obtain ⟨j, hj⟩ := List.mem_iff_getElem?.mp hp
          have jl := zm_lt_of_get hj
          rw [zm_tk_len] at jl
          rw [zm_tk_get c t jl] at hj
          refine iv.mpr ⟨j, Nat.zero_le _, by omega, ?_⟩
          have := congrArg Prod.fst (Option.some.inj hj)
          exact this.trans e
  obtain ⟨v, e, q⟩ := main
  exact ⟨v, lC9_leansOn (zm_ob hM) e, q⟩
/-- marked -/
def zt_mk (h : zv_H) (x : Int) : Prop := zv_I h 365 x.toNat ≠ 0
/-- what one is marked for -/
def zt_rl (c : Nat → Int) (back t o : Int) : Prop := if back = 0 then zt_bl c o t ∧ zt_ln c t o else zt_bl c t o ∧ zt_ln c o t
theorem zt_marks10 (d : Nat) (s back : Int) : ∀ (n i : Nat) (h : zv_H), i + n = 48 → zm_M h → (∀ x : Nat, x < i → zv_I h 365 x = if (x : Int) = s then 1 else 0) → ∃ h', L9_marks_10 d 347 s back i h = L9_marks_40 d 347 back 1 h' ∧ zm_F [365] [] h h' ∧ ∀ x : Nat, x < 48 → zv_I h' 365 x = if (x : Int) = s then 1 else 0 := by
  intro n
  induction n with
  | zero =>
    intro i h hi hM hx
    have e : i = 48 := by omega
    subst e
    exact ⟨h, by rw [qL9_marks_10, if_neg (by decide)], zm_F_r _ _ h, hx⟩
  | succ n ih =>
    intro i h hi hM hx
    have w1 : zv_w ((i : Int) + 1) = ((i + 1 : Nat) : Int) := by
      rw [zm_w (by omega)]
      rfl
    have go : ∀ v : Int, v = (if (i : Int) = s then 1 else 0) → ∃ h', ((zv_wB h 365 (i : Int) v).bind fun g => L9_marks_10 d 347 s back ((i + 1 : Nat) : Int) g) = L9_marks_40 d 347 back 1 h' ∧ zm_F [365] [] h h' ∧ ∀ x : Nat, x < 48 → zv_I h' 365 x = if (x : Int) = s then 1 else 0 := by
      intro v hv
      have nz : zv_nz v = v := by
        unfold zv_nz
        rw [hv]
        by_cases e : (i : Int) = s
        · rw [if_pos e]; rfl
        · rw [if_neg e]; rfl
      rw [zm_e (zm_wB hM zm_l365 rfl (by omega) (by omega) v), nz, show ((i : Nat) : Int).toNat = i by omega]
      obtain ⟨h', i1, i2, i3⟩ := ih (i + 1) (zv_sI h 365 i v) (by omega) hM (fun x hx2 => by
        by_cases e : x = i
        · rw [e, zy_I, hv]
        · rw [zy_In _ _ (fun q => e q.2)]
          exact hx x (by omega))
      exact ⟨h', i1, zm_F_t (zm_F_I (zm_F_r _ _ h) rfl _ _) i2, i3⟩
    rw [qL9_marks_10, if_pos (by omega), zm_e (zm_f25 hM), w1]
    by_cases e : (i : Int) = s
    · rw [if_pos e]
      exact go 1 (by rw [if_pos e])
    · rw [if_neg e]
      exact go 0 (by rw [if_neg e])
theorem zt_marks72 (d : Nat) {c : Nat → Int} (W : zm_W c) {l : List Int} (hl : ∀ t ∈ l, zm_st c t) (hn : l.length ≤ 48) (back k t : Int) (ht : t ∈ l) : ∀ (n i : Nat) (h : zv_H), i + n = l.length → zm_lh c l h → ∃ h', L9_marks_72 (d + 2) 347 back k t i h = L9_marks_40 (d + 2) 347 back (zv_w (k + 1)) h' ∧ zm_F [365] [] h h' ∧ (∀ x : Int, 0 ≤ x → x ≠ t → zv_I h' 365 x.toNat = zv_I h 365 x.toNat) ∧ (zt_mk h t → zt_mk h' t) ∧ (zt_mk h' t → zt_mk h t ∨ ∃ o ∈ l, zt_mk h o ∧ zm_ed c o ∧ zm_ed c t ∧ zt_rl c back t o) ∧ (zm_ed c t → ∀ o ∈ l.reverse.drop i, zt_mk h o → zm_ed c o → zt_rl c back t o → zt_mk h' t) := by
  have hts := hl t ht
  have t48 := zm_st48 hts
  have t49 : t < ((49 : Nat) : Int) := by have := hts.1; omega
  intro n
  induction n with
  | zero =>
    intro i h hi hh
    obtain ⟨hM, hc, h10, h351⟩ := hh
    refine ⟨h, ?_, zm_F_r _ _ h, fun _ _ _ => rfl, fun q => q, fun q => Or.inl q, fun _ o ho => ?_⟩
    · rw [qL9_marks_72, zm_e (zm_gI hM 10), h10, if_neg (by omega)]
    · rw [List.drop_eq_nil_of_le (by rw [List.length_reverse]; omega)] at ho
      cases ho
  | succ n ih =>
    intro i h hi hh
    obtain ⟨hM, hc, h10, h351⟩ := id hh
    have w1 : zv_w ((i : Int) + 1) = ((i + 1 : Nat) : Int) := by
      rw [zm_w (by omega)]
      rfl
    have il : i < l.reverse.length := by rw [List.length_reverse]; omega
    obtain ⟨o, ho⟩ : ∃ o, l.reverse[i]? = some o := ⟨_, List.getElem?_eq_getElem il⟩
    have hol : o ∈ l := List.mem_reverse.mp (List.mem_of_getElem? ho)
    have hos := hl o hol
    have o48 := zm_st48 hos
    have o49 : o < ((49 : Nat) : Int) := by have := hos.1; omega
    have eo : zv_aI h 351 (i : Int) = some o := by
      rw [zm_aI hM zm_l351 rfl (by omega) (by omega), show ((i : Nat) : Int).toNat = i by omega, h351 i o ho]
    have ed : l.reverse.drop i = o :: l.reverse.drop (i + 1) := by
      rw [List.drop_eq_getElem_cons il]
      rw [List.getElem?_eq_getElem il] at ho
      rw [Option.some.inj ho]
    -- no mark at o
    have skip : (zm_ed c t → zt_mk h o → zm_ed c o → zt_rl c back t o → zt_mk h t) → ∃ h', L9_marks_72 (d + 2) 347 back k t ((i + 1 : Nat) : Int) h = L9_marks_40 (d + 2) 347 back (zv_w (k + 1)) h' ∧ zm_F [365] [] h h' ∧ (∀ x : Int, 0 ≤ x → x ≠ t → zv_I h' 365 x.toNat = zv_I h 365 x.toNat) ∧ (zt_mk h t → zt_mk h' t) ∧ (zt_mk h' t → zt_mk h t ∨ ∃ o ∈ l, zt_mk h o ∧ zm_ed c o ∧ zm_ed c t ∧ zt_rl c back t o) ∧ (zm_ed c t → ∀ o ∈ l.reverse.drop i, zt_mk h o → zm_ed c o → zt_rl c back t o → zt_mk h' t) := fun no => by
      obtain ⟨h', i1, i2, i3, i4, i5, i6⟩ := ih (i + 1) h (by omega) hh
      refine ⟨h', i1, i2, i3, i4, i5, fun q o' ho' m1 m2 m3 => ?_⟩
      rw [ed] at ho'
      rcases List.mem_cons.mp ho' with z | z
      · rw [z] at m1 m2 m3
        exact i4 (no q m1 m2 m3)
      · exact i6 q o' z m1 m2 m3
    have stop : (¬ zm_ed c t ∨ zt_mk h t) → ∃ h', L9_marks_40 (d + 2) 347 back (zv_w (k + 1)) h = L9_marks_40 (d + 2) 347 back (zv_w (k + 1)) h' ∧ zm_F [365] [] h h' ∧ (∀ x : Int, 0 ≤ x → x ≠ t → zv_I h' 365 x.toNat = zv_I h 365 x.toNat) ∧ (zt_mk h t → zt_mk h' t) ∧ (zt_mk h' t → zt_mk h t ∨ ∃ o ∈ l, zt_mk h o ∧ zm_ed c o ∧ zm_ed c t ∧ zt_rl c back t o) ∧ (zm_ed c t → ∀ o ∈ l.reverse.drop i, zt_mk h o → zm_ed c o → zt_rl c back t o → zt_mk h' t) := fun q => ⟨h, rfl, zm_F_r _ _ h, fun _ _ _ => rfl, fun q => q, fun q => Or.inl q, fun e _ _ _ _ _ => q.resolve_left (fun z => z e)⟩
    have put : zm_ed c t → zt_mk h o → zm_ed c o → zt_rl c back t o → ∃ h', ((zv_wB h 365 t 1).bind fun g => L9_marks_72 (d + 2) 347 back k t ((i + 1 : Nat) : Int) g) = L9_marks_40 (d + 2) 347 back (zv_w (k + 1)) h' ∧ zm_F [365] [] h h' ∧ (∀ x : Int, 0 ≤ x → x ≠ t → zv_I h' 365 x.toNat = zv_I h 365 x.toNat) ∧ (zt_mk h t → zt_mk h' t) ∧ (zt_mk h' t → zt_mk h t ∨ ∃ o ∈ l, zt_mk h o ∧ zm_ed c o ∧ zm_ed c t ∧ zt_rl c back t o) ∧ (zm_ed c t → ∀ o ∈ l.reverse.drop i, zt_mk h o → zm_ed c o → zt_rl c back t o → zt_mk h' t) := fun m0 m1 m2 m3 => by
      rw [zm_e (zm_wB hM zm_l365 rfl t48.1 t49 1), show zv_nz 1 = 1 from rfl]
      have f : zm_F [365] [] h (zv_sI h 365 t.toNat 1) := zm_F_I (zm_F_r _ _ h) rfl _ _
      obtain ⟨h', i1, i2, i3, i4, i5, i6⟩ := ih (i + 1) (zv_sI h 365 t.toNat 1) (by omega) (zm_lh_F hh f)
      have mt : zt_mk h' t := i4 (by
        unfold zt_mk
        rw [zy_I]
        decide)
      refine ⟨h', i1, zm_F_t f i2, fun x x0 xt => ?_, fun _ => mt, fun _ => Or.inr ⟨o, hol, m1, m2, m0, m3⟩, fun _ _ _ _ _ _ => mt⟩
      rw [i3 x x0 xt, zy_In _ _ (fun q => xt (by have := q.2; omega))]
    rw [qL9_marks_72, zm_e (zm_gI hM 10), h10, if_pos (by omega), zm_e (zm_isEdit hM d t48), w1, hc]
    dsimp only
    by_cases c1 : zm_ed c t
    · rw [if_pos c1, if_neg (by decide), zm_e (zm_f25 hM), zm_e (zm_aB hM zm_l365 (Or.inl rfl) rfl t48.1 t49)]
      by_cases c2 : zv_I h 365 t.toNat = 0
      · rw [if_pos c2, zm_e (zm_f5 hM), zm_e eo, zm_e (zm_f25 hM), zm_e (zm_aB hM zm_l365 (Or.inl rfl) rfl o48.1 o49)]
        by_cases c3 : zv_I h 365 o.toNat = 0
        · rw [if_pos c3]
          exact skip (fun _ q => absurd c3 q)
        · rw [if_neg c3, zm_e (zm_isEdit hM d o48), hc]
          dsimp only
          by_cases c4 : zm_ed c o
          · rw [if_pos c4, if_neg (by decide)]
            by_cases c5 : back = 0
            · obtain ⟨lt, hlt, _⟩ := zt_line W hts
              rw [if_pos c5, zm_e (zm_isOfLine hM d o (by rw [hc]; exact hlt))]
              dsimp only
              by_cases c6 : o ∈ t :: lt
              · obtain ⟨v, ev, qv⟩ := zt_leansOn hM hc d W hts c1 o
                rw [if_pos c6, if_neg (by decide), zm_e ev]
                dsimp only
                by_cases c7 : v = 0
                · rw [if_pos c7]
                  refine skip (fun _ _ _ q => ?_)
                  unfold zt_rl at q
                  rw [if_pos c5] at q
                  exact absurd c7 (qv.mpr q.2)
                · rw [if_neg c7, zm_e (zm_f25 hM)]
                  refine put c1 c3 c4 ?_
                  unfold zt_rl
                  rw [if_pos c5]
                  exact ⟨⟨lt, hlt, c6⟩, qv.mp c7⟩
              · rw [if_neg c6, if_pos rfl]
                refine skip (fun _ _ _ q => ?_)
                unfold zt_rl at q
                rw [if_pos c5] at q
                obtain ⟨l2, h2, m2⟩ := q.1
                rw [zm_Ln_u h2 hlt] at m2
                exact absurd m2 c6
            · obtain ⟨lo, hlo, _⟩ := zt_line W hos
              rw [if_neg c5, zm_e (zm_isOfLine hM d t (by rw [hc]; exact hlo))]
              dsimp only
              by_cases c6 : t ∈ o :: lo
              · obtain ⟨v, ev, qv⟩ := zt_leansOn hM hc d W hos c4 t
                rw [if_pos c6, if_neg (by decide), zm_e ev]
                dsimp only
                by_cases c7 : v = 0
                · rw [if_pos c7]
                  refine skip (fun _ _ _ q => ?_)
                  unfold zt_rl at q
                  rw [if_neg c5] at q
                  exact absurd c7 (qv.mpr q.2)
                · rw [if_neg c7, zm_e (zm_f25 hM)]
                  refine put c1 c3 c4 ?_
                  unfold zt_rl
                  rw [if_neg c5]
                  exact ⟨⟨lo, hlo, c6⟩, qv.mp c7⟩
              · rw [if_neg c6, if_pos rfl]
                refine skip (fun _ _ _ q => ?_)
                unfold zt_rl at q
                rw [if_neg c5] at q
                obtain ⟨l2, h2, m2⟩ := q.1
                rw [zm_Ln_u h2 hlo] at m2
                exact absurd m2 c6
          · rw [if_neg c4, if_pos rfl]
            exact skip (fun _ _ q => absurd q c4)
      · rw [if_neg c2]
        exact stop (Or.inr c2)
    · rw [if_neg c1, if_pos rfl]
      exact stop (Or.inl c1)
/-- all that lean on s, or on which it leans -/
def zt_tb (c : Nat → Int) (back s x : Int) : Prop := if back = 0 then zt_tc c x s else zt_tc c s x
theorem zt_marks40 (d : Nat) {c : Nat → Int} (W : zm_W c) (cw : ∀ t, zm_st c t → zt_cw c t) {l : List Int} {s0 s : Int} (hLn : zm_Ln c l s0) (ok : zt_ln_ok c l) (s1 : 1 ≤ s) (hsl : s ∈ l) (back : Int) : ∀ (n i : Nat) (h : zv_H), i + n = l.length → 1 ≤ i → zm_lh c l h → zt_mk h s → (∀ x : Int, 0 ≤ x → x ≤ 47 → zt_mk h x → zt_tb c back s x) → (∀ x : Int, 1 ≤ x → x ∈ (if back = 0 then l.reverse.take i else l.take (i - 1)) → zt_tb c back s x → zt_mk h x) → ∃ h', L9_marks_40 (d + 2) 347 back i h = some (none, h') ∧ zm_F [365] [] h h' ∧ (∀ x ∈ l, 1 ≤ x → (zt_mk h' x ↔ zt_tb c back s x)) ∧ ∀ x : Int, 0 ≤ x → x ≤ 47 → zt_mk h' x → zt_tb c back s x := by
  have hl := ok.2.2.1
  have hn := ok.2.2.2
  have hss := hl s hsl
  obtain ⟨ls, hls, _⟩ := zt_line W hss
  intro n
  induction n with
  | zero =>
    intro i h hi h1 hh hI hS hC
    obtain ⟨hM, hc, h10, h351⟩ := hh
    refine ⟨h, ?_, zm_F_r _ _ h, fun x hx x1 => ⟨hS x (by omega) (by have := (hl x hx).1; omega), fun q => hC x x1 ?_ q⟩, hS⟩
    · rw [qL9_marks_40, zm_e (zm_gI hM 10), h10, if_neg (by omega)]
    · by_cases b0 : back = 0
      · rw [if_pos b0, List.take_of_length_le (by rw [List.length_reverse]; omega)]
        exact List.mem_reverse.mpr hx
      · rw [if_neg b0]
        -- all but the start
        obtain ⟨k, hk⟩ := List.mem_iff_getElem?.mp hx
        have kl := zm_lt_of_get hk
        have k2 : k < i - 1 := by
          by_cases z : k = l.length - 1
          · exfalso
            have e0 := ok.2.1
            rw [List.getLast?_eq_getElem?, ← z, hk] at e0
            have := Option.some.inj e0
            omega
          · omega
        have : (l.take (i - 1))[k]? = some x := by rw [List.getElem?_take_of_lt k2]; exact hk
        exact List.mem_of_getElem? this
  | succ n ih =>
    intro i h hi h1 hh hI hS hC
    obtain ⟨hM, hc, h10, h351⟩ := id hh
    have w1 : zv_w ((i : Int) + 1) = ((i + 1 : Nat) : Int) := by
      rw [zm_w (by omega)]
      rfl
    have w2 : zv_w ((l.length : Int) - (i : Int)) = (l.length : Int) - (i : Int) := zm_w (by omega)
    have go : ∀ t, t ∈ l → (∀ x, x ∈ (if back = 0 then l.reverse.take (i + 1) else l.take (i + 1 - 1)) → x = t ∨ x ∈ (if back = 0 then l.reverse.take i else l.take (i - 1))) → (zt_tb c back s t → 1 ≤ t → t = s ∨ ∃ o, 1 ≤ o ∧ o ∈ (if back = 0 then l.reverse.take i else l.take (i - 1)) ∧ zt_tb c back s o ∧ zt_rl c back t o ∧ zm_ed c o ∧ zm_ed c t) → ∃ h', L9_marks_72 (d + 2) 347 back i t 1 h = some (none, h') ∧ zm_F [365] [] h h' ∧ (∀ x ∈ l, 1 ≤ x → (zt_mk h' x ↔ zt_tb c back s x)) ∧ ∀ x : Int, 0 ≤ x → x ≤ 47 → zt_mk h' x → zt_tb c back s x := by
      intro t ht tk hp
      have t47 := (hl t ht).1
      obtain ⟨h2, i1, i2, i3, i4, i5, i6⟩ := zt_marks72 d W hl hn back i t ht (l.length - 1) 1 h (by omega) hh
      have mono : ∀ x : Int, 0 ≤ x → zt_mk h x → zt_mk h2 x := fun x x0 q => by
        by_cases e : x = t
        · rw [e] at q ⊢
          exact i4 q
        · unfold zt_mk at q ⊢
          rw [i3 x x0 e]
          exact q
      obtain ⟨h3, k1, k2, k3⟩ := ih (i + 1) h2 (by omega) (by omega) (zm_lh_F hh i2) (mono s (by omega) hI) (fun x x0 x47 q => by
        by_cases e : x = t
        · rw [e] at q ⊢
          rcases i5 q with z | ⟨o, o1, o2, o3, o4, o5⟩
          · exact hS t (by omega) (by omega) z
          · have oo := (hl o o1).1
            have so := hS o (by omega) (by omega) o2
            unfold zt_rl at o5
            unfold zt_tb at so ⊢
            by_cases b0 : back = 0
            · rw [if_pos b0] at so o5 ⊢
              exact zt_tc_l o5.2 so
            · rw [if_neg b0] at so o5 ⊢
              exact zt_tc_a so o5.2
        · refine hS x x0 x47 ?_
          unfold zt_mk at q ⊢
          rw [← i3 x x0 e]
          exact q) (fun x x1 hx q => by
        rcases tk x hx with e | e
        · rw [e] at q x1 ⊢
          rcases hp q x1 with z | ⟨o, o1, o2, o3, o4, o5, o6⟩
          · rw [z]
            exact mono s (by omega) hI
          · have mo := hC o o1 o2 o3
            have ol : o ∈ l := by
              split at o2
              · exact List.mem_reverse.mp (List.mem_of_mem_take o2)
              · exact List.mem_of_mem_take o2
            refine i6 o6 o ?_ mo o5 o4
            -- not the first
            obtain ⟨k, hk⟩ := List.mem_iff_getElem?.mp (List.mem_reverse.mpr ol)
            have k0 : k ≠ 0 := fun e0 => by
              rw [e0] at hk
              have el := ok.2.1
              rw [← List.head?_reverse, List.head?_eq_getElem?, hk] at el
              have := Option.some.inj el
              omega
            have : (l.reverse.drop 1)[k - 1]? = some o := by
              rw [List.getElem?_drop, show 1 + (k - 1) = k by omega]
              exact hk
            exact List.mem_of_getElem? this
        · exact mono x (by omega) (hC x x1 e q))
      refine ⟨h3, ?_, zm_F_t i2 k2, k3⟩
      rw [show L9_marks_72 (d + 2) 347 back i t 1 h = _ from i1, w1, k1]
    rw [qL9_marks_40, zm_e (zm_gI hM 10), h10, if_pos (by omega), zm_e (zm_f5 hM)]
    by_cases b0 : back = 0
    · have il : i < l.reverse.length := by rw [List.length_reverse]; omega
      obtain ⟨t, ht⟩ : ∃ t, l.reverse[i]? = some t := ⟨_, List.getElem?_eq_getElem il⟩
      have htl : t ∈ l := List.mem_reverse.mp (List.mem_of_getElem? ht)
      have hts := hl t htl
      have et : l.reverse.take (i + 1) = l.reverse.take i ++ [t] := zt_take_s ht
      rw [if_pos b0, zm_e (show zv_aI h 351 (i : Int) = some t by
        rw [zm_aI hM zm_l351 rfl (by omega) (by omega), show ((i : Nat) : Int).toNat = i by omega, h351 i t ht])]
      -- the line of t
      have eL : l = (l.reverse.drop (i + 1)).reverse ++ t :: (l.reverse.take i).reverse := by
        have e1 : l.reverse = l.reverse.take i ++ t :: l.reverse.drop (i + 1) := by
          have e2 : l.reverse.drop i = t :: l.reverse.drop (i + 1) := by
            rw [List.drop_eq_getElem_cons il]
            rw [List.getElem?_eq_getElem il] at ht
            rw [Option.some.inj ht]
          rw [← e2, List.take_append_drop]
        have := congrArg List.reverse e1
        rw [List.reverse_reverse, List.reverse_append, List.reverse_cons, List.append_assoc] at this
        exact this
      have hlt : zm_Ln c (t :: (l.reverse.take i).reverse) t := by
        rw [eL] at hLn
        exact zt_Ln_app _ hLn
      refine go t htl (fun x hx => ?_) (fun q t1 => ?_)
      · rw [if_pos b0, et] at hx
        rcases List.mem_append.mp hx with z | z
        · rw [if_pos b0]; exact Or.inr z
        · exact Or.inl (List.mem_singleton.mp z)
      · unfold zt_tb at q
        rw [if_pos b0] at q
        rcases zt_tc_h q with z | ⟨o, o1, o2⟩
        · exact Or.inl z
        · have oo := zt_tc_1 W s1 o2
          obtain ⟨m, mo⟩ := zt_ln_in W hts (cw t hts) hlt o1 (by omega)
          refine Or.inr ⟨o, oo, ?_, ?_, ?_, Or.inl (mo (by omega)), (zt_ln_ed W o1).1⟩
          · rw [if_pos b0]
            exact List.mem_reverse.mp m
          · unfold zt_tb
            rw [if_pos b0]; exact o2
          · unfold zt_rl
            rw [if_pos b0]
            exact ⟨⟨_, hlt, List.mem_cons_of_mem _ m⟩, o1⟩
    · have il : i - 1 < l.length := by omega
      obtain ⟨t, ht⟩ : ∃ t, l[i - 1]? = some t := ⟨_, List.getElem?_eq_getElem il⟩
      have htl : t ∈ l := List.mem_of_getElem? ht
      have hts := hl t htl
      have et : l.take (i - 1 + 1) = l.take (i - 1) ++ [t] := zt_take_s ht
      have hr : l.reverse[l.length - i]? = some t := by
        rw [List.getElem?_reverse (by omega), show l.length - 1 - (l.length - i) = i - 1 by omega]
        exact ht
      rw [if_neg b0, zm_e (zm_gI hM 10), h10, w2, zm_e (show zv_aI h 351 ((l.length : Int) - i) = some t by
        rw [zm_aI hM zm_l351 rfl (by omega) (by omega), show ((l.length : Int) - i).toNat = l.length - i by omega, h351 _ t hr])]
      refine go t htl (fun x hx => ?_) (fun q t1 => ?_)
      · rw [if_neg b0, show i + 1 - 1 = i - 1 + 1 by omega, et] at hx
        rcases List.mem_append.mp hx with z | z
        · rw [if_neg b0]; exact Or.inr z
        · exact Or.inl (List.mem_singleton.mp z)
      · unfold zt_tb at q
        rw [if_neg b0] at q
        rcases zt_tc_e q with z | ⟨o, o1, o2⟩
        · exact Or.inl z.symm
        · obtain ⟨eo, oo⟩ := zt_ln_ed W o2
          have olm := zt_tc_in W cw oo o1 hss hls
          obtain ⟨p, b, e, hb⟩ := zm_Ln_s hLn s hsl
          have e2 : b = ls := (List.cons.inj (zm_Ln_u hb hls)).2
          rw [e2] at e
          have ol : o ∈ l := by rw [e]; exact List.mem_append_right _ olm
          have hos := hl o ol
          obtain ⟨p2, b2, e3, hb2⟩ := zm_Ln_s hLn o ol
          obtain ⟨m, mo⟩ := zt_ln_in W hos (cw o hos) hb2 o2 (by omega)
          refine Or.inr ⟨o, oo, ?_, ?_, ?_, eo, Or.inl (mo (by omega))⟩
          · rw [if_neg b0]
            -- o lies ahead of t
            obtain ⟨k, hk⟩ := List.mem_iff_getElem?.mp m
            have tk : l[p2.length + 1 + k]? = some t := by
              rw [e3, List.getElem?_append_right (by omega), show p2.length + 1 + k - p2.length = k + 1 by omega, List.getElem?_cons_succ]
              exact hk
            have same : p2.length + 1 + k = i - 1 := by
              have l1 := zm_lt_of_get tk
              exact (List.getElem?_inj l1 ok.1).mp (tk.trans ht.symm)
            have ok2 : (l.take (i - 1))[p2.length]? = some o := by
              rw [List.getElem?_take_of_lt (by omega), e3, List.getElem?_append_right (Nat.le_refl _), Nat.sub_self]
              rfl
            exact List.mem_of_getElem? ok2
          · unfold zt_tb
            rw [if_neg b0]; exact o1
          · unfold zt_rl
            rw [if_neg b0]
            exact ⟨⟨b2, hb2, List.mem_cons_of_mem _ m⟩, o2⟩
theorem zt_marks {h : zv_H} {c : Nat → Int} (hM : zm_M h) (hc : zv_I h 348 = c) (W : zm_W c) (cw : ∀ t, zm_st c t → zt_cw c t) (d : Nat) {l : List Int} (hl : zm_Ln c (c 0 :: l) (c 0)) {s : Int} (s1 : 1 ≤ s) (hsl : s ∈ c 0 :: l) (back : Int) : zm_R (C9_marks (d + 5) 347 s back h) (fun h' => zm_F [351, 352, 353, 354, 355, 365] [10, 11, 12] h h' ∧ (∀ x ∈ c 0 :: l, 1 ≤ x → (zt_mk h' x ↔ zt_tb c back s x)) ∧ ∀ x : Int, 0 ≤ x → x ≤ 47 → zt_mk h' x → zt_tb c back s x) := by
  refine zm_cV (P := fun h' => zm_F [351, 352, 353, 354, 355, 365] [10, 11, 12] h h' ∧ (∀ x ∈ c 0 :: l, 1 ≤ x → (zt_mk h' x ↔ zt_tb c back s x)) ∧ ∀ x : Int, 0 ≤ x → x ≤ 47 → zt_mk h' x → zt_tb c back s x) (lC9_marks (zm_ob hM)) ?_
  obtain ⟨ok, g, gt, W1⟩ := zt_line_u W W.2.1 hl
  have l47 := zt_dep W W.2.1 hl
  obtain ⟨h1, e1, f1, hSn⟩ := zm_sees_st hM hc d W1 l47 g gt
  have hM1 := zm_F_M f1 hM
  have c1 : zv_I h1 348 = c := (zm_F_a f1 348).trans hc
  have hh : zm_lh c (c 0 :: l) h1 := ⟨hM1, c1, hSn.1.1, hSn.1.2⟩
  obtain ⟨h2, i1, f2, m2⟩ := zt_marks10 (d + 4) s back 48 0 h1 rfl hM1 (fun x hx => absurd hx (Nat.not_lt_zero _))
  have hh2 := zm_lh_F hh f2
  have l1 : 1 + l.length = (c 0 :: l).length := by
    rw [List.length_cons, Nat.add_comm]
  have s47 := (ok.2.2.1 s hsl).1
  have mk : ∀ x : Int, 0 ≤ x → x ≤ 47 → (zt_mk h2 x ↔ x = s) := fun x x0 x47 => by
    unfold zt_mk
    rw [m2 x.toNat (by omega), show ((x.toNat : Nat) : Int) = x by omega]
    by_cases e : x = s
    · rw [if_pos e]; exact ⟨fun _ => e, fun _ => by decide⟩
    · rw [if_neg e]; exact ⟨fun q => absurd rfl q, fun q => absurd q e⟩
  have tr : ∀ x : Int, x = s → zt_tb c back s x := fun x e => by
    rw [e]
    unfold zt_tb
    split <;> exact zt_tc_r c s
  obtain ⟨h3, k1, f3, m3⟩ := zt_marks40 (d + 2) W cw hl ok s1 hsl back l.length 1 h2 l1 (Nat.le_refl _) hh2 ((mk s (by omega) (by omega)).mpr rfl) (fun x x0 x47 q => tr x ((mk x x0 x47).mp q)) (fun x x1 hx _ => by
    exfalso
    by_cases b0 : back = 0
    · rw [if_pos b0] at hx
      have e0 := ok.2.1
      rw [← List.head?_reverse] at e0
      cases hr : (c 0 :: l).reverse with
      | nil =>
        rw [hr] at hx
        cases hx
      | cons y r =>
        rw [hr] at hx e0
        have ey : y = 0 := Option.some.inj e0
        have : x = y := List.mem_singleton.mp hx
        omega
    · rw [if_neg b0, Nat.sub_self, List.take_zero] at hx
      cases hx)
  rw [qE9_marks, zm_e (zm_here hM _), hc]
  dsimp only
  rw [zm_e e1, show L9_marks_10 (d + 4) 347 s back 0 h1 = _ from i1, show L9_marks_40 (d + 4) 347 back 1 h2 = _ from k1]
  exact zm_iV ⟨zm_F_t (zm_F_s f1 rfl rfl) (zm_F_t (zm_F_s f2 rfl rfl) (zm_F_s f3 rfl rfl)), m3⟩
end
/-! A36.turnr -/
section
/-! ===== the tie: names tried; turning, in the reference ===== -/
theorem zt_nd_rev {l : List Int} (h : l.Nodup) : l.reverse.Nodup := List.pairwise_reverse.mpr (List.Pairwise.imp (fun q e => q e.symm) h)
theorem zt_namesToo {h : zv_H} {c : Nat → Int} (hM : zm_M h) (hc : zv_I h 348 = c) (d : Nat) {s : Int} (hs : 0 ≤ s ∧ s ≤ 48) {t : Int} (t0 : 0 ≤ t) (t1 : t < 48) : ∃ (w v : Int), (w = 10 ∨ w = 11) ∧ C9_namesToo (d + 2) 347 s t h = some (zv_sI h 348 (432 + 76 * s.toNat + w.toNat) v) ∧ ∀ x : Int, 0 ≤ x → x < 48 → (zm_nm (zm_os c s w v) s x ↔ zm_nm c s x ∨ x = t) := by
  subst hc
  have em : t.tmod 24 = ((t.toNat % 24 : Nat) : Int) := by
    rw [Int.tmod_eq_emod_of_nonneg t0]
    omega
  have bits : ∀ (w : Int), (w = if t < 24 then 10 else 11) → ∀ x : Int, 0 ≤ x → x < 48 → (zm_nm (zm_os (zv_I h 348) s w (zv_or (zm_o (zv_I h 348) s w) (zv_shl 1 (t.tmod 24)))) s x ↔ zm_nm (zv_I h 348) s x ∨ x = t) := fun w hw x x0 x1 => by
    rw [zt_nm_b x0 x1, zt_nm_b x0 x1]
    by_cases e : (if x < 24 then (10 : Int) else 11) = w
    · rw [e, zm_os_s, em, zt_or_shl _ (by omega) _ (by omega), Bool.or_eq_true, decide_eq_true_eq]
      have key : x.toNat % 24 = t.toNat % 24 ↔ x = t := by
        rw [hw] at e
        split at e <;> split at e <;> omega
      rw [key]
    · have w76 : 0 ≤ w ∧ w < 76 := by
        rw [hw]
        split <;> decide
      rw [zm_os_o _ _ hs.1 w76 hs.1 (by split <;> decide) (fun q => e q.2)]
      have ne : x ≠ t := fun q => by
        rw [hw, q] at e
        exact e rfl
      exact ⟨fun q => Or.inl q, fun q => q.resolve_right ne⟩
  by_cases c1 : t < 24
  · refine ⟨10, zv_or (zm_o (zv_I h 348) s 10) (zv_shl 1 (t.tmod 24)), Or.inl rfl, lC9_namesToo (zm_ob hM) ?_, bits 10 (by rw [if_pos c1])⟩
    rw [qE9_namesToo, if_pos c1, qL9_namesToo_15, if_pos c1, qL9_namesToo_30, zm_e (zm_of hM d hs (by decide))]
    dsimp only
    rw [zm_e (zm_sets hM d hs (by decide) _)]
  · refine ⟨11, zv_or (zm_o (zv_I h 348) s 11) (zv_shl 1 (t.tmod 24)), Or.inr rfl, lC9_namesToo (zm_ob hM) ?_, bits 11 (by rw [if_neg c1])⟩
    rw [qE9_namesToo, if_neg c1, qL9_namesToo_15, if_neg c1, qL9_namesToo_30, zm_e (zm_of hM d hs (by decide))]
    dsimp only
    rw [zm_e (zm_sets hM d hs (by decide) _)]
/-- whose names are named -/
def zt_nP (h : zv_H) (act x : Int) : Prop := zt_mk h x ∧ zv_I h 354 x.toNat = if act = 2 then 1 else 0
theorem zt_tries22 (d : Nat) {c : Nat → Int} {l : List Int} (hl : ∀ t ∈ l, zm_st c t) (hnd : l.Nodup) (h0l : l.getLast? = some 0) (hn : l.length ≤ 48) (act : Int) (h0 : zv_H) : ∀ (n i : Nat) (h : zv_H) (K : List Int), i + n = l.length → 1 ≤ i → K.length ≤ i → K.Nodup → (∀ x ∈ K, x ∈ l.reverse.take i ∧ 1 ≤ x) → (∀ x ∈ l.reverse.take i, 1 ≤ x → (x ∈ K ↔ zt_nP h0 act x)) → (∀ x : Int, 0 ≤ x → x < 48 → (zm_nm (zv_I h 348) 48 x ↔ x ∈ K)) → zv_I h 365 = zv_I h0 365 → zv_I h 354 = zv_I h0 354 → zm_lh (zv_I h 348) l h → zm_Tr c (zv_I h 348) act → zm_R (L9_triesNames_22 (d + 2) 347 act (K.length : Int) i h) (zm_I fun v h' => zm_F [348] [] h h' ∧ zm_Tr c (zv_I h' 348) act ∧ ∃ K' : List Int, v = (K'.length : Int) ∧ K'.Nodup ∧ (∀ x, x ∈ K' ↔ x ∈ l ∧ 1 ≤ x ∧ zt_nP h0 act x) ∧ ∀ x : Int, 0 ≤ x → x < 48 → (zm_nm (zv_I h' 348) 48 x ↔ x ∈ K')) := by
  intro n
  induction n with
  | zero =>
    intro i h K hi h1 kl knd k1 k2 k3 e5 e4 hh ht
    obtain ⟨hM, hc, h10, h351⟩ := hh
    rw [qL9_triesNames_22, zm_e (zm_gI hM 10), h10, if_neg (by omega)]
    have full : l.reverse.take i = l.reverse := List.take_of_length_le (by rw [List.length_reverse]; omega)
    rw [full] at k1 k2
    refine zm_iI ⟨zm_F_r _ _ h, ht, K, rfl, knd, fun x => ⟨fun q => ?_, fun q => ?_⟩, k3⟩
    · obtain ⟨a1, a2⟩ := k1 x q
      exact ⟨List.mem_reverse.mp a1, a2, (k2 x a1 a2).mp q⟩
    · exact (k2 x (List.mem_reverse.mpr q.1) q.2.1).mpr q.2.2
  | succ n ih =>
    intro i h K hi h1 kl knd k1 k2 k3 e5 e4 hh ht
    obtain ⟨hM, hc, h10, h351⟩ := id hh
    have w1 : zv_w ((i : Int) + 1) = ((i + 1 : Nat) : Int) := by
      rw [zm_w (by omega)]
      rfl
    have wa : zv_w ((K.length : Int) + 1) = ((K.length + 1 : Nat) : Int) := by
      rw [zm_w (by omega)]
      rfl
    have il : i < l.reverse.length := by rw [List.length_reverse]; omega
    obtain ⟨t, htg⟩ : ∃ t, l.reverse[i]? = some t := ⟨_, List.getElem?_eq_getElem il⟩
    have htl : t ∈ l := List.mem_reverse.mp (List.mem_of_getElem? htg)
    have tst := hl t htl
    have t48 := zm_st48 tst
    have t49 : t < ((49 : Nat) : Int) := by have := tst.1; omega
    have t47 := tst.1
    have et : zv_aI h 351 (i : Int) = some t := by
      rw [zm_aI hM zm_l351 rfl (by omega) (by omega), show ((i : Nat) : Int).toNat = i by omega, h351 i t htg]
    have etk : l.reverse.take (i + 1) = l.reverse.take i ++ [t] := zt_take_s htg
    have nt : ¬ t ∈ l.reverse.take i := fun q => by
      have nd : (l.reverse.take (i + 1)).Nodup := List.Nodup.sublist (List.take_sublist _ _) (zt_nd_rev hnd)
      rw [etk] at nd
      exact (List.nodup_append.mp nd).2.2 t q t (List.mem_singleton.mpr rfl) rfl
    have t1 : 1 ≤ t := by
      by_cases z : t = 0
      · exfalso
        have e0 : l.reverse[0]? = some 0 := by rw [← List.head?_eq_getElem?, List.head?_reverse]; exact h0l
        rw [z] at htg
        have := (List.getElem?_inj il (zt_nd_rev hnd)).mp (htg.trans e0.symm)
        omega
      · omega
    have skip : ¬ zt_nP h0 act t → zm_R (L9_triesNames_22 (d + 2) 347 act (K.length : Int) ((i + 1 : Nat) : Int) h) (zm_I fun v h' => zm_F [348] [] h h' ∧ zm_Tr c (zv_I h' 348) act ∧ ∃ K' : List Int, v = (K'.length : Int) ∧ K'.Nodup ∧ (∀ x, x ∈ K' ↔ x ∈ l ∧ 1 ≤ x ∧ zt_nP h0 act x) ∧ ∀ x : Int, 0 ≤ x → x < 48 → (zm_nm (zv_I h' 348) 48 x ↔ x ∈ K')) := fun no => by
      refine ih (i + 1) h K (by omega) (by omega) (by omega) knd (fun x hx => ?_) (fun x hx x1 => ?_) k3 e5 e4 hh ht
      · rw [etk]
        exact ⟨List.mem_append_left _ (k1 x hx).1, (k1 x hx).2⟩
      · rw [etk] at hx
        rcases List.mem_append.mp hx with q | q
        · exact k2 x q x1
        · rw [List.mem_singleton.mp q]
          exact ⟨fun z => absurd (k1 t z).1 nt, fun z => absurd z no⟩
    rw [qL9_triesNames_22, zm_e (zm_gI hM 10), h10, if_pos (by omega), zm_e (zm_f25 hM), zm_e (zm_f5 hM), zm_e et, zm_e (zm_aB hM zm_l365 (Or.inl rfl) rfl t48.1 t49), w1]
    refine zm_if (fun q => skip (fun z => z.1 (by rw [← e5]; exact q))) (fun mk => ?_)
    rw [zm_e (zm_f8 hM), zm_e (zm_f5 hM), zm_e et, zm_e (zm_aB hM zm_l354 (Or.inl rfl) rfl t48.1 t49)]
    have l65 : ∀ z : Int, z = (if act = 2 then 1 else 0) → zm_R (L9_triesNames_65 (d + 2) 347 act (K.length : Int) i (zv_I h 354 t.toNat) z h) (zm_I fun v h' => zm_F [348] [] h h' ∧ zm_Tr c (zv_I h' 348) act ∧ ∃ K' : List Int, v = (K'.length : Int) ∧ K'.Nodup ∧ (∀ x, x ∈ K' ↔ x ∈ l ∧ 1 ≤ x ∧ zt_nP h0 act x) ∧ ∀ x : Int, 0 ≤ x → x < 48 → (zm_nm (zv_I h' 348) 48 x ↔ x ∈ K')) := by
      intro z hz
      rw [qL9_triesNames_65, w1, wa]
      refine zm_if (fun eq => ?_) (fun ne => skip (fun q => ne (by
        have q2 := q.2
        rw [← e4] at q2
        rw [q2, hz])))
      have hP : zt_nP h0 act t := by
        unfold zt_nP zt_mk
        rw [← e5, ← e4, eq, hz]
        exact ⟨mk, rfl⟩
      obtain ⟨w, v, hw, ew, hb⟩ := zt_namesToo hM rfl d (s := 48) (by decide) t47.1 (by omega)
      rw [zm_e (zm_f5 hM), zm_e et, zm_e ew]
      have f : zm_F [348] [] h (zv_sI h 348 (432 + 76 * (48 : Int).toNat + w.toNat) v) := zm_F_I (zm_F_r _ _ h) rfl _ _
      have e1 : zv_I (zv_sI h 348 (432 + 76 * (48 : Int).toNat + w.toNat) v) 348 = zm_os (zv_I h 348) 48 w v := zm_ss _ _ _ _
      have g10 : zv_I (zv_sI h 348 (432 + 76 * (48 : Int).toNat + w.toNat) v) 347 10 = l.length := (zm_F_g f 10).trans h10
      have g351 : zv_I (zv_sI h 348 (432 + 76 * (48 : Int).toNat + w.toNat) v) 351 = zv_I h 351 := zm_so _ _ _
      have g365 : zv_I (zv_sI h 348 (432 + 76 * (48 : Int).toNat + w.toNat) v) 365 = zv_I h 365 := zm_so _ _ _
      have g354 : zv_I (zv_sI h 348 (432 + 76 * (48 : Int).toNat + w.toNat) v) 354 = zv_I h 354 := zm_so _ _ _
      generalize zv_sI h 348 (432 + 76 * (48 : Int).toNat + w.toNat) v = h1 at f e1 g10 g351 g365 g354
      have nK : ¬ t ∈ K := fun q => nt (k1 t q).1
      refine zm_mono (ih (i + 1) h1 (t :: K) (by omega) (by omega) (by rw [List.length_cons]; omega) (List.nodup_cons.mpr ⟨nK, knd⟩) (fun x hx => ?_) (fun x hx x1 => ?_) (fun x x0 x1 => ?_) (g365.trans e5) (g354.trans e4) ⟨zm_F_M f hM, rfl, g10, fun k x hx => by rw [g351]; exact h351 k x hx⟩ (by rw [e1]; exact zm_Tr_s ht hw v)) ?_
      · rw [etk]
        rcases List.mem_cons.mp hx with q | q
        · rw [q]
          exact ⟨List.mem_append_right _ (List.mem_singleton.mpr rfl), t1⟩
        · exact ⟨List.mem_append_left _ (k1 x q).1, (k1 x q).2⟩
      · rw [etk] at hx
        rcases List.mem_append.mp hx with q | q
        · rw [← k2 x q x1]
          exact ⟨fun z => (List.mem_cons.mp z).resolve_left (fun e => nt (by rw [← e]; exact q)), fun z => List.mem_cons_of_mem _ z⟩
        · rw [List.mem_singleton.mp q]
          exact ⟨fun _ => hP, fun _ => List.mem_cons_self⟩
      · rw [e1, hb x x0 x1, k3 x x0 x1, List.mem_cons]
        exact Or.comm
      · rintro ⟨ov, h'⟩ ⟨v', ev, f2, q2⟩
        exact ⟨v', ev, zm_F_t f f2, q2⟩
    by_cases a2 : act = 2
    · rw [if_pos a2]
      exact l65 1 (by rw [if_pos a2])
    · rw [if_neg a2]
      exact l65 0 (by rw [if_neg a2])
/-- what is named -/
def zt_nk (c c2 : Nat → Int) (L : List Int) (act back s : Int) (K : List Int) : Prop := K.Nodup ∧ (∀ x, x ∈ K ↔ x ∈ L ∧ 1 ≤ x ∧ zt_tb c back s x ∧ zm_fc c L x = if act = 2 then 1 else 0) ∧ ∀ x : Int, 0 ≤ x → x < 48 → (zm_nm c2 48 x ↔ x ∈ K)
theorem zt_triesNames {h : zv_H} {c : Nat → Int} (hM : zm_M h) (hc : zv_I h 348 = c) (W : zm_W c) (d : Nat) {act : Int} (ha : act = 2 ∨ act = 3) {l : List Int} (hl : zm_Ln c (c 0 :: l) (c 0)) (s back : Int) (mk : ∀ x ∈ c 0 :: l, 1 ≤ x → (zt_mk h x ↔ zt_tb c back s x)) : zm_R (C9_triesNames (d + 5) 347 act h) (fun q => zm_F [348, 351, 352, 353, 354, 355] [10, 11, 12] h q.2 ∧ zm_Tr c (zv_I q.2 348) act ∧ ∃ K, zt_nk c (zv_I q.2 348) (c 0 :: l) act back s K ∧ q.1 = (K.length : Int)) := by
  refine zm_cI (P := fun v h' => zm_F [348, 351, 352, 353, 354, 355] [10, 11, 12] h h' ∧ zm_Tr c (zv_I h' 348) act ∧ ∃ K, zt_nk c (zv_I h' 348) (c 0 :: l) act back s K ∧ v = (K.length : Int)) (lC9_triesNames (zm_ob hM)) ?_
  obtain ⟨ok, g, gt, W1⟩ := zt_line_u W W.2.1 hl
  have hl2 := zt_dep W W.2.1 hl
  obtain ⟨h1, e1, f1, hSn⟩ := zm_sees_st hM hc d W1 hl2 g gt
  have hM1 := zm_F_M f1 hM
  have c1 : zv_I h1 348 = c := (zm_F_a f1 348).trans hc
  have c047 : 0 ≤ c 0 ∧ c 0 ≤ 47 := W.2.1.1
  obtain ⟨h2, e2, f2, b2⟩ := zm_begins hM1 c1 (d + 2) (s := 48) (by decide) c047 (by omega) act (-1) 0 0
  obtain ⟨⟨b20, b21, b22, b23, b24, b25, b26⟩, b28, b29, b2k⟩ := b2
  rw [qE9_triesNames, zm_e (zm_here hM _), hc]
  dsimp only
  rw [zm_e e1, zm_e e2]
  have l1 : 1 + l.length = (c 0 :: l).length := by
    rw [List.length_cons, Nat.add_comm]
  have hlh : zm_lh (zv_I h2 348) (c 0 :: l) h2 := ⟨zm_F_M f2 hM1, rfl, (zm_F_g f2 10).trans hSn.1.1, fun k x hx => by rw [zm_F_a f2 351]; exact hSn.1.2 k x hx⟩
  have e365 : zv_I h2 365 = zv_I h 365 := (zm_F_a f2 365).trans (zm_F_a f1 365)
  have e354 : zv_I h2 354 = zv_I h1 354 := zm_F_a f2 354
  have hP : ∀ x ∈ c 0 :: l, 1 ≤ x → (zt_nP h2 act x ↔ zt_tb c back s x ∧ zm_fc c (c 0 :: l) x = if act = 2 then 1 else 0) := fun x hx x1 => by
    unfold zt_nP
    rw [e354, hSn.2.2.1 x hx]
    have : zt_mk h2 x ↔ zt_mk h x := by
      unfold zt_mk
      rw [e365]
    rw [this, mk x hx x1]
  have e0 := ok.2.1
  refine zm_mono (zt_tries22 (d + 2) ok.2.2.1 ok.1 e0 ok.2.2.2 act h2 l.length 1 h2 [] l1 (Nat.le_refl _) (by decide) List.nodup_nil (fun x hx => by cases hx) (fun x hx x1 => ?_) (fun x x0 x1 => ?_) rfl rfl hlh ⟨fun k hk => b2k k hk, b21, b22, b25, b28⟩) ?_
  · exfalso
    rw [← List.head?_reverse] at e0
    cases hr : (c 0 :: l).reverse with
    | nil =>
      rw [hr] at hx
      cases hx
    | cons y r =>
      rw [hr] at hx e0
      have ey : y = 0 := Option.some.inj e0
      have : x = y := List.mem_singleton.mp hx
      omega
  · exact ⟨fun q => absurd q (zt_nm0 (b29 10 (by decide) (by decide)) (b29 11 (by decide) (by decide)) x0 x1), fun q => by cases q⟩
  · rintro ⟨ov, h'⟩ ⟨v', ev, f3, tr, K', kl, knd, k1, k2⟩
    refine ⟨v', ev, zm_F_t (zm_F_s f1 rfl rfl) (zm_F_t (zm_F_s f2 rfl rfl) (zm_F_s f3 rfl rfl)), tr, K', ⟨knd, fun x => ?_, k2⟩, kl⟩
    rw [k1 x]
    constructor
    · rintro ⟨q1, q2, q3⟩
      exact ⟨q1, q2, (hP x q1 q2).mp q3⟩
    · rintro ⟨q1, q2, q3⟩
      exact ⟨q1, q2, (hP x q1 q2).mpr q3⟩
/-- what comes of it: too many letters, or a new State -/
def zt_tu (c2 : Nat → Int) (L : List Int) (act : Int) (K : List Int) (v : Int) (c' : Nat → Int) : Prop := (v = -1 ∧ c' = c2 ∧ ¬ ((((zm_row c2 (48 :: L)).filter (zm_sn c2 (48 :: L))).length : Nat) : Int) ≤ 120) ∨ ((((((zm_row c2 (48 :: L)).filter (zm_sn c2 (48 :: L))).length : Nat) : Int) ≤ 120) ∧ zt_free c2 v ∧ zm_Nw c2 c' v ∧ zm_o c' v 2 = act ∧ zm_o c' v 3 = c2 1 ∧ zm_o c' v 4 = -1 ∧ zm_o c' v 5 = (K.length : Int) ∧ zm_o c' v 6 = v ∧ zm_o c' v 7 = zv_w (c2 2 + 1) ∧ zm_o c' v 8 = -1 ∧ zm_o c' v 10 = zm_o c2 48 10 ∧ zm_o c' v 11 = zm_o c2 48 11)
theorem zt_turn101 {h : zv_H} {c : Nat → Int} (hM : zm_M h) (hc : zv_I h 348 = c) (w : zm_W c) (cw : ∀ t, zm_st c t → zt_cw c t) (hn : zm_nst c ≠ 48) (d : Nat) {act : Int} (ha : act = 2 ∨ act = 3) {l : List Int} (hlL : zm_Ln c (c 0 :: l) (c 0)) {s : Int} (s1 : 1 ≤ s) (hsl : s ∈ c 0 :: l) (back : Int) : zm_R (L9_turnNow_101 (d + 6) 347 act 347 s back h) (zm_I fun v h' => ∃ c2 K, zm_Tr c c2 act ∧ zt_nk c c2 (c 0 :: l) act back s K ∧ zt_tu c2 (c 0 :: l) act K v (zv_I h' 348)) := by
  obtain ⟨h1, e1, f1, mk1, _⟩ := zt_marks hM hc w cw (d + 1) hlL s1 hsl back
  have hM1 := zm_F_M f1 hM
  have c1 : zv_I h1 348 = c := (zm_F_a f1 348).trans hc
  obtain ⟨⟨many, h2⟩, e2, f2, tr, K, nk, em⟩ := zt_triesNames hM1 c1 w (d + 1) ha hlL s back mk1
  dsimp only at f2 tr nk em
  have hM2 := zm_F_M f2 hM1
  have w2 := zm_Tr_W tr w
  generalize hc2 : zv_I h2 348 = c2 at tr w2 nk
  have c20 : c2 0 = c 0 := tr.1 0 (by omega)
  obtain ⟨_, g, gt, hl⟩ := zt_line_u w w.2.1 hlL
  have hl2 := zt_dep w w.2.1 hlL
  have hagl : ∀ t ∈ c 0 :: l, zm_ag c c2 t := fun t ht => by
    have hst := hl.2.1.2.2 t ht
    exact zm_Tr_ag tr hst.1.1 hst.1.2
  have hst2 : ∀ t ∈ c 0 :: l, zm_st c2 t := fun t ht => by
    have hst := hl.2.1.2.2 t ht
    have h3 := hst.1
    have h4 : zm_o c2 t 0 = zm_o c t 0 := tr.1 _ (by clear hst; omega)
    exact ⟨hst.1, h4.trans hst.2⟩
  have hl48 : zm_W1 c2 (c 0) l := zm_W1_cg hl g hagl hst2
  have n48 : ¬ (48 : Int) ∈ c 0 :: l := fun q => by
    have := (hl.2.1.2.2 48 q).1
    omega
  have hLn : zm_Ln c2 (48 :: c 0 :: l) 48 := by
    refine ⟨by decide, ?_⟩
    rw [tr.2.1]
    exact hl48.1
  have ned : ¬ zm_ed c2 48 := by
    intro q
    have h3 := tr.2.2.1
    rcases q with q | q
    · rw [h3] at q
      omega
    · rw [h3] at q
      omega
  have g2 : zm_G0 c2 (c 0 :: l) := by
    obtain ⟨a1, a2, a3, a4, a5⟩ := g
    have a0 := hagl 0 (List.mem_of_getLast? a2)
    refine ⟨a1, a2, by rw [a0 5 (by decide) (by decide) (by decide)]; exact a3, by rw [a0 2 (by decide) (by decide) (by decide)]; exact a4, fun t ht h0 he => ?_⟩
    rw [hagl t ht 5 (by decide) (by decide) (by decide)]
    exact a5 t ht h0 ((zm_ed_cg (hagl t ht)).mp he)
  have g48 : zm_G0 c2 (48 :: c 0 :: l) := by
    refine ⟨List.nodup_cons.mpr ⟨n48, g2.1⟩, by rw [List.getLast?_cons_cons]; exact g2.2.1, g2.2.2.1, g2.2.2.2.1, fun t ht h0 he => ?_⟩
    rcases List.mem_cons.mp ht with q | q
    · rw [q] at he
      exact absurd he ned
    · exact g2.2.2.2.2 t q h0 he
  have r48 : zm_row c2 (48 :: c 0 :: l) = zm_row c (c 0 :: l) := by
    rw [zm_row_c c2 48 (List.cons_ne_nil _ _), if_neg (fun q => ned (Or.inl q)), zm_row_cg hagl]
  have gt48 : ∀ t ∈ 48 :: c 0 :: l, zm_o c2 t 2 = 1 → ∀ p ∈ zm_tk c2 t, p ∈ zm_row c2 (48 :: c 0 :: l) := by
    intro t ht hk p hp
    rcases List.mem_cons.mp ht with q | q
    · rw [q] at hk
      exact absurd (Or.inr hk) ned
    · rw [hagl t q 2 (by decide) (by decide) (by decide)] at hk
      rw [zm_tk_cg (hagl t q) (zm_cut12 g t q hk)] at hp
      rw [r48]
      exact gt t q hk p hp
  have ln : (48 :: c 0 :: l).length ≤ 49 := by
    rw [List.length_cons, List.length_cons]
    omega
  obtain ⟨⟨n, h3⟩, e3, en, f3, _⟩ := zm_lettersOf hM2 (d + 1) (zm_sees hM2 hc2 (d + 1) (by decide) hLn ln g48 gt48)
  dsimp only at en f3
  have hM3 := zm_F_M f3 hM2
  have c3 : zv_I h3 348 = c2 := (zm_F_a f3 348).trans hc2
  have f03 : zm_F [348, 351, 352, 353, 354, 355, 365] [3, 10, 11, 12] h h3 := zm_F_t (zm_F_s f1 rfl rfl) (zm_F_t (zm_F_s f2 rfl rfl) (zm_F_s f3 rfl rfl))
  rw [qL9_turnNow_101, zm_e e1, zm_e e2]
  dsimp only
  rw [zm_e e3]
  dsimp only
  refine zm_if (fun hfit => ?_) (fun nfit => by
    rw [zm_e (zm_refuse hM3 _ 6)]
    have e : zv_I (zv_sI h3 347 3 6) 348 = c2 := (zm_so h3 _ _).trans c3
    exact zm_iI ⟨c2, K, tr, nk, Or.inl ⟨rfl, e, by rw [← en]; exact nfit⟩⟩)
  have hn2 : zm_nst c2 ≠ 48 := by
    have : zm_nst c2 = zm_nst c := zm_sum_cg 48 (fun k hk => tr.1 _ (by omega))
    rw [this]
    exact hn
  obtain ⟨t, et, ht, hlow, hd⟩ := zm_free hM3 (d + 4) (by rw [c3]; exact hn2)
  rw [c3] at hd hlow
  have hnst : ¬ zm_st c2 t := fun q => hd q.2
  have hne : t ≠ c2 0 := fun e => hnst (by rw [e]; exact w2.2.1)
  obtain ⟨h4, e4, f4, b4⟩ := zm_begins hM3 c3 (d + 4) (s := t) (by omega) w2.2.1.1 hne act (-1) many 0
  obtain ⟨⟨b40, b41, b42, b43, b44, b45, b46⟩, b48, b49, b4k⟩ := b4
  have hM4 := zm_F_M f4 hM3
  have o48 : ∀ w : Int, 0 ≤ w → w < 76 → zm_o (zv_I h4 348) 48 w = zm_o c2 48 w := fun w w0 w1 => b4k _ (by omega)
  have t48 : 0 ≤ t ∧ t ≤ 48 := by omega
  rw [zm_e et]
  dsimp only
  rw [zm_e e4, zm_e (zm_of hM4 _ (by decide) (by decide)), o48 10 (by decide) (by decide)]
  dsimp only
  rw [zm_e (zm_sets hM4 _ t48 (by decide) _)]
  have f5 : zm_F [348] [] h4 (zv_sI h4 348 (432 + 76 * t.toNat + Int.toNat 10) (zm_o c2 48 10)) := zm_F_I (zm_F_r _ _ h4) rfl _ _
  have e5 : zv_I (zv_sI h4 348 (432 + 76 * t.toNat + Int.toNat 10) (zm_o c2 48 10)) 348 = zm_os (zv_I h4 348) t 10 (zm_o c2 48 10) := zm_ss _ _ _ _
  generalize zv_sI h4 348 (432 + 76 * t.toNat + Int.toNat 10) (zm_o c2 48 10) = h5 at f5 e5
  have hM5 := zm_F_M f5 hM4
  have tne : ¬ ((48 : Int) = t) := by omega
  rw [zm_e (zm_of hM5 _ (by decide) (by decide)), e5, zm_os_o _ _ t48.1 (by decide) (by decide) (by decide) (fun q => tne q.1), o48 11 (by decide) (by decide)]
  dsimp only
  rw [zm_e (zm_sets hM5 _ t48 (by decide) _)]
  have f6 : zm_F [348] [] h5 (zv_sI h5 348 (432 + 76 * t.toNat + Int.toNat 11) (zm_o c2 48 11)) := zm_F_I (zm_F_r _ _ h5) rfl _ _
  have e6 : zv_I (zv_sI h5 348 (432 + 76 * t.toNat + Int.toNat 11) (zm_o c2 48 11)) 348 = zm_os (zm_os (zv_I h4 348) t 10 (zm_o c2 48 10)) t 11 (zm_o c2 48 11) := by
    rw [← e5]
    exact zm_ss _ _ _ _
  generalize zv_sI h5 348 (432 + 76 * t.toNat + Int.toNat 11) (zm_o c2 48 11) = h6 at f6 e6
  have hM6 := zm_F_M f6 hM5
  have O : ∀ w : Int, 0 ≤ w → w < 76 → w ≠ 10 → w ≠ 11 → zm_o (zv_I h6 348) t w = zm_o (zv_I h4 348) t w := by
    intro w w0 w1 wa wb
    rw [e6, zm_os_o _ _ t48.1 (by decide) t48.1 ⟨w0, w1⟩ (fun q => wb q.2), zm_os_o _ _ t48.1 (by decide) t48.1 ⟨w0, w1⟩ (fun q => wa q.2)]
  have O10 : zm_o (zv_I h6 348) t 10 = zm_o c2 48 10 := by
    rw [e6, zm_os_o _ _ t48.1 (by decide) t48.1 (by decide) (fun q => by cases q.2), zm_os_s]
  have O11 : zm_o (zv_I h6 348) t 11 = zm_o c2 48 11 := by
    rw [e6, zm_os_s]
  have k6 : ∀ k : Nat, ¬ (432 + 76 * t.toNat ≤ k ∧ k < 432 + 76 * t.toNat + 76) → zv_I h6 348 k = c2 k := by
    intro k hk
    rw [e6, zm_os_k _ _ (by decide) hk, zm_os_k _ _ (by decide) hk]
    exact b4k k hk
  obtain ⟨h7, e7, f7, c7⟩ := zm_visits hM6 rfl (d + 4) ht
  have c60 : zv_I h6 348 0 = c2 0 := k6 0 (by omega)
  rw [if_neg (by rw [c60]; exact hne)] at c7
  obtain ⟨nw, rw7⟩ := zm_Nw_of ht k6 (by rw [O 0 (by decide) (by decide) (by decide) (by decide)]; exact b40) (by rw [O 1 (by decide) (by decide) (by decide) (by decide), b41])
  rw [zm_e e7]
  rw [← c7] at nw rw7
  have R : ∀ w : Int, 0 ≤ w → w < 76 → w ≠ 7 → w ≠ 10 → w ≠ 11 → zm_o (zv_I h7 348) t w = zm_o (zv_I h4 348) t w := fun w w0 w1 w7 wa wb => (rw7 w w0 w1 w7).trans (O w w0 w1 wa wb)
  have a2 : zm_o (zv_I h7 348) t 2 = act := by rw [R 2 (by decide) (by decide) (by decide) (by decide) (by decide), b42]
  have a6 : zm_o (zv_I h7 348) t 6 = t := by
    rw [R 6 (by decide) (by decide) (by decide) (by decide) (by decide), b46, if_pos rfl]
  have a8 : zm_o (zv_I h7 348) t 8 = -1 := by rw [R 8 (by decide) (by decide) (by decide) (by decide) (by decide), b48]
  have a3 : zm_o (zv_I h7 348) t 3 = c2 1 := by rw [R 3 (by decide) (by decide) (by decide) (by decide) (by decide), b43]
  have a4 : zm_o (zv_I h7 348) t 4 = -1 := by rw [R 4 (by decide) (by decide) (by decide) (by decide) (by decide), b44]
  have a5 : zm_o (zv_I h7 348) t 5 = many := by rw [R 5 (by decide) (by decide) (by decide) (by decide) (by decide), b45]
  have a7 : zm_o (zv_I h7 348) t 7 = zv_w (c2 2 + 1) := by rw [c7, zt_vc7 _ ht, k6 2 (by omega)]
  exact zm_iI ⟨c2, K, tr, nk, Or.inr ⟨by rw [← en]; exact hfit, ⟨ht, hlow, hd⟩, nw, a2, a3, a4, a5.trans em, a6, a7, a8, (rw7 10 (by decide) (by decide) (by decide)).trans O10, (rw7 11 (by decide) (by decide) (by decide)).trans O11⟩⟩
/-- what turning wants -/
def zt_tw (c : Nat → Int) (L : List Int) (act s : Int) : Prop := zm_st c s ∧ s ∈ L ∧ zm_ed c s ∧ zm_fc c L s = (if act = 2 then 1 else 0) ∧ zm_nst c ≠ 48
theorem zt_turnNow {h : zv_H} {c : Nat → Int} (hM : zm_M h) (hc : zv_I h 348 = c) (W : zm_W c) (cw : ∀ t, zm_st c t → zt_cw c t) (d : Nat) {act : Int} (ha : act = 2 ∨ act = 3) {l : List Int} (hl : zm_Ln c (c 0 :: l) (c 0)) (s : Int) : zm_R (C9_turnNow (d + 7) 347 s act h) (fun q => (q.1 = -1 ∧ zv_I q.2 348 = c ∧ ¬ zt_tw c (c 0 :: l) act s) ∨ (zt_tw c (c 0 :: l) act s ∧ ∃ c2 K, zm_Tr c c2 act ∧ zt_nk c c2 (c 0 :: l) act (if act = 3 then 1 else 0) s K ∧ zt_tu c2 (c 0 :: l) act K q.1 (zv_I q.2 348))) := by
  refine zm_cI (P := fun v h' => (v = -1 ∧ zv_I h' 348 = c ∧ ¬ zt_tw c (c 0 :: l) act s) ∨ (zt_tw c (c 0 :: l) act s ∧ ∃ c2 K, zm_Tr c c2 act ∧ zt_nk c c2 (c 0 :: l) act (if act = 3 then 1 else 0) s K ∧ zt_tu c2 (c 0 :: l) act K v (zv_I h' 348))) (lC9_turnNow (zm_ob hM)) ?_
  have refu : ∀ (v : Int) (g : zv_H), zm_M g → zv_I g 348 = c → ¬ zt_tw c (c 0 :: l) act s → zm_R ((C9_refuse (d + 6) 347 v g).bind fun q => (some (some (zv_i q.1), q.2) : zv_O)) (zm_I fun v h' => (v = -1 ∧ zv_I h' 348 = c ∧ ¬ zt_tw c (c 0 :: l) act s) ∨ (zt_tw c (c 0 :: l) act s ∧ ∃ c2 K, zm_Tr c c2 act ∧ zt_nk c c2 (c 0 :: l) act (if act = 3 then 1 else 0) s K ∧ zt_tu c2 (c 0 :: l) act K v (zv_I h' 348))) := by
    intro v g gM e0 no
    rw [zm_e (zm_refuse gM _ v)]
    have e : zv_I (zv_sI g 347 3 v) 348 = c := (zm_so g _ _).trans e0
    exact zm_iI (Or.inl ⟨rfl, e, no⟩)
  obtain ⟨ok, g, gt, W1⟩ := zt_line_u W W.2.1 hl
  have hl2 := zt_dep W W.2.1 hl
  rw [qE9_turnNow]
  refine zm_gb (zm_isState hM _ s) (fun q => refu 2 h hM hc (fun z => q (by rw [hc]; exact z.1))) (fun hs => ?_)
  rw [hc] at hs
  dsimp only
  rw [zm_e (zm_here hM _), hc]
  dsimp only
  refine zm_gb (zm_isOfLine hM _ s (by rw [hc]; exact hl)) (fun q => ?_) (fun hin => ?_)
  · rw [qL9_turnNow_34]
    exact refu 7 h hM hc (fun z => q z.2.1)
  dsimp only
  refine zm_gb (zm_isEdit hM _ (zm_st48 hs)) (fun q => ?_) (fun he => ?_)
  · rw [qL9_turnNow_34]
    exact refu 7 h hM hc (fun z => q (by rw [hc]; exact z.2.2.1))
  rw [hc] at he
  obtain ⟨h1, e1, f1, hSn⟩ := zm_sees_st hM hc (d + 2) W1 hl2 g gt
  have hM1 := zm_F_M f1 hM
  have c1 : zv_I h1 348 = c := (zm_F_a f1 348).trans hc
  have s48 := zm_st48 hs
  have s49 : s < ((49 : Nat) : Int) := by have := hs.1; omega
  have s1 : 1 ≤ s := by
    have h47 := hs.1
    by_cases z : s = 0
    · have h0 := W.1.2.1.2.2.1
      rw [z] at he
      rcases he with q | q <;> omega
    · omega
  dsimp only
  rw [zm_e (zm_here hM _), hc]
  dsimp only
  rw [zm_e e1, zm_e (zm_f8 hM1), zm_e (zm_aB hM1 zm_l354 (Or.inl rfl) rfl s48.1 s49), hSn.2.2.1 s hin]
  have l65 : ∀ z : Int, z = (if act = 2 then 1 else 0) → zm_R (L9_turnNow_65 (d + 6) 347 s act (zm_fc c (c 0 :: l) s) z h1) (zm_I fun v h' => (v = -1 ∧ zv_I h' 348 = c ∧ ¬ zt_tw c (c 0 :: l) act s) ∨ (zt_tw c (c 0 :: l) act s ∧ ∃ c2 K, zm_Tr c c2 act ∧ zt_nk c c2 (c 0 :: l) act (if act = 3 then 1 else 0) s K ∧ zt_tu c2 (c 0 :: l) act K v (zv_I h' 348))) := by
    intro z hz
    rw [qL9_turnNow_65]
    refine zm_if (fun eq => ?_) (fun ne => refu 4 h1 hM1 c1 (fun y => ne (y.2.2.2.1.trans hz.symm)))
    rw [zm_e (zm_states hM1 _ (by rw [c1]; exact W.1.1)), c1]
    dsimp only
    refine zm_if (fun q => refu 3 h1 hM1 c1 (fun y => y.2.2.2.2 q)) (fun hns => ?_)
    have go : ∀ b : Int, b = (if act = 3 then 1 else 0) → zm_R (L9_turnNow_101 (d + 6) 347 act 347 s b h1) (zm_I fun v h' => (v = -1 ∧ zv_I h' 348 = c ∧ ¬ zt_tw c (c 0 :: l) act s) ∨ (zt_tw c (c 0 :: l) act s ∧ ∃ c2 K, zm_Tr c c2 act ∧ zt_nk c c2 (c 0 :: l) act (if act = 3 then 1 else 0) s K ∧ zt_tu c2 (c 0 :: l) act K v (zv_I h' 348))) := by
      intro b hb
      refine zm_mono (zt_turn101 hM1 c1 W cw hns d ha hl s1 hin b) ?_
      rintro ⟨ov, h'⟩ ⟨v', ev, R⟩
      rw [hb] at R
      exact ⟨v', ev, Or.inr ⟨⟨hs, hin, he, eq.trans hz, hns⟩, R⟩⟩
    by_cases a3 : act = 3
    · rw [if_pos a3]
      exact go 1 (by rw [if_pos a3])
    · rw [if_neg a3]
      exact go 0 (by rw [if_neg a3])
  by_cases a2 : act = 2
  · rw [if_pos a2]
    exact l65 1 (by rw [if_pos a2])
  · rw [if_neg a2]
    exact l65 0 (by rw [if_neg a2])
end
/-! A37.turn -/
section
/-! ===== the tie: turning, in the class ===== -/
section
variable {a : Nat} {c : Nat → Int} {g : zv_H}
theorem zt_C4_idAt {d : Nat} (gL : zt_L g) (la : zv_lay a = (1, 0)) {R : List (Int × Int)} (sz : zv_I g (a + 8) 6 = R.length) (id : ∀ (k : Nat) (p : Int × Int), R[k]? = some p → zv_I g (a + 10) k = zt_id p) (hn : R.length ≤ 604) {i : Nat} {x : Int × Int} (hx : R[i]? = some x) : C4_idAt (d + 1) (a + 8) i g = some (zt_id x, g) := by
  obtain ⟨l8, _, l10, _⟩ := zt_row_l la
  have il := zm_lt_of_get hx
  refine lC4_idAt (zl_ob gL l8) ?_
  rw [qE4_idAt, if_neg (by omega), zm_e (zl_gI gL l8 6), sz, if_pos (by omega), if_pos (by omega), zm_e (zl_gF gL l8 1 2), show a + 8 + 2 = a + 10 from rfl, zm_e (zl_aI gL l10 (by omega) (by omega)), show ((i : Nat) : Int).toNat = i by omega, id i x hx]
theorem zt_C4_seesAt {d : Nat} (gL : zt_L g) (la : zv_lay a = (1, 0)) {R : List (Int × Int)} (sz : zv_I g (a + 8) 6 = R.length) {f : Int × Int → Bool} (se : ∀ (k : Nat) (p : Int × Int), R[k]? = some p → zv_I g (a + 11) k = if f p = true then 1 else 0) (hn : R.length ≤ 604) {i : Nat} {x : Int × Int} (hx : R[i]? = some x) : C4_seesAt (d + 1) (a + 8) i g = some ((if f x = true then 1 else 0), g) := by
  obtain ⟨l8, _, l10, l11, _⟩ := zt_row_l la
  have il := zm_lt_of_get hx
  refine lC4_seesAt (zl_ob gL l8) ?_
  rw [qE4_seesAt, if_neg (by omega), zm_e (zl_gI gL l8 6), sz, if_pos (by omega), if_pos (by omega), zm_e (zl_gF gL l8 2 3), show a + 8 + 3 = a + 11 from rfl, zm_e (zl_aB gL l11 (by omega) (by omega)), show ((i : Nat) : Int).toNat = i by omega, se i x hx]
  by_cases e : f x = true
  · rw [if_pos e, if_neg (by decide)]
  · rw [if_neg e, if_pos rfl]
theorem zt_turn65 {d : Nat} {g0 : zv_H} {S : Nat} {R : List (Int × Int)} {f : Int × Int → Bool} {num : Int} (gL : zt_L g0) (la : zv_lay a = (1, 0)) (lS : zv_lay S = (1, 5)) (nS : ∀ n, n ≤ 27 → n ≠ 1 → n ≠ 2 → n ≠ 3 → a + n ≠ S ∧ a + n ≠ S + 2) (hn : R.length ≤ 604) (h120 : (R.filter f).length ≤ 120) (n0 : zv_I g0 S 0 = num) (sz : zv_I g0 (a + 8) 6 = R.length) (id : ∀ (k : Nat) (p : Int × Int), R[k]? = some p → zv_I g0 (a + 10) k = zt_id p) (se : ∀ (k : Nat) (p : Int × Int), R[k]? = some p → zv_I g0 (a + 11) k = if f p = true then 1 else 0) : ∀ (b A : List (Int × Int)), A ++ b = R → ∀ g, zt_ad a g0 S (A.filter f) (fun k => zv_I g0 (a + 5) k) g → ∃ g', L0_turn_65 (d + 1) a S A.length g = some (some (zv_i num), g') ∧ zt_ad a g0 S (R.filter f) (fun k => zv_I g0 (a + 5) k) g' := by
  intro b
  induction b with
  | nil =>
    intro A e g D
    rw [List.append_nil] at e
    subst e
    have L1 := zt_ad_L D gL
    have l8 := (zt_row_l la).1
    have i6 : zv_I g (a + 8) 6 = A.length := (zt_ad_i D _ _ (fun q => (nS 8 (by decide) (by decide) (by decide) (by decide)).1 q.1) (nS 8 (by decide) (by decide) (by decide) (by decide)).2 (by omega)).trans sz
    refine ⟨g, ?_, D⟩
    rw [qL0_turn_65, zm_e (zl_gF L1 la 5 8), zm_e (zl_gI L1 l8 6), i6, if_neg (by omega), zm_e (zl_gI L1 lS 0), zt_ad_i D S 0 (fun q => absurd q.2 (by decide)) (by omega) (fun q => (nS 5 (by decide) (by decide) (by decide) (by decide)).1 q.symm), n0]
  | cons x b ih =>
    intro A e g D
    have L1 := zt_ad_L D gL
    have l8 := (zt_row_l la).1
    have hx : R[A.length]? = some x := by
      rw [← e, List.getElem?_append_right (Nat.le_refl _), Nat.sub_self]
      rfl
    have il := zm_lt_of_get hx
    have fr : ∀ n k, n = 8 ∨ n = 10 ∨ n = 11 → zv_I g (a + n) k = zv_I g0 (a + n) k := fun n k hn => zt_ad_i D _ _ (fun q => (nS n (by omega) (by omega) (by omega) (by omega)).1 q.1) (nS n (by omega) (by omega) (by omega) (by omega)).2 (by omega)
    have sz1 : zv_I g (a + 8) 6 = R.length := (fr 8 6 (by omega)).trans sz
    have id1 : ∀ (k : Nat) (p : Int × Int), R[k]? = some p → zv_I g (a + 10) k = zt_id p := fun k p hp => (fr 10 k (by omega)).trans (id k p hp)
    have se1 : ∀ (k : Nat) (p : Int × Int), R[k]? = some p → zv_I g (a + 11) k = if f p = true then 1 else 0 := fun k p hp => (fr 11 k (by omega)).trans (se k p hp)
    have e' : (A ++ [x]) ++ b = R := by rw [List.append_assoc]; exact e
    have w1 : zv_w ((A.length : Int) + 1) = (((A ++ [x]).length : Nat) : Int) := by
      rw [List.length_append, zm_w (by omega)]
      rfl
    rw [qL0_turn_65, zm_e (zl_gF L1 la 5 8), zm_e (zl_gI L1 l8 6), sz1, if_pos (by omega), zm_e (zl_gF L1 la 5 8), zm_e (zt_C4_seesAt L1 la sz1 se1 hn hx), w1]
    dsimp only
    by_cases fx : f x = true
    · have ef : (A ++ [x]).filter f = A.filter f ++ [x] := by rw [List.filter_append, List.filter_cons_of_pos fx]; rfl
      have lt : (A.filter f).length < 120 := by
        have e2 : R.filter f = (A.filter f ++ [x]) ++ b.filter f := by rw [← e', List.filter_append, ef]
        rw [e2, List.length_append, List.length_append, List.length_singleton] at h120
        omega
      rw [if_pos fx, if_neg (by decide), zm_e (zl_gF L1 la 5 8), zm_e (zt_C4_idAt L1 la sz1 id1 hn hx)]
      dsimp only
      rw [zm_e (zt_C5_addId L1 lS (zt_ad_n D) lt _)]
      refine ih (A ++ [x]) e' _ ?_
      rw [ef]
      exact zt_ad_a D (fun q => (nS 5 (by decide) (by decide) (by decide) (by decide)).2 q.symm) (fun q => (nS 5 (by decide) (by decide) (by decide) (by decide)).1 q.symm) x
    · have ef : (A ++ [x]).filter f = A.filter f := by rw [List.filter_append, List.filter_cons_of_neg fx, List.filter_nil, List.append_nil]
      rw [if_neg fx, if_pos rfl]
      refine ih (A ++ [x]) e' _ ?_
      rw [ef]
      exact D
/-- a turned State's own -/
def zt_tn (a : Nat) (h : zv_H) (s : Int) (nm : Int64) (E : List (Int × Int)) (g : zv_H) : Prop := (zv_I g (zt_r a s) 15 = -1) ∧ (zv_J g (zt_r a s) 16 = nm) ∧ (zv_J g (zt_r a s) 17 = Int64.ofNat 0) ∧ (zv_I g (zt_r a s) 12 = E.length) ∧ (∀ (k : Nat) (x : Int × Int), E[k]? = some x → zv_I g (zt_r a s + 2) k = zt_id x) ∧ (∀ k, zv_I g (a + 5) k = zv_I h (a + 5) k)
theorem zt_tn_an {a : Nat} {h : zv_H} {s : Int} {nm : Int64} {E : List (Int × Int)} {g : zv_H} (t : zt_tn a h s nm E g) : zv_I g (zt_r a s) 15 = -1 := t.1
theorem zt_tn_nd {a : Nat} {h : zv_H} {s : Int} {nm : Int64} {E : List (Int × Int)} {g : zv_H} (t : zt_tn a h s nm E g) : zv_J g (zt_r a s) 16 = nm := t.2.1
theorem zt_tn_bs {a : Nat} {h : zv_H} {s : Int} {nm : Int64} {E : List (Int × Int)} {g : zv_H} (t : zt_tn a h s nm E g) : zv_J g (zt_r a s) 17 = Int64.ofNat 0 := t.2.2.1
theorem zt_tn_ln {a : Nat} {h : zv_H} {s : Int} {nm : Int64} {E : List (Int × Int)} {g : zv_H} (t : zt_tn a h s nm E g) : zv_I g (zt_r a s) 12 = E.length := t.2.2.2.1
theorem zt_tn_dc {a : Nat} {h : zv_H} {s : Int} {nm : Int64} {E : List (Int × Int)} {g : zv_H} (t : zt_tn a h s nm E g) : ∀ (k : Nat) (x : Int × Int), E[k]? = some x → zv_I g (zt_r a s + 2) k = zt_id x := t.2.2.2.2.1
theorem zt_tn_gl {a : Nat} {h : zv_H} {s : Int} {nm : Int64} {E : List (Int × Int)} {g : zv_H} (t : zt_tn a h s nm E g) : ∀ k, zv_I g (a + 5) k = zv_I h (a + 5) k := t.2.2.2.2.2
theorem zt_turn {d : Nat} {h : zv_H} {l : List Int} (hl : zm_Ln c (c 0 :: l) (c 0)) (B : zt_B a c (c 0 :: l) h g) (w : zt_rw a c (c 0 :: l) g) (h0 : 0 ≤ zv_I h (a + 17) 4) (act : Int) (nm v : Int64) (hJ : ∀ t ∈ c 0 :: l, zt_b v t.toNat = true → zm_ed c t) : zm_R (C0_turn (d + 4) a act nm v g) (fun q => (q.1 < 0 ∧ zt_B a c (c 0 :: l) h q.2 ∧ ¬ (zm_nst c ≠ 48 ∧ ((zm_row c (c 0 :: l)).filter (zt_sj c (c 0 :: l) v)).length ≤ 120)) ∨ ((zm_nst c ≠ 48 ∧ ((zm_row c (c 0 :: l)).filter (zt_sj c (c 0 :: l) v)).length ≤ 120) ∧ ∃ g5 s, zt_B a c (c 0 :: l) h g5 ∧ zt_free c s ∧ q.1 = s ∧ zt_nn a c g5 s act (-1) (zt_pop nm) s q.2 ∧ zt_tn a g5 s nm ((zm_row c (c 0 :: l)).filter (zt_sj c (c 0 :: l) v)) q.2)) := by
  have gL := zt_B_L B
  have U := zt_B_U B
  have la := zt_U_la U
  have W := zt_U_W U
  have l8 := (zt_row_l la).1
  obtain ⟨ok, g0, gt, W1⟩ := zt_line_u W W.2.1 hl
  have nst := zt_nst_le W
  refine zm_cI (P := fun x q2 => (x < 0 ∧ zt_B a c (c 0 :: l) h q2 ∧ ¬ (zm_nst c ≠ 48 ∧ ((zm_row c (c 0 :: l)).filter (zt_sj c (c 0 :: l) v)).length ≤ 120)) ∨ ((zm_nst c ≠ 48 ∧ ((zm_row c (c 0 :: l)).filter (zt_sj c (c 0 :: l) v)).length ≤ 120) ∧ ∃ g5 s, zt_B a c (c 0 :: l) h g5 ∧ zt_free c s ∧ x = s ∧ zt_nn a c g5 s act (-1) (zt_pop nm) s q2 ∧ zt_tn a g5 s nm ((zm_row c (c 0 :: l)).filter (zt_sj c (c 0 :: l) v)) q2)) (fun e => lC0_turn (zl_ob gL la) e) ?_
  rw [qE0_turn, zm_e (zl_gI gL la 12), zt_U_ct U]
  refine zm_if (fun c48 => ?_) (fun q => zm_iI (Or.inl ⟨by decide, B, fun z => by have := z.1; omega⟩))
  obtain ⟨g5, e5, B5, w5, lo5⟩ := zt_look (d := d) v B w ok g0 gt hJ
  have L5 := zt_B_L B5
  have U5 := zt_B_U B5
  rw [zm_e (zl_gF gL la 5 8), zm_e e5, zm_e (zl_gF L5 la 5 8), zm_e (zl_gI L5 l8 7), zt_lo_sn lo5]
  refine zm_if (fun c120 => ?_) (fun q => zm_iI (Or.inl ⟨by decide, B5, fun z => q (by have := z.2; omega)⟩))
  have okp : zm_nst c ≠ 48 ∧ ((zm_row c (c 0 :: l)).filter (zt_sj c (c 0 :: l) v)).length ≤ 120 := ⟨by omega, by omega⟩
  obtain ⟨s, fr⟩ := zt_free_ex W okp.1
  have h05 : 0 ≤ zv_I g5 (a + 17) 4 := by
    rw [(zt_B_q B5).2.2.1 _ _ (zt_xN la (by omega)) (zt_in0 _)]
    exact h0
  have pr := zt_pop_r nm
  obtain ⟨⟨q1, g1⟩, e1, eq1, G⟩ := zt_grow (d := d + 1) (x := act) (y := -1) (z := zt_pop nm) L5 U5 h05 fr
  dsimp only at eq1 G
  subst eq1
  have L1 := zt_gw_L G
  have lS := zt_r_l la fr.1
  have ers : zt_r a s = zc_stt a s.toNat := zt_r_p fr.1.1
  rw [zm_e (zt_bitCount nm g5)]
  dsimp only
  rw [zm_e e1]
  dsimp only
  rw [if_neg (zc_nz lS), zm_e (zl_pJ L1 lS 16 _)]
  have eh := zt_U_he U5
  have eP : zt_r a (c 0) = zc_stt a (c 0).toNat := zt_r_p W.2.1.1.1
  have hb : ∀ j x n, n ≤ 27 → n ≠ 1 → n ≠ 2 → n ≠ 3 → x ≤ 2 → a + n ≠ zc_stt a j + x := fun j x n n0 n1 n2 n3 hx => zt_sepH n0 hx n1 n2 n3
  have fr8 : ∀ n k, n = 5 ∨ n = 8 ∨ n = 10 ∨ n = 11 → zv_I (zv_sJ g1 (zt_r a s) 16 nm) (a + n) k = zv_I g5 (a + n) k := fun n k hn => by
    show zv_I g1 (a + n) k = _
    refine zt_gw_oI G _ k (fun q => hb s.toNat 0 n (by omega) (by omega) (by omega) (by omega) (by decide) q) (fun q => ?_) (fun q => by omega) (fun q => by omega) (by omega) (by omega)
    rw [eh, eP] at q
    exact hb (c 0).toNat 0 n (by omega) (by omega) (by omega) (by omega) (by decide) q.1
  have n0 : zv_I (zv_sJ g1 (zt_r a s) 16 nm) (zt_r a s) 0 = s := by
    show zv_I g1 (zt_r a s) 0 = s
    rw [ers, zt_gw_s0 G]
    have := fr.1
    omega
  have r604 : (zm_row c (c 0 :: l)).length ≤ 604 := by
    have h1 := zm_row_le g0
    have h2 := ok.2.2.2
    omega
  have D0 : zt_ad a (zv_sJ g1 (zt_r a s) 16 nm) (zt_r a s) (([] : List (Int × Int)).filter (zt_sj c (c 0 :: l) v)) (fun k => zv_I (zv_sJ g1 (zt_r a s) 16 nm) (a + 5) k) (zv_sJ g1 (zt_r a s) 16 nm) := ⟨rfl, rfl, fun _ _ _ _ _ => rfl, by
    show zv_I g1 (zt_r a s) 12 = 0
    rw [ers]
    exact zt_gw_sc G, fun k x hx => (by cases hx), fun _ => rfl⟩
  obtain ⟨g', e6, D⟩ := zt_turn65 (d := d + 2) (g0 := zv_sJ g1 (zt_r a s) 16 nm) (S := zt_r a s) (R := zm_row c (c 0 :: l)) (f := zt_sj c (c 0 :: l) v) (num := s) L1 la lS (fun n m0 m1 m2 m3 => by
    rw [ers]
    exact ⟨hb s.toNat 0 n m0 m1 m2 m3 (by decide), hb s.toNat 2 n m0 m1 m2 m3 (by decide)⟩) r604 okp.2 n0 ((fr8 8 6 (by omega)).trans (zt_rw_sz w5)) (fun k p hp => (fr8 10 k (by omega)).trans (zt_rw_id w5 k p hp)) (fun k p hp => (fr8 11 k (by omega)).trans (zt_lo_se lo5 k p hp)) (zm_row c (c 0 :: l)) [] (List.nil_append _) _ D0
  rw [show L0_turn_65 (d + 3) a (zt_r a s) 0 (zv_sJ g1 (zt_r a s) 16 nm) = _ from e6]
  have D' := D
  rw [ers] at D'
  have f1 := zt_ad_f1 D
  have f2 := zt_ad_f2 D
  have iD := zt_ad_i D'
  have N : zt_nn a c g5 s act (-1) (zt_pop nm) s g' := zt_nn_gen U5 fr rfl G (fun r k c1 _ c3 c4 _ => iD r k (fun q => c1 q.1) c3 c4) (fun k c1 _ => iD _ k (fun q => c1 q.2) (by omega) (fun q => hb s.toNat 0 5 (by decide) (by decide) (by decide) (by decide) (by decide) q.symm)) (fun r k c1 => by
    show g'.2.2.1 r k = _
    rw [f2]
    exact zy_Jn _ _ (fun q => c1 (by rw [q.1, ers]))) (fun r k => by
    show g'.2.2.2.1 r k = _
    rw [f2]; rfl) f1 (by rw [f2]; rfl)
  refine zm_iI (Or.inr ⟨okp, g5, s, B5, fr, rfl, N, ?_, ?_, ?_, zt_ad_n D, zt_ad_d D, fun k => (zt_ad_g D k).trans (fr8 5 k (by omega))⟩)
  · rw [zt_ad_i D _ 15 (fun q => absurd q.2 (by decide)) (by omega) (fun q => hb s.toNat 0 5 (by decide) (by decide) (by decide) (by decide) (by decide) (by rw [← ers]; exact q.symm))]
    show zv_I g1 (zt_r a s) 15 = -1
    rw [ers]
    exact zt_gw_sf G
  · show g'.2.2.1 _ _ = _
    rw [f2]
    exact zy_J _ _ _ _
  · show g'.2.2.1 _ _ = _
    rw [f2]
    refine (zy_Jn _ _ (fun q => absurd q.2 (by decide))).trans ?_
    rw [ers]
    exact zt_gw_jh G
end
end
/-! A38.jturn -/
section
/-! ===== the tie: withdrawing and giving back ===== -/
theorem zt_cnt : ∀ {K : List Int}, K.Nodup → (∀ x ∈ K, 0 ≤ x ∧ x < 64) → zm_sum (fun i => if (i : Int) ∈ K then 1 else 0) 64 = K.length
  | [], _, _ => by
    have e : zm_sum (fun i => if (i : Int) ∈ ([] : List Int) then (1 : Int) else 0) 64 = zm_sum (fun _ => (0 : Int)) 64 := zm_sum_cg 64 (fun k _ => if_neg (fun q => by cases q))
    rw [e]
    rfl
  | x :: K, nd, h => by
    have hx := h x List.mem_cons_self
    obtain ⟨n1, n2⟩ := List.nodup_cons.mp nd
    have ih := zt_cnt n2 (fun y hy => h y (List.mem_cons_of_mem _ hy))
    have ex : ((x.toNat : Nat) : Int) = x := by omega
    have up := zt_sum_up (f := fun i => if (i : Int) ∈ x :: K then (1 : Int) else 0) (g := fun i => if (i : Int) ∈ K then (1 : Int) else 0) (j := x.toNat) (by
      rw [ex, if_neg n1, if_pos List.mem_cons_self]
      rfl) 64 (fun k _ hk => zt_ind2 ⟨fun q => List.mem_cons_of_mem _ q, fun q => (List.mem_cons.mp q).resolve_left (fun e => hk (by omega))⟩)
    rw [if_pos (show x.toNat < 64 by omega), ih] at up
    rw [List.length_cons]
    omega
/-- who is named, of a line -/
def zt_Kp (c : Nat → Int) (L : List Int) (act s x : Int) : Prop := x ∈ L ∧ 1 ≤ x ∧ zt_tb c (if act = 3 then 1 else 0) s x ∧ zm_fc c L x = if act = 2 then 1 else 0
/-- who is in force then -/
def zt_Fp (c : Nat → Int) (L : List Int) (act s : Int) (t : Int) : Prop := t ∈ L ∧ zm_ed c t ∧ ((zt_Kp c L act s t ∧ act = 3) ∨ (¬ zt_Kp c L act s t ∧ zm_fc c L t = 1))
/-- what one sees, as the class and as the reference reckon it -/
theorem zt_sj_nam {c c1 : Nat → Int} {u act s s0 : Int} {L : List Int} {v : Int64} (hLn : zm_Ln c L s0) (hne : L ≠ []) (ok : zt_ln_ok c L) (g : zm_G0 c L) (cw : ∀ t ∈ L, zt_cw c t) (ha : ∀ t ∈ L, zm_ag c c1 t) (hu : ¬ u ∈ L) (h2 : act = 2 ∨ act = 3) (e2 : zm_o c1 u 2 = act) (hnm : ∀ x : Int, 0 ≤ x → x < 48 → (zm_nm c1 u x ↔ zt_Kp c L act s x)) (hv : ∀ t : Nat, t < 64 → (zt_b v t = true ↔ t < 48 ∧ zt_Fp c L act s t)) : zm_row c1 (u :: L) = zm_row c L ∧ ∀ p ∈ zm_row c L, zm_sn c1 (u :: L) p = zt_sj c L v p := by
  have nu : ¬ zm_ed c1 u := fun q => by
    rcases q with q | q
    · rw [e2] at q; omega
    · rw [e2] at q; omega
  have fc' : ∀ x ∈ L, (zm_fc c1 (u :: L) x = 1 ↔ (zt_Kp c L act s x ∧ act = 3) ∨ (¬ zt_Kp c L act s x ∧ zm_fc c L x = 1)) := fun x hx => by
    have xs := (ok.2.2.1 x hx).1
    have nm := hnm x xs.1 (by omega)
    rw [zm_fc_c c1 u hne]
    by_cases k : zt_Kp c L act s x
    · rw [if_pos ⟨nu, nm.mpr k⟩, e2]
      by_cases a3 : act = 3
      · rw [if_pos a3]
        exact ⟨fun _ => Or.inl ⟨k, a3⟩, fun _ => rfl⟩
      · rw [if_neg a3]
        exact ⟨fun q => absurd q (by decide), fun q => by
          rcases q with q | q
          · exact absurd q.2 a3
          · exact absurd k q.1⟩
    · rw [if_neg (fun q => k (nm.mp q.2)), if_neg (fun q => hu (by rw [← q]; exact hx)), zm_fc_cg x ha]
      exact ⟨fun q => Or.inr ⟨k, q⟩, fun q => by
        rcases q with q | q
        · exact absurd q.1 k
        · exact q.2⟩
  have bit : ∀ t ∈ L, zm_ed c t → (zt_b v t.toNat = true ↔ zm_fc c1 (u :: L) t = 1) := fun t ht he => by
    have ts := (ok.2.2.1 t ht).1
    rw [hv t.toNat (by omega), fc' t ht, show ((t.toNat : Nat) : Int) = t by omega]
    unfold zt_Fp
    exact ⟨fun q => q.2.2.2, fun q => ⟨by omega, ht, he, q⟩⟩
  have bd : ∀ (x y : Bool), (x = true ↔ y = true) → x = y := fun x y h => by
    cases x with
    | true => exact (h.mp rfl).symm
    | false =>
      cases y with
      | true => exact absurd (h.mpr rfl) (by decide)
      | false => rfl
  refine ⟨?_, fun p hp => ?_⟩
  · rw [zm_row_c c1 u hne, if_neg (fun q => nu (Or.inl q)), zm_row_cg ha]
  · have pL := (zm_row_mem hp).1
    have cb : zm_cb c1 (u :: L) (u :: L) p = L.any (zt_cg c v p) := by
      rw [zm_cb_c, decide_eq_false (fun q => nu (Or.inr q)), Bool.false_and, Bool.false_or]
      refine zm_any_cg (fun t ht => ?_)
      unfold zt_cg
      have at2 := ha t ht 2 (by decide) (by decide) (by decide)
      rw [at2]
      by_cases t1 : zm_o c t 2 = 1
      · rw [decide_eq_true t1, zm_tk_cg (ha t ht) (zm_cut12 g t ht t1), Bool.true_and, Bool.true_and]
        have b := bit t ht (Or.inr t1)
        have : decide (zm_fc c1 (u :: L) t = 1) = zt_b v t.toNat := bd _ _ (by rw [decide_eq_true_eq]; exact b.symm)
        rw [this]
      · rw [decide_eq_false t1, Bool.false_and, Bool.false_and, Bool.and_false]
    unfold zm_sn zt_sj
    rw [cb]
    have first : decide (zm_fc c1 (u :: L) p.1 = 1) = (decide (p.1 = 0) || zt_b v p.1.toNat) := by
      by_cases z : p.1 = 0
      · rw [decide_eq_true z, Bool.true_or]
        refine decide_eq_true ((fc' p.1 pL).mpr (Or.inr ⟨fun q => ?_, ?_⟩))
        · have := q.2.1; omega
        · rw [z]
          exact zt_fc0 hLn cw g hne
      · rw [decide_eq_false z, Bool.false_or]
        have b := bit p.1 pL (Or.inl (zt_row_ed hp ok.2.1 z))
        exact bd _ _ (by rw [decide_eq_true_eq]; exact b.symm)
    rw [first]
    rfl
/-- the class's answer -/
def zt_tq (a : Nat) (c : Nat → Int) (l : List Int) (act s : Int) (g : zv_H) (q : Int × zv_H) : Prop := (q.1 < 0 ∧ zt_q g q.2 ∧ ¬ zt_tw c (c 0 :: l) act s) ∨ ((zm_st c s ∧ s ∈ c 0 :: l ∧ zm_ed c s ∧ zm_fc c (c 0 :: l) s = if act = 2 then 1 else 0) ∧ ∃ (v nm : Int64), (∀ t : Nat, t < 64 → (zt_b nm t = true ↔ t < 48 ∧ zt_Kp c (c 0 :: l) act s t)) ∧ (∀ t : Nat, t < 64 → (zt_b v t = true ↔ t < 48 ∧ zt_Fp c (c 0 :: l) act s t)) ∧ ((q.1 < 0 ∧ zt_B a c (c 0 :: l) g q.2 ∧ ¬ (zm_nst c ≠ 48 ∧ ((zm_row c (c 0 :: l)).filter (zt_sj c (c 0 :: l) v)).length ≤ 120)) ∨ ((zm_nst c ≠ 48 ∧ ((zm_row c (c 0 :: l)).filter (zt_sj c (c 0 :: l) v)).length ≤ 120) ∧ ∃ g5 s', zt_B a c (c 0 :: l) g g5 ∧ zt_free c s' ∧ q.1 = s' ∧ zt_nn a c g5 s' act (-1) (zt_pop nm) s' q.2 ∧ zt_tn a g5 s' nm ((zm_row c (c 0 :: l)).filter (zt_sj c (c 0 :: l) v)) q.2)))
section
variable {a : Nat} {c : Nat → Int} {g : zv_H}
/-- who leans is a put or a cut -/
theorem zt_tc_ed {c : Nat → Int} (W : zm_W c) (cw : ∀ t, zm_st c t → zt_cw c t) {x s : Int} {ls : List Int} (hs : zm_st c s) (hls : zm_Ln c (s :: ls) s) (he : zm_ed c s) (x1 : 1 ≤ x) (t : zt_tc c s x) : x ∈ s :: ls ∧ zm_ed c x := by
  refine ⟨zt_tc_in W cw x1 t hs hls, ?_⟩
  rcases zt_tc_e t with q | ⟨o, o1, o2⟩
  · rw [← q]; exact he
  · have oo := (zt_ln_ed W o2).2
    have om := zt_tc_in W cw oo o1 hs hls
    have ho := (zt_line_u W hs hls).1.2.2.1 o om
    obtain ⟨q, hq, _⟩ := zt_line W ho
    exact Or.inl ((zt_ln_in W ho (cw o ho) hq o2 (by omega)).2 (by omega))
theorem zt_takeBack {d : Nat} (hA : zc_A g) (H : zt_H a c g) {l : List Int} (hl : zm_Ln c (c 0 :: l) (c 0)) (s : Int) : zm_R (C0_takeBack (d + 5) a s g) (zt_tq a c l 2 s g) := by
  have gL := zt_L_A hA
  have U := zt_H_U H
  have la := zt_U_la U
  have W := zt_U_W U
  obtain ⟨ok, g0, gt, W1⟩ := zt_line_u W W.2.1 hl
  have l8 := (zt_row_l la).1
  refine zm_cI (P := fun x q2 => zt_tq a c l 2 s g (x, q2)) (fun e => lC0_takeBack (zl_ob gL la) e) ?_
  rw [qE0_takeBack, zm_e (zt_at gL U s)]
  by_cases hs : zm_st c s
  · rw [if_pos hs]
    dsimp only
    have h47 := hs.1
    obtain ⟨g4, e4, B, w4, lo4⟩ := zt_lay (d := d) gL U W.2.1 hl
    have L4 := zt_B_L B
    have U4 := zt_B_U B
    have wk := zt_B_wk B
    rw [if_neg (zt_r0 U hs), zm_e (zl_gF gL la 5 8), zm_e (zl_gR gL la 10), zt_U_he U, zm_e e4, zm_e (zl_gF L4 la 5 8), zm_e (zl_gJ L4 l8 8), zm_e (zt_bitr L4 U4 hs)]
    dsimp only
    by_cases c1 : zv_lcmp (zv_J g4 (a + 8) 8 &&& zt_bt s.toNat) (Int64.ofNat 0) = 0
    · have nb := (zt_lcmp_bt _ (show s.toNat < 48 by omega)).mp c1
      rw [if_pos c1]
      refine zm_iI (Or.inl ⟨by dsimp only; decide, zt_B_q B, fun z => ?_⟩)
      have := (zt_wk_ac wk s.toNat (by omega)).mpr ⟨by omega, by rw [show ((s.toNat : Nat) : Int) = s by omega]; exact z.2.1, by rw [show ((s.toNat : Nat) : Int) = s by omega]; exact z.2.2.1⟩
      rw [nb] at this
      cases this
    · have sa := (zt_wk_ac wk s.toNat (by omega)).mp (by
        cases z : zt_b (zv_J g4 (a + 8) 8) s.toNat with
        | true => rfl
        | false => exact absurd ((zt_lcmp_bt _ (show s.toNat < 48 by omega)).mpr z) c1)
      rw [show ((s.toNat : Nat) : Int) = s by omega] at sa
      have s1 : 1 ≤ s := by
        by_cases z : s = 0
        · have h0 := W.1.2.1.2.2.1
          have he := sa.2.2
          rw [z] at he
          rcases he with q | q <;> omega
        · omega
      rw [if_neg c1, zm_e (zl_gF L4 la 5 8), zm_e (zl_gJ L4 l8 9), zm_e (zt_bitr L4 U4 hs)]
      dsimp only
      by_cases c2 : zv_lcmp (zv_J g4 (a + 8) 9 &&& zt_bt s.toNat) (Int64.ofNat 0) = 0
      · have nb := (zt_lcmp_bt _ (show s.toNat < 48 by omega)).mp c2
        rw [if_pos c2]
        refine zm_iI (Or.inl ⟨by dsimp only; decide, zt_B_q B, fun z => ?_⟩)
        have z4 := z.2.2.2.1
        rw [if_pos rfl] at z4
        have := (zt_wk_fo wk s.toNat (by omega)).mpr ⟨by omega, by rw [show ((s.toNat : Nat) : Int) = s by omega]; exact z.2.1, by rw [show ((s.toNat : Nat) : Int) = s by omega]; exact z.2.2.1, by rw [show ((s.toNat : Nat) : Int) = s by omega]; exact z4⟩
        rw [nb] at this
        cases this
      · have sf := (zt_wk_fo wk s.toNat (by omega)).mp (by
          cases z : zt_b (zv_J g4 (a + 8) 9) s.toNat with
          | true => rfl
          | false => exact absurd ((zt_lcmp_bt _ (show s.toNat < 48 by omega)).mpr z) c2)
        rw [show ((s.toNat : Nat) : Int) = s by omega] at sf
        obtain ⟨v12, e12, b12⟩ := zt_leaningOn (d := d + 2) L4 U4 hl ok wk s1 sa.2.1
        rw [if_neg c2, zm_e (zl_gF L4 la 5 8), zm_e e12]
        dsimp only
        rw [zm_e (zl_gF L4 la 5 8), zm_e (zl_gJ L4 l8 9), zm_e (zl_gF L4 la 5 8), zm_e (zl_gJ L4 l8 9)]
        have cwU : ∀ t, zm_st c t → zt_cw c t := fun t ht => zt_S_cw (zt_U_st U t ht)
        have hk : ∀ t : Nat, t < 64 → (zt_b (v12 &&& zv_J g4 (a + 8) 9) t = true ↔ t < 48 ∧ zt_Kp c (c 0 :: l) 2 s t) := fun t ht => by
          rw [zt_b_and, Bool.and_eq_true, b12 t ht, zt_wk_fo wk t ht]
          unfold zt_Kp zt_tb
          rw [if_neg (by decide : ¬ (2 : Int) = 3), if_pos rfl, if_pos rfl]
          constructor
          · rintro ⟨⟨q1, q2, q3⟩, q4⟩
            exact ⟨q1, q2, zt_tc_1 W s1 q3, q3, q4.2.2.2⟩
          · rintro ⟨q1, q2, q3, q4, q5⟩
            refine ⟨⟨q1, q2, q4⟩, q1, q2, ?_, q5⟩
            rcases zt_tc_h q4 with z | ⟨o, z, _⟩
            · rw [z]; exact sa.2.2
            · exact (zt_ln_ed W z).1
        have hv : ∀ t : Nat, t < 64 → (zt_b (zv_J g4 (a + 8) 9 &&& ((v12 &&& zv_J g4 (a + 8) 9) ^^^ (-1 : Int64))) t = true ↔ t < 48 ∧ zt_Fp c (c 0 :: l) 2 s t) := fun t ht => by
          rw [zt_b_and, zt_b_not _ ht, Bool.and_eq_true, Bool.not_eq_true', ← Bool.not_eq_true, zt_wk_fo wk t ht, hk t ht]
          unfold zt_Fp
          constructor
          · rintro ⟨⟨q1, q2, q3, q4⟩, q5⟩
            exact ⟨q1, q2, q3, Or.inr ⟨fun z => q5 ⟨q1, z⟩, q4⟩⟩
          · rintro ⟨q1, q2, q3, q4⟩
            rcases q4 with q4 | q4
            · exact absurd q4.2 (by decide)
            · exact ⟨⟨q1, q2, q3, q4.2⟩, fun z => q4.1 z.2⟩
        obtain ⟨q, eq, R⟩ := zt_turn (d := d) hl B w4 (zt_h0 H) 2 _ _ (fun t ht bt => ((hv t.toNat (by have := (ok.2.2.1 t ht).1; omega)).mp bt).2.2.1 |> fun z => by rw [show ((t.toNat : Nat) : Int) = t by have := (ok.2.2.1 t ht).1; omega] at z; exact z)
        rw [zm_e eq]
        exact zm_iI (Or.inr ⟨⟨hs, sa.2.1, sa.2.2, by rw [if_pos rfl]; exact sf.2.2.2⟩, _, _, hk, hv, R⟩)
  · rw [if_neg hs]
    dsimp only
    rw [if_pos rfl]
    exact zm_iI (Or.inl ⟨by dsimp only; decide, zt_q_r g, fun z => hs z.1⟩)
theorem zt_giveBack {d : Nat} (hA : zc_A g) (H : zt_H a c g) {l : List Int} (hl : zm_Ln c (c 0 :: l) (c 0)) (s : Int) : zm_R (C0_giveBack (d + 5) a s g) (zt_tq a c l 3 s g) := by
  have gL := zt_L_A hA
  have U := zt_H_U H
  have la := zt_U_la U
  have W := zt_U_W U
  obtain ⟨ok, g0, gt, W1⟩ := zt_line_u W W.2.1 hl
  have l8 := (zt_row_l la).1
  refine zm_cI (P := fun x q2 => zt_tq a c l 3 s g (x, q2)) (fun e => lC0_giveBack (zl_ob gL la) e) ?_
  rw [qE0_giveBack, zm_e (zt_at gL U s)]
  by_cases hs : zm_st c s
  · rw [if_pos hs]
    dsimp only
    have h47 := hs.1
    obtain ⟨g4, e4, B, w4, lo4⟩ := zt_lay (d := d) gL U W.2.1 hl
    have L4 := zt_B_L B
    have U4 := zt_B_U B
    have wk := zt_B_wk B
    rw [if_neg (zt_r0 U hs), zm_e (zl_gF gL la 5 8), zm_e (zl_gR gL la 10), zt_U_he U, zm_e e4, zm_e (zl_gF L4 la 5 8), zm_e (zl_gJ L4 l8 8), zm_e (zt_bitr L4 U4 hs)]
    dsimp only
    by_cases c1 : zv_lcmp (zv_J g4 (a + 8) 8 &&& zt_bt s.toNat) (Int64.ofNat 0) = 0
    · have nb := (zt_lcmp_bt _ (show s.toNat < 48 by omega)).mp c1
      rw [if_pos c1]
      refine zm_iI (Or.inl ⟨by dsimp only; decide, zt_B_q B, fun z => ?_⟩)
      have := (zt_wk_ac wk s.toNat (by omega)).mpr ⟨by omega, by rw [show ((s.toNat : Nat) : Int) = s by omega]; exact z.2.1, by rw [show ((s.toNat : Nat) : Int) = s by omega]; exact z.2.2.1⟩
      rw [nb] at this
      cases this
    · have sa := (zt_wk_ac wk s.toNat (by omega)).mp (by
        cases z : zt_b (zv_J g4 (a + 8) 8) s.toNat with
        | true => rfl
        | false => exact absurd ((zt_lcmp_bt _ (show s.toNat < 48 by omega)).mpr z) c1)
      rw [show ((s.toNat : Nat) : Int) = s by omega] at sa
      have s1 : 1 ≤ s := by
        by_cases z : s = 0
        · have h0 := W.1.2.1.2.2.1
          have he := sa.2.2
          rw [z] at he
          rcases he with q | q <;> omega
        · omega
      rw [if_neg c1, zm_e (zl_gF L4 la 5 8), zm_e (zl_gJ L4 l8 9), zm_e (zt_bitr L4 U4 hs)]
      dsimp only
      by_cases c2 : zv_lcmp (zv_J g4 (a + 8) 9 &&& zt_bt s.toNat) (Int64.ofNat 0) = 0
      · have nb := (zt_lcmp_bt _ (show s.toNat < 48 by omega)).mp c2
        have sf : ¬ zm_fc c (c 0 :: l) s = 1 := fun q => by
          have := (zt_wk_fo wk s.toNat (by omega)).mpr ⟨by omega, by rw [show ((s.toNat : Nat) : Int) = s by omega]; exact sa.2.1, by rw [show ((s.toNat : Nat) : Int) = s by omega]; exact sa.2.2, by rw [show ((s.toNat : Nat) : Int) = s by omega]; exact q⟩
          rw [nb] at this
          cases this
        have f01 := zm_fc_01 c
        obtain ⟨v12, e12, b12⟩ := zt_groundOf (d := d + 2) L4 U4 hs s1
        rw [if_pos c2, zm_e (zl_gF L4 la 5 8), zm_e e12]
        dsimp only
        rw [zm_e (zl_gF L4 la 5 8), zm_e (zl_gJ L4 l8 9), zm_e (zl_gF L4 la 5 8), zm_e (zl_gJ L4 l8 9)]
        have cwU : ∀ t, zm_st c t → zt_cw c t := fun t ht => zt_S_cw (zt_U_st U t ht)
        obtain ⟨p, ls, eL, hls⟩ := zm_Ln_s hl s sa.2.1
        have inL : ∀ x : Int, 1 ≤ x → zt_tc c s x → x ∈ c 0 :: l ∧ zm_ed c x := fun x x1 t => by
          obtain ⟨m1, m2⟩ := zt_tc_ed W cwU hs hls sa.2.2 x1 t
          refine ⟨?_, m2⟩
          rw [eL]
          exact List.mem_append_right _ m1
        have hk : ∀ t : Nat, t < 64 → (zt_b (v12 &&& (zv_J g4 (a + 8) 9 ^^^ (-1 : Int64))) t = true ↔ t < 48 ∧ zt_Kp c (c 0 :: l) 3 s t) := fun t ht => by
          rw [zt_b_and, zt_b_not _ ht, Bool.and_eq_true, Bool.not_eq_true', ← Bool.not_eq_true, b12 t ht, zt_wk_fo wk t ht]
          unfold zt_Kp zt_tb
          rw [if_pos rfl, if_neg (by decide : ¬ (1 : Int) = 0), if_neg (by decide : ¬ (3 : Int) = 2)]
          constructor
          · rintro ⟨⟨⟨q1, q2⟩, q3⟩, q4⟩
            obtain ⟨m1, m2⟩ := inL t (by omega) q3
            refine ⟨q2, m1, by omega, q3, ?_⟩
            rcases f01 t (c 0 :: l) with z | z
            · exact z
            · exact absurd ⟨q2, m1, m2, z⟩ q4
          · rintro ⟨q1, q2, q3, q4, q5⟩
            exact ⟨⟨⟨by omega, q1⟩, q4⟩, fun z => by have := z.2.2.2; omega⟩
        have hv : ∀ t : Nat, t < 64 → (zt_b (zv_J g4 (a + 8) 9 ||| (v12 &&& (zv_J g4 (a + 8) 9 ^^^ (-1 : Int64)))) t = true ↔ t < 48 ∧ zt_Fp c (c 0 :: l) 3 s t) := fun t ht => by
          rw [zt_b_or, Bool.or_eq_true, zt_wk_fo wk t ht, hk t ht]
          unfold zt_Fp
          constructor
          · rintro (⟨q1, q2, q3, q4⟩ | ⟨q1, q2⟩)
            · refine ⟨q1, q2, q3, Or.inr ⟨fun z => ?_, q4⟩⟩
              have z4 := z.2.2.2
              rw [if_neg (by decide : ¬ (3 : Int) = 2)] at z4
              omega
            · have z3 := q2.2.2.1
              unfold zt_tb at z3
              rw [if_pos rfl, if_neg (by decide : ¬ (1 : Int) = 0)] at z3
              exact ⟨q1, q2.1, (inL t q2.2.1 z3).2, Or.inl ⟨q2, rfl⟩⟩
          · rintro ⟨q1, q2, q3, q4⟩
            rcases q4 with q4 | q4
            · exact Or.inr ⟨q1, q4.1⟩
            · exact Or.inl ⟨q1, q2, q3, q4.2⟩
        obtain ⟨q, eq, R⟩ := zt_turn (d := d) hl B w4 (zt_h0 H) 3 _ _ (fun t ht bt => ((hv t.toNat (by have := (ok.2.2.1 t ht).1; omega)).mp bt).2.2.1 |> fun z => by rw [show ((t.toNat : Nat) : Int) = t by have := (ok.2.2.1 t ht).1; omega] at z; exact z)
        rw [zm_e eq]
        refine zm_iI (Or.inr ⟨⟨hs, sa.2.1, sa.2.2, ?_⟩, _, _, hk, hv, R⟩)
        rw [if_neg (by decide : ¬ (3 : Int) = 2)]
        exact (f01 s _).resolve_right sf
      · have sf := (zt_wk_fo wk s.toNat (by omega)).mp (by
          cases z : zt_b (zv_J g4 (a + 8) 9) s.toNat with
          | true => rfl
          | false => exact absurd ((zt_lcmp_bt _ (show s.toNat < 48 by omega)).mpr z) c2)
        rw [show ((s.toNat : Nat) : Int) = s by omega] at sf
        rw [if_neg c2]
        refine zm_iI (Or.inl ⟨by dsimp only; decide, zt_B_q B, fun z => ?_⟩)
        have z4 := z.2.2.2.1
        rw [if_neg (by decide : ¬ (3 : Int) = 2)] at z4
        have := sf.2.2.2
        omega
  · rw [if_neg hs]
    dsimp only
    rw [if_pos rfl]
    exact zm_iI (Or.inl ⟨by dsimp only; decide, zt_q_r g, fun z => hs z.1⟩)
end
end
/-! A39.jturn2 -/
section
/-! ===== the tie: withdrawing and giving back, both ===== -/
theorem zt_Tr_o {c c2 : Nat → Int} {act : Int} (t : zm_Tr c c2 act) {s w : Int} (hs : s ≤ 47) (hw : w < 76) : zm_o c2 s w = zm_o c s w := t.1 _ (by omega)
theorem zt_Tr_st {c c2 : Nat → Int} {act : Int} (t : zm_Tr c c2 act) {s : Int} : zm_st c2 s ↔ zm_st c s := by
  constructor
  · intro q
    exact ⟨q.1, by rw [← zt_Tr_o t (s := s) (w := 0) (by have := q.1; omega) (by decide)]; exact q.2⟩
  · intro q
    exact ⟨q.1, by rw [zt_Tr_o t (s := s) (w := 0) (by have := q.1; omega) (by decide)]; exact q.2⟩
theorem zt_H_Tr {a : Nat} {c c2 : Nat → Int} {act : Int} {g : zv_H} (hA : zc_A g) (H : zt_H a c g) (t : zm_Tr c c2 act) : zt_H a c2 g := by
  have W := zt_U_W (zt_H_U H)
  have e : ∀ k : Nat, k < 4080 → c2 k = c k := fun k hk => t.1 k (by omega)
  exact zt_H_hd H hA (zm_Tr_W t W) (fun k _ _ k3 => t.1 k k3) (e 0 (by decide)) (e 2 (by decide)) (e 4 (by decide)) (e 5 (by decide)) (fun k _ k2 => e k (by omega)) (fun _ _ _ _ _ _ => rfl) (fun _ _ => rfl) (fun _ _ => rfl) ((zt_U_nw (zt_H_U H)).trans (e 1 (by decide)).symm) (zt_N_c (zt_H_N H) W.2.2.1.2 (e 3 (by decide)) (fun k _ k2 => e k (by omega)) (fun _ _ _ _ => rfl))
theorem zt_nn_c {a : Nat} {c c2 : Nat → Int} {h g : zv_H} {s x y z fi : Int} (N : zt_nn a c h s x y z fi g) (e0 : c2 0 = c 0) (e1 : c2 1 = c 1) (en : zm_nst c2 = zm_nst c) (st : ∀ t, zm_st c2 t → zm_st c t) : zt_nn a c2 h s x y z fi g := by
  refine ⟨zt_nn_L N, zt_nn_k N, zt_nn_lv N, fun t ht => zt_nn_oI N t (st t ht), fun t ht => zt_nn_o1 N t (st t ht), fun t ht => zt_nn_o2 N t (st t ht), fun t ht => zt_nn_oJ N t (st t ht), fun t ht => zt_nn_oR N t (st t ht), zt_nn_s6 N, ?_, zt_nn_s8 N, zt_nn_s9 N, zt_nn_sd N, ?_, zt_nn_r5 N, zt_nn_he N, ?_, ?_, zt_nn_v4 N, zt_nn_vs N, ?_, zt_nn_jn N, zt_nn_nm N, zt_nn_oh N⟩
  · rw [e1]; exact zt_nn_s7 N
  · rw [e0]; exact zt_nn_r4 N
  · rw [e1]; exact zt_nn_nw N
  · rw [en]; exact zt_nn_ct N
  · rw [e1]; exact zt_nn_vt N
theorem zj_turn {D : Nat} {a : Nat} {c : Nat → Int} {g k : zv_H} {act : Int} (ha : act = 2 ∨ act = 3) (hA : zc_A g) (H : zt_H a c g) (hM : zm_M k) (hc : zv_I k 348 = c) (b : c 2 < 2000000000) {l : List Int} (hl : zm_Ln c (c 0 :: l) (c 0)) (s : Int) {o : Option (Int × zv_H)} (O : zm_R o (zc_O a g)) (T : zm_R o (zt_tq a c l act s g)) : ∃ q q', o = some q ∧ C9_turnNow (D + 7) 347 s act k = some q' ∧ zt_Z a 1 g k q q' := by
  have U := zt_H_U H
  have W := zt_U_W U
  have la := zt_U_la U
  have cw : ∀ t, zm_st c t → zt_cw c t := fun t ht => zt_S_cw (zt_U_st U t ht)
  obtain ⟨ok, g0, gt, W1⟩ := zt_line_u W W.2.1 hl
  have l47 := zt_dep W W.2.1 hl
  obtain ⟨⟨v', k'⟩, e', ⟨F, W'⟩, R⟩ := zt_two (zm_turnNow hM hc W D ha s) (zt_turnNow hM hc W cw D ha hl s)
  obtain ⟨⟨x, g'⟩, e, X, T⟩ := zt_two O T
  have F' : zm_F [348, 351, 352, 353, 354, 355, 358, 359, 360, 362, 363, 364, 365] [3, 10, 11, 12, 19, 24] k k' := zm_F_s F rfl rfl
  have hA' : zc_A g' := X.1.2
  -- refused by both, nothing changed but what is reckoned
  have no : ∀ c' : Nat → Int, v' = -1 → x < 0 → zt_q g g' → zv_I k' 348 = c' → zt_H a c' g → c' 1 = c 1 → c' 2 = c 2 → zt_Z a 1 g k (x, g') (v', k') := fun c' h1 h2 h3 h4 h5 h6 h7 => by
    refine ⟨X.1, zt_q_k a h3, F', Or.inl ⟨h2, h1⟩, ?_, ?_, ?_⟩
    · show zt_H a (zv_I k' 348) g'
      rw [h4]
      exact zt_H_q h5 h3
    · dsimp only
      rw [h4, hc, h6]; omega
    · dsimp only
      rw [h4, hc, h7]; omega
  refine ⟨(x, g'), (v', k'), e, e', ?_⟩
  rcases R with ⟨r1, r2, r3⟩ | ⟨tw, c2, K, tr, nk, tu⟩
  · rcases T with ⟨t1, t2, _⟩ | ⟨t0, v, nm, _, _, ⟨t1, t2, _⟩ | ⟨t1, _⟩⟩
    · exact no c r1 t1 t2 r2 H rfl rfl
    · exact no c r1 t1 (zt_B_q t2) r2 H rfl rfl
    · exact absurd ⟨t0.1, t0.2.1, t0.2.2.1, t0.2.2.2, t1.1⟩ r3
  · rcases T with ⟨_, _, t3⟩ | ⟨t0, v, nm, hk, hv, T⟩
    · exact absurd tw t3
    · have H2 := zt_H_Tr hA H tr
      have e0 : c2 0 = c 0 := tr.1 0 (by decide)
      have e1 : c2 1 = c 1 := tr.1 1 (by decide)
      have e2 : c2 2 = c 2 := tr.1 2 (by decide)
      have agT : ∀ t ∈ c 0 :: l, zm_ag c c2 t := fun t ht => by
        have := (ok.2.2.1 t ht).1
        exact zm_Tr_ag tr this.1 this.2
      have n48 : ¬ (48 : Int) ∈ c 0 :: l := fun q => by
        have := (ok.2.2.1 48 q).1
        omega
      have cwL : ∀ t ∈ c 0 :: l, zt_cw c t := fun t ht => cw t (ok.2.2.1 t ht)
      have nkp : ∀ y, y ∈ K ↔ zt_Kp c (c 0 :: l) act s y := nk.2.1
      obtain ⟨rw48, sn48⟩ := zt_sj_nam hl (List.cons_ne_nil _ _) ok g0 cwL agT n48 ha tr.2.2.1 (fun y y0 y1 => (nk.2.2 y y0 y1).trans (nkp y)) hv
      have len : ((zm_row c2 (48 :: c 0 :: l)).filter (zm_sn c2 (48 :: c 0 :: l))).length = ((zm_row c (c 0 :: l)).filter (zt_sj c (c 0 :: l) v)).length := by
        rw [rw48, zm_fl_cg sn48]
      rcases tu with ⟨u1, u2, u3⟩ | ⟨u1, fr, n, o2, o3, o4, o5, o6, o7, o8, o10, o11⟩
      · rw [len] at u3
        rcases T with ⟨t1, t2, _⟩ | ⟨t1, _⟩
        · exact no c2 u1 t1 (zt_B_q t2) u2 H2 e1 e2
        · exact absurd (by have := t1.2; omega) u3
      · rw [len] at u1
        rcases T with ⟨_, _, t3⟩ | ⟨t1, g5, s', B5, fr', es, N, P⟩
        · exact absurd ⟨tw.2.2.2.2, by omega⟩ t3
        · dsimp only at es N P fr n o2 o3 o4 o5 o6 o7 o8 o10 o11
          have fr2 : zt_free c2 s' := ⟨fr'.1, fun j j0 j1 => by
            rw [zt_Tr_o tr (by have := fr'.1; omega) (by decide)]
            exact fr'.2.1 j j0 j1, by
            rw [zt_Tr_o tr (by have := fr'.1; omega) (by decide)]
            exact fr'.2.2⟩
          have ess : s' = v' := zt_free_u fr2 fr
          subst ess
          subst es
          have en : zm_nst c2 = zm_nst c := zm_sum_cg 48 (fun j hj => zt_Tr_o tr (by omega) (by decide))
          have N2 := zt_nn_c (c2 := c2) N e0 e1 en (fun t ht => (zt_Tr_st tr).mp ht)
          -- the relation before, at g5
          have H5 : zt_H a c2 g5 := zt_H_q H2 (zt_B_q B5)
          have U5 := zt_H_U H5
          have W2 := zt_U_W U5
          have hl2 : zm_Ln c2 (c2 0 :: l) (c2 0) := by
            rw [e0]
            exact zm_Ln_cg agT hl
          obtain ⟨Ln', hag, hns⟩ := zt_Ln_new W2 fr2 n hl2
          rw [e0] at Ln' hag hns
          have hag' : ∀ t ∈ c 0 :: l, zm_ag c (zv_I k' 348) t := fun t ht w w0 w1 w7 => (hag t ht w w0 w1 w7).trans (agT t ht w w0 w1 w7)
          have s47 := fr2.1
          have nmK : ∀ y : Int, 0 ≤ y → y < 48 → (zm_nm (zv_I k' 348) x y ↔ zt_Kp c (c 0 :: l) act s y) := fun y y0 y1 => by
            rw [← nkp y, ← nk.2.2 y y0 y1, zt_nm_b y0 y1, zt_nm_b y0 y1]
            by_cases z : y < 24
            · rw [if_pos z, o10]
            · rw [if_neg z, o11]
          obtain ⟨rwN, snN⟩ := zt_sj_nam hl (List.cons_ne_nil _ _) ok g0 cwL hag' hns ha o2 nmK hv
          have edc : zt_dc (zv_I k' 348) (x :: c 0 :: l) = (zm_row c (c 0 :: l)).filter (zt_sj c (c 0 :: l) v) := by
            show (zm_row (zv_I k' 348) (x :: c 0 :: l)).filter (zm_sn (zv_I k' 348) (x :: c 0 :: l)) = _
            rw [rwN, zm_fl_cg snN]
          have un : ∀ l', zm_Ln (zv_I k' 348) (x :: l') x → l' = c 0 :: l := fun l' h' => (List.cons.inj (zm_Ln_u h' Ln')).2
          have pop : zt_pop nm = (K.length : Int) := by
            rw [← zt_cnt nk.1 (fun y hy => by
              have hy2 := (nkp y).mp hy
              have := (ok.2.2.1 y hy2.1).1
              omega)]
            refine zm_sum_cg 64 (fun i hi => ?_)
            have hb := hk i hi
            have hK := nkp (i : Int)
            unfold zt_bi
            refine zt_ind2 ?_
            rw [hb, hK]
            refine ⟨fun q => q.2, fun q => ⟨?_, q⟩⟩
            have := (ok.2.2.1 _ q.1).1
            omega
          have nact : ¬ (act = 0 ∨ act = 1) := by omega
          have ned : ¬ zm_ed (zv_I k' 348) x := fun q => nact (by
            rcases q with z | z
            · exact Or.inl (o2.symm.trans z)
            · exact Or.inr (o2.symm.trans z))
          have x0 : x ≠ 0 := fun q => by
            have h0 := W2.1.2.1.1.2
            have h1 := fr2.2.2
            rw [q] at h1
            exact h1 h0
          have U' : zt_U a (zv_I k' 348) g' := by
            refine zt_U_new U5 (zt_V_ct (zt_H_V H5)) hA' fr2 N2 W' n o2 (o3.trans rfl) o4 (o5.trans pop.symm) o6 o7 (fun t ht q j hj => zt_tn_gl P _) ?_ (fun t ht => ?_) (fun t ht => ?_) (fun q => absurd (Or.inr (o2.symm.trans q)) nact) (fun q => ?_) (fun l' h' => ?_) (fun l' h' i y hy => ?_) ?_
            · rw [zt_tn_an P, if_neg (fun q => nact (Or.inl (o2.symm.trans q.1)))]
            · rw [zt_tn_nd P, hk t ht]
              constructor
              · rintro ⟨q1, q2⟩
                exact ⟨q1, (nmK t (by omega) (by omega)).mpr q2⟩
              · rintro ⟨q1, q2⟩
                exact ⟨q1, (nmK t (by omega) (by omega)).mp q2⟩
            · rw [zt_tn_bs P, zt_b_0]
              refine ⟨fun q => (by cases q), fun q => ?_⟩
              rcases q.2.2 with z | z
              · exact absurd (Or.inl (o2.symm.trans z.1)) nact
              · exact absurd (Or.inr (o2.symm.trans z.1)) nact
            · rcases q with z | z
              · exact absurd (Or.inl (o2.symm.trans z)) nact
              · exact absurd z x0
            · rw [un l' h', edc]
              exact zt_tn_ln P
            · rw [un l' h', edc] at hy
              exact zt_tn_dc P i y hy
            · refine ⟨fun l' h' t y0 y1 hn => ?_, fun l' h' q _ => absurd (Or.inl (o2.symm.trans q)) nact, fun q => ?_, ?_, fun q => ?_, fun q => absurd (Or.inr (o2.symm.trans q)) nact⟩
              · rw [un l' h']
                have kp := (nmK t y0 y1).mp hn
                refine ⟨kp.1, ?_, ned⟩
                rw [zm_ed_cg (hag' t kp.1)]
                -- named ones are puts or cuts
                have h0 := (hk t.toNat (by omega)).mpr ⟨by omega, by rw [show ((t.toNat : Nat) : Int) = t by omega]; exact kp⟩
                obtain ⟨pp, ls, eL, hls⟩ := zm_Ln_s hl s tw.2.1
                have tb := kp.2.2.1
                unfold zt_tb at tb
                by_cases a3 : act = 3
                · rw [if_pos a3, if_neg (by decide)] at tb
                  exact (zt_tc_ed W cw tw.1 hls tw.2.2.1 kp.2.1 tb).2
                · rw [if_neg a3, if_pos rfl] at tb
                  rcases zt_tc_h tb with z | ⟨w, z, _⟩
                  · rw [z]; exact tw.2.2.1
                  · exact (zt_ln_ed W z).1
              · rw [o2] at q; omega
              · rw [o2]
                rcases ha with z | z
                · exact Or.inr (Or.inr (Or.inr (Or.inl z)))
                · exact Or.inr (Or.inr (Or.inr (Or.inr z)))
              · rcases q with z | z
                · exact absurd (Or.inl (o2.symm.trans z)) nact
                · exact absurd z x0
          obtain ⟨H', h2', h1'⟩ := zt_H_new H5 (by rw [e2]; exact b) fr2 N2 n o7 U'
          refine ⟨X.1, zt_k_t (zt_q_k a (zt_B_q B5)) (zt_nn_k N), F', Or.inr ⟨s47.1, rfl⟩, H', ?_, ?_⟩
          · dsimp only
            rw [h1', e1, hc]; omega
          · dsimp only
            rw [h2', e2, hc]; omega
theorem zj_withdraw {d D : Nat} {a : Nat} {c : Nat → Int} {g k : zv_H} (hA : zc_A g) (H : zt_H a c g) (hM : zm_M k) (hc : zv_I k 348 = c) (b : c 2 < 2000000000) {s : Int} (rs : zv_rg s) : ∃ q q', C0_takeBack (d + 5) a s g = some q ∧ C9_turnNow (D + 7) 347 s 2 k = some q' ∧ zt_Z a 1 g k q q' := by
  obtain ⟨l, hl, _⟩ := zt_line (zt_U_W (zt_H_U H)) (zt_U_W (zt_H_U H)).2.1
  exact zj_turn (Or.inl rfl) hA H hM hc b hl s (zc_C0_takeBack (d := d + 1) hA (zt_U_la (zt_H_U H)) rs) (zt_takeBack hA H hl s)
theorem zj_restore {d D : Nat} {a : Nat} {c : Nat → Int} {g k : zv_H} (hA : zc_A g) (H : zt_H a c g) (hM : zm_M k) (hc : zv_I k 348 = c) (b : c 2 < 2000000000) {s : Int} (rs : zv_rg s) : ∃ q q', C0_giveBack (d + 5) a s g = some q ∧ C9_turnNow (D + 7) 347 s 3 k = some q' ∧ zt_Z a 1 g k q q' := by
  obtain ⟨l, hl, _⟩ := zt_line (zt_U_W (zt_H_U H)) (zt_U_W (zt_H_U H)).2.1
  exact zj_turn (Or.inr rfl) hA H hM hc b hl s (zc_C0_giveBack (d := d + 1) hA (zt_U_la (zt_H_U H)) rs) (zt_giveBack hA H hl s)
end
/-! A40.carry -/
section
/-! ===== the tie: carrying, the class ===== -/
/-- whose letters stand for whose -/
def zt_sd (a : Nat) (sf : Nat → Int) (g : zv_H) (k : zv_H) : Prop := (∀ i : Nat, i < 48 → zv_I g (a + 6) i = sf i) ∧ (∀ i : Nat, i < 48 → zv_I k 362 i = sf i) ∧ (sf 0 = 0) ∧ (∀ i : Nat, 1 ≤ i → i < 48 → 1 ≤ sf i ∧ sf i ≤ 47)
theorem zt_sd_cl {a : Nat} {sf : Nat → Int} {g : zv_H} {k : zv_H} (t : zt_sd a sf g k) : ∀ i : Nat, i < 48 → zv_I g (a + 6) i = sf i := t.1
theorem zt_sd_rf {a : Nat} {sf : Nat → Int} {g : zv_H} {k : zv_H} (t : zt_sd a sf g k) : ∀ i : Nat, i < 48 → zv_I k 362 i = sf i := t.2.1
theorem zt_sd_z {a : Nat} {sf : Nat → Int} {g : zv_H} {k : zv_H} (t : zt_sd a sf g k) : sf 0 = 0 := t.2.2.1
theorem zt_sd_r {a : Nat} {sf : Nat → Int} {g : zv_H} {k : zv_H} (t : zt_sd a sf g k) : ∀ i : Nat, 1 ≤ i → i < 48 → 1 ≤ sf i ∧ sf i ≤ 47 := t.2.2.2
def zt_so (sf : Nat → Int) (p : Int × Int) : Int × Int := (sf p.1.toNat, p.2)
theorem zt_so_ok {a : Nat} {sf : Nat → Int} {g k : zv_H} (D : zt_sd a sf g k) {p : Int × Int} (h : zt_ok p) : zt_ok (zt_so sf p) := by
  rcases h with q | q
  · refine Or.inl ⟨?_, q.2⟩
    show sf p.1.toNat = 0
    rw [q.1]
    exact zt_sd_z D
  · have := zt_sd_r D p.1.toNat (by omega) (by omega)
    exact Or.inr ⟨this, q.2⟩
theorem zt_so_r {a : Nat} {sf : Nat → Int} {g k : zv_H} (D : zt_sd a sf g k) {i : Nat} (hi : i < 48) : 0 ≤ sf i ∧ sf i ≤ 47 := by
  by_cases e : i = 0
  · rw [e, zt_sd_z D]; decide
  · have := zt_sd_r D i (by omega) hi
    omega
theorem zt_sta_l {a : Nat} (ha : zv_lay a = (1, 0)) : zv_lay (a + 6) = (2, 48) ∧ zv_lay (a + 26) = (1, 7) ∧ zv_lay (a + 27) = (2, 40) := by cases zc_lh ha with
  | inl e => rw [e]; exact ⟨rfl, rfl, rfl⟩
  | inr e => rw [e]; exact ⟨rfl, rfl, rfl⟩
/-- taken by a cut, by what stands for what -/
def zt_tP (c : Nat → Int) (sf : Nat → Int) (s : Int) (x : Int × Int) : Prop := ∃ p ∈ zm_tk c s, zt_so sf p = x
section
variable {a : Nat} {c : Nat → Int} {g k : zv_H} {sf : Nat → Int}
theorem zt_standOf {d : Nat} (gL : zt_L g) (la : zv_lay a = (1, 0)) (D : zt_sd a sf g k) {p : Int × Int} (hp : zt_ok p) : C0_standOf (d + 2) a (zt_id p) g = some (zt_id (zt_so sf p), g) := by
  have l6 := (zt_sta_l la).1
  have ir := zt_id_r hp
  have p47 : 0 ≤ p.1 ∧ p.1 ≤ 47 := by rcases hp with q | q <;> omega
  have p40 : 0 ≤ p.2 ∧ p.2 < 40 := by rcases hp with q | q <;> omega
  refine lC0_standOf (zl_ob gL la) ?_
  rw [qE0_standOf, zm_e (zt_C4_putter hp)]
  dsimp only
  rw [if_neg (by omega), if_neg (by omega), if_pos (by omega), zm_e (zl_gF gL la 3 6), zm_e (zl_aI gL l6 p47.1 (by omega)), zt_sd_cl D _ (by omega), zm_e (zt_C4_order hp)]
  dsimp only
  rw [zm_e (zt_C4_id (zt_so_r D (show p.1.toNat < 48 by omega)) (by omega))]
  rfl
theorem zt_takes_l {d : Nat} (gL : zt_L g) (U : zt_U a c g) (D : zt_sd a sf g k) {s : Int} (hs : zm_st c s) (hk : zm_o c s 2 = 1) {m : Nat} (hm : zm_o c s 5 = m) (h12 : m ≤ 12) (hok : ∀ p ∈ zm_tk c s, zt_ok p) {x : Int × Int} (hx : zt_ok x) : ∀ (n i : Nat), i + n = m → ∃ v, L0_takes_2 (d + 2) a (zt_r a s) (zt_id x) i g = some (some (zv_i v), g) ∧ (v ≠ 0 ↔ ∃ j p, i ≤ j ∧ (zm_tk c s)[j]? = some p ∧ zt_so sf p = x) := by
  have la := zt_U_la U
  have lS := zt_r_l la hs.1
  have S := zt_U_st U s hs
  have tl : (zm_tk c s).length = m := by rw [zm_tk_len, hm]; rfl
  have ir := zt_id_r hx
  intro n
  induction n with
  | zero =>
    intro i hi
    refine ⟨0, ?_, fun q => absurd rfl q, fun q => ?_⟩
    · rw [qL0_takes_2, zm_e (zl_gI gL lS 9), zt_S_sz S, hm, if_neg (by omega)]
    · obtain ⟨j, p, j1, j2, _⟩ := q
      have := zm_lt_of_get j2
      omega
  | succ n ih =>
    intro i hi
    obtain ⟨v, ev, iv⟩ := ih (i + 1) (by omega)
    obtain ⟨p, hp⟩ : ∃ p, (zm_tk c s)[i]? = some p := ⟨_, List.getElem?_eq_getElem (by omega)⟩
    have pok := hok p (List.mem_of_getElem? hp)
    have et : C5_tookAt (d + 2) (zt_r a s) (i : Int) g = some (zt_id p, g) := by
      rw [zt_C5_tookAt gL lS, if_pos ⟨(zt_S_ac S).trans hk, by omega, by rw [zt_S_sz S, hm]; omega, by omega⟩, show ((i : Nat) : Int).toNat = i by omega, zt_S_tk S hk i p hp]
    have w1 : zv_w ((i : Int) + 1) = ((i + 1 : Nat) : Int) := by
      rw [zm_w (by omega)]
      rfl
    by_cases e : zt_so sf p = x
    · refine ⟨1, ?_, fun _ => ⟨i, p, Nat.le_refl _, hp, e⟩, fun _ => by decide⟩
      rw [qL0_takes_2, zm_e (zl_gI gL lS 9), zt_S_sz S, hm, if_pos (by omega), if_neg (by omega), zm_e et]
      dsimp only
      rw [zm_e (zt_standOf gL la D pok)]
      dsimp only
      rw [if_pos (by rw [e])]
    · refine ⟨v, ?_, fun q => ?_, fun q => ?_⟩
      · rw [qL0_takes_2, zm_e (zl_gI gL lS 9), zt_S_sz S, hm, if_pos (by omega), if_neg (by omega), zm_e et]
        dsimp only
        rw [zm_e (zt_standOf gL la D pok)]
        dsimp only
        rw [if_neg (fun q => e (zt_id_inj (zt_so_ok D pok) hx q)), w1]
        exact ev
      · obtain ⟨j, p', j1, j2, j3⟩ := iv.mp q
        exact ⟨j, p', by omega, j2, j3⟩
      · obtain ⟨j, p', j1, j2, j3⟩ := q
        refine iv.mpr ⟨j, p', ?_, j2, j3⟩
        by_cases z : j = i
        · rw [z, hp] at j2
          cases j2
          exact absurd j3 e
        · omega
theorem zt_takes {d : Nat} (gL : zt_L g) (U : zt_U a c g) (D : zt_sd a sf g k) {s : Int} (hs : zm_st c s) (hk : zm_o c s 2 = 1) (hok : ∀ p ∈ zm_tk c s, zt_ok p) {x : Int × Int} (hx : zt_ok x) : ∃ v, C0_takes (d + 3) a (zt_r a s) (zt_id x) g = some (v, g) ∧ (v ≠ 0 ↔ zt_tP c sf s x) := by
  have la := zt_U_la U
  have hm0 := zm_ed_m (zt_U_W U).1 hs (Or.inr hk)
  obtain ⟨v, ev, iv⟩ := zt_takes_l (d := d) gL U D hs hk (m := (zm_o c s 5).toNat) (by omega) (by omega) hok hx _ 0 (Nat.zero_add _)
  refine ⟨v, lC0_takes (zl_ob gL la) ?_, ?_⟩
  · rw [qE0_takes]
    exact ev
  · rw [iv]
    unfold zt_tP
    constructor
    · rintro ⟨j, p, _, j2, j3⟩
      exact ⟨p, List.mem_of_getElem? j2, j3⟩
    · rintro ⟨p, hp, e⟩
      obtain ⟨j, hj⟩ := List.mem_iff_getElem?.mp hp
      exact ⟨j, p, Nat.zero_le _, hj, e⟩
/-- side by side: from a place on, so many -/
def zt_blk (P : Int × Int → Prop) (E : List (Int × Int)) (f m : Nat) : Prop := 1 ≤ m ∧ f + m ≤ E.length ∧ ∀ (i : Nat) (x : Int × Int), E[i]? = some x → (P x ↔ f ≤ i ∧ i < f + m)
theorem zt_blk_u {P : Int × Int → Prop} {E : List (Int × Int)} {f m f' m' : Nat} (h : zt_blk P E f m) (h' : zt_blk P E f' m') : f = f' ∧ m = m' := by
  obtain ⟨a1, a2, a3⟩ := h
  obtain ⟨b1, b2, b3⟩ := h'
  have key : ∀ i, i < E.length → (f ≤ i ∧ i < f + m ↔ f' ≤ i ∧ i < f' + m') := fun i hi => by
    have hx := List.getElem?_eq_getElem hi
    rw [← a3 i _ hx, ← b3 i _ hx]
  have k1 := (key f (by omega)).mp ⟨by omega, by omega⟩
  have k2 := (key f' (by omega)).mpr ⟨by omega, by omega⟩
  have k3 := (key (f + m - 1) (by omega)).mp ⟨by omega, by omega⟩
  have k4 := (key (f' + m' - 1) (by omega)).mpr ⟨by omega, by omega⟩
  omega
/-- a gap: not side by side -/
theorem zt_blk_gap {P : Int × Int → Prop} {E : List (Int × Int)} {i j l : Nat} {x y z : Int × Int} (hi : E[i]? = some x) (hj : E[j]? = some y) (hl : E[l]? = some z) (h1 : i < j) (h2 : j < l) (px : P x) (py : ¬ P y) (pz : P z) (f m : Nat) : ¬ zt_blk P E f m := by
  rintro ⟨_, _, a3⟩
  have k1 := (a3 i x hi).mp px
  have k2 := (a3 l z hl).mp pz
  exact py ((a3 j y hj).mpr ⟨by omega, by omega⟩)
theorem zt_blk_no {P : Int × Int → Prop} {E : List (Int × Int)} (h : ∀ x ∈ E, ¬ P x) (f m : Nat) : ¬ zt_blk P E f m := by
  rintro ⟨a1, a2, a3⟩
  have hx := List.getElem?_eq_getElem (show f < E.length by omega)
  exact h _ (List.mem_of_getElem? hx) ((a3 f _ hx).mpr ⟨by omega, by omega⟩)
theorem zt_firstTaken {d : Nat} (gL : zt_L g) (U : zt_U a c g) {S : Nat} {E : List (Int × Int)} {P : Int × Int → Prop} (src : zt_src (zt_r a (c 0)) E g) (hok : ∀ x ∈ E, zt_ok x) (tk : ∀ x, zt_ok x → ∃ v, C0_takes (d + 3) a S (zt_id x) g = some (v, g) ∧ (v ≠ 0 ↔ P x)) : ∀ (n i : Nat), i + n = E.length → (∀ (j : Nat) (x : Int × Int), j < i → E[j]? = some x → ¬ P x) → ∃ v, L0_firstTaken_2 (d + 3) a S i g = some (some (zv_i v), g) ∧ ((v = -1 ∧ ∀ x ∈ E, ¬ P x) ∨ ∃ (f : Nat) (x : Int × Int), v = (f : Int) ∧ E[f]? = some x ∧ P x ∧ ∀ (j : Nat) (y : Int × Int), j < f → E[j]? = some y → ¬ P y) := by
  have la := zt_U_la U
  have lH := zt_src_lP src
  have n120 := zt_src_n120 src
  intro n
  induction n with
  | zero =>
    intro i hi no
    refine ⟨-1, ?_, Or.inl ⟨rfl, fun x hx => ?_⟩⟩
    · rw [qL0_firstTaken_2, zm_e (zl_gR gL la 10), zt_U_he U, zm_e (zl_gI gL lH 12), zt_src_n src, if_neg (by omega)]
    · obtain ⟨j, hj⟩ := List.mem_iff_getElem?.mp hx
      have := zm_lt_of_get hj
      exact no j x (by omega) hj
  | succ n ih =>
    intro i hi no
    obtain ⟨x, hx⟩ : ∃ x, E[i]? = some x := ⟨_, List.getElem?_eq_getElem (by omega)⟩
    obtain ⟨v, ev, iv⟩ := tk x (hok x (List.mem_of_getElem? hx))
    have w1 : zv_w ((i : Int) + 1) = ((i + 1 : Nat) : Int) := by
      rw [zm_w (by omega)]
      rfl
    rw [qL0_firstTaken_2, zm_e (zl_gR gL la 10), zt_U_he U, zm_e (zl_gI gL lH 12), zt_src_n src, if_pos (by omega), zm_e (zl_gR gL la 10), zt_U_he U, zm_e (zt_src_at gL src hx)]
    dsimp only
    rw [zm_e ev]
    dsimp only
    by_cases z : v = 0
    · rw [if_pos z, w1]
      refine ih (i + 1) (by omega) (fun j y hj hy => ?_)
      by_cases e : j = i
      · rw [e, hx] at hy
        cases hy
        exact fun q => iv.mpr q z
      · exact no j y (by omega) hy
    · rw [if_neg z]
      exact ⟨i, rfl, Or.inr ⟨i, x, rfl, hx, iv.mp z, no⟩⟩
theorem zt_takenFrom {d : Nat} (gL : zt_L g) (U : zt_U a c g) {S : Nat} {E : List (Int × Int)} {P : Int × Int → Prop} (src : zt_src (zt_r a (c 0)) E g) (hok : ∀ x ∈ E, zt_ok x) (tk : ∀ x, zt_ok x → ∃ v, C0_takes (d + 3) a S (zt_id x) g = some (v, g) ∧ (v ≠ 0 ↔ P x)) {f : Nat} (hPf : ∃ x, E[f]? = some x ∧ P x) : ∀ (n i m : Nat), i + n = E.length → f + m ≤ i → (i = f ∨ 1 ≤ m) → (∀ (j : Nat) (x : Int × Int), j < i → E[j]? = some x → (P x ↔ f ≤ j ∧ j < f + m)) → ∃ v, L0_takenFrom_9 (d + 3) a S f m i g = some (some (zv_i v), g) ∧ ((v = 0 ∧ ∀ f' m', ¬ zt_blk P E f' m') ∨ ∃ m' : Nat, v = (m' : Int) ∧ zt_blk P E f m') := by
  have la := zt_U_la U
  have lH := zt_src_lP src
  have n120 := zt_src_n120 src
  intro n
  induction n with
  | zero =>
    intro i m hi fm i1 b
    have go : L0_takenFrom_9 (d + 3) a S f m i g = some (some (zv_i m), g) := by
      rw [qL0_takenFrom_9, zm_e (zl_gR gL la 10), zt_U_he U, zm_e (zl_gI gL lH 12), zt_src_n src, if_neg (by omega)]
    refine ⟨m, go, ?_⟩
    by_cases m0 : m = 0
    · refine Or.inl ⟨by omega, fun f' m' => zt_blk_no (fun x hx => ?_) f' m'⟩
      obtain ⟨j, hj⟩ := List.mem_iff_getElem?.mp hx
      have := zm_lt_of_get hj
      rw [b j x (by omega) hj]
      omega
    · refine Or.inr ⟨m, rfl, by omega, by omega, fun j x hx => b j x ?_ hx⟩
      have := zm_lt_of_get hx
      omega
  | succ n ih =>
    intro i m hi fm i1 b
    obtain ⟨x, hx⟩ : ∃ x, E[i]? = some x := ⟨_, List.getElem?_eq_getElem (by omega)⟩
    obtain ⟨v, ev, iv⟩ := tk x (hok x (List.mem_of_getElem? hx))
    have w1 : zv_w ((i : Int) + 1) = ((i + 1 : Nat) : Int) := by
      rw [zm_w (by omega)]
      rfl
    have w2 : zv_w ((m : Int) + 1) = ((m + 1 : Nat) : Int) := by
      rw [zm_w (by omega)]
      rfl
    rw [qL0_takenFrom_9, zm_e (zl_gR gL la 10), zt_U_he U, zm_e (zl_gI gL lH 12), zt_src_n src, if_pos (by omega), zm_e (zl_gR gL la 10), zt_U_he U, zm_e (zt_src_at gL src hx)]
    dsimp only
    rw [zm_e ev]
    dsimp only
    by_cases z : v = 0
    · have np : ¬ P x := fun q => iv.mpr q z
      rw [if_pos z, w1]
      by_cases m1 : 1 ≤ m
      · exact ih (i + 1) m (by omega) (by omega) (Or.inr m1) (fun j y hj hy => by
          by_cases e : j = i
          · rw [e, hx] at hy
            cases hy
            exact ⟨fun q => absurd q np, fun q => by omega⟩
          · exact b j y (by omega) hy)
      · exfalso
        obtain ⟨y, y1, y2⟩ := hPf
        have e : i = f := by rcases i1 with q | q <;> omega
        rw [← e, hx] at y1
        cases y1
        exact np y2
    · have px := iv.mp z
      rw [if_neg z, zm_w (by omega)]
      by_cases e : (i : Int) = (f : Int) + m
      · rw [if_pos e, w1, w2]
        exact ih (i + 1) (m + 1) (by omega) (by omega) (Or.inr (by omega)) (fun j y hj hy => by
          by_cases e2 : j = i
          · rw [e2, hx] at hy
            cases hy
            exact ⟨fun _ => by omega, fun _ => px⟩
          · rw [b j y (by omega) hy]
            omega)
      · rw [if_neg e]
        refine ⟨0, rfl, Or.inl ⟨rfl, ?_⟩⟩
        have m1 : 1 ≤ m := by
          rcases i1 with q | q
          · omega
          · exact q
        have hf := List.getElem?_eq_getElem (show f < E.length by omega)
        have hj := List.getElem?_eq_getElem (show f + m < E.length by omega)
        exact zt_blk_gap hf hj hx (by omega) (by omega) ((b f _ (by omega) hf).mpr ⟨by omega, by omega⟩) (fun q => by have := (b (f + m) _ (by omega) hj).mp q; omega) px
theorem zt_takenNone {d : Nat} (gL : zt_L g) (U : zt_U a c g) {S : Nat} {E : List (Int × Int)} {P : Int × Int → Prop} (src : zt_src (zt_r a (c 0)) E g) (hok : ∀ x ∈ E, zt_ok x) (tk : ∀ x, zt_ok x → ∃ v, C0_takes (d + 3) a S (zt_id x) g = some (v, g) ∧ (v ≠ 0 ↔ P x)) (no : ∀ x ∈ E, ¬ P x) : ∀ (n i : Nat), i + n = E.length → L0_takenFrom_9 (d + 3) a S (-1) 0 i g = some (some (zv_i 0), g) := by
  have la := zt_U_la U
  have lH := zt_src_lP src
  have n120 := zt_src_n120 src
  intro n
  induction n with
  | zero =>
    intro i hi
    rw [qL0_takenFrom_9, zm_e (zl_gR gL la 10), zt_U_he U, zm_e (zl_gI gL lH 12), zt_src_n src, if_neg (by omega)]
  | succ n ih =>
    intro i hi
    obtain ⟨x, hx⟩ : ∃ x, E[i]? = some x := ⟨_, List.getElem?_eq_getElem (by omega)⟩
    have hm := List.mem_of_getElem? hx
    obtain ⟨v, ev, iv⟩ := tk x (hok x hm)
    have w1 : zv_w ((i : Int) + 1) = ((i + 1 : Nat) : Int) := by
      rw [zm_w (by omega)]
      rfl
    have z : v = 0 := Classical.byContradiction (fun q => no x hm (iv.mp q))
    rw [qL0_takenFrom_9, zm_e (zl_gR gL la 10), zt_U_he U, zm_e (zl_gI gL lH 12), zt_src_n src, if_pos (by omega), zm_e (zl_gR gL la 10), zt_U_he U, zm_e (zt_src_at gL src hx)]
    dsimp only
    rw [zm_e ev]
    dsimp only
    rw [if_pos z, w1]
    exact ih (i + 1) (by omega)
end
end
/-! A41.carry2 -/
section
/-! ===== the tie: carrying, both ===== -/
section
variable {a : Nat} {c : Nat → Int} {g k : zv_H} {sf : Nat → Int}
theorem zt_placeOf_l {d : Nat} (gL : zt_L g) (la : zv_lay a = (1, 0)) {R : List (Int × Int)} (sz : zv_I g (a + 8) 6 = R.length) (id : ∀ (k : Nat) (p : Int × Int), R[k]? = some p → zv_I g (a + 10) k = zt_id p) (hn : R.length ≤ 604) (hok : ∀ x ∈ R, zt_ok x) {p : Int × Int} (hp : zt_ok p) : ∀ (b A : List (Int × Int)), A ++ b = R → (∀ x ∈ A, x ≠ p) → ∃ v, L4_placeOf_2 (d + 1) (a + 8) (zt_id p) A.length g = some (some (zv_i v), g) ∧ ((v = -1 ∧ ¬ p ∈ R) ∨ ∃ i : Nat, v = (i : Int) ∧ R[i]? = some p) := by
  obtain ⟨l8, _, l10, _⟩ := zt_row_l la
  have ir := zt_id_r hp
  intro b
  induction b with
  | nil =>
    intro A e no
    rw [List.append_nil] at e
    subst e
    refine ⟨-1, ?_, Or.inl ⟨rfl, fun q => no p q rfl⟩⟩
    rw [qL4_placeOf_2, zm_e (zl_gI gL l8 6), sz, if_neg (by omega)]
  | cons x b ih =>
    intro A e no
    have hx : R[A.length]? = some x := by
      rw [← e, List.getElem?_append_right (Nat.le_refl _), Nat.sub_self]
      rfl
    have il := zm_lt_of_get hx
    have w1 : zv_w ((A.length : Int) + 1) = (((A ++ [x]).length : Nat) : Int) := by
      rw [List.length_append, zm_w (by omega)]
      rfl
    rw [qL4_placeOf_2, zm_e (zl_gI gL l8 6), sz, if_pos (by omega), if_neg (by omega), zm_e (zt_C4_idAt gL la sz id hn hx)]
    dsimp only
    by_cases e2 : x = p
    · rw [if_pos (by rw [e2])]
      exact ⟨A.length, rfl, Or.inr ⟨A.length, rfl, by rw [← e2]; exact hx⟩⟩
    · rw [if_neg (fun q => e2 (zt_id_inj (hok x (List.mem_of_getElem? hx)) hp q)), w1]
      refine ih (A ++ [x]) (by rw [List.append_assoc]; exact e) (fun y hy => ?_)
      rcases List.mem_append.mp hy with q | q
      · exact no y q
      · rw [List.mem_singleton.mp q]; exact e2
theorem zt_seen18 {d : Nat} (gL : zt_L g) (la : zv_lay a = (1, 0)) {R : List (Int × Int)} (sz : zv_I g (a + 8) 6 = R.length) {f : Int × Int → Bool} (se : ∀ (k : Nat) (p : Int × Int), R[k]? = some p → zv_I g (a + 11) k = if f p = true then 1 else 0) (hn : R.length ≤ 604) {j : Nat} (hj : j < R.length) : ∀ (n i : Nat), i + n = j + 1 → L4_seenUpTo_18 (d + 1) (a + 8) j (((R.take i).filter f).length : Int) i g = some (some (zv_i (((R.take (j + 1)).filter f).length : Int)), g) := by
  intro n
  induction n with
  | zero =>
    intro i hi
    have e : i = j + 1 := by omega
    subst e
    rw [qL4_seenUpTo_18, if_neg (by omega)]
  | succ n ih =>
    intro i hi
    obtain ⟨x, hx⟩ : ∃ x, R[i]? = some x := ⟨_, List.getElem?_eq_getElem (by omega)⟩
    have w1 : zv_w ((i : Int) + 1) = ((i + 1 : Nat) : Int) := by
      rw [zm_w (by omega)]
      rfl
    have fl : ((R.take i).filter f).length ≤ 604 := Nat.le_trans (List.length_filter_le _ _) (by rw [List.length_take]; omega)
    have ih' := ih (i + 1) (by omega)
    rw [zt_take_s hx, List.filter_append, List.length_append] at ih'
    rw [qL4_seenUpTo_18, if_pos (by omega), zm_e (zt_C4_seesAt gL la sz se hn hx), w1]
    dsimp only
    by_cases e : f x = true
    · rw [List.filter_cons_of_pos e] at ih'
      rw [if_pos e, if_neg (by decide), zm_w (by omega)]
      exact ih'
    · rw [List.filter_cons_of_neg e] at ih'
      rw [if_neg e, if_pos rfl, zm_w (by omega)]
      exact ih'
theorem zt_seenUpTo {d : Nat} (gL : zt_L g) (la : zv_lay a = (1, 0)) {R : List (Int × Int)} (sz : zv_I g (a + 8) 6 = R.length) (id : ∀ (k : Nat) (p : Int × Int), R[k]? = some p → zv_I g (a + 10) k = zt_id p) {f : Int × Int → Bool} (se : ∀ (k : Nat) (p : Int × Int), R[k]? = some p → zv_I g (a + 11) k = if f p = true then 1 else 0) (hn : R.length ≤ 604) (hok : ∀ x ∈ R, zt_ok x) {p : Int × Int} (hp : zt_ok p) : ∃ v, C4_seenUpTo (d + 3) (a + 8) (zt_id p) g = some (v, g) ∧ ((v = -1 ∧ ¬ p ∈ R) ∨ ∃ i : Nat, R[i]? = some p ∧ v = (((R.take (i + 1)).filter f).length : Int)) := by
  have l8 := (zt_row_l la).1
  obtain ⟨v, e, w⟩ := zt_placeOf_l (d := d) gL la sz id hn hok hp R [] (List.nil_append _) (fun x hx => by cases hx)
  have ep : C4_placeOf (d + 2) (a + 8) (zt_id p) g = some (v, g) := by
    refine lC4_placeOf (zl_ob gL l8) ?_
    rw [qE4_placeOf]
    exact e
  rcases w with ⟨w1, w2⟩ | ⟨i, w1, w2⟩
  · refine ⟨-1, lC4_seenUpTo (zl_ob gL l8) ?_, Or.inl ⟨rfl, w2⟩⟩
    rw [qE4_seenUpTo, zm_e ep]
    dsimp only
    rw [if_pos w1]
  · have il := zm_lt_of_get w2
    refine ⟨_, lC4_seenUpTo (zl_ob gL l8) ?_, Or.inr ⟨i, w2, rfl⟩⟩
    rw [qE4_seenUpTo, zm_e ep]
    dsimp only
    rw [if_neg (by omega), w1]
    exact zt_seen18 (d := d + 1) gL la sz se hn il (i + 1) 0 (by omega)
end
end
