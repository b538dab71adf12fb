/-! ===== the tie: marks, in the reference ===== -/
theorem zt_leansOn_l {h : zv_H} {c : Nat → Int} (hM : zm_M h) (hc : zv_I h 348 = c) (d : Nat) {t : Int} (ht : 0 ≤ t ∧ t ≤ 48) (s : Int) {m : Nat} (hm : m ≤ 12) (h5 : ∀ x : Int, x = zm_o c t 5 → x = m) : ∀ (n i : Nat), i + n = m → ∃ v : Int, L9_leansOn_28 (d + 1) 347 t s i h = some (some (zv_i v), h) ∧ (v ≠ 0 ↔ ∃ j : Nat, i ≤ j ∧ j < m ∧ zm_o c t (52 + 2 * (j : Int)) = s) := by
  subst hc
  intro n
  induction n with
  | zero =>
    intro i hi
    refine ⟨0, ?_, fun q => absurd rfl q, fun q => by obtain ⟨j, j1, j2, _⟩ := q; omega⟩
    rw [qL9_leansOn_28, zm_e (zm_of hM d ht (by decide))]
    dsimp only
    rw [h5 _ rfl, if_neg (by omega)]
  | succ n ih =>
    intro i hi
    have w1 : zv_w (52 + zv_w (2 * (i : Int))) = 52 + 2 * (i : Int) := by
      rw [zm_w (x := 2 * (i : Int)) (by omega), zm_w (by omega)]
    have w2 : zv_w ((i : Int) + 1) = ((i + 1 : Nat) : Int) := by
      rw [zm_w (by omega)]
      rfl
    have hw : 0 ≤ 52 + 2 * (i : Int) ∧ 52 + 2 * (i : Int) < 76 := by omega
    obtain ⟨v, ev, iv⟩ := ih (i + 1) (by omega)
    by_cases c1 : zm_o (zv_I h 348) t (52 + 2 * (i : Int)) = s
    · refine ⟨1, ?_, fun _ => ⟨i, Nat.le_refl _, by omega, c1⟩, fun _ => by decide⟩
      rw [qL9_leansOn_28, zm_e (zm_of hM d ht (by decide))]
      dsimp only
      rw [h5 _ rfl, if_pos (by omega), w1, zm_e (zm_of hM d ht hw)]
      dsimp only
      rw [if_pos c1]
    · refine ⟨v, ?_, fun q => ?_, fun q => ?_⟩
      · rw [qL9_leansOn_28, zm_e (zm_of hM d ht (by decide))]
        dsimp only
        rw [h5 _ rfl, if_pos (by omega), w1, zm_e (zm_of hM d ht hw), w2]
        dsimp only
        rw [if_neg c1]
        exact ev
      · obtain ⟨j, j1, j2, j3⟩ := iv.mp q
        exact ⟨j, by omega, j2, j3⟩
      · obtain ⟨j, j1, j2, j3⟩ := q
        refine iv.mpr ⟨j, ?_, j2, j3⟩
        by_cases e : j = i
        · rw [e] at j3
          exact absurd j3 c1
        · omega
theorem zt_leansOn {h : zv_H} {c : Nat → Int} (hM : zm_M h) (hc : zv_I h 348 = c) (d : Nat) (W : zm_W c) {t : Int} (ht : zm_st c t) (he : zm_ed c t) (s : Int) : ∃ v : Int, C9_leansOn (d + 2) 347 t s h = some (v, h) ∧ (v ≠ 0 ↔ zt_ln c t s) := by
  have hm0 := zm_ed_m W.1 ht he
  obtain ⟨m, em⟩ : ∃ m : Nat, zm_o c t 5 = m := ⟨(zm_o c t 5).toNat, by omega⟩
  have t48 := zm_st48 ht
  have main : ∃ v : Int, E9_leansOn (d + 1) 347 t s h = some (some (zv_i v), h) ∧ (v ≠ 0 ↔ zt_ln c t s) := by
    rw [qE9_leansOn, zm_e (zm_of hM d t48 (by decide)), hc]
    dsimp only
    unfold zt_ln
    by_cases c1 : zm_o c t 2 = 0
    · rw [if_pos c1, zm_e (zm_of hM d t48 (by decide)), hc]
      dsimp only
      by_cases c2 : zm_o c t 8 = s
      · rw [if_pos c2]
        exact ⟨1, rfl, fun _ => Or.inl ⟨c1, c2⟩, fun _ => by decide⟩
      · rw [if_neg c2]
        refine ⟨0, rfl, fun q => absurd rfl q, fun q => ?_⟩
        rcases q with q | q
        · exact absurd q.2 c2
        · exact absurd (c1.symm.trans q.1) (by decide)
    · have c2 : zm_o c t 2 = 1 := he.resolve_left c1
      rw [if_neg c1]
      obtain ⟨v, ev, iv⟩ := zt_leansOn_l hM hc d t48 s (m := m) (by omega) (fun x hx => hx.trans em) m 0 (Nat.zero_add _)
      refine ⟨v, ev, fun q => ?_, fun q => ?_⟩
      · obtain ⟨j, _, j2, j3⟩ := iv.mp q
        refine Or.inr ⟨c2, _, List.mem_of_getElem? (zm_tk_get c t (i := j) (by omega)), j3⟩
      · rcases q with q | ⟨_, p, hp, e⟩
        · exact absurd q.1 c1
        · obtain ⟨j, hj⟩ := List.mem_iff_getElem?.mp hp
          have jl := zm_lt_of_get hj
          rw [zm_tk_len] at jl
          rw [zm_tk_get c t jl] at hj
          refine iv.mpr ⟨j, Nat.zero_le _, by omega, ?_⟩
          have := congrArg Prod.fst (Option.some.inj hj)
          exact this.trans e
  obtain ⟨v, e, q⟩ := main
  exact ⟨v, lC9_leansOn (zm_ob hM) e, q⟩
/-- marked -/
def zt_mk (h : zv_H) (x : Int) : Prop := zv_I h 365 x.toNat ≠ 0
/-- what one is marked for -/
def zt_rl (c : Nat → Int) (back t o : Int) : Prop := if back = 0 then zt_bl c o t ∧ zt_ln c t o else zt_bl c t o ∧ zt_ln c o t
theorem zt_marks10 (d : Nat) (s back : Int) : ∀ (n i : Nat) (h : zv_H), i + n = 48 → zm_M h → (∀ x : Nat, x < i → zv_I h 365 x = if (x : Int) = s then 1 else 0) → ∃ h', L9_marks_10 d 347 s back i h = L9_marks_40 d 347 back 1 h' ∧ zm_F [365] [] h h' ∧ ∀ x : Nat, x < 48 → zv_I h' 365 x = if (x : Int) = s then 1 else 0 := by
  intro n
  induction n with
  | zero =>
    intro i h hi hM hx
    have e : i = 48 := by omega
    subst e
    exact ⟨h, by rw [qL9_marks_10, if_neg (by decide)], zm_F_r _ _ h, hx⟩
  | succ n ih =>
    intro i h hi hM hx
    have w1 : zv_w ((i : Int) + 1) = ((i + 1 : Nat) : Int) := by
      rw [zm_w (by omega)]
      rfl
    have go : ∀ v : Int, v = (if (i : Int) = s then 1 else 0) → ∃ h', ((zv_wB h 365 (i : Int) v).bind fun g => L9_marks_10 d 347 s back ((i + 1 : Nat) : Int) g) = L9_marks_40 d 347 back 1 h' ∧ zm_F [365] [] h h' ∧ ∀ x : Nat, x < 48 → zv_I h' 365 x = if (x : Int) = s then 1 else 0 := by
      intro v hv
      have nz : zv_nz v = v := by
        unfold zv_nz
        rw [hv]
        by_cases e : (i : Int) = s
        · rw [if_pos e]; rfl
        · rw [if_neg e]; rfl
      rw [zm_e (zm_wB hM zm_l365 rfl (by omega) (by omega) v), nz, show ((i : Nat) : Int).toNat = i by omega]
      obtain ⟨h', i1, i2, i3⟩ := ih (i + 1) (zv_sI h 365 i v) (by omega) hM (fun x hx2 => by
        by_cases e : x = i
        · rw [e, zy_I, hv]
        · rw [zy_In _ _ (fun q => e q.2)]
          exact hx x (by omega))
      exact ⟨h', i1, zm_F_t (zm_F_I (zm_F_r _ _ h) rfl _ _) i2, i3⟩
    rw [qL9_marks_10, if_pos (by omega), zm_e (zm_f25 hM), w1]
    by_cases e : (i : Int) = s
    · rw [if_pos e]
      exact go 1 (by rw [if_pos e])
    · rw [if_neg e]
      exact go 0 (by rw [if_neg e])
theorem zt_marks72 (d : Nat) {c : Nat → Int} (W : zm_W c) {l : List Int} (hl : ∀ t ∈ l, zm_st c t) (hn : l.length ≤ 48) (back k t : Int) (ht : t ∈ l) : ∀ (n i : Nat) (h : zv_H), i + n = l.length → zm_lh c l h → ∃ h', L9_marks_72 (d + 2) 347 back k t i h = L9_marks_40 (d + 2) 347 back (zv_w (k + 1)) h' ∧ zm_F [365] [] h h' ∧ (∀ x : Int, 0 ≤ x → x ≠ t → zv_I h' 365 x.toNat = zv_I h 365 x.toNat) ∧ (zt_mk h t → zt_mk h' t) ∧ (zt_mk h' t → zt_mk h t ∨ ∃ o ∈ l, zt_mk h o ∧ zm_ed c o ∧ zm_ed c t ∧ zt_rl c back t o) ∧ (zm_ed c t → ∀ o ∈ l.reverse.drop i, zt_mk h o → zm_ed c o → zt_rl c back t o → zt_mk h' t) := by
  have hts := hl t ht
  have t48 := zm_st48 hts
  have t49 : t < ((49 : Nat) : Int) := by have := hts.1; omega
  intro n
  induction n with
  | zero =>
    intro i h hi hh
    obtain ⟨hM, hc, h10, h351⟩ := hh
    refine ⟨h, ?_, zm_F_r _ _ h, fun _ _ _ => rfl, fun q => q, fun q => Or.inl q, fun _ o ho => ?_⟩
    · rw [qL9_marks_72, zm_e (zm_gI hM 10), h10, if_neg (by omega)]
    · rw [List.drop_eq_nil_of_le (by rw [List.length_reverse]; omega)] at ho
      cases ho
  | succ n ih =>
    intro i h hi hh
    obtain ⟨hM, hc, h10, h351⟩ := id hh
    have w1 : zv_w ((i : Int) + 1) = ((i + 1 : Nat) : Int) := by
      rw [zm_w (by omega)]
      rfl
    have il : i < l.reverse.length := by rw [List.length_reverse]; omega
    obtain ⟨o, ho⟩ : ∃ o, l.reverse[i]? = some o := ⟨_, List.getElem?_eq_getElem il⟩
    have hol : o ∈ l := List.mem_reverse.mp (List.mem_of_getElem? ho)
    have hos := hl o hol
    have o48 := zm_st48 hos
    have o49 : o < ((49 : Nat) : Int) := by have := hos.1; omega
    have eo : zv_aI h 351 (i : Int) = some o := by
      rw [zm_aI hM zm_l351 rfl (by omega) (by omega), show ((i : Nat) : Int).toNat = i by omega, h351 i o ho]
    have ed : l.reverse.drop i = o :: l.reverse.drop (i + 1) := by
      rw [List.drop_eq_getElem_cons il]
      rw [List.getElem?_eq_getElem il] at ho
      rw [Option.some.inj ho]
    -- no mark at o
    have skip : (zm_ed c t → zt_mk h o → zm_ed c o → zt_rl c back t o → zt_mk h t) → ∃ h', L9_marks_72 (d + 2) 347 back k t ((i + 1 : Nat) : Int) h = L9_marks_40 (d + 2) 347 back (zv_w (k + 1)) h' ∧ zm_F [365] [] h h' ∧ (∀ x : Int, 0 ≤ x → x ≠ t → zv_I h' 365 x.toNat = zv_I h 365 x.toNat) ∧ (zt_mk h t → zt_mk h' t) ∧ (zt_mk h' t → zt_mk h t ∨ ∃ o ∈ l, zt_mk h o ∧ zm_ed c o ∧ zm_ed c t ∧ zt_rl c back t o) ∧ (zm_ed c t → ∀ o ∈ l.reverse.drop i, zt_mk h o → zm_ed c o → zt_rl c back t o → zt_mk h' t) := fun no => by
      obtain ⟨h', i1, i2, i3, i4, i5, i6⟩ := ih (i + 1) h (by omega) hh
      refine ⟨h', i1, i2, i3, i4, i5, fun q o' ho' m1 m2 m3 => ?_⟩
      rw [ed] at ho'
      rcases List.mem_cons.mp ho' with z | z
      · rw [z] at m1 m2 m3
        exact i4 (no q m1 m2 m3)
      · exact i6 q o' z m1 m2 m3
    have stop : (¬ zm_ed c t ∨ zt_mk h t) → ∃ h', L9_marks_40 (d + 2) 347 back (zv_w (k + 1)) h = L9_marks_40 (d + 2) 347 back (zv_w (k + 1)) h' ∧ zm_F [365] [] h h' ∧ (∀ x : Int, 0 ≤ x → x ≠ t → zv_I h' 365 x.toNat = zv_I h 365 x.toNat) ∧ (zt_mk h t → zt_mk h' t) ∧ (zt_mk h' t → zt_mk h t ∨ ∃ o ∈ l, zt_mk h o ∧ zm_ed c o ∧ zm_ed c t ∧ zt_rl c back t o) ∧ (zm_ed c t → ∀ o ∈ l.reverse.drop i, zt_mk h o → zm_ed c o → zt_rl c back t o → zt_mk h' t) := fun q => ⟨h, rfl, zm_F_r _ _ h, fun _ _ _ => rfl, fun q => q, fun q => Or.inl q, fun e _ _ _ _ _ => q.resolve_left (fun z => z e)⟩
    have put : zm_ed c t → zt_mk h o → zm_ed c o → zt_rl c back t o → ∃ h', ((zv_wB h 365 t 1).bind fun g => L9_marks_72 (d + 2) 347 back k t ((i + 1 : Nat) : Int) g) = L9_marks_40 (d + 2) 347 back (zv_w (k + 1)) h' ∧ zm_F [365] [] h h' ∧ (∀ x : Int, 0 ≤ x → x ≠ t → zv_I h' 365 x.toNat = zv_I h 365 x.toNat) ∧ (zt_mk h t → zt_mk h' t) ∧ (zt_mk h' t → zt_mk h t ∨ ∃ o ∈ l, zt_mk h o ∧ zm_ed c o ∧ zm_ed c t ∧ zt_rl c back t o) ∧ (zm_ed c t → ∀ o ∈ l.reverse.drop i, zt_mk h o → zm_ed c o → zt_rl c back t o → zt_mk h' t) := fun m0 m1 m2 m3 => by
      rw [zm_e (zm_wB hM zm_l365 rfl t48.1 t49 1), show zv_nz 1 = 1 from rfl]
      have f : zm_F [365] [] h (zv_sI h 365 t.toNat 1) := zm_F_I (zm_F_r _ _ h) rfl _ _
      obtain ⟨h', i1, i2, i3, i4, i5, i6⟩ := ih (i + 1) (zv_sI h 365 t.toNat 1) (by omega) (zm_lh_F hh f)
      have mt : zt_mk h' t := i4 (by
        unfold zt_mk
        rw [zy_I]
        decide)
      refine ⟨h', i1, zm_F_t f i2, fun x x0 xt => ?_, fun _ => mt, fun _ => Or.inr ⟨o, hol, m1, m2, m0, m3⟩, fun _ _ _ _ _ _ => mt⟩
      rw [i3 x x0 xt, zy_In _ _ (fun q => xt (by have := q.2; omega))]
    rw [qL9_marks_72, zm_e (zm_gI hM 10), h10, if_pos (by omega), zm_e (zm_isEdit hM d t48), w1, hc]
    dsimp only
    by_cases c1 : zm_ed c t
    · rw [if_pos c1, if_neg (by decide), zm_e (zm_f25 hM), zm_e (zm_aB hM zm_l365 (Or.inl rfl) rfl t48.1 t49)]
      by_cases c2 : zv_I h 365 t.toNat = 0
      · rw [if_pos c2, zm_e (zm_f5 hM), zm_e eo, zm_e (zm_f25 hM), zm_e (zm_aB hM zm_l365 (Or.inl rfl) rfl o48.1 o49)]
        by_cases c3 : zv_I h 365 o.toNat = 0
        · rw [if_pos c3]
          exact skip (fun _ q => absurd c3 q)
        · rw [if_neg c3, zm_e (zm_isEdit hM d o48), hc]
          dsimp only
          by_cases c4 : zm_ed c o
          · rw [if_pos c4, if_neg (by decide)]
            by_cases c5 : back = 0
            · obtain ⟨lt, hlt, _⟩ := zt_line W hts
              rw [if_pos c5, zm_e (zm_isOfLine hM d o (by rw [hc]; exact hlt))]
              dsimp only
              by_cases c6 : o ∈ t :: lt
              · obtain ⟨v, ev, qv⟩ := zt_leansOn hM hc d W hts c1 o
                rw [if_pos c6, if_neg (by decide), zm_e ev]
                dsimp only
                by_cases c7 : v = 0
                · rw [if_pos c7]
                  refine skip (fun _ _ _ q => ?_)
                  unfold zt_rl at q
                  rw [if_pos c5] at q
                  exact absurd c7 (qv.mpr q.2)
                · rw [if_neg c7, zm_e (zm_f25 hM)]
                  refine put c1 c3 c4 ?_
                  unfold zt_rl
                  rw [if_pos c5]
                  exact ⟨⟨lt, hlt, c6⟩, qv.mp c7⟩
              · rw [if_neg c6, if_pos rfl]
                refine skip (fun _ _ _ q => ?_)
                unfold zt_rl at q
                rw [if_pos c5] at q
                obtain ⟨l2, h2, m2⟩ := q.1
                rw [zm_Ln_u h2 hlt] at m2
                exact absurd m2 c6
            · obtain ⟨lo, hlo, _⟩ := zt_line W hos
              rw [if_neg c5, zm_e (zm_isOfLine hM d t (by rw [hc]; exact hlo))]
              dsimp only
              by_cases c6 : t ∈ o :: lo
              · obtain ⟨v, ev, qv⟩ := zt_leansOn hM hc d W hos c4 t
                rw [if_pos c6, if_neg (by decide), zm_e ev]
                dsimp only
                by_cases c7 : v = 0
                · rw [if_pos c7]
                  refine skip (fun _ _ _ q => ?_)
                  unfold zt_rl at q
                  rw [if_neg c5] at q
                  exact absurd c7 (qv.mpr q.2)
                · rw [if_neg c7, zm_e (zm_f25 hM)]
                  refine put c1 c3 c4 ?_
                  unfold zt_rl
                  rw [if_neg c5]
                  exact ⟨⟨lo, hlo, c6⟩, qv.mp c7⟩
              · rw [if_neg c6, if_pos rfl]
                refine skip (fun _ _ _ q => ?_)
                unfold zt_rl at q
                rw [if_neg c5] at q
                obtain ⟨l2, h2, m2⟩ := q.1
                rw [zm_Ln_u h2 hlo] at m2
                exact absurd m2 c6
          · rw [if_neg c4, if_pos rfl]
            exact skip (fun _ _ q => absurd q c4)
      · rw [if_neg c2]
        exact stop (Or.inr c2)
    · rw [if_neg c1, if_pos rfl]
      exact stop (Or.inl c1)
/-- all that lean on s, or on which it leans -/
def zt_tb (c : Nat → Int) (back s x : Int) : Prop := if back = 0 then zt_tc c x s else zt_tc c s x
theorem zt_marks40 (d : Nat) {c : Nat → Int} (W : zm_W c) (cw : ∀ t, zm_st c t → zt_cw c t) {l : List Int} {s0 s : Int} (hLn : zm_Ln c l s0) (ok : zt_ln_ok c l) (s1 : 1 ≤ s) (hsl : s ∈ l) (back : Int) : ∀ (n i : Nat) (h : zv_H), i + n = l.length → 1 ≤ i → zm_lh c l h → zt_mk h s → (∀ x : Int, 0 ≤ x → x ≤ 47 → zt_mk h x → zt_tb c back s x) → (∀ x : Int, 1 ≤ x → x ∈ (if back = 0 then l.reverse.take i else l.take (i - 1)) → zt_tb c back s x → zt_mk h x) → ∃ h', L9_marks_40 (d + 2) 347 back i h = some (none, h') ∧ zm_F [365] [] h h' ∧ ∀ x ∈ l, 1 ≤ x → (zt_mk h' x ↔ zt_tb c back s x) := by
  have hl := ok.2.2.1
  have hn := ok.2.2.2
  have hss := hl s hsl
  obtain ⟨ls, hls, _⟩ := zt_line W hss
  intro n
  induction n with
  | zero =>
    intro i h hi h1 hh hI hS hC
    obtain ⟨hM, hc, h10, h351⟩ := hh
    refine ⟨h, ?_, zm_F_r _ _ h, fun x hx x1 => ⟨hS x (by omega) (by have := (hl x hx).1; omega), fun q => hC x x1 ?_ q⟩⟩
    · rw [qL9_marks_40, zm_e (zm_gI hM 10), h10, if_neg (by omega)]
    · by_cases b0 : back = 0
      · rw [if_pos b0, List.take_of_length_le (by rw [List.length_reverse]; omega)]
        exact List.mem_reverse.mpr hx
      · rw [if_neg b0]
        -- all but the start
        obtain ⟨k, hk⟩ := List.mem_iff_getElem?.mp hx
        have kl := zm_lt_of_get hk
        have k2 : k < i - 1 := by
          by_cases z : k = l.length - 1
          · exfalso
            have e0 := ok.2.1
            rw [List.getLast?_eq_getElem?, ← z, hk] at e0
            have := Option.some.inj e0
            omega
          · omega
        have : (l.take (i - 1))[k]? = some x := by rw [List.getElem?_take_of_lt k2]; exact hk
        exact List.mem_of_getElem? this
  | succ n ih =>
    intro i h hi h1 hh hI hS hC
    obtain ⟨hM, hc, h10, h351⟩ := id hh
    have w1 : zv_w ((i : Int) + 1) = ((i + 1 : Nat) : Int) := by
      rw [zm_w (by omega)]
      rfl
    have w2 : zv_w ((l.length : Int) - (i : Int)) = (l.length : Int) - (i : Int) := zm_w (by omega)
    have go : ∀ t, t ∈ l → (∀ x, x ∈ (if back = 0 then l.reverse.take (i + 1) else l.take (i + 1 - 1)) → x = t ∨ x ∈ (if back = 0 then l.reverse.take i else l.take (i - 1))) → (zt_tb c back s t → 1 ≤ t → t = s ∨ ∃ o, 1 ≤ o ∧ o ∈ (if back = 0 then l.reverse.take i else l.take (i - 1)) ∧ zt_tb c back s o ∧ zt_rl c back t o ∧ zm_ed c o ∧ zm_ed c t) → ∃ h', L9_marks_72 (d + 2) 347 back i t 1 h = some (none, h') ∧ zm_F [365] [] h h' ∧ ∀ x ∈ l, 1 ≤ x → (zt_mk h' x ↔ zt_tb c back s x) := by
      intro t ht tk hp
      have t47 := (hl t ht).1
      obtain ⟨h2, i1, i2, i3, i4, i5, i6⟩ := zt_marks72 d W hl hn back i t ht (l.length - 1) 1 h (by omega) hh
      have mono : ∀ x : Int, 0 ≤ x → zt_mk h x → zt_mk h2 x := fun x x0 q => by
        by_cases e : x = t
        · rw [e] at q ⊢
          exact i4 q
        · unfold zt_mk at q ⊢
          rw [i3 x x0 e]
          exact q
      obtain ⟨h3, k1, k2, k3⟩ := ih (i + 1) h2 (by omega) (by omega) (zm_lh_F hh i2) (mono s (by omega) hI) (fun x x0 x47 q => by
        by_cases e : x = t
        · rw [e] at q ⊢
          rcases i5 q with z | ⟨o, o1, o2, o3, o4, o5⟩
          · exact hS t (by omega) (by omega) z
          · have oo := (hl o o1).1
            have so := hS o (by omega) (by omega) o2
            unfold zt_rl at o5
            unfold zt_tb at so ⊢
            by_cases b0 : back = 0
            · rw [if_pos b0] at so o5 ⊢
              exact zt_tc_l o5.2 so
            · rw [if_neg b0] at so o5 ⊢
              exact zt_tc_a so o5.2
        · refine hS x x0 x47 ?_
          unfold zt_mk at q ⊢
          rw [← i3 x x0 e]
          exact q) (fun x x1 hx q => by
        rcases tk x hx with e | e
        · rw [e] at q x1 ⊢
          rcases hp q x1 with z | ⟨o, o1, o2, o3, o4, o5, o6⟩
          · rw [z]
            exact mono s (by omega) hI
          · have mo := hC o o1 o2 o3
            have ol : o ∈ l := by
              split at o2
              · exact List.mem_reverse.mp (List.mem_of_mem_take o2)
              · exact List.mem_of_mem_take o2
            refine i6 o6 o ?_ mo o5 o4
            -- not the first
            obtain ⟨k, hk⟩ := List.mem_iff_getElem?.mp (List.mem_reverse.mpr ol)
            have k0 : k ≠ 0 := fun e0 => by
              rw [e0] at hk
              have el := ok.2.1
              rw [← List.head?_reverse, List.head?_eq_getElem?, hk] at el
              have := Option.some.inj el
              omega
            have : (l.reverse.drop 1)[k - 1]? = some o := by
              rw [List.getElem?_drop, show 1 + (k - 1) = k by omega]
              exact hk
            exact List.mem_of_getElem? this
        · exact mono x (by omega) (hC x x1 e q))
      refine ⟨h3, ?_, zm_F_t i2 k2, k3⟩
      rw [show L9_marks_72 (d + 2) 347 back i t 1 h = _ from i1, w1, k1]
    rw [qL9_marks_40, zm_e (zm_gI hM 10), h10, if_pos (by omega), zm_e (zm_f5 hM)]
    by_cases b0 : back = 0
    · have il : i < l.reverse.length := by rw [List.length_reverse]; omega
      obtain ⟨t, ht⟩ : ∃ t, l.reverse[i]? = some t := ⟨_, List.getElem?_eq_getElem il⟩
      have htl : t ∈ l := List.mem_reverse.mp (List.mem_of_getElem? ht)
      have hts := hl t htl
      have et : l.reverse.take (i + 1) = l.reverse.take i ++ [t] := zt_take_s ht
      rw [if_pos b0, zm_e (show zv_aI h 351 (i : Int) = some t by
        rw [zm_aI hM zm_l351 rfl (by omega) (by omega), show ((i : Nat) : Int).toNat = i by omega, h351 i t ht])]
      -- the line of t
      have eL : l = (l.reverse.drop (i + 1)).reverse ++ t :: (l.reverse.take i).reverse := by
        have e1 : l.reverse = l.reverse.take i ++ t :: l.reverse.drop (i + 1) := by
          have e2 : l.reverse.drop i = t :: l.reverse.drop (i + 1) := by
            rw [List.drop_eq_getElem_cons il]
            rw [List.getElem?_eq_getElem il] at ht
            rw [Option.some.inj ht]
          rw [← e2, List.take_append_drop]
        have := congrArg List.reverse e1
        rw [List.reverse_reverse, List.reverse_append, List.reverse_cons, List.append_assoc] at this
        exact this
      have hlt : zm_Ln c (t :: (l.reverse.take i).reverse) t := by
        rw [eL] at hLn
        exact zt_Ln_app _ hLn
      refine go t htl (fun x hx => ?_) (fun q t1 => ?_)
      · rw [if_pos b0, et] at hx
        rcases List.mem_append.mp hx with z | z
        · rw [if_pos b0]; exact Or.inr z
        · exact Or.inl (List.mem_singleton.mp z)
      · unfold zt_tb at q
        rw [if_pos b0] at q
        rcases zt_tc_h q with z | ⟨o, o1, o2⟩
        · exact Or.inl z
        · have oo := zt_tc_1 W s1 o2
          obtain ⟨m, mo⟩ := zt_ln_in W hts (cw t hts) hlt o1 (by omega)
          refine Or.inr ⟨o, oo, ?_, ?_, ?_, Or.inl (mo (by omega)), (zt_ln_ed W o1).1⟩
          · rw [if_pos b0]
            exact List.mem_reverse.mp m
          · unfold zt_tb
            rw [if_pos b0]; exact o2
          · unfold zt_rl
            rw [if_pos b0]
            exact ⟨⟨_, hlt, List.mem_cons_of_mem _ m⟩, o1⟩
    · have il : i - 1 < l.length := by omega
      obtain ⟨t, ht⟩ : ∃ t, l[i - 1]? = some t := ⟨_, List.getElem?_eq_getElem il⟩
      have htl : t ∈ l := List.mem_of_getElem? ht
      have hts := hl t htl
      have et : l.take (i - 1 + 1) = l.take (i - 1) ++ [t] := zt_take_s ht
      have hr : l.reverse[l.length - i]? = some t := by
        rw [List.getElem?_reverse (by omega), show l.length - 1 - (l.length - i) = i - 1 by omega]
        exact ht
      rw [if_neg b0, zm_e (zm_gI hM 10), h10, w2, zm_e (show zv_aI h 351 ((l.length : Int) - i) = some t by
        rw [zm_aI hM zm_l351 rfl (by omega) (by omega), show ((l.length : Int) - i).toNat = l.length - i by omega, h351 _ t hr])]
      refine go t htl (fun x hx => ?_) (fun q t1 => ?_)
      · rw [if_neg b0, show i + 1 - 1 = i - 1 + 1 by omega, et] at hx
        rcases List.mem_append.mp hx with z | z
        · rw [if_neg b0]; exact Or.inr z
        · exact Or.inl (List.mem_singleton.mp z)
      · unfold zt_tb at q
        rw [if_neg b0] at q
        rcases zt_tc_e q with z | ⟨o, o1, o2⟩
        · exact Or.inl z.symm
        · obtain ⟨eo, oo⟩ := zt_ln_ed W o2
          have olm := zt_tc_in W cw oo o1 hss hls
          obtain ⟨p, b, e, hb⟩ := zm_Ln_s hLn s hsl
          have e2 : b = ls := (List.cons.inj (zm_Ln_u hb hls)).2
          rw [e2] at e
          have ol : o ∈ l := by rw [e]; exact List.mem_append_right _ olm
          have hos := hl o ol
          obtain ⟨p2, b2, e3, hb2⟩ := zm_Ln_s hLn o ol
          obtain ⟨m, mo⟩ := zt_ln_in W hos (cw o hos) hb2 o2 (by omega)
          refine Or.inr ⟨o, oo, ?_, ?_, ?_, eo, Or.inl (mo (by omega))⟩
          · rw [if_neg b0]
            -- o lies ahead of t
            obtain ⟨k, hk⟩ := List.mem_iff_getElem?.mp m
            have tk : l[p2.length + 1 + k]? = some t := by
              rw [e3, List.getElem?_append_right (by omega), show p2.length + 1 + k - p2.length = k + 1 by omega, List.getElem?_cons_succ]
              exact hk
            have same : p2.length + 1 + k = i - 1 := by
              have l1 := zm_lt_of_get tk
              exact (List.getElem?_inj l1 ok.1).mp (tk.trans ht.symm)
            have ok2 : (l.take (i - 1))[p2.length]? = some o := by
              rw [List.getElem?_take_of_lt (by omega), e3, List.getElem?_append_right (Nat.le_refl _), Nat.sub_self]
              rfl
            exact List.mem_of_getElem? ok2
          · unfold zt_tb
            rw [if_neg b0]; exact o1
          · unfold zt_rl
            rw [if_neg b0]
            exact ⟨⟨b2, hb2, List.mem_cons_of_mem _ m⟩, o2⟩
theorem zt_marks {h : zv_H} {c : Nat → Int} (hM : zm_M h) (hc : zv_I h 348 = c) (W : zm_W c) (cw : ∀ t, zm_st c t → zt_cw c t) (d : Nat) {l : List Int} (hl : zm_Ln c (c 0 :: l) (c 0)) {s : Int} (s1 : 1 ≤ s) (hsl : s ∈ c 0 :: l) (back : Int) : zm_R (C9_marks (d + 5) 347 s back h) (fun h' => zm_F [351, 352, 353, 354, 355, 365] [10, 11, 12] h h' ∧ ∀ x ∈ c 0 :: l, 1 ≤ x → (zt_mk h' x ↔ zt_tb c back s x)) := by
  refine zm_cV (P := fun h' => zm_F [351, 352, 353, 354, 355, 365] [10, 11, 12] h h' ∧ ∀ x ∈ c 0 :: l, 1 ≤ x → (zt_mk h' x ↔ zt_tb c back s x)) (lC9_marks (zm_ob hM)) ?_
  obtain ⟨ok, g, gt, W1⟩ := zt_line_u W W.2.1 hl
  have l47 := zt_dep W W.2.1 hl
  obtain ⟨h1, e1, f1, hSn⟩ := zm_sees_st hM hc d W1 l47 g gt
  have hM1 := zm_F_M f1 hM
  have c1 : zv_I h1 348 = c := (zm_F_a f1 348).trans hc
  have hh : zm_lh c (c 0 :: l) h1 := ⟨hM1, c1, hSn.1.1, hSn.1.2⟩
  obtain ⟨h2, i1, f2, m2⟩ := zt_marks10 (d + 4) s back 48 0 h1 rfl hM1 (fun x hx => absurd hx (Nat.not_lt_zero _))
  have hh2 := zm_lh_F hh f2
  have l1 : 1 + l.length = (c 0 :: l).length := by
    rw [List.length_cons, Nat.add_comm]
  have s47 := (ok.2.2.1 s hsl).1
  have mk : ∀ x : Int, 0 ≤ x → x ≤ 47 → (zt_mk h2 x ↔ x = s) := fun x x0 x47 => by
    unfold zt_mk
    rw [m2 x.toNat (by omega), show ((x.toNat : Nat) : Int) = x by omega]
    by_cases e : x = s
    · rw [if_pos e]; exact ⟨fun _ => e, fun _ => by decide⟩
    · rw [if_neg e]; exact ⟨fun q => absurd rfl q, fun q => absurd q e⟩
  have tr : ∀ x : Int, x = s → zt_tb c back s x := fun x e => by
    rw [e]
    unfold zt_tb
    split <;> exact zt_tc_r c s
  obtain ⟨h3, k1, f3, m3⟩ := zt_marks40 (d + 2) W cw hl ok s1 hsl back l.length 1 h2 l1 (Nat.le_refl _) hh2 ((mk s (by omega) (by omega)).mpr rfl) (fun x x0 x47 q => tr x ((mk x x0 x47).mp q)) (fun x x1 hx _ => by
    exfalso
    by_cases b0 : back = 0
    · rw [if_pos b0] at hx
      have e0 := ok.2.1
      rw [← List.head?_reverse] at e0
      cases hr : (c 0 :: l).reverse with
      | nil =>
        rw [hr] at hx
        cases hx
      | cons y r =>
        rw [hr] at hx e0
        have ey : y = 0 := Option.some.inj e0
        have : x = y := List.mem_singleton.mp hx
        omega
    · rw [if_neg b0, Nat.sub_self, List.take_zero] at hx
      cases hx)
  rw [qE9_marks, zm_e (zm_here hM _), hc]
  dsimp only
  rw [zm_e e1, show L9_marks_10 (d + 4) 347 s back 0 h1 = _ from i1, show L9_marks_40 (d + 4) 347 back 1 h2 = _ from k1]
  exact zm_iV ⟨zm_F_t (zm_F_s f1 rfl rfl) (zm_F_t (zm_F_s f2 rfl rfl) (zm_F_s f3 rfl rfl)), m3⟩
