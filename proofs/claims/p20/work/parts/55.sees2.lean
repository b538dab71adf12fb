/-- the line lies in its cells, and the array of numbers it came from -/
def zm_li (h : zv_H) (c : Nat → Int) (l : List Int) : Prop := zm_M h ∧ zv_I h 348 = c ∧ zv_I h 347 10 = l.length ∧ ∀ (k : Nat) (x : Int), l.reverse[k]? = some x → zv_I h 351 k = x
theorem zm_li_F {A B : List Nat} {h h' : zv_H} {c : Nat → Int} {l : List Int} (i : zm_li h c l) (f : zm_F A B h h') (h1 : A.contains 348 = false := by rfl) (h2 : A.contains 351 = false := by rfl) (h3 : B.contains 10 = false := by rfl) : zm_li h' c l := by
  obtain ⟨i1, i2, i3, i4⟩ := i
  refine ⟨zm_F_M f i1, (zm_F_a f 348 h1).trans i2, (zm_F_g f 10 h3).trans i3, fun k x hx => ?_⟩
  rw [zm_F_a f 351 h2]
  exact i4 k x hx
theorem zm_rev_at {l b : List Int} {t : Int} {ap : List Int} (e : (t :: ap).reverse ++ b = l) : l.reverse[b.length]? = some t := by
  rw [← e, List.reverse_append, List.reverse_reverse, List.getElem?_append_right (by rw [List.length_reverse]; exact Nat.le_refl _), List.length_reverse, Nat.sub_self]
  rfl
theorem zm_sees93 (d : Nat) (c : Nat → Int) {l : List Int} (hl : ∀ t ∈ l, 0 ≤ t ∧ t ≤ 48) (hn : l.length ≤ 49) (g : zm_G0 c l) : ∀ (ap b : List Int), ap.reverse ++ b = l → b ≠ [] → ∀ h : zv_H, zm_li h c l → zm_rw h (zm_row c b) → (∀ x ∈ b, zv_I h 354 x.toNat = zm_fc c b x) → ∃ h', L9_sees_93 (d + 3) 347 b.length h = L9_sees_93 (d + 3) 347 l.length h' ∧ zm_F [352, 353, 354] [11] h h' ∧ zm_rw h' (zm_row c l) ∧ ∀ x ∈ l, zv_I h' 354 x.toNat = zm_fc c l x
  | [], b, e, _, h, _, hr, hf => by
    have e1 : b = l := e
    subst e1
    exact ⟨h, rfl, zm_F_r _ _ h, hr, hf⟩
  | t :: ap, b, e, hb, h, hli, hr, hf => by
    have hlen : l.length = ap.length + 1 + b.length := by rw [← e, List.length_append, List.length_reverse, List.length_cons]
    have e' : ap.reverse ++ (t :: b) = l := by
      rw [← e, List.reverse_cons, List.append_assoc]
      rfl
    have htl : t ∈ l := by
      rw [← e']
      exact List.mem_append_right _ List.mem_cons_self
    have ht := hl t htl
    obtain ⟨hM, hc, h10, h351⟩ := id hli
    have gb : zm_G0 c (t :: b) := by
      obtain ⟨g1, g2, g3, g4, g5⟩ := g
      rw [← e'] at g1 g2 g5
      refine ⟨(List.nodup_append.mp g1).2.1, ?_, g3, g4, fun u hu => g5 u (List.mem_append_right _ hu)⟩
      rw [List.getLast?_append] at g2
      cases e9 : (t :: b).getLast? with
      | none => exact absurd (List.getLast?_eq_none_iff.mp e9) (List.cons_ne_nil _ _)
      | some y =>
        rw [e9] at g2
        exact g2
    obtain ⟨gb1, gb2, gb3⟩ := zm_G0_t hb gb
    have a1 : zv_aI h 351 (b.length : Int) = some t := by
      rw [zm_aI hM zm_l351 rfl (by omega) (by omega)]
      rw [show ((b.length : Int)).toNat = b.length by omega, h351 _ _ (zm_rev_at e)]
    have nv : ∀ p : Prop, ∀ [Decidable p], zv_nz (if p then 1 else 0) = if p then 1 else 0 := by
      intro p _
      unfold zv_nz
      split
      · rfl
      · rfl
    rw [qL9_sees_93, zm_e (zm_gI hM 10), h10, if_pos (by omega), zm_e (zm_f5 hM), zm_e a1, zm_e (zm_f8 hM), zm_e (zm_isEdit hM _ ht)]
    dsimp only
    rw [zm_e (zm_wB hM zm_l354 rfl (by omega) (by omega) _), nv, hc]
    have hM1 : zm_M (zv_sI h 354 t.toNat (if zm_ed c t then 1 else 0)) := hM
    have f1 : zm_F [352, 353, 354] [11] h (zv_sI h 354 t.toNat (if zm_ed c t then 1 else 0)) := zm_F_I (zm_F_r _ _ h) rfl _ _
    rw [zm_e (zm_of hM1 _ ht (by decide))]
    have c1 : zv_I (zv_sI h 354 t.toNat (if zm_ed c t then 1 else 0)) 348 = c := (zm_so h _ _).trans hc
    rw [c1]
    dsimp only
    -- the rest, once the word is in the row
    have rest : ∀ h1 : zv_H, zm_F [352, 353, 354] [11] h h1 → zm_rw h1 (zm_row c (t :: b)) → zv_I h1 354 = zm_u (zv_I h 354) t.toNat (if zm_ed c t then 1 else 0) → ∃ h', L9_sees_138 (d + 3) 347 b.length t h1 = L9_sees_93 (d + 3) 347 l.length h' ∧ zm_F [352, 353, 354] [11] h h' ∧ zm_rw h' (zm_row c l) ∧ ∀ x ∈ l, zv_I h' 354 x.toNat = zm_fc c l x := by
      intro h1 f hr1 h354
      have li1 := zm_li_F hli f
      have w1 : zv_w ((b.length : Int) + 1) = (((t :: b).length : Nat) : Int) := by
        rw [zm_w (by omega), List.length_cons]
        rfl
      have hne : ∀ x ∈ b, ¬ x.toNat = t.toNat := by
        intro x hx q
        have hx2 := hl x (by rw [← e]; exact List.mem_append_right _ hx)
        have : x = t := by omega
        rw [this] at hx
        exact gb3 hx
      rw [qL9_sees_138, zm_e (zm_isEdit li1.1 _ ht), li1.2.1, w1]
      dsimp only
      by_cases c2 : zm_ed c t
      · rw [if_pos c2, if_neg (by decide)]
        obtain ⟨h', i1, i2, i3, i4⟩ := zm_sees93 d c hl hn g ap (t :: b) e' (List.cons_ne_nil _ _) h1 li1 hr1 (fun x hx => by
          rw [h354, zm_fc_c c t hb, if_neg (show ¬ (¬ zm_ed c t ∧ zm_nm c t x) from fun q => q.1 c2), if_pos c2]
          rcases List.mem_cons.mp hx with q | q
          · rw [q, zm_u_s, if_pos rfl]
          · rw [zm_u_o _ _ (hne x q), if_neg (show ¬ x = t from fun q2 => hne x q (by rw [q2]))]
            exact hf x q)
        exact ⟨h', i1, zm_F_t f i2, i3, i4⟩
      · rw [if_neg c2, if_pos rfl]
        have hlr : ∀ u ∈ l.reverse, 0 ≤ u ∧ u ≤ 48 := fun u hu => hl u (List.mem_reverse.mp hu)
        obtain ⟨h2, e2, f2, t2⟩ := zm_turns li1.1 li1.2.1 d ht hlr (by rw [List.length_reverse]; exact hn) (by rw [List.length_reverse]; exact li1.2.2.1) li1.2.2.2
        rw [zm_e e2]
        have f2' : zm_F [352, 353, 354] [11] h1 h2 := zm_F_s f2 rfl rfl
        obtain ⟨h', i1, i2, i3, i4⟩ := zm_sees93 d c hl hn g ap (t :: b) e' (List.cons_ne_nil _ _) h2 (zm_li_F li1 f2) (zm_rw_of hr1 (zm_F_g f2 11) (zm_F_a f2 352) (zm_F_a f2 353)) (fun x hx => by
          have hxl : x ∈ l.reverse := List.mem_reverse.mpr (by rw [← e']; exact List.mem_append_right _ hx)
          rw [t2 x (hlr x hxl).1, zm_fc_c c t hb]
          by_cases c3 : zm_nm c t x
          · rw [if_pos (show x ∈ l.reverse ∧ zm_nm c t x from ⟨hxl, c3⟩), if_pos (show ¬ zm_ed c t ∧ zm_nm c t x from ⟨c2, c3⟩)]
          · rw [if_neg (show ¬ (x ∈ l.reverse ∧ zm_nm c t x) from fun q => c3 q.2), if_neg (show ¬ (¬ zm_ed c t ∧ zm_nm c t x) from fun q => c3 q.2), h354, if_neg c2]
            rcases List.mem_cons.mp hx with q | q
            · rw [q, zm_u_s, if_pos rfl]
            · rw [zm_u_o _ _ (hne x q), if_neg (show ¬ x = t from fun q2 => hne x q (by rw [q2]))]
              exact hf x q)
        exact ⟨h', i1, zm_F_t (zm_F_t f f2') i2, i3, i4⟩
    by_cases c2 : zm_o c t 2 = 0
    · rw [if_pos c2]
      have hm := gb.2.2.2.2 t List.mem_cons_self gb2 (Or.inl c2)
      have hlb := zm_row_le gb1
      have hr1 : zm_rw (zv_sI h 354 t.toNat (if zm_ed c t then 1 else 0)) (zm_row c b) := zm_rw_of hr rfl (zm_so h _ _) (zm_so h _ _)
      obtain ⟨h2, e2, f2, r2⟩ := zm_letsIn hM1 d ht (by rw [c1]; exact hm.1) (by rw [c1]; omega) hr1
      rw [zm_e e2]
      refine rest h2 (zm_F_t f1 (zm_F_s f2 rfl rfl)) ?_ ?_
      · rw [zm_row_c c t hb, if_pos c2]
        rw [c1] at r2
        exact r2
      · rw [zm_F_a f2 354, zm_ss]
    · rw [if_neg c2]
      refine rest _ f1 ?_ (zm_ss _ _ _ _)
      rw [zm_row_c c t hb, if_neg c2]
      exact zm_rw_of hr rfl (zm_so h _ _) (zm_so h _ _)
theorem zm_lt_of_get {α : Type} {l : List α} {k : Nat} {x : α} (h : l[k]? = some x) : k < l.length := by
  apply Classical.byContradiction
  intro q
  rw [List.getElem?_eq_none (by omega)] at h
  cases h
theorem zm_sees161 (d : Nat) {row : List (Int × Int)} (hn : row.length ≤ 640) (f : Int → Int) (hf : ∀ p ∈ row, (0 ≤ p.1 ∧ p.1 ≤ 48) ∧ (f p.1 = 0 ∨ f p.1 = 1)) : ∀ (m i : Nat), i + m = row.length → ∀ h : zv_H, zm_M h → zm_rw h row → (∀ p ∈ row, zv_I h 354 p.1.toNat = f p.1) → (∀ (k : Nat) (x : Int × Int), k < i → row[k]? = some x → zv_I h 355 k = f x.1) → ∃ h', L9_sees_161 d 347 i h = L9_sees_161 d 347 row.length h' ∧ zm_F [355] [] h h' ∧ ∀ (k : Nat) (x : Int × Int), row[k]? = some x → zv_I h' 355 k = f x.1
  | 0, i, hi, h, _, _, _, hs => by
    have e : i = row.length := by omega
    exact ⟨h, by rw [e], zm_F_r _ _ h, fun k x hx => hs k x (by have := zm_lt_of_get hx; omega) hx⟩
  | m + 1, i, hi, h, hM, hr, h354, hs => by
    obtain ⟨x, hx⟩ : ∃ x, row[i]? = some x := ⟨_, List.getElem?_eq_getElem (by omega)⟩
    have hxm : x ∈ row := List.mem_of_getElem? hx
    have h1 := hf x hxm
    rw [qL9_sees_161, zm_e (zm_gI hM 11), hr.1, if_pos (by omega), zm_e (zm_f9 hM), zm_e (zm_f8 hM), zm_e (zm_f6 hM), zm_e (zm_aI hM zm_l352 rfl (by omega) (by omega))]
    rw [show ((i : Int)).toNat = i by omega, (hr.2 i x hx).1, zm_e (zm_aB hM zm_l354 (Or.inl rfl) rfl (by omega) (by omega)), h354 x hxm, zm_e (zm_wB hM zm_l355 rfl (by omega) (by omega) _), zm_w (by omega)]
    have nv : zv_nz (f x.1) = f x.1 := by
      unfold zv_nz
      omega
    rw [nv, show ((i : Int)).toNat = i by omega]
    obtain ⟨h', i1, i2, i3⟩ := zm_sees161 d hn f hf m (i + 1) (by omega) (zv_sI h 355 i (f x.1)) hM (zm_rw_of hr rfl (zm_so h _ _) (zm_so h _ _)) (fun p hp => by rw [zm_so h _ _]; exact h354 p hp) (fun k y hk hy => by
      rw [zm_ss]
      by_cases c1 : k = i
      · rw [c1, zm_u_s]
        rw [c1, hx] at hy
        rw [Option.some.inj hy]
      · rw [zm_u_o _ _ c1]
        exact hs k y (by omega) hy)
    exact ⟨h', i1, zm_F_t (zm_F_I (zm_F_r _ _ h) rfl _ _) i2, i3⟩
theorem zm_nd_at {row : List (Int × Int)} (hd : row.Nodup) {p x : Int × Int} (hp : p ∈ row) {k : Nat} (hx : row[k]? = some x) : k = (zm_at row p).toNat ↔ x = p := by
  have h1 := zm_at_mem hp
  constructor
  · intro e
    rw [e, h1.2] at hx
    exact (Option.some.inj hx).symm
  · intro e
    subst e
    have h2 := zm_lt_of_get hx
    have h3 := zm_lt_of_get h1.2
    rw [List.getElem?_eq_getElem h2] at hx
    have h4 := h1.2
    rw [List.getElem?_eq_getElem h3] at h4
    have h5 : row[k] = row[(zm_at row x).toNat] := (Option.some.inj hx).trans (Option.some.inj h4).symm
    have h6 := List.pairwise_iff_getElem.mp hd
    rcases Nat.lt_trichotomy k (zm_at row x).toNat with h7 | h7 | h7
    · exact absurd h5 (h6 _ _ h2 h3 h7)
    · exact h7
    · exact absurd h5.symm (h6 _ _ h3 h2 h7)
theorem zm_tk_get (c : Nat → Int) (t : Int) {i : Nat} (hi : i < (zm_o c t 5).toNat) : (zm_tk c t)[i]? = some (zm_o c t (52 + 2 * (i : Int)), zm_o c t (52 + 2 * (i : Int) + 1)) := by
  unfold zm_tk
  rw [List.getElem?_map, List.getElem?_range hi]
  rfl
theorem zm_tk_len (c : Nat → Int) (t : Int) : (zm_tk c t).length = (zm_o c t 5).toNat := by
  unfold zm_tk
  rw [List.length_map, List.length_range]
theorem zm_sees213 (d : Nat) (c : Nat → Int) {row : List (Int × Int)} (hn : row.length ≤ 640) (hd : row.Nodup) {t : Int} (ht : 0 ≤ t ∧ t ≤ 48) (hk : zm_o c t 2 = 1) (hm : 0 ≤ zm_o c t 5 ∧ zm_o c t 5 ≤ 12) (htk : ∀ p ∈ zm_tk c t, p ∈ row) (a3 : Int) : ∀ (m i : Nat), i + m = (zm_o c t 5).toNat → ∀ h : zv_H, zm_M h → zv_I h 348 = c → zm_rw h row → zv_I h 354 t.toNat = 1 → ∃ h', L9_sees_213 (d + 3) 347 a3 t i h = L9_sees_194 (d + 3) 347 (zv_w (a3 + 1)) h' ∧ zm_F [355] [] h h' ∧ ∀ (k : Nat) (x : Int × Int), row[k]? = some x → zv_I h' 355 k = if x ∈ (zm_tk c t).drop i then 0 else zv_I h 355 k
  | m, i, hi, h, hM, hc, hr, hf => by
    have hd0 : (zm_tk c t).drop i = if h : i < (zm_o c t 5).toNat then (zm_o c t (52 + 2 * (i : Int)), zm_o c t (52 + 2 * (i : Int) + 1)) :: (zm_tk c t).drop (i + 1) else [] := by
      by_cases q : i < (zm_o c t 5).toNat
      · rw [dif_pos q]
        have h1 := zm_tk_get c t q
        have h2 : i < (zm_tk c t).length := by rw [zm_tk_len]; exact q
        rw [List.getElem?_eq_getElem h2] at h1
        rw [List.drop_eq_getElem_cons h2, Option.some.inj h1]
      · rw [dif_neg q]
        exact List.drop_eq_nil_of_le (by rw [zm_tk_len]; omega)
    rw [qL9_sees_213, zm_e (zm_of hM _ ht (by decide)), hc]
    dsimp only
    rw [if_pos hk, zm_e (zm_f8 hM), zm_e (zm_aB hM zm_l354 (Or.inl rfl) rfl (by omega) (by omega)), hf, if_neg (by decide), zm_e (zm_of hM _ ht (by decide)), hc]
    dsimp only
    cases m with
    | zero =>
      rw [if_neg (by omega)]
      refine ⟨h, rfl, zm_F_r _ _ h, fun k x _ => ?_⟩
      rw [hd0, dif_neg (by omega), if_neg List.not_mem_nil]
    | succ m =>
      have hil : i < (zm_o c t 5).toNat := by omega
      have w1 : zv_w (52 + zv_w (2 * (i : Int))) = 52 + 2 * (i : Int) := by
        rw [zm_w (x := 2 * (i : Int)) (by omega), zm_w (by omega)]
      have w2 : zv_w (zv_w (52 + zv_w (2 * (i : Int))) + 1) = 52 + 2 * (i : Int) + 1 := by
        rw [w1, zm_w (by omega)]
      have hpm : (zm_o c t (52 + 2 * (i : Int)), zm_o c t (52 + 2 * (i : Int) + 1)) ∈ row := htk _ (List.mem_of_getElem? (zm_tk_get c t hil))
      have hat := zm_at_mem hpm
      have hat2 := zm_at_ge (zm_o c t (52 + 2 * (i : Int)), zm_o c t (52 + 2 * (i : Int) + 1)) row
      rw [if_pos (by omega), zm_e (zm_f9 hM), w2, w1, zm_e (zm_of hM _ ht (by omega)), zm_e (zm_of hM _ ht (by omega)), hc, zm_e (zm_rowOf hM _ _ _ hr hn)]
      dsimp only
      rw [zm_e (zm_wB hM zm_l355 rfl (by omega) (by omega) _), zm_w (by omega), show zv_nz 0 = 0 from rfl]
      obtain ⟨h', i1, i2, i3⟩ := zm_sees213 d c hn hd ht hk hm htk a3 m (i + 1) (by omega) (zv_sI h 355 (zm_at row (zm_o c t (52 + 2 * (i : Int)), zm_o c t (52 + 2 * (i : Int) + 1))).toNat 0) hM ((zm_so h _ _).trans hc) (zm_rw_of hr rfl (zm_so h _ _) (zm_so h _ _)) (by rw [zm_so h _ _]; exact hf)
      refine ⟨h', i1, zm_F_t (zm_F_I (zm_F_r _ _ h) rfl _ _) i2, fun k x hx => ?_⟩
      rw [i3 k x hx, hd0, dif_pos hil, zm_ss]
      have h8 := zm_nd_at hd hpm hx
      unfold zm_u
      by_cases c1 : x ∈ (zm_tk c t).drop (i + 1)
      · rw [if_pos c1, if_pos (List.mem_cons_of_mem _ c1)]
      · rw [if_neg c1]
        by_cases c2 : k = (zm_at row (zm_o c t (52 + 2 * (i : Int)), zm_o c t (52 + 2 * (i : Int) + 1))).toNat
        · rw [if_pos c2, if_pos (by rw [h8.mp c2]; exact List.mem_cons_self)]
        · rw [if_neg c2, if_neg]
          intro q
          rcases List.mem_cons.mp q with q | q
          · exact c2 (h8.mpr q)
          · exact c1 q
