/-! ===== the reference: withdrawing, giving back ===== -/
theorem zm_leansOn_l {h : zv_H} (hM : zm_M h) (d : Nat) {t : Int} (ht : 0 ≤ t ∧ t ≤ 48) (s : Int) {m : Nat} (hm : m ≤ 12) (h5 : ∀ x : Int, x = zm_o (zv_I h 348) t 5 → x = m) : ∀ (n i : Nat), i + n = m → ∃ v : Int, L9_leansOn_28 (d + 1) 347 t s i h = some (some (zv_i v), h) ∧ (v = 0 ∨ v = 1)
  | 0, i, hi => by
    rw [qL9_leansOn_28, zm_e (zm_of hM d ht (by decide))]
    dsimp only
    rw [h5 _ rfl, if_neg (by omega)]
    exact ⟨0, rfl, Or.inl rfl⟩
  | n + 1, i, hi => by
    have w1 : zv_w (52 + zv_w (2 * (i : Int))) = 52 + 2 * (i : Int) := by
      rw [zm_w (x := 2 * (i : Int)) (by omega), zm_w (by omega)]
    have w2 : zv_w ((i : Int) + 1) = ((i + 1 : Nat) : Int) := by
      rw [zm_w (by omega)]
      rfl
    have hw : 0 ≤ 52 + 2 * (i : Int) ∧ 52 + 2 * (i : Int) < 76 := by omega
    rw [qL9_leansOn_28, zm_e (zm_of hM d ht (by decide))]
    dsimp only
    rw [h5 _ rfl, if_pos (by omega), w1, zm_e (zm_of hM d ht hw), w2]
    dsimp only
    by_cases c1 : zm_o (zv_I h 348) t (52 + 2 * (i : Int)) = s
    · rw [if_pos c1]
      exact ⟨1, rfl, Or.inr rfl⟩
    · rw [if_neg c1]
      exact zm_leansOn_l hM d ht s hm h5 n (i + 1) (by omega)
theorem zm_leansOn {h : zv_H} (hM : zm_M h) (d : Nat) (w : zm_Wt (zv_I h 348)) {t : Int} (ht : zm_st (zv_I h 348) t) (he : zm_ed (zv_I h 348) t) (s : Int) : ∃ v : Int, C9_leansOn (d + 2) 347 t s h = some (v, h) ∧ (v = 0 ∨ v = 1) := by
  obtain ⟨m, hm, em⟩ := zm_ed_n w ht he
  have main : ∃ v : Int, E9_leansOn (d + 1) 347 t s h = some (some (zv_i v), h) ∧ (v = 0 ∨ v = 1) := by
    rw [qE9_leansOn, zm_e (zm_of hM d (zm_st48 ht) (by decide))]
    dsimp only
    by_cases c1 : zm_o (zv_I h 348) t 2 = 0
    · rw [if_pos c1, zm_e (zm_of hM d (zm_st48 ht) (by decide))]
      dsimp only
      by_cases c2 : zm_o (zv_I h 348) t 8 = s
      · rw [if_pos c2]
        exact ⟨1, rfl, Or.inr rfl⟩
      · rw [if_neg c2]
        exact ⟨0, rfl, Or.inl rfl⟩
    · rw [if_neg c1]
      exact zm_leansOn_l hM d (zm_st48 ht) s hm em m 0 (Nat.zero_add _)
  obtain ⟨v, e, q⟩ := main
  exact ⟨v, lC9_leansOn (zm_ob hM) e, q⟩
theorem zm_marks10 (d : Nat) (s back : Int) : ∀ (n i : Nat) (h : zv_H), i + n = 48 → zm_M h → ∃ h', L9_marks_10 d 347 s back i h = L9_marks_10 d 347 s back 48 h' ∧ zm_F [365] [] h h'
  | 0, i, h, hi, _ => by
    have e : i = 48 := by omega
    subst e
    exact ⟨h, rfl, zm_F_r _ _ h⟩
  | n + 1, i, h, hi, hM => by
    have w1 : zv_w ((i : Int) + 1) = ((i + 1 : Nat) : Int) := by
      rw [zm_w (by omega)]
      rfl
    have go : ∀ v : Int, ∃ h', ((zv_wB h 365 (i : Int) v).bind fun g => L9_marks_10 d 347 s back ((i + 1 : Nat) : Int) g) = L9_marks_10 d 347 s back 48 h' ∧ zm_F [365] [] h h' := by
      intro v
      rw [zm_e (zm_wB hM zm_l365 rfl (by omega) (by omega) v)]
      obtain ⟨h', i1, i2⟩ := zm_marks10 d s back n (i + 1) (zv_sI h 365 ((i : Int)).toNat (zv_nz v)) (by omega) hM
      exact ⟨h', i1, zm_F_t (zm_F_I (zm_F_r _ _ h) rfl _ _) i2⟩
    rw [qL9_marks_10, if_pos (by omega), zm_e (zm_f25 hM), w1]
    by_cases c1 : (i : Int) = s
    · rw [if_pos c1]
      have g1 := go 1
      exact g1
    · rw [if_neg c1]
      exact go 0
/-- the line of here lies in its cells -/
def zm_lh (c : Nat → Int) (l : List Int) (h : zv_H) : Prop := zm_M h ∧ zv_I h 348 = c ∧ zv_I h 347 10 = l.length ∧ ∀ (k : Nat) (x : Int), l.reverse[k]? = some x → zv_I h 351 k = x
theorem zm_lh_F {A B : List Nat} {h h' : zv_H} {c : Nat → Int} {l : List Int} (i : zm_lh c l h) (f : zm_F A B h h') (h1 : A.contains 348 = false := by rfl) (h2 : A.contains 351 = false := by rfl) (h3 : B.contains 10 = false := by rfl) : zm_lh c l h' := zm_li_F i f h1 h2 h3
theorem zm_lh_g {c : Nat → Int} {l : List Int} {h : zv_H} (i : zm_lh c l h) (hn : l.length ≤ 48) {j : Int} (j0 : 0 ≤ j) (j1 : j < l.length) : ∃ x, x ∈ l ∧ zv_aI h 351 j = some x := by
  obtain ⟨hM, hc, h10, h351⟩ := i
  obtain ⟨x, hx⟩ : ∃ x, l.reverse[j.toNat]? = some x := ⟨_, List.getElem?_eq_getElem (by rw [List.length_reverse]; omega)⟩
  refine ⟨x, List.mem_reverse.mp (List.mem_of_getElem? hx), ?_⟩
  rw [zm_aI hM zm_l351 rfl j0 (by omega), h351 _ _ hx]
theorem zm_marks72 (d : Nat) {c : Nat → Int} (w : zm_Wt c) {l : List Int} (hl : ∀ t ∈ l, zm_st c t) (hn : l.length ≤ 48) (back k t : Int) (ht : t ∈ l) : ∀ (n i : Nat) (h : zv_H), i + n = l.length → zm_lh c l h → ∃ h', L9_marks_72 (d + 2) 347 back k t i h = L9_marks_40 (d + 2) 347 back (zv_w (k + 1)) h' ∧ zm_F [365] [] h h'
  | 0, i, h, hi, hh => by
    obtain ⟨hM, hc, h10, h351⟩ := hh
    refine ⟨h, ?_, zm_F_r _ _ h⟩
    rw [qL9_marks_72, zm_e (zm_gI hM 10), h10, if_neg (by omega)]
  | n + 1, i, h, hi, hh => by
    obtain ⟨hM, hc, h10, h351⟩ := id hh
    have hst := hl t ht
    have t48 := zm_st48 hst
    have w1 : zv_w ((i : Int) + 1) = ((i + 1 : Nat) : Int) := by
      clear hst
      rw [zm_w (by omega)]
      rfl
    have j0 : (0 : Int) ≤ (i : Int) := by omega
    have j1 : (i : Int) < (l.length : Int) := by
      clear hst
      omega
    have t49 : t < ((49 : Nat) : Int) := by
      clear hst
      omega
    have hi' : (i + 1) + n = l.length := by omega
    have nx := zm_marks72 d w hl hn back k t ht n (i + 1)
    have wr : ∃ h', ((zv_wB h 365 t 1).bind fun g => L9_marks_72 (d + 2) 347 back k t ((i + 1 : Nat) : Int) g) = L9_marks_40 (d + 2) 347 back (zv_w (k + 1)) h' ∧ zm_F [365] [] h h' := by
      rw [zm_e (zm_wB hM zm_l365 rfl t48.1 t49 1)]
      have f : zm_F [365] [] h (zv_sI h 365 t.toNat (zv_nz 1)) := zm_F_I (zm_F_r _ _ h) rfl _ _
      obtain ⟨h', i1, i2⟩ := nx (zv_sI h 365 t.toNat (zv_nz 1)) hi' (zm_lh_F hh f)
      exact ⟨h', i1, zm_F_t f i2⟩
    have nx0 := nx h hi' hh
    obtain ⟨o, ho, eo⟩ := zm_lh_g hh hn j0 j1
    have host := hl o ho
    have o48 := zm_st48 host
    have o49 : o < ((49 : Nat) : Int) := by
      clear hst host
      omega
    rw [qL9_marks_72, zm_e (zm_gI hM 10), h10, if_pos j1, zm_e (zm_isEdit hM d t48), w1]
    dsimp only
    by_cases c1 : zm_ed (zv_I h 348) t
    · rw [if_pos c1, if_neg (by decide), zm_e (zm_f25 hM), zm_e (zm_aB hM zm_l365 (Or.inl rfl) rfl t48.1 t49)]
      by_cases c2 : zv_I h 365 t.toNat = 0
      · rw [if_pos c2, zm_e (zm_f5 hM), zm_e eo, zm_e (zm_f25 hM), zm_e (zm_aB hM zm_l365 (Or.inl rfl) rfl o48.1 o49)]
        by_cases c3 : zv_I h 365 o.toNat = 0
        · rw [if_pos c3]
          exact nx0
        · rw [if_neg c3, zm_e (zm_isEdit hM d o48)]
          dsimp only
          by_cases c4 : zm_ed (zv_I h 348) o
          · rw [if_pos c4, if_neg (by decide)]
            have hst' : zm_st (zv_I h 348) t := by rw [hc]; exact hst
            have host' : zm_st (zv_I h 348) o := by rw [hc]; exact host
            have w' : zm_Wt (zv_I h 348) := by rw [hc]; exact w
            by_cases c5 : back = 0
            · obtain ⟨lt, hlt⟩ := zm_WL_of w' t hst'
              rw [if_pos c5, zm_e (zm_isOfLine hM d o hlt)]
              dsimp only
              by_cases c6 : o ∈ lt
              · obtain ⟨v, ev, qv⟩ := zm_leansOn hM d w' hst' c1 o
                rw [if_pos c6, if_neg (by decide), zm_e ev]
                dsimp only
                by_cases c7 : v = 0
                · rw [if_pos c7]
                  exact nx0
                · rw [if_neg c7, zm_e (zm_f25 hM)]
                  exact wr
              · rw [if_neg c6, if_pos rfl]
                exact nx0
            · obtain ⟨lo, hlo⟩ := zm_WL_of w' o host'
              rw [if_neg c5, zm_e (zm_isOfLine hM d t hlo)]
              dsimp only
              by_cases c6 : t ∈ lo
              · obtain ⟨v, ev, qv⟩ := zm_leansOn hM d w' host' c4 t
                rw [if_pos c6, if_neg (by decide), zm_e ev]
                dsimp only
                by_cases c7 : v = 0
                · rw [if_pos c7]
                  exact nx0
                · rw [if_neg c7, zm_e (zm_f25 hM)]
                  exact wr
              · rw [if_neg c6, if_pos rfl]
                exact nx0
          · rw [if_neg c4, if_pos rfl]
            exact nx0
      · rw [if_neg c2]
        exact ⟨h, rfl, zm_F_r _ _ h⟩
    · rw [if_neg c1, if_pos rfl]
      exact ⟨h, rfl, zm_F_r _ _ h⟩
theorem zm_marks40 (d : Nat) {c : Nat → Int} (w : zm_Wt c) {l : List Int} (hl : ∀ t ∈ l, zm_st c t) (hn : l.length ≤ 48) (back : Int) : ∀ (n i : Nat) (h : zv_H), i + n = l.length → 1 ≤ i → zm_lh c l h → ∃ h', L9_marks_40 (d + 2) 347 back i h = some (none, h') ∧ zm_F [365] [] h h'
  | 0, i, h, hi, h1, hh => by
    obtain ⟨hM, hc, h10, h351⟩ := hh
    refine ⟨h, ?_, zm_F_r _ _ h⟩
    rw [qL9_marks_40, zm_e (zm_gI hM 10), h10, if_neg (by omega)]
  | n + 1, i, h, hi, h1, hh => by
    obtain ⟨hM, hc, h10, h351⟩ := id hh
    have w1 : zv_w ((i : Int) + 1) = ((i + 1 : Nat) : Int) := by
      rw [zm_w (by omega)]
      rfl
    have w2 : zv_w ((l.length : Int) - (i : Int)) = (l.length : Int) - (i : Int) := zm_w (by omega)
    have go : ∀ t, t ∈ l → ∃ h', L9_marks_72 (d + 2) 347 back i t 1 h = some (none, h') ∧ zm_F [365] [] h h' := by
      intro t ht
      obtain ⟨h2, i1, i2⟩ := zm_marks72 d w hl hn back i t ht (l.length - 1) 1 h (by omega) hh
      obtain ⟨h3, k1, k2⟩ := zm_marks40 d w hl hn back n (i + 1) h2 (by omega) (by omega) (zm_lh_F hh i2)
      refine ⟨h3, ?_, zm_F_t i2 k2⟩
      rw [show L9_marks_72 (d + 2) 347 back i t 1 h = _ from i1, w1, k1]
    rw [qL9_marks_40, zm_e (zm_gI hM 10), h10, if_pos (by omega), zm_e (zm_f5 hM)]
    by_cases c1 : back = 0
    · obtain ⟨t, ht, et⟩ := zm_lh_g hh hn (j := i) (by omega) (by omega)
      rw [if_pos c1, zm_e et]
      exact go t ht
    · obtain ⟨t, ht, et⟩ := zm_lh_g hh hn (j := (l.length : Int) - (i : Int)) (by omega) (by omega)
      rw [if_neg c1, zm_e (zm_gI hM 10), h10, w2, zm_e et]
      exact go t ht
theorem zm_marks {h : zv_H} {c : Nat → Int} (hM : zm_M h) (hc : zv_I h 348 = c) (w : zm_W c) (d : Nat) (s back : Int) : zm_R (C9_marks (d + 5) 347 s back h) (fun h' => zm_F [351, 352, 353, 354, 355, 365] [10, 11, 12] h h') := by
  refine zm_cV (lC9_marks (zm_ob hM)) ?_
  obtain ⟨l, hl, hl2, g, gt⟩ := zm_W_l w.1 w.2.1
  obtain ⟨h1, e1, f1, hSn⟩ := zm_sees_st hM hc d hl hl2 g gt
  have hM1 := zm_F_M f1 hM
  have c1 : zv_I h1 348 = c := (zm_F_a f1 348).trans hc
  have hh : zm_lh c (c 0 :: l) h1 := ⟨hM1, c1, hSn.1.1, hSn.1.2⟩
  obtain ⟨h2, i1, f2⟩ := zm_marks10 (d + 4) s back 48 0 h1 rfl hM1
  have hh2 := zm_lh_F hh f2
  have ln : (c 0 :: l).length ≤ 48 := by
    rw [List.length_cons]
    omega
  have l1 : 1 + l.length = (c 0 :: l).length := by
    rw [List.length_cons, Nat.add_comm]
  obtain ⟨h3, k1, f3⟩ := zm_marks40 (d + 2) w.1 hl.2.1.2.2 ln back l.length 1 h2 l1 (Nat.le_refl _) hh2
  rw [qE9_marks, zm_e (zm_here hM _), hc]
  dsimp only
  rw [zm_e e1, show L9_marks_10 (d + 4) 347 s back 0 h1 = _ from i1, qL9_marks_10, if_neg (by decide), show L9_marks_40 (d + 4) 347 back 1 h2 = _ from k1]
  exact zm_iV (zm_F_t (zm_F_s f1 rfl rfl) (zm_F_t (zm_F_s f2 rfl rfl) (zm_F_s f3 rfl rfl)))
/-! names go into the cells of what is tried -/
theorem zm_namesToo {h : zv_H} (hM : zm_M h) (d : Nat) {s : Int} (hs : 0 ≤ s ∧ s ≤ 48) (t : Int) : ∃ (w v : Int), (w = 10 ∨ w = 11) ∧ C9_namesToo (d + 2) 347 s t h = some (zv_sI h 348 (432 + 76 * s.toNat + w.toNat) v) := by
  by_cases c1 : t < 24
  · refine ⟨10, zv_or (zm_o (zv_I h 348) s 10) (zv_shl 1 (t.tmod 24)), Or.inl rfl, lC9_namesToo (zm_ob hM) ?_⟩
    rw [qE9_namesToo, if_pos c1, qL9_namesToo_15, if_pos c1, qL9_namesToo_30, zm_e (zm_of hM d hs (by decide))]
    dsimp only
    rw [zm_e (zm_sets hM d hs (by decide) _)]
  · refine ⟨11, zv_or (zm_o (zv_I h 348) s 11) (zv_shl 1 (t.tmod 24)), Or.inr rfl, lC9_namesToo (zm_ob hM) ?_⟩
    rw [qE9_namesToo, if_neg c1, qL9_namesToo_15, if_neg c1, qL9_namesToo_30, zm_e (zm_of hM d hs (by decide))]
    dsimp only
    rw [zm_e (zm_sets hM d hs (by decide) _)]
/-- all is as it was but the cells of what is tried; of these all but the names are new -/
def zm_Tr (c c' : Nat → Int) (act : Int) : Prop := (∀ k : Nat, ¬ (4080 ≤ k ∧ k < 4156) → c' k = c k) ∧ zm_o c' 48 1 = c 0 ∧ zm_o c' 48 2 = act ∧ zm_o c' 48 5 = 0 ∧ zm_o c' 48 8 = -1
theorem zm_Tr_s {c c' : Nat → Int} {act : Int} (t : zm_Tr c c' act) {w : Int} (hw : w = 10 ∨ w = 11) (v : Int) : zm_Tr c (zm_os c' 48 w v) act := by
  obtain ⟨t1, t2, t3, t4, t5⟩ := t
  have hw2 : 0 ≤ w ∧ w < 76 := by omega
  refine ⟨fun k hk => ?_, ?_, ?_, ?_, ?_⟩
  · rw [zm_os_k _ _ hw2 (by simp only [show (48 : Int).toNat = 48 from rfl]; omega)]
    exact t1 k hk
  · rw [zm_os_o _ _ (by decide) hw2 (by decide) (by decide) (fun q => by omega)]
    exact t2
  · rw [zm_os_o _ _ (by decide) hw2 (by decide) (by decide) (fun q => by omega)]
    exact t3
  · rw [zm_os_o _ _ (by decide) hw2 (by decide) (by decide) (fun q => by omega)]
    exact t4
  · rw [zm_os_o _ _ (by decide) hw2 (by decide) (by decide) (fun q => by omega)]
    exact t5
theorem zm_tries22 (d : Nat) {c : Nat → Int} {l : List Int} (hl : ∀ t ∈ l, zm_st c t) (hn : l.length ≤ 48) (act : Int) : ∀ (n i : Nat) (a : Int) (h : zv_H), i + n = l.length → 0 ≤ a → a ≤ i → zm_lh (zv_I h 348) l h → zm_Tr c (zv_I h 348) act → zm_R (L9_triesNames_22 (d + 2) 347 act a i h) (zm_I fun v h' => zm_F [348] [] h h' ∧ zm_Tr c (zv_I h' 348) act ∧ 0 ≤ v ∧ v ≤ 48)
  | 0, i, a, h, hi, a0, a1, hh, ht => by
    obtain ⟨hM, hc, h10, h351⟩ := hh
    rw [qL9_triesNames_22, zm_e (zm_gI hM 10), h10, if_neg (by omega)]
    exact zm_iI ⟨zm_F_r _ _ h, ht, a0, by omega⟩
  | n + 1, i, a, h, hi, a0, a1, hh, ht => by
    obtain ⟨hM, hc, h10, h351⟩ := id hh
    have w1 : zv_w ((i : Int) + 1) = ((i + 1 : Nat) : Int) := by
      rw [zm_w (by omega)]
      rfl
    have wa : zv_w (a + 1) = a + 1 := zm_w (by omega)
    have j0 : (0 : Int) ≤ (i : Int) := by omega
    have j1 : (i : Int) < (l.length : Int) := by omega
    have hi' : (i + 1) + n = l.length := by omega
    have a2 : a ≤ ((i + 1 : Nat) : Int) := by omega
    have a3 : a + 1 ≤ ((i + 1 : Nat) : Int) := by omega
    have a4 : 0 ≤ a + 1 := by omega
    obtain ⟨t, htl, et⟩ := zm_lh_g hh hn j0 j1
    have tst := hl t htl
    have t48 := zm_st48 tst
    have t49 : t < ((49 : Nat) : Int) := by
      clear tst
      omega
    have sk := zm_tries22 d hl hn act n (i + 1) a h hi' a0 a2 hh ht
    rw [qL9_triesNames_22, zm_e (zm_gI hM 10), h10, if_pos j1, zm_e (zm_f25 hM), zm_e (zm_f5 hM), zm_e et, zm_e (zm_aB hM zm_l365 (Or.inl rfl) rfl t48.1 t49), w1]
    refine zm_if (fun _ => sk) (fun _ => ?_)
    rw [zm_e (zm_f8 hM), zm_e (zm_f5 hM), zm_e et, zm_e (zm_aB hM zm_l354 (Or.inl rfl) rfl t48.1 t49)]
    have l65 : ∀ y z : Int, zm_R (L9_triesNames_65 (d + 2) 347 act a i y z h) (zm_I fun v h' => zm_F [348] [] h h' ∧ zm_Tr c (zv_I h' 348) act ∧ 0 ≤ v ∧ v ≤ 48) := by
      intro y z
      rw [qL9_triesNames_65, w1, wa]
      refine zm_if (fun _ => ?_) (fun _ => sk)
      obtain ⟨w, v, hw, ew⟩ := zm_namesToo hM d (s := 48) (by decide) t
      rw [zm_e (zm_f5 hM), zm_e et, zm_e ew]
      have f : zm_F [348] [] h (zv_sI h 348 (432 + 76 * (48 : Int).toNat + w.toNat) v) := zm_F_I (zm_F_r _ _ h) rfl _ _
      have e1 : zv_I (zv_sI h 348 (432 + 76 * (48 : Int).toNat + w.toNat) v) 348 = zm_os (zv_I h 348) 48 w v := zm_ss _ _ _ _
      have e10 : zv_I (zv_sI h 348 (432 + 76 * (48 : Int).toNat + w.toNat) v) 347 10 = l.length := (zm_F_g f 10).trans h10
      have e351 : zv_I (zv_sI h 348 (432 + 76 * (48 : Int).toNat + w.toNat) v) 351 = zv_I h 351 := zm_so _ _ _
      generalize zv_sI h 348 (432 + 76 * (48 : Int).toNat + w.toNat) v = h1 at f e1 e10 e351
      refine zm_mono (zm_tries22 d hl hn act n (i + 1) (a + 1) h1 hi' a4 a3 ⟨zm_F_M f hM, rfl, e10, fun k x hx => by rw [e351]; exact h351 k x hx⟩ (by rw [e1]; exact zm_Tr_s ht hw v)) ?_
      rintro ⟨ov, h'⟩ ⟨v', ev, f2, q2⟩
      exact ⟨v', ev, zm_F_t f f2, q2⟩
    exact zm_if (fun _ => l65 _ 1) (fun _ => l65 _ 0)
theorem zm_triesNames {h : zv_H} {c : Nat → Int} (hM : zm_M h) (hc : zv_I h 348 = c) (w : zm_W c) (d : Nat) (act : Int) : zm_R (C9_triesNames (d + 5) 347 act h) (fun q => zm_F [348, 351, 352, 353, 354, 355] [10, 11, 12] h q.2 ∧ zm_Tr c (zv_I q.2 348) act ∧ 0 ≤ q.1 ∧ q.1 ≤ 48) := by
  refine zm_cI (P := fun v h' => zm_F [348, 351, 352, 353, 354, 355] [10, 11, 12] h h' ∧ zm_Tr c (zv_I h' 348) act ∧ 0 ≤ v ∧ v ≤ 48) (lC9_triesNames (zm_ob hM)) ?_
  obtain ⟨l, hl, hl2, g, gt⟩ := zm_W_l w.1 w.2.1
  obtain ⟨h1, e1, f1, hSn⟩ := zm_sees_st hM hc d hl hl2 g gt
  have hM1 := zm_F_M f1 hM
  have c1 : zv_I h1 348 = c := (zm_F_a f1 348).trans hc
  have c047 : 0 ≤ c 0 ∧ c 0 ≤ 47 := w.2.1.1
  obtain ⟨h2, e2, f2, b2⟩ := zm_begins hM1 c1 (d + 2) (s := 48) (by decide) c047 (by omega) act (-1) 0 0
  obtain ⟨⟨b20, b21, b22, b23, b24, b25, b26⟩, b28, b29, b2k⟩ := b2
  rw [qE9_triesNames, zm_e (zm_here hM _), hc]
  dsimp only
  rw [zm_e e1, zm_e e2]
  have ln : (c 0 :: l).length ≤ 48 := by
    rw [List.length_cons]
    omega
  have l1 : 1 + l.length = (c 0 :: l).length := by
    rw [List.length_cons, Nat.add_comm]
  have hlh : zm_lh (zv_I h2 348) (c 0 :: l) h2 := ⟨zm_F_M f2 hM1, rfl, (zm_F_g f2 10).trans hSn.1.1, fun k x hx => by rw [zm_F_a f2 351]; exact hSn.1.2 k x hx⟩
  refine zm_mono (zm_tries22 (d + 2) hl.2.1.2.2 ln act l.length 1 0 h2 l1 (by decide) (by decide) hlh ⟨fun k hk => b2k k hk, b21, b22, b25, b28⟩) ?_
  rintro ⟨ov, h'⟩ ⟨v', ev, f3, q3⟩
  exact ⟨v', ev, zm_F_t (zm_F_s f1 rfl rfl) (zm_F_t (zm_F_s f2 rfl rfl) (zm_F_s f3 rfl rfl)), q3⟩
