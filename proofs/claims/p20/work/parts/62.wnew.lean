/-! ===== the reference: a new state keeps what must hold ===== -/
def zm_Nw (c c' : Nat → Int) (s : Int) : Prop := (∀ k : Nat, k < 432 ∨ 4156 ≤ k → k < 4236 → c' k = zm_vc c s k) ∧ (∀ t w : Int, 0 ≤ t → t ≤ 48 → t ≠ s → 0 ≤ w → w < 76 → zm_o c' t w = zm_o c t w) ∧ zm_o c' s 0 = 1 ∧ zm_o c' s 1 = c 0
theorem zm_Nw_ag {c c' : Nat → Int} {s : Int} (n : zm_Nw c c' s) {t : Int} (h0 : 0 ≤ t) (h1 : t ≤ 48) (hn : t ≠ s) : zm_ag c c' t := fun w w0 w1 _ => n.2.1 t w h0 h1 hn (by omega) w1
theorem zm_Nw_hd {c c' : Nat → Int} {s : Int} (hs : 0 ≤ s ∧ s ≤ 47) (n : zm_Nw c c' s) : zm_hd c c' := by
  have v := zm_vc_hd c hs
  refine ⟨(n.1 3 (Or.inl (by decide)) (by decide)).trans v.1, (n.1 4 (Or.inl (by decide)) (by decide)).trans v.2.1, fun k h1 h2 => (n.1 k (Or.inl h2) (by omega)).trans (v.2.2.1 k h1 h2), fun q => ?_⟩
  rw [n.1 5 (Or.inl (by decide)) (by decide)]
  exact v.2.2.2 q
theorem zm_Nw_st {c c' : Nat → Int} {s : Int} (hs : 0 ≤ s ∧ s ≤ 47) (n : zm_Nw c c' s) {t : Int} : zm_st c' t ↔ t = s ∨ (t ≠ s ∧ zm_st c t) := by
  constructor
  · intro q
    by_cases e : t = s
    · exact Or.inl e
    · refine Or.inr ⟨e, q.1, ?_⟩
      rw [← n.2.1 t 0 q.1.1 (by omega) e (by decide) (by decide)]
      exact q.2
  · rintro (q | ⟨q1, q2⟩)
    · rw [q]
      exact ⟨hs, n.2.2.1⟩
    · refine ⟨q2.1, ?_⟩
      rw [n.2.1 t 0 q2.1.1 (by omega) q1 (by decide) (by decide)]
      exact q2.2
theorem zm_W_new {c c' : Nat → Int} {s : Int} {l : List Int} (w : zm_W c) (hs : 0 ≤ s ∧ s ≤ 47) (hd : zm_o c s 0 ≠ 1) (n : zm_Nw c c' s) (hl : zm_W1 c (c 0) l) (hf : zm_o c' s 6 = s ∨ (zm_o c' s 6 = zm_o c (c 0) 6 ∧ c 0 ≠ 0)) (hm : zm_ed c' s → 0 ≤ zm_o c' s 5 ∧ zm_o c' s 5 ≤ 12) (ht : zm_o c' s 2 = 1 → ∀ p ∈ zm_tk c' s, p ∈ zm_row c (c 0 :: l)) (hb : -1 ≤ zm_o c' s 8 ∧ zm_o c' s 8 ≤ 47) (hn : ((zm_row c' (s :: c 0 :: l)).filter (zm_sn c' (s :: c 0 :: l))).length ≤ 120) : zm_W c' ∧ zm_W1 c' s (c 0 :: l) := by
  obtain ⟨⟨w1, ⟨w2, w3, w4, w5⟩, w6⟩, w7, w8⟩ := id w
  have hst : ∀ {t : Int}, zm_st c' t ↔ t = s ∨ (t ≠ s ∧ zm_st c t) := zm_Nw_st hs n
  have hns : ¬ zm_st c s := fun q => hd q.2
  have hne : ∀ {t : Int}, zm_st c t → t ≠ s := fun q e => hns (by rw [← e]; exact q)
  have s0 : s ≠ 0 := (hne w2).symm
  have hag : ∀ {t : Int}, zm_st c t → zm_ag c c' t := fun q => zm_Nw_ag n q.1.1 (by omega) (hne q)
  have hlh : ∀ t ∈ c 0 :: l, zm_st c t := hl.2.1.2.2
  have hagl : ∀ t ∈ c 0 :: l, zm_ag c c' t := fun t ht => hag (hlh t ht)
  have W1s : zm_W1 c' s (c 0 :: l) := by
    refine ⟨⟨⟨rfl, hs.1, by omega⟩, ?_⟩, ⟨List.nodup_cons.mpr ⟨fun q => hns (hlh s q), hl.2.1.1⟩, ?_, fun t ht => ?_⟩, fun _ => ⟨?_, ?_⟩, fun _ => hm, fun q p hp => ?_, hb, hn⟩
    · rw [n.2.2.2]
      exact zm_Ln_cg hagl hl.1
    · rw [List.getLast?_cons_cons]
      exact hl.2.1.2.1
    · rcases List.mem_cons.mp ht with q | q
      · rw [q]
        exact hst.mpr (Or.inl rfl)
      · exact hst.mpr (Or.inr ⟨hne (hlh t q), hlh t q⟩)
    · rcases hf with q | q
      · rw [q]
        exact List.mem_cons_self
      · rw [q.1]
        exact List.mem_cons_of_mem _ (hl.2.2.1 q.2).1
    · rcases hf with q | q
      · rw [q]
        exact s0
      · rw [q.1]
        exact (hl.2.2.1 q.2).2
    · rw [zm_row_cg hagl]
      exact ht q p hp
  refine ⟨⟨⟨fun t t0 t1 => ?_, ⟨hst.mpr (Or.inr ⟨hne w2, w2⟩), ?_, ?_, ?_⟩, fun t ht => ?_⟩, ?_, zm_Wh_hd w8 (zm_Nw_hd hs n)⟩, W1s⟩
  · by_cases e : t = s
    · rw [e]
      exact Or.inr n.2.2.1
    · rw [n.2.1 t 0 t0 (by omega) e (by decide) (by decide)]
      exact w1 t t0 t1
  · rw [hag w2 1 (by decide) (by decide) (by decide)]
    exact w3
  · rw [hag w2 2 (by decide) (by decide) (by decide)]
    exact w4
  · rw [hag w2 5 (by decide) (by decide) (by decide)]
    exact w5
  · rcases hst.mp ht with q | ⟨_, q⟩
    · rw [q]
      exact ⟨_, W1s⟩
    · obtain ⟨l', l1, l2, l3, l4⟩ := zm_W_l w.1 q
      exact ⟨l', zm_W1_cg l1 l3 (fun u hu => hag (l1.2.1.2.2 u hu)) (fun u hu => hst.mpr (Or.inr ⟨hne (l1.2.1.2.2 u hu), l1.2.1.2.2 u hu⟩))⟩
  · rw [n.1 0 (Or.inl (by decide)) (by decide), zm_vc_0 c hs]
    exact hst.mpr (Or.inl rfl)
/-! what one sees there -/
theorem zm_fc_ned {c c' : Nat → Int} {s : Int} {lh : List Int} (hne : lh ≠ []) (he : zm_ed c' s) (ha : ∀ t ∈ lh, zm_ag c c' t) (x : Int) : zm_fc c' (s :: lh) x = if x = s then 1 else zm_fc c lh x := by
  rw [zm_fc_c c' s hne, if_neg (show ¬ (¬ zm_ed c' s ∧ zm_nm c' s x) from fun q => q.1 he), if_pos he, zm_fc_cg x ha]
theorem zm_cb_ned {c c' : Nat → Int} {s : Int} {lh : List Int} (hne : lh ≠ []) (he : zm_ed c' s) (ha : ∀ t ∈ lh, zm_ag c c' t) (hns : ¬ s ∈ lh) (hm : ∀ t ∈ lh, zm_o c t 2 = 1 → zm_o c t 5 ≤ 12) (p : Int × Int) : zm_cb c' (s :: lh) lh p = zm_cb c lh lh p := by
  refine zm_any_cg ?_
  intro t ht
  have hts : t ≠ s := fun e => hns (by rw [← e]; exact ht)
  rw [ha t ht 2 (by decide) (by decide) (by decide), zm_fc_ned hne he ha t, if_neg hts]
  by_cases h1 : zm_o c t 2 = 1
  · rw [zm_tk_cg (ha t ht) (hm t ht h1)]
  · rw [decide_eq_false h1, Bool.false_and, Bool.false_and]
theorem zm_sn_ned {c c' : Nat → Int} {s : Int} {lh : List Int} (hne : lh ≠ []) (he : zm_ed c' s) (ha : ∀ t ∈ lh, zm_ag c c' t) (hns : ¬ s ∈ lh) (hm : ∀ t ∈ lh, zm_o c t 2 = 1 → zm_o c t 5 ≤ 12) {p : Int × Int} (hp : p.1 ∈ lh) : zm_sn c' (s :: lh) p = (zm_sn c lh p && !(decide (zm_o c' s 2 = 1) && (zm_tk c' s).contains p)) := by
  have hps : p.1 ≠ s := fun e => hns (by rw [← e]; exact hp)
  unfold zm_sn
  rw [zm_cb_c, zm_cb_ned hne he ha hns hm, zm_fc_ned hne he ha, zm_fc_ned hne he ha, if_neg hps, if_pos rfl]
  cases decide (zm_fc c lh p.1 = 1)
  · rfl
  · cases zm_cb c lh lh p
    · cases decide (zm_o c' s 2 = 1)
      · rfl
      · cases (zm_tk c' s).contains p
        · rfl
        · rfl
    · cases decide (zm_o c' s 2 = 1)
      · rfl
      · cases (zm_tk c' s).contains p
        · rfl
        · rfl
theorem zm_fl_split (f : Int × Int → Bool) (row r : List (Int × Int)) (n : Nat) : ((row.take n ++ (r ++ row.drop n)).filter f).length = (row.filter f).length + (r.filter f).length := by
  have e : row.filter f = (row.take n).filter f ++ (row.drop n).filter f := by rw [← List.filter_append, List.take_append_drop]
  rw [e, List.filter_append, List.filter_append, List.length_append, List.length_append, List.length_append]
  omega
theorem zm_fl_all {α : Type} (f : α → Bool) {l : List α} (h : ∀ x ∈ l, f x = true) : l.filter f = l := List.filter_eq_self.mpr h
/-- of a put: what was there, and the word -/
theorem zm_cnt_put {c c' : Nat → Int} {s : Int} {lh : List Int} (hne : lh ≠ []) (ha : ∀ t ∈ lh, zm_ag c c' t) (hns : ¬ s ∈ lh) (g : zm_G0 c lh) (gt : ∀ t ∈ lh, zm_o c t 2 = 1 → ∀ p ∈ zm_tk c t, p ∈ zm_row c lh) (hp : zm_o c' s 2 = 0) : zm_row c' (s :: lh) = zm_ins c' s (zm_row c lh) ∧ (∀ p ∈ zm_row c lh, zm_sn c' (s :: lh) p = zm_sn c lh p) ∧ (∀ p ∈ zm_rs s (zm_o c' s 5), zm_sn c' (s :: lh) p = true) ∧ ((zm_row c' (s :: lh)).filter (zm_sn c' (s :: lh))).length = ((zm_row c lh).filter (zm_sn c lh)).length + (zm_o c' s 5).toNat := by
  have he : zm_ed c' s := Or.inl hp
  have hm := zm_cut12 g
  have r1 : zm_row c' (s :: lh) = zm_ins c' s (zm_row c lh) := by
    rw [zm_row_c c' s hne, if_pos hp, zm_row_cg ha]
  have r2 : ∀ p ∈ zm_row c lh, zm_sn c' (s :: lh) p = zm_sn c lh p := by
    intro p hpm
    rw [zm_sn_ned hne he ha hns hm (zm_row_mem hpm).1, decide_eq_false (by rw [hp]; decide), Bool.false_and, Bool.not_false, Bool.and_true]
  have r3 : ∀ p ∈ zm_rs s (zm_o c' s 5), zm_sn c' (s :: lh) p = true := by
    intro p hpm
    have e1 := (zm_rs_mem.mp hpm).1
    unfold zm_sn
    rw [zm_cb_c, zm_cb_ned hne he ha hns hm, zm_fc_ned hne he ha, if_pos e1, decide_eq_false (show ¬ zm_o c' s 2 = 1 by rw [hp]; decide), Bool.false_and, Bool.false_or]
    have e2 : zm_cb c lh lh p = false := by
      unfold zm_cb
      rw [List.any_eq_false]
      intro t ht q
      rw [Bool.and_eq_true, Bool.and_eq_true] at q
      have h1 := gt t ht (of_decide_eq_true q.1) p (List.contains_iff_mem.mp q.2.2)
      exact hns (by rw [← e1]; exact (zm_row_mem h1).1)
    rw [e2]
    rfl
  refine ⟨r1, r2, r3, ?_⟩
  rw [r1, zm_ins_e, zm_fl_split, zm_fl_cg r2, zm_fl_all _ r3, zm_rs_len]
/-- of a cut: no more than was there -/
theorem zm_cnt_cut {c c' : Nat → Int} {s : Int} {lh : List Int} (hne : lh ≠ []) (ha : ∀ t ∈ lh, zm_ag c c' t) (hns : ¬ s ∈ lh) (g : zm_G0 c lh) (hp : zm_o c' s 2 = 1) : zm_row c' (s :: lh) = zm_row c lh ∧ (∀ p ∈ zm_row c lh, zm_sn c' (s :: lh) p = (zm_sn c lh p && !((zm_tk c' s).contains p))) ∧ ((zm_row c' (s :: lh)).filter (zm_sn c' (s :: lh))).length ≤ ((zm_row c lh).filter (zm_sn c lh)).length := by
  have he : zm_ed c' s := Or.inr hp
  have hm := zm_cut12 g
  have r1 : zm_row c' (s :: lh) = zm_row c lh := by
    rw [zm_row_c c' s hne, if_neg (by rw [hp]; decide), zm_row_cg ha]
  have r2 : ∀ p ∈ zm_row c lh, zm_sn c' (s :: lh) p = (zm_sn c lh p && !((zm_tk c' s).contains p)) := by
    intro p hpm
    rw [zm_sn_ned hne he ha hns hm (zm_row_mem hpm).1, decide_eq_true hp, Bool.true_and]
  refine ⟨r1, r2, ?_⟩
  rw [r1, zm_fl_cg r2]
  have key : ∀ r : List (Int × Int), (r.filter fun p => zm_sn c lh p && !((zm_tk c' s).contains p)).length ≤ (r.filter (zm_sn c lh)).length := by
    intro r
    induction r with
    | nil => exact Nat.le_refl _
    | cons p r ih =>
      rw [List.filter_cons, List.filter_cons]
      cases e : zm_sn c lh p
      · rw [Bool.false_and, if_neg (by decide), if_neg (by decide)]
        exact ih
      · rw [if_pos rfl, List.length_cons]
        cases e2 : (zm_tk c' s).contains p
        · rw [Bool.not_false, Bool.and_true, if_pos rfl, List.length_cons]
          omega
        · rw [Bool.not_true, Bool.and_false, if_neg (by decide)]
          omega
  exact key _
/-- of two that name the same: the same -/
theorem zm_cnt_nam {c c1 c2 : Nat → Int} {s u : Int} {lh : List Int} (hne : lh ≠ []) (ha1 : ∀ t ∈ lh, zm_ag c c1 t) (ha2 : ∀ t ∈ lh, zm_ag c c2 t) (hs : ¬ s ∈ lh) (hu : ¬ u ∈ lh) (g : zm_G0 c lh) (e1 : zm_o c1 s 2 = 2 ∨ zm_o c1 s 2 = 3) (e2 : zm_o c2 u 2 = zm_o c1 s 2) (el : zm_o c2 u 10 = zm_o c1 s 10) (eh : zm_o c2 u 11 = zm_o c1 s 11) : zm_row c1 (s :: lh) = zm_row c lh ∧ zm_row c2 (u :: lh) = zm_row c lh ∧ ((zm_row c1 (s :: lh)).filter (zm_sn c1 (s :: lh))).length = ((zm_row c2 (u :: lh)).filter (zm_sn c2 (u :: lh))).length := by
  have hm := zm_cut12 g
  have n0 : zm_o c1 s 2 ≠ 0 := by omega
  have n1 : zm_o c1 s 2 ≠ 1 := by omega
  have r1 : zm_row c1 (s :: lh) = zm_row c lh := by
    rw [zm_row_c c1 s hne, if_neg n0, zm_row_cg ha1]
  have r2 : zm_row c2 (u :: lh) = zm_row c lh := by
    rw [zm_row_c c2 u hne, if_neg (by rw [e2]; exact n0), zm_row_cg ha2]
  have d1 : ¬ zm_ed c1 s := fun q => q.elim n0 n1
  have d2 : ¬ zm_ed c2 u := fun q => by
    rcases q with q | q
    · rw [e2] at q
      exact n0 q
    · rw [e2] at q
      exact n1 q
  have hnm : ∀ x, zm_nm c2 u x ↔ zm_nm c1 s x := by
    intro x
    show zv_and (zv_shr (zm_o c2 u (if x < 24 then 10 else 11)) (x.tmod 24)) 1 = 1 ↔ zv_and (zv_shr (zm_o c1 s (if x < 24 then 10 else 11)) (x.tmod 24)) 1 = 1
    split
    · rw [el]
    · rw [eh]
  have hfc : ∀ x ∈ lh, zm_fc c1 (s :: lh) x = zm_fc c2 (u :: lh) x := by
    intro x hx
    have x1 : x ≠ s := fun e => hs (by rw [← e]; exact hx)
    have x2 : x ≠ u := fun e => hu (by rw [← e]; exact hx)
    rw [zm_fc_c c1 s hne, zm_fc_c c2 u hne, if_neg x1, if_neg x2, zm_fc_cg x ha1, zm_fc_cg x ha2]
    exact zm_ic ⟨fun q => ⟨d2, (hnm x).mpr q.2⟩, fun q => ⟨d1, (hnm x).mp q.2⟩⟩ (zm_ic (by rw [e2]) rfl rfl) rfl
  have hcb : ∀ p, zm_cb c1 (s :: lh) (s :: lh) p = zm_cb c2 (u :: lh) (u :: lh) p := by
    intro p
    rw [zm_cb_c, zm_cb_c, decide_eq_false n1, decide_eq_false (show ¬ zm_o c2 u 2 = 1 by rw [e2]; exact n1), Bool.false_and, Bool.false_and, Bool.false_or, Bool.false_or]
    refine zm_any_cg ?_
    intro t ht
    rw [ha1 t ht 2 (by decide) (by decide) (by decide), ha2 t ht 2 (by decide) (by decide) (by decide), hfc t ht]
    by_cases h1 : zm_o c t 2 = 1
    · rw [zm_tk_cg (ha1 t ht) (hm t ht h1), zm_tk_cg (ha2 t ht) (hm t ht h1)]
    · rw [decide_eq_false h1, Bool.false_and, Bool.false_and]
  refine ⟨r1, r2, ?_⟩
  rw [r1, r2, zm_fl_cg (g := zm_sn c2 (u :: lh))]
  intro p hp
  unfold zm_sn
  rw [hfc _ (zm_row_mem hp).1, hcb]
