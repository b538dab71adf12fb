/-! ===== what holds of the numbers between calls ===== -/
theorem zm_nd_le {n : Nat} : ∀ {l : List Int}, l.Nodup → (∀ t ∈ l, 0 ≤ t ∧ t < n) → l.length ≤ n := by
  induction n with
  | zero =>
    intro l _ h
    cases l with
    | nil => exact Nat.le_refl _
    | cons t b =>
      have := h t List.mem_cons_self
      omega
  | succ n ih =>
    intro l hd h
    have h1 := ih (l := l.erase (n : Int)) (hd.erase _) (fun t ht => by
      have h2 := (List.Nodup.mem_erase_iff hd).mp ht
      have h3 := h t h2.2
      have h4 : t ≠ n := h2.1
      omega)
    have h2 := List.length_erase (a := (n : Int)) (l := l)
    split at h2
    · omega
    · omega
/-- one's codes -/
def zm_cd (c : Nat → Int) : List Int := (List.range (c 4).toNat).map fun k : Nat => c (8 + k)
/-- steps over a heap of so many truths, at last one -/
def zm_ph : List Int → Int → Prop
  | [], n => n = 1
  | v :: r, n => if 0 ≤ v then zm_ph r (n + 1) else if v = -1 then 1 ≤ n ∧ zm_ph r n else 2 ≤ n ∧ zm_ph r (n - 1)
/-- the line of a state, as it must be -/
def zm_Lw (c : Nat → Int) (l : List Int) : Prop := l.Nodup ∧ l.getLast? = some 0 ∧ ∀ t ∈ l, zm_st c t
/-- of one state, by its line -/
def zm_W1 (c : Nat → Int) (s : Int) (l : List Int) : Prop := zm_Ln c (s :: l) s ∧ zm_Lw c (s :: l) ∧ (s ≠ 0 → zm_o c s 6 ∈ s :: l ∧ zm_o c s 6 ≠ 0) ∧ (s ≠ 0 → zm_ed c s → 0 ≤ zm_o c s 5 ∧ zm_o c s 5 ≤ 12) ∧ (zm_o c s 2 = 1 → ∀ p ∈ zm_tk c s, p ∈ zm_row c l) ∧ (-1 ≤ zm_o c s 8 ∧ zm_o c s 8 ≤ 47) ∧ ((zm_row c (s :: l)).filter (zm_sn c (s :: l))).length ≤ 120
/-- the tree -/
def zm_Wt (c : Nat → Int) : Prop := (∀ s, 0 ≤ s → s ≤ 47 → zm_o c s 0 = 0 ∨ zm_o c s 0 = 1) ∧ (zm_st c 0 ∧ zm_o c 0 1 = -1 ∧ zm_o c 0 2 = -1 ∧ 0 ≤ zm_o c 0 5 ∧ zm_o c 0 5 ≤ 40) ∧ ∀ s, zm_st c s → ∃ l, zm_W1 c s l
/-- the head: names, codes, log -/
def zm_Wh (c : Nat → Int) : Prop := (0 ≤ c 3 ∧ c 3 ≤ 12) ∧ (0 ≤ c 4 ∧ c 4 ≤ 392) ∧ (c 4 = 0 ∨ zm_ph (zm_cd c) 0) ∧ (0 ≤ c 5 ∧ c 5 ≤ 40)
def zm_W (c : Nat → Int) : Prop := zm_Wt c ∧ zm_st c (c 0) ∧ zm_Wh c
theorem zm_row_up {c : Nat → Int} {b : List Int} (hb : b ≠ []) {p : Int × Int} (hp : p ∈ zm_row c b) : ∀ a : List Int, p ∈ zm_row c (a ++ b)
  | [] => hp
  | t :: a => by
    have ih := zm_row_up hb hp a
    have hn : a ++ b ≠ [] := fun e => hb (List.append_eq_nil_iff.mp e).2
    show p ∈ zm_row c (t :: (a ++ b))
    rw [zm_row_c c t hn]
    split
    · exact zm_ins_mem.mpr (Or.inl ih)
    · exact ih
theorem zm_Lw_ne {c : Nat → Int} {s : Int} {l : List Int} (hw : zm_Lw c (s :: l)) (hs : s ≠ 0) : l ≠ [] := by
  intro e
  rw [e] at hw
  exact hs (Option.some.inj hw.2.1)
/-- all that sees wants of the line of a state -/
theorem zm_W_l {c : Nat → Int} (hW : zm_Wt c) {s : Int} (hs : zm_st c s) : ∃ l, zm_W1 c s l ∧ l.length ≤ 47 ∧ zm_G0 c (s :: l) ∧ ∀ t ∈ s :: l, zm_o c t 2 = 1 → ∀ p ∈ zm_tk c t, p ∈ zm_row c (s :: l) := by
  obtain ⟨w1, ⟨w2, w3, w4, w5⟩, w6⟩ := hW
  obtain ⟨l, hl⟩ := w6 s hs
  obtain ⟨a1, a2, a3, a4, a5, a6, a7⟩ := id hl
  have hlen : (s :: l).length ≤ 48 := zm_nd_le (n := 48) a2.1 (fun t ht => by have := (a2.2.2 t ht).1; omega)
  rw [List.length_cons] at hlen
  refine ⟨l, hl, by omega, ⟨a2.1, a2.2.1, w5, w4, fun t ht h0 he => ?_⟩, fun t ht hk p hp => ?_⟩
  · obtain ⟨l', hl'⟩ := w6 t (a2.2.2 t ht)
    exact hl'.2.2.2.1 h0 he
  · obtain ⟨a, b, e1, e2⟩ := zm_Ln_s a1 t ht
    obtain ⟨l', hl'⟩ := w6 t (a2.2.2 t ht)
    have e3 : t :: b = t :: l' := zm_Ln_u e2 hl'.1
    have e4 : b = l' := (List.cons.inj e3).2
    have ht0 : t ≠ 0 := fun q => by rw [q, w4] at hk; cases hk
    have hne := zm_Lw_ne hl'.2.1 ht0
    rw [e1, e4]
    have hp' := hl'.2.2.2.2.1 hk p hp
    rw [show a ++ t :: l' = (a ++ [t]) ++ l' by rw [List.append_assoc]; rfl]
    exact zm_row_up hne hp' _
/-- two arrays of numbers that agree about a state (but for its life and its last visit) -/
def zm_ag (c c' : Nat → Int) (t : Int) : Prop := ∀ w : Int, 1 ≤ w → w < 76 → w ≠ 7 → zm_o c' t w = zm_o c t w
theorem zm_Ln_cg {c c' : Nat → Int} : ∀ {l : List Int} {s : Int}, (∀ t ∈ l, zm_ag c c' t) → zm_Ln c l s → zm_Ln c' l s
  | [], _, _, h => h
  | t :: l, s, ha, h => by
    refine ⟨h.1, ?_⟩
    rw [ha t List.mem_cons_self 1 (by decide) (by decide) (by decide)]
    exact zm_Ln_cg (fun u hu => ha u (List.mem_cons_of_mem _ hu)) h.2
theorem zm_ins_cg {c c' : Nat → Int} {t : Int} (ha : zm_ag c c' t) (row : List (Int × Int)) : zm_ins c' t row = zm_ins c t row := by
  unfold zm_ins
  rw [ha 8 (by decide) (by decide) (by decide), ha 9 (by decide) (by decide) (by decide), ha 5 (by decide) (by decide) (by decide)]
theorem zm_row_cg {c c' : Nat → Int} : ∀ {l : List Int}, (∀ t ∈ l, zm_ag c c' t) → zm_row c' l = zm_row c l
  | [], _ => rfl
  | [t], ha => by
    rw [zm_row_1, zm_row_1, ha t List.mem_cons_self 5 (by decide) (by decide) (by decide)]
  | t :: u :: l, ha => by
    have h1 := ha t List.mem_cons_self
    rw [zm_row_c c' t (List.cons_ne_nil _ _), zm_row_c c t (List.cons_ne_nil _ _), h1 2 (by decide) (by decide) (by decide), zm_row_cg (fun v hv => ha v (List.mem_cons_of_mem _ hv)), zm_ins_cg h1]
theorem zm_nm_cg {c c' : Nat → Int} {t : Int} (ha : zm_ag c c' t) (x : Int) : zm_nm c' t x ↔ zm_nm c t x := by
  show zv_and (zv_shr (zm_o c' t (if x < 24 then 10 else 11)) (x.tmod 24)) 1 = 1 ↔ zv_and (zv_shr (zm_o c t (if x < 24 then 10 else 11)) (x.tmod 24)) 1 = 1
  split
  · rw [ha 10 (by decide) (by decide) (by decide)]
  · rw [ha 11 (by decide) (by decide) (by decide)]
theorem zm_ed_cg {c c' : Nat → Int} {t : Int} (ha : zm_ag c c' t) : zm_ed c' t ↔ zm_ed c t := by
  show zm_o c' t 2 = 0 ∨ zm_o c' t 2 = 1 ↔ zm_o c t 2 = 0 ∨ zm_o c t 2 = 1
  rw [ha 2 (by decide) (by decide) (by decide)]
theorem zm_ic {p q : Prop} [Decidable p] [Decidable q] (h : p ↔ q) {α : Type} {a b a' b' : α} (ea : a = a') (eb : b = b') : (if p then a else b) = if q then a' else b' := by
  by_cases hp : p
  · rw [if_pos hp, if_pos (h.mp hp), ea]
  · rw [if_neg hp, if_neg (fun hq => hp (h.mpr hq)), eb]
theorem zm_fc_cg {c c' : Nat → Int} (x : Int) : ∀ {l : List Int}, (∀ t ∈ l, zm_ag c c' t) → zm_fc c' l x = zm_fc c l x
  | [], _ => rfl
  | [t], _ => rfl
  | t :: u :: l, ha => by
    have h1 := ha t List.mem_cons_self
    rw [zm_fc_c c' t (List.cons_ne_nil _ _), zm_fc_c c t (List.cons_ne_nil _ _)]
    refine zm_ic ?_ (zm_ic (by rw [h1 2 (by decide) (by decide) (by decide)]) rfl rfl) (zm_ic Iff.rfl (zm_ic (zm_ed_cg h1) rfl rfl) (zm_fc_cg x (fun v hv => ha v (List.mem_cons_of_mem _ hv))))
    rw [zm_ed_cg h1, zm_nm_cg h1]
theorem zm_tk_cg {c c' : Nat → Int} {t : Int} (ha : zm_ag c c' t) (hm : zm_o c t 5 ≤ 12) : zm_tk c' t = zm_tk c t := by
  unfold zm_tk
  rw [ha 5 (by decide) (by decide) (by decide)]
  refine List.map_congr_left ?_
  intro i hi
  have := List.mem_range.mp hi
  rw [ha _ (by omega) (by omega) (by omega), ha _ (by omega) (by omega) (by omega)]
theorem zm_any_cg {α : Type} {f g : α → Bool} : ∀ {l : List α}, (∀ t ∈ l, f t = g t) → l.any f = l.any g
  | [], _ => rfl
  | t :: l, h => by rw [List.any_cons, List.any_cons, h t List.mem_cons_self, zm_any_cg (fun u hu => h u (List.mem_cons_of_mem _ hu))]
theorem zm_cb_cg {c c' : Nat → Int} {l0 b : List Int} (p : Int × Int) (h0 : ∀ t ∈ l0, zm_ag c c' t) (hb : ∀ t ∈ b, zm_ag c c' t) (hm : ∀ t ∈ b, zm_o c t 2 = 1 → zm_o c t 5 ≤ 12) : zm_cb c' l0 b p = zm_cb c l0 b p := by
  refine zm_any_cg ?_
  intro t ht
  rw [hb t ht 2 (by decide) (by decide) (by decide), zm_fc_cg t h0]
  by_cases h1 : zm_o c t 2 = 1
  · rw [zm_tk_cg (hb t ht) (hm t ht h1)]
  · rw [decide_eq_false h1, Bool.false_and, Bool.false_and]
theorem zm_sn_cg {c c' : Nat → Int} {l : List Int} (p : Int × Int) (ha : ∀ t ∈ l, zm_ag c c' t) (hm : ∀ t ∈ l, zm_o c t 2 = 1 → zm_o c t 5 ≤ 12) : zm_sn c' l p = zm_sn c l p := by
  unfold zm_sn
  rw [zm_fc_cg p.1 ha, zm_cb_cg p ha ha hm]
theorem zm_cut12 {c : Nat → Int} {l : List Int} (g : zm_G0 c l) : ∀ t ∈ l, zm_o c t 2 = 1 → zm_o c t 5 ≤ 12 := by
  intro t ht hk
  exact (g.2.2.2.2 t ht (fun q => by rw [q, g.2.2.2.1] at hk; cases hk) (Or.inr hk)).2
theorem zm_fl_cg {α : Type} {f g : α → Bool} : ∀ {l : List α}, (∀ t ∈ l, f t = g t) → l.filter f = l.filter g
  | [], _ => rfl
  | t :: l, h => by
    have ih := zm_fl_cg (fun u hu => h u (List.mem_cons_of_mem _ hu))
    rw [List.filter_cons, List.filter_cons, h t List.mem_cons_self, ih]
/-- a state whose line agrees stands as it stood -/
theorem zm_W1_cg {c c' : Nat → Int} {s : Int} {l : List Int} (h : zm_W1 c s l) (g : zm_G0 c (s :: l)) (ha : ∀ t ∈ s :: l, zm_ag c c' t) (hst : ∀ t ∈ s :: l, zm_st c' t) : zm_W1 c' s l := by
  obtain ⟨a1, a2, a3, a4, a5, a6, a7⟩ := h
  have hs := ha s List.mem_cons_self
  have hal : ∀ t ∈ l, zm_ag c c' t := fun t ht => ha t (List.mem_cons_of_mem _ ht)
  refine ⟨zm_Ln_cg ha a1, ⟨a2.1, a2.2.1, hst⟩, ?_, ?_, ?_, ?_, ?_⟩
  · rw [hs 6 (by decide) (by decide) (by decide)]
    exact a3
  · rw [zm_ed_cg hs, hs 5 (by decide) (by decide) (by decide)]
    exact a4
  · intro hk p hp
    rw [hs 2 (by decide) (by decide) (by decide)] at hk
    rw [zm_tk_cg hs (zm_cut12 g s List.mem_cons_self hk)] at hp
    rw [zm_row_cg hal]
    exact a5 hk p hp
  · rw [hs 8 (by decide) (by decide) (by decide)]
    exact a6
  · rw [zm_row_cg ha, zm_fl_cg (fun p _ => zm_sn_cg p ha (zm_cut12 g))]
    exact a7
