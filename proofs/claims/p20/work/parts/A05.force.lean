/-! ===== the tie: in force ===== -/
/-! what is in force: the last act that names one decides -/
def zt_off (c : Nat → Int) : List Int → Int → Prop
  | [], _ => False
  | u :: l, x => (zm_nm c u x ∧ zm_o c u 2 = 2) ∨ (¬ zm_nm c u x ∧ zt_off c l x)
theorem zt_off_nm {c : Nat → Int} {x : Int} : ∀ {l : List Int}, zt_off c l x → ∃ v ∈ l, zm_nm c v x := by
  intro l
  induction l with
  | nil => intro h; exact False.elim h
  | cons u l ih =>
    intro h
    rcases h with h | h
    · exact ⟨u, List.mem_cons_self, h.1⟩
    · obtain ⟨v, hv, n⟩ := ih h.2
      exact ⟨v, List.mem_cons_of_mem _ hv, n⟩
theorem zt_off_a {c : Nat → Int} {x u : Int} : ∀ {p : List Int}, zt_off c (p ++ [u]) x ↔ zt_off c p x ∨ ((¬ ∃ v ∈ p, zm_nm c v x) ∧ zm_nm c u x ∧ zm_o c u 2 = 2) := by
  intro p
  induction p with
  | nil =>
    constructor
    · intro h
      rcases h with h | h
      · exact Or.inr ⟨fun q => (by obtain ⟨v, hv, _⟩ := q; cases hv), h⟩
      · exact False.elim h.2
    · intro h
      rcases h with h | h
      · exact False.elim h
      · exact Or.inl h.2
  | cons w p ih =>
    show ((zm_nm c w x ∧ zm_o c w 2 = 2) ∨ (¬ zm_nm c w x ∧ zt_off c (p ++ [u]) x)) ↔ ((zm_nm c w x ∧ zm_o c w 2 = 2) ∨ (¬ zm_nm c w x ∧ zt_off c p x)) ∨ _
    rw [ih]
    constructor
    · intro h
      rcases h with h | h
      · exact Or.inl (Or.inl h)
      · rcases h.2 with g | g
        · exact Or.inl (Or.inr ⟨h.1, g⟩)
        · refine Or.inr ⟨fun q => ?_, g.2⟩
          obtain ⟨v, hv, n⟩ := q
          rcases List.mem_cons.mp hv with e | e
          · rw [e] at n; exact h.1 n
          · exact g.1 ⟨v, e, n⟩
    · intro h
      rcases h with h | h
      · rcases h with h | h
        · exact Or.inl h
        · exact Or.inr ⟨h.1, Or.inl h.2⟩
      · exact Or.inr ⟨fun q => h.1 ⟨w, List.mem_cons_self, q⟩, Or.inr ⟨fun q => (by obtain ⟨v, hv, n⟩ := q; exact h.1 ⟨v, List.mem_cons_of_mem _ hv, n⟩), h.2⟩⟩
/-- a suffix of a line is a line -/
theorem zt_Ln_suf {c : Nat → Int} : ∀ {l : List Int} {s v : Int}, zm_Ln c l s → v ∈ l → ∃ q, zm_Ln c (v :: q) v ∧ ∀ t ∈ q, t ∈ l.tail := by
  intro l
  induction l with
  | nil => intro s v _ h; cases h
  | cons u l ih =>
    intro s v hl h
    rcases List.mem_cons.mp h with e | e
    · subst e
      have hl' : (s = v ∧ 0 ≤ v ∧ v ≤ 48) ∧ zm_Ln c l (zm_o c v 1) := hl
      exact ⟨l, ⟨⟨rfl, hl'.1.2⟩, hl'.2⟩, fun t ht => ht⟩
    · have hl' : (s = u ∧ 0 ≤ u ∧ u ≤ 48) ∧ zm_Ln c l (zm_o c u 1) := hl
      obtain ⟨q, q1, q2⟩ := ih hl'.2 e
      exact ⟨q, q1, fun t ht => List.mem_of_mem_tail (q2 t ht)⟩
theorem zt_fc_off {c : Nat → Int} {x : Int} (hx : 0 ≤ x ∧ x < 48) (he : zm_ed c x) : ∀ {l : List Int} {s : Int}, zm_Ln c l s → l.Nodup → (∀ t ∈ l, zt_cw c t) → zm_o c 0 2 = -1 → l.getLast? = some 0 → x ∈ l → (zm_fc c l x = 1 ↔ ¬ zt_off c l x) := by
  intro l
  induction l with
  | nil => intro s _ _ _ _ _ h; cases h
  | cons u l ih =>
    intro s hl hd hw h0 hlast hm
    have hl' : (s = u ∧ 0 ≤ u ∧ u ≤ 48) ∧ zm_Ln c l (zm_o c u 1) := hl
    cases l with
    | nil =>
      exfalso
      have e : u = 0 := by
        have := hlast
        simp at this
        exact this
      have e2 : x = u := by simpa using hm
      rw [e2, e] at he
      unfold zm_ed at he
      omega
    | cons v l =>
      have hwu := hw u List.mem_cons_self
      have hnd := List.nodup_cons.mp hd
      have ef : zm_fc c (u :: v :: l) x = if ¬ zm_ed c u ∧ zm_nm c u x then (if zm_o c u 2 = 3 then 1 else 0) else if x = u then (if zm_ed c u then 1 else 0) else zm_fc c (v :: l) x := rfl
      have eo : zt_off c (u :: v :: l) x ↔ (zm_nm c u x ∧ zm_o c u 2 = 2) ∨ (¬ zm_nm c u x ∧ zt_off c (v :: l) x) := Iff.rfl
      rw [ef, eo]
      by_cases n : zm_nm c u x
      · have g := zt_cw_nm hwu (v :: l) ⟨⟨rfl, hl'.1.2⟩, hl'.2⟩ x hx.1 hx.2 n
        rw [if_pos ⟨g.2.2, n⟩]
        have act : zm_o c u 2 = 2 ∨ zm_o c u 2 = 3 := by
          rcases zt_cw_ac hwu with q | q | q | q | q
          · have e : u = 0 := zt_cw_s0 hwu q
            have e3 : (v :: l).getLast? = some 0 := by rw [← hlast]; rfl
            exact absurd (List.mem_of_getLast? e3) (by rw [← e]; exact hnd.1)
          · exact absurd (show zm_ed c u from Or.inl q) g.2.2
          · exact absurd (show zm_ed c u from Or.inr q) g.2.2
          · exact Or.inl q
          · exact Or.inr q
        rcases act with q | q
        · rw [if_neg (by omega)]
          constructor
          · intro z; cases z
          · intro z; exact absurd (Or.inl ⟨n, q⟩) z
        · rw [if_pos q]
          constructor
          · intro _ z
            rcases z with z | z
            · omega
            · exact z.1 n
          · intro _; rfl
      · rw [if_neg (fun q => n q.2)]
        by_cases e : x = u
        · rw [if_pos e, if_pos (by rw [← e]; exact he)]
          constructor
          · intro _ z
            rcases z with z | z
            · exact n z.1
            · obtain ⟨w, hw1, hw2⟩ := zt_off_nm z.2
              obtain ⟨q, q1, q2⟩ := zt_Ln_suf hl'.2 hw1
              have := zt_cw_nm (hw w (List.mem_cons_of_mem _ hw1)) q q1 x hx.1 hx.2 hw2
              exact hnd.1 (by rw [← e]; exact List.mem_of_mem_tail (q2 x this.1))
          · intro _; rfl
        · rw [if_neg e]
          have hm' : x ∈ v :: l := (List.mem_cons.mp hm).resolve_left e
          have i := ih hl'.2 hnd.2 (fun t ht => hw t (List.mem_cons_of_mem _ ht)) h0 (by rw [← hlast]; rfl) hm'
          rw [i]
          constructor
          · intro z q
            rcases q with q | q
            · exact n q.1
            · exact z q.2
          · intro z q
            exact z (Or.inr ⟨n, q⟩)
