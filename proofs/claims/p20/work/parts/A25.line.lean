/-! ===== the tie: going up a line ===== -/
section
variable {a : Nat} {c : Nat → Int} {h : zv_H}
/-- a parent, as a cell -/
theorem zt_pa_nil (U : zt_U a c h) {s : Int} (hs : zm_st c s) (hl : zm_Ln c [s] s) : zv_R h (zt_r a s) 4 = 0 := by
  rw [zt_S_pa (zt_U_st U s hs)]
  exact zt_r_n hl.2
theorem zt_pa_cons (U : zt_U a c h) {s p : Int} {l : List Int} (hs : zm_st c s) (hl : zm_Ln c (s :: p :: l) s) : zv_R h (zt_r a s) 4 = zt_r a p ∧ zm_Ln c (p :: l) p ∧ zm_o c s 1 = p := by
  have e : zm_o c s 1 = p := hl.2.1.1
  have h2 := hl.2
  rw [e] at h2
  refine ⟨?_, h2, e⟩
  rw [zt_S_pa (zt_U_st U s hs), e]
theorem zt_r0 (U : zt_U a c h) {s : Int} (hs : zm_st c s) : ¬ zt_r a s = 0 := zc_nz (zt_r_l (zt_U_la U) hs.1)
theorem zt_r1000 (U : zt_U a c h) {s : Int} (hs : zm_st c s) : ¬ 1000000 ≤ zt_r a s := by
  have := zc_lt (zt_r_l (zt_U_la U) hs.1) (by decide)
  omega
/-- the line of one of a line is its end -/
theorem zt_in_suf {l ls : List Int} {t s : Int} (hl : zm_Ln c (t :: l) t) (hs : zm_Ln c (s :: ls) s) (m : s ∈ t :: l) : ∃ p, t :: l = p ++ s :: ls := by
  obtain ⟨p, b, e, hb⟩ := zm_Ln_s hl s m
  rw [(List.cons.inj (zm_Ln_u hb hs)).2] at e
  exact ⟨p, e⟩
theorem zt_onLine_l {d : Nat} (gL : zt_L h) (U : zt_U a c h) {s : Int} {ls : List Int} (hs : zm_st c s) (hls : zm_Ln c (s :: ls) s) : ∀ (l : List Int) (t : Int), zm_Ln c (t :: l) t → (∀ u ∈ t :: l, zm_st c u) → L0_onLine_2 d (zt_r a s) (zt_r a t) h = some (some (zv_i (if s ∈ t :: l then 1 else 0)), h) := by
  have la := zt_U_la U
  have lS := zt_r_l la hs.1
  have dS := zt_S_de (zt_U_st U s hs) ls hls
  intro l
  induction l with
  | nil =>
    intro t hl hst
    have ht := hst t List.mem_cons_self
    have lT := zt_r_l la ht.1
    have dT := zt_S_de (zt_U_st U t ht) [] hl
    rw [qL0_onLine_2, if_neg (zt_r0 U ht), zm_e (zl_gI gL lT 10), zm_e (zl_gI gL lS 10), dT, dS, if_pos (by rw [List.length_nil]; omega), qL0_onLine_25, if_neg (fun q => by have := zt_r1000 U ht; have := zt_r1000 U hs; omega)]
    by_cases e : t = s
    · subst e
      rw [if_pos rfl, if_pos List.mem_cons_self]
    · rw [if_neg (fun q => e (zt_r_inj la ht.1 hs.1 q)), if_neg (fun q => e (List.mem_singleton.mp q).symm)]
  | cons p l ih =>
    intro t hl hst
    have ht := hst t List.mem_cons_self
    have lT := zt_r_l la ht.1
    have dT := zt_S_de (zt_U_st U t ht) (p :: l) hl
    obtain ⟨ep, hlp, _⟩ := zt_pa_cons U ht hl
    rw [qL0_onLine_2, if_neg (zt_r0 U ht), zm_e (zl_gI gL lT 10), zm_e (zl_gI gL lS 10), dT, dS]
    by_cases le : ((p :: l).length : Int) ≤ (ls.length : Int)
    · rw [if_pos le, qL0_onLine_25, if_neg (fun q => by have := zt_r1000 U ht; have := zt_r1000 U hs; omega)]
      by_cases e : t = s
      · subst e
        rw [if_pos rfl, if_pos List.mem_cons_self]
      · rw [if_neg (fun q => e (zt_r_inj la ht.1 hs.1 q)), if_neg]
        intro q
        obtain ⟨pr, e2⟩ := zt_in_suf hl hls q
        cases pr with
        | nil => exact e (List.cons.inj e2).1
        | cons x pr =>
          have e3 := congrArg List.length e2
          simp only [List.cons_append, List.length_cons, List.length_append] at e3
          rw [List.length_cons] at le
          omega
    · rw [if_neg le, zm_e (zl_gR gL lT 4), ep, ih p hlp (fun u hu => hst u (List.mem_cons_of_mem _ hu))]
      have iff : s ∈ t :: p :: l ↔ s ∈ p :: l := by
        constructor
        · intro q
          rcases List.mem_cons.mp q with z | z
          · exfalso
            subst z
            rw [(List.cons.inj (zm_Ln_u hl hls)).2] at le
            exact le (Int.le_refl _)
          · exact z
        · exact List.mem_cons_of_mem _
      by_cases q : s ∈ p :: l
      · rw [if_pos q, if_pos (iff.mpr q)]
      · rw [if_neg q, if_neg (fun z => q (iff.mp z))]
theorem zt_onLine {d : Nat} (gL : zt_L h) (U : zt_U a c h) {s t : Int} (hs : zm_st c s) (ht : zm_st c t) {l : List Int} (hl : zm_Ln c (t :: l) t) : C0_onLine (d + 1) (zt_r a s) (zt_r a t) h = some ((if s ∈ t :: l then 1 else 0), h) := by
  obtain ⟨ls, hls, _⟩ := zt_line (zt_U_W U) hs
  refine lC0_onLine ?_
  rw [qE0_onLine]
  exact zt_onLine_l gL U hs hls l t hl (zt_line_u (zt_U_W U) ht hl).1.2.2.1
/-- the one of a line at a depth -/
theorem zt_above_l {d : Nat} (gL : zt_L h) (U : zt_U a c h) {u : Int} {b : List Int} : ∀ (p : List Int) (t : Int) (l : List Int), t :: l = p ++ u :: b → zm_Ln c (t :: l) t → (∀ v ∈ t :: l, zm_st c v) → L0_above_2 d (b.length : Int) (zt_r a t) h = some (some (zv_r (zt_r a u)), h) := by
  have la := zt_U_la U
  intro p
  induction p with
  | nil =>
    intro t l e hl hst
    obtain ⟨e1, e2⟩ := List.cons.inj e
    subst e1
    subst e2
    have ht := hst t List.mem_cons_self
    rw [qL0_above_2, if_neg (zt_r0 U ht), zm_e (zl_gI gL (zt_r_l la ht.1) 10), zt_S_de (zt_U_st U t ht) l hl, if_pos (Int.le_refl _)]
  | cons x p ih =>
    intro t l e hl hst
    obtain ⟨e1, e2'⟩ := List.cons.inj e
    have e2 : l = p ++ u :: b := e2'
    subst e1
    have ht := hst t List.mem_cons_self
    cases l with
    | nil =>
      have := congrArg List.length e2
      rw [List.length_append, List.length_cons, List.length_nil] at this
      omega
    | cons y l =>
      obtain ⟨ep, hlp, _⟩ := zt_pa_cons U ht hl
      have e3 := congrArg List.length e2
      rw [List.length_append, List.length_cons, List.length_cons] at e3
      rw [qL0_above_2, if_neg (zt_r0 U ht), zm_e (zl_gI gL (zt_r_l la ht.1) 10), zt_S_de (zt_U_st U t ht) _ hl, if_neg (by rw [List.length_cons]; omega), zm_e (zl_gR gL (zt_r_l la ht.1) 4), ep]
      exact ih y l e2 hlp (fun v hv => hst v (List.mem_cons_of_mem _ hv))
theorem zt_above {d : Nat} (gL : zt_L h) (U : zt_U a c h) {t u : Int} {l p b : List Int} (ht : zm_st c t) (hl : zm_Ln c (t :: l) t) (e : t :: l = p ++ u :: b) : C0_above (d + 1) (zt_r a t) (b.length : Int) h = some (zt_r a u, h) := by
  refine lC0_above ?_
  rw [qE0_above]
  exact zt_above_l gL U p t l e hl (zt_line_u (zt_U_W U) ht hl).1.2.2.1
/-- the first of a line that is of another one -/
def zt_fst (lt : List Int) : List Int → Int
  | [] => -1
  | s :: l => if s ∈ lt then s else zt_fst lt l
theorem zt_fst_m {lt : List Int} : ∀ {l : List Int}, (∃ x ∈ l, x ∈ lt) → zt_fst lt l ∈ l ∧ zt_fst lt l ∈ lt
  | [], h => by obtain ⟨x, hx, _⟩ := h; cases hx
  | s :: l, h => by
    unfold zt_fst
    by_cases q : s ∈ lt
    · rw [if_pos q]
      exact ⟨List.mem_cons_self, q⟩
    · rw [if_neg q]
      obtain ⟨x, hx, hx2⟩ := h
      rcases List.mem_cons.mp hx with z | z
      · rw [z] at hx2
        exact absurd hx2 q
      · have := zt_fst_m ⟨x, z, hx2⟩
        exact ⟨List.mem_cons_of_mem _ this.1, this.2⟩
theorem zt_nearest_l {d : Nat} (gL : zt_L h) (U : zt_U a c h) {t : Int} {lt : List Int} (ht : zm_st c t) (hlt : zm_Ln c (t :: lt) t) : ∀ (l : List Int) (s : Int), zm_Ln c (s :: l) s → (∀ u ∈ s :: l, zm_st c u) → (∃ x ∈ s :: l, x ∈ t :: lt) → L0_nearest_2 (d + 1) (zt_r a t) (zt_r a s) h = some (some (zv_r (zt_r a (zt_fst (t :: lt) (s :: l)))), h) := by
  have la := zt_U_la U
  intro l
  induction l with
  | nil =>
    intro s hl hst hx
    have hs := hst s List.mem_cons_self
    obtain ⟨x, x1, x2⟩ := hx
    rw [List.mem_singleton.mp x1] at x2
    rw [qL0_nearest_2, zm_e (zl_gR gL (zt_r_l la hs.1) 4), zt_pa_nil U hs hl, if_pos rfl]
    unfold zt_fst
    rw [if_pos x2]
  | cons p l ih =>
    intro s hl hst hx
    have hs := hst s List.mem_cons_self
    have hp := hst p (List.mem_cons_of_mem _ List.mem_cons_self)
    obtain ⟨ep, hlp, _⟩ := zt_pa_cons U hs hl
    rw [qL0_nearest_2, zm_e (zl_gR gL (zt_r_l la hs.1) 4), ep, if_neg (zt_r0 U hp), zm_e (zt_onLine gL U hs ht hlt)]
    unfold zt_fst
    by_cases q : s ∈ t :: lt
    · rw [if_pos q, if_pos q]
      dsimp only
      rw [if_neg (by decide)]
    · rw [if_neg q, if_neg q]
      dsimp only
      rw [if_pos rfl, zm_e (zl_gR gL (zt_r_l la hs.1) 4), ep]
      refine ih p hlp (fun u hu => hst u (List.mem_cons_of_mem _ hu)) ?_
      obtain ⟨x, x1, x2⟩ := hx
      rcases List.mem_cons.mp x1 with z | z
      · rw [z] at x2
        exact absurd x2 q
      · exact ⟨x, z, x2⟩
theorem zt_nearest {d : Nat} (gL : zt_L h) (U : zt_U a c h) {s t : Int} {ls lt : List Int} (hs : zm_st c s) (ht : zm_st c t) (hls : zm_Ln c (s :: ls) s) (hlt : zm_Ln c (t :: lt) t) : C0_nearest (d + 2) (zt_r a s) (zt_r a t) h = some (zt_r a (zt_fst (t :: lt) (s :: ls)), h) := by
  refine lC0_nearest ?_
  rw [qE0_nearest]
  have o1 := (zt_line_u (zt_U_W U) hs hls).1
  have o2 := (zt_line_u (zt_U_W U) ht hlt).1
  exact zt_nearest_l gL U ht hlt ls s hls o1.2.2.1 ⟨0, List.mem_of_getLast? o1.2.1, List.mem_of_getLast? o2.2.1⟩
/-- how far from one to another -/
theorem zt_dep {s : Int} {ls : List Int} (W : zm_W c) (hs : zm_st c s) (hls : zm_Ln c (s :: ls) s) : ls.length ≤ 47 := by
  have := (zt_line_u W hs hls).1.2.2.2
  rw [List.length_cons] at this
  omega
theorem zt_near_st (W : zm_W c) {s t : Int} {ls lt : List Int} (hs : zm_st c s) (ht : zm_st c t) (hls : zm_Ln c (s :: ls) s) (hlt : zm_Ln c (t :: lt) t) : (zt_fst (t :: lt) (s :: ls) ∈ s :: ls ∧ zt_fst (t :: lt) (s :: ls) ∈ t :: lt) ∧ zm_st c (zt_fst (t :: lt) (s :: ls)) := by
  have o1 := (zt_line_u W hs hls).1
  have o2 := (zt_line_u W ht hlt).1
  have m := zt_fst_m (lt := t :: lt) (l := s :: ls) ⟨0, List.mem_of_getLast? o1.2.1, List.mem_of_getLast? o2.2.1⟩
  exact ⟨m, o1.2.2.1 _ m.1⟩
/-- from one to another: so many steps -/
def zt_wl (c : Nat → Int) (s t v : Int) : Prop := ∃ ls lt ln, zm_Ln c (s :: ls) s ∧ zm_Ln c (t :: lt) t ∧ zm_Ln c (zt_fst (t :: lt) (s :: ls) :: ln) (zt_fst (t :: lt) (s :: ls)) ∧ v = (ls.length : Int) + lt.length - 2 * ln.length
theorem zt_wl_u {s t v v' : Int} (h1 : zt_wl c s t v) (h2 : zt_wl c s t v') : v = v' := by
  obtain ⟨ls, lt, ln, a1, a2, a3, a4⟩ := h1
  obtain ⟨ls', lt', ln', b1, b2, b3, b4⟩ := h2
  have e1 := (List.cons.inj (zm_Ln_u a1 b1)).2
  have e2 := (List.cons.inj (zm_Ln_u a2 b2)).2
  subst e1
  subst e2
  have e3 := (List.cons.inj (zm_Ln_u a3 b3)).2
  rw [a4, b4, e3]
theorem zt_wl_0 (W : zm_W c) {s t v : Int} (hs : zm_st c s) (ht : zm_st c t) (h1 : zt_wl c s t v) : 0 ≤ v := by
  obtain ⟨ls, lt, ln, a1, a2, a3, a4⟩ := h1
  have m := (zt_near_st W hs ht a1 a2).1
  obtain ⟨p, e1⟩ := zt_in_suf a1 a3 m.1
  obtain ⟨p2, e2⟩ := zt_in_suf a2 a3 m.2
  have l1 := congrArg List.length e1
  have l2 := congrArg List.length e2
  rw [List.length_append, List.length_cons, List.length_cons] at l1 l2
  omega
theorem zt_wayLength {d : Nat} (gL : zt_L h) (U : zt_U a c h) {s t : Int} (hs : zm_st c s) (ht : zm_st c t) : ∃ v, C0_wayLength (d + 3) (zt_r a s) (zt_r a t) h = some (v, h) ∧ zt_wl c s t v := by
  have la := zt_U_la U
  have W := zt_U_W U
  obtain ⟨ls, hls, _⟩ := zt_line W hs
  obtain ⟨lt, hlt, _⟩ := zt_line W ht
  obtain ⟨m, hn⟩ := zt_near_st W hs ht hls hlt
  obtain ⟨ln, hln, _⟩ := zt_line W hn
  have b1 := zt_dep W hs hls
  have b2 := zt_dep W ht hlt
  have b3 := zt_dep W hn hln
  refine ⟨(ls.length : Int) + lt.length - 2 * ln.length, lC0_wayLength ?_, ls, lt, ln, hls, hlt, hln, rfl⟩
  rw [qE0_wayLength, zm_e (zl_gI gL (zt_r_l la hs.1) 10), zm_e (zl_gI gL (zt_r_l la ht.1) 10), zm_e (zt_nearest gL U hs ht hls hlt)]
  dsimp only
  rw [zm_e (zl_gI gL (zt_r_l la hn.1) 10), zt_S_de (zt_U_st U s hs) ls hls, zt_S_de (zt_U_st U t ht) lt hlt, zt_S_de (zt_U_st U _ hn) ln hln, zm_w (x := 2 * (ln.length : Int)) (by omega), zm_w (x := (ls.length : Int) + lt.length) (by omega), zm_w (by omega)]
end
/-! the reference -/
theorem zt_commonOf_l {h : zv_H} {c : Nat → Int} (hM : zm_M h) (hc : zv_I h 348 = c) (d : Nat) {t : Int} {lt : List Int} (hlt : zm_Ln c (t :: lt) t) : ∀ (l : List Int) (s : Int), zm_Ln c (s :: l) s → (∀ u ∈ s :: l, zm_st c u) → (∃ x ∈ s :: l, x ∈ t :: lt) → L9_commonOf_2 (d + 2) 347 t s h = some (some (zv_i (zt_fst (t :: lt) (s :: l))), h) := by
  subst hc
  intro l
  induction l with
  | nil =>
    intro s hl hst hx
    obtain ⟨x, x1, x2⟩ := hx
    rw [List.mem_singleton.mp x1] at x2
    rw [qL9_commonOf_2, zm_e (zm_isOfLine hM d s hlt), if_pos x2]
    dsimp only
    unfold zt_fst
    rw [if_neg (by decide), if_pos x2]
  | cons p l ih =>
    intro s hl hst hx
    have hs := hst s List.mem_cons_self
    rw [qL9_commonOf_2, zm_e (zm_isOfLine hM d s hlt)]
    unfold zt_fst
    by_cases q : s ∈ t :: lt
    · rw [if_pos q, if_pos q]
      dsimp only
      rw [if_neg (by decide)]
    · have e : zm_o (zv_I h 348) s 1 = p := hl.2.1.1
      have hlp := hl.2
      rw [e] at hlp
      rw [if_neg q, if_neg q]
      dsimp only
      rw [if_pos rfl, zm_e (zm_of hM _ (zm_st48 hs) (by decide)), e]
      refine ih p hlp (fun u hu => hst u (List.mem_cons_of_mem _ hu)) ?_
      obtain ⟨x, x1, x2⟩ := hx
      rcases List.mem_cons.mp x1 with z | z
      · rw [z] at x2
        exact absurd x2 q
      · exact ⟨x, z, x2⟩
theorem zt_commonOf {h : zv_H} {c : Nat → Int} (hM : zm_M h) (hc : zv_I h 348 = c) (W : zm_W c) (d : Nat) {s t : Int} {ls lt : List Int} (hs : zm_st c s) (ht : zm_st c t) (hls : zm_Ln c (s :: ls) s) (hlt : zm_Ln c (t :: lt) t) : C9_commonOf (d + 3) 347 s t h = some (zt_fst (t :: lt) (s :: ls), h) := by
  refine lC9_commonOf (zm_ob hM) ?_
  rw [qE9_commonOf]
  have o1 := (zt_line_u W hs hls).1
  have o2 := (zt_line_u W ht hlt).1
  exact zt_commonOf_l hM hc d hlt ls s hls o1.2.2.1 ⟨0, List.mem_of_getLast? o1.2.1, List.mem_of_getLast? o2.2.1⟩
theorem zt_wayMany {h : zv_H} {c : Nat → Int} (hM : zm_M h) (hc : zv_I h 348 = c) (W : zm_W c) (d : Nat) {s t : Int} (hs : zm_st c s) (ht : zm_st c t) : ∃ v, C9_wayMany (d + 4) 347 s t h = some (v, h) ∧ zt_wl c s t v := by
  obtain ⟨ls, hls, _⟩ := zt_line W hs
  obtain ⟨lt, hlt, _⟩ := zt_line W ht
  obtain ⟨m, hn⟩ := zt_near_st W hs ht hls hlt
  obtain ⟨ln, hln, _⟩ := zt_line W hn
  have b1 := zt_dep W hs hls
  have b2 := zt_dep W ht hlt
  have b3 := zt_dep W hn hln
  refine ⟨(ls.length : Int) + lt.length - 2 * ln.length, lC9_wayMany (zm_ob hM) ?_, ls, lt, ln, hls, hlt, hln, rfl⟩
  rw [qE9_wayMany, zm_e (zm_depthOf hM _ (by rw [hc]; exact hls) (by omega)), zm_e (zm_depthOf hM _ (by rw [hc]; exact hlt) (by omega)), zm_e (zt_commonOf hM hc W d hs ht hls hlt)]
  dsimp only
  rw [zm_e (zm_depthOf hM _ (by rw [hc]; exact hln) (by omega))]
  dsimp only
  rw [zm_w (x := 2 * (ln.length : Int)) (by omega), zm_w (x := (ls.length : Int) + lt.length) (by omega), zm_w (by omega)]
