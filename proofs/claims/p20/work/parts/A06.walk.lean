/-! ===== the tie: the line ===== -/
def zt_ln_ok (c : Nat → Int) (L : List Int) : Prop := L.Nodup ∧ L.getLast? = some 0 ∧ (∀ t ∈ L, zm_st c t) ∧ L.length ≤ 48
theorem zt_line {c : Nat → Int} (w : zm_W c) {s : Int} (hs : zm_st c s) : ∃ l, zm_Ln c (s :: l) s ∧ zt_ln_ok c (s :: l) ∧ zm_G0 c (s :: l) ∧ (∀ t ∈ s :: l, zm_o c t 2 = 1 → ∀ p ∈ zm_tk c t, p ∈ zm_row c (s :: l)) ∧ zm_W1 c s l := by
  obtain ⟨l, h1, h2, h3, h4⟩ := zm_W_l w.1 hs
  exact ⟨l, h1.1, ⟨h1.2.1.1, h1.2.1.2.1, h1.2.1.2.2, by rw [List.length_cons]; omega⟩, h3, h4, h1⟩
theorem zt_line_u {c : Nat → Int} (w : zm_W c) {s : Int} (hs : zm_st c s) {l : List Int} (hl : zm_Ln c (s :: l) s) : zt_ln_ok c (s :: l) ∧ zm_G0 c (s :: l) ∧ (∀ t ∈ s :: l, zm_o c t 2 = 1 → ∀ p ∈ zm_tk c t, p ∈ zm_row c (s :: l)) ∧ zm_W1 c s l := by
  obtain ⟨l', e1, e2, e3, e4, e5⟩ := zt_line w hs
  have e := zm_Ln_u hl e1
  have e' : l = l' := (List.cons.inj e).2
  subst e'
  exact ⟨e2, e3, e4, e5⟩
/-- the line is laid -/
def zt_wk (a : Nat) (c : Nat → Int) (L : List Int) (h : zv_H) : Prop := (zv_I h (a + 8) 5 = L.length) ∧ (∀ (k : Nat) (x : Int), L.reverse[k]? = some x → zv_R h (a + 9) k = zt_r a x) ∧ (∀ t : Nat, t < 64 → (zt_b (zv_J h (a + 8) 8) t = true ↔ t < 48 ∧ (t : Int) ∈ L ∧ zm_ed c t)) ∧ (∀ t : Nat, t < 64 → (zt_b (zv_J h (a + 8) 9) t = true ↔ t < 48 ∧ (t : Int) ∈ L ∧ zm_ed c t ∧ zm_fc c L t = 1))
theorem zt_wk_ln {a : Nat} {c : Nat → Int} {L : List Int} {h : zv_H} (t : zt_wk a c L h) : zv_I h (a + 8) 5 = L.length := t.1
theorem zt_wk_pa {a : Nat} {c : Nat → Int} {L : List Int} {h : zv_H} (t : zt_wk a c L h) : ∀ (k : Nat) (x : Int), L.reverse[k]? = some x → zv_R h (a + 9) k = zt_r a x := t.2.1
theorem zt_wk_ac {a : Nat} {c : Nat → Int} {L : List Int} {h : zv_H} (t : zt_wk a c L h) : ∀ t : Nat, t < 64 → (zt_b (zv_J h (a + 8) 8) t = true ↔ t < 48 ∧ (t : Int) ∈ L ∧ zm_ed c t) := t.2.2.1
theorem zt_wk_fo {a : Nat} {c : Nat → Int} {L : List Int} {h : zv_H} (t : zt_wk a c L h) : ∀ t : Nat, t < 64 → (zt_b (zv_J h (a + 8) 9) t = true ↔ t < 48 ∧ (t : Int) ∈ L ∧ zm_ed c t ∧ zm_fc c L t = 1) := t.2.2.2
theorem zt_walk28 {d : Nat} {h : zv_H} {a : Nat} {c : Nat → Int} {L : List Int} {s0 : Int} (hL : zm_Ln c L s0) (ok : zt_ln_ok c L) : ∀ (b ap : List Int) (s : Int) (g : zv_H) (kn off : Int64), ap.reverse ++ b = L → zm_Ln c b s → zt_L g → zt_U a c g → zt_q h g → zv_I g (a + 8) 5 = L.length → (∀ (k : Nat) (x : Int), b.length ≤ k → L.reverse[k]? = some x → zv_R g (a + 9) k = zt_r a x) → (∀ t : Nat, t < 64 → (zt_b (zv_J g (a + 8) 8) t = true ↔ t < 48 ∧ (t : Int) ∈ ap ∧ zm_ed c t)) → (∀ t : Nat, t < 64 → (zt_b kn t = true ↔ t < 48 ∧ ∃ v ∈ ap, zm_nm c v t)) → (∀ t : Nat, t < 64 → (zt_b off t = true ↔ t < 48 ∧ zt_off c ap.reverse t)) → zm_R (L4_walk_28 (d + 1) (a + 8) kn off (zt_r a s) g) (zm_V fun h' => zt_L h' ∧ zt_q h h' ∧ zt_wk a c L h') := by
  intro b
  induction b with
  | nil =>
    intro ap s g kn off e hb gL U q i5 ip ia ik io
    have la := zt_U_la U
    have lr := zt_row_l la
    have w := zt_U_W U
    have cw : ∀ u ∈ L, zt_cw c u := fun u hu => zt_S_cw (zt_U_st U u (ok.2.2.1 u hu))
    have hs : s < 0 := hb
    rw [zt_r_n hs, qL4_walk_28, if_pos rfl, zm_e (zl_gJ gL lr.1 8), zm_e (zl_pJ gL lr.1 9 _)]
    have e' : ap.reverse = L := by rw [← e, List.append_nil]
    have mem : ∀ x, x ∈ ap ↔ x ∈ L := fun x => by rw [← e', List.mem_reverse]
    refine zm_iV ⟨gL, zt_q_t q (zt_q_sJ _ lr.1), i5, fun k x hx => ip k x (Nat.zero_le _) hx, fun t ht => ?_, fun t ht => ?_⟩
    · rw [zy_Jn _ _ (fun q => absurd q.2 (by decide)), ia t ht, mem]
    · rw [zy_J, zt_b_and, zt_b_not _ ht, Bool.and_eq_true, Bool.not_eq_true', ia t ht, mem]
      have o := io t ht
      rw [e'] at o
      constructor
      · intro z
        have z1 := z.1
        refine ⟨z1.1, z1.2.1, z1.2.2, ?_⟩
        rw [zt_fc_off ⟨by omega, by omega⟩ z1.2.2 hL ok.1 cw w.1.2.1.2.2.1 ok.2.1 z1.2.1]
        intro q
        have := o.mpr ⟨z1.1, q⟩
        rw [this] at z
        exact absurd z.2 (by decide)
      · intro z
        refine ⟨⟨z.1, z.2.1, z.2.2.1⟩, ?_⟩
        cases hb : zt_b off t with
        | false => rfl
        | true =>
          have := (o.mp hb).2
          exact absurd this ((zt_fc_off ⟨by omega, by omega⟩ z.2.2.1 hL ok.1 cw w.1.2.1.2.2.1 ok.2.1 z.2.1).mp z.2.2.2)
  | cons u b ih =>
    intro ap s g kn off e hb gL U q i5 ip ia ik io
    have la := zt_U_la U
    have lr := zt_row_l la
    have h18 : a + 9 = 18 ∨ a + 9 = 187 := by have := zc_lh la; omega
    have hb' : (s = u ∧ 0 ≤ u ∧ u ≤ 48) ∧ zm_Ln c b (zm_o c u 1) := hb
    have es : s = u := hb'.1.1
    subst es
    have mu : s ∈ L := by rw [← e]; exact List.mem_append_right _ List.mem_cons_self
    have su := ok.2.2.1 s mu
    have lu := zt_r_l la su.1
    have dep : zv_I g (zt_r a s) 10 = (b.length : Int) := zt_S_de (zt_U_st U s su) b ⟨⟨rfl, hb'.1.2⟩, hb'.2⟩
    have blen : b.length < 48 := by
      have := ok.2.2.2
      rw [← e, List.length_append, List.length_cons] at this
      omega
    have su1 := su.1
    have su48 : s.toNat < 48 := by omega
    rw [qL4_walk_28, if_neg (zc_nz lu), zm_e (zl_gI gL lu 10), dep, if_neg (by omega), zm_e (zl_gI gL lu 10), dep, if_pos (by omega), zm_e (zl_gF gL lr.1 0 1), zm_e (zl_gI gL lu 10), dep, zm_e (zl_wR gL lr.2.1 (by omega) (by omega) lu), show ((b.length : Int)).toNat = b.length by omega]
    have gL1 := zt_sRp (k := b.length) (v := zt_r a s) gL la
    have q1 := zt_q_sR (h := g) (k := b.length) (v := zt_r a s) h18
    have U1 := zt_U_q U q1
    have q1 := zt_q_t q q1
    have p1 : ∀ (k : Nat) (x : Int), b.length ≤ k → L.reverse[k]? = some x → zv_R (zv_sR g (a + 9) b.length (zt_r a s)) (a + 9) k = zt_r a x := fun k x hk hx => by
      by_cases z : k = b.length
      · have hx2 : L.reverse[b.length]? = some s := zm_rev_at (ap := ap) (by rw [List.reverse_cons, List.append_assoc]; exact e)
        rw [z] at hx ⊢
        rw [hx2] at hx
        cases hx
        exact zy_R _ _ _ _
      · exact (zy_Rn _ _ (fun w => z w.2)).trans (ip k x (by rw [List.length_cons]; omega) hx)
    have i51 : zv_I (zv_sR g (a + 9) b.length (zt_r a s)) (a + 8) 5 = L.length := i5
    have j81 : ∀ t : Nat, t < 64 → (zt_b (zv_J (zv_sR g (a + 9) b.length (zt_r a s)) (a + 8) 8) t = true ↔ t < 48 ∧ (t : Int) ∈ ap ∧ zm_ed c t) := ia
    generalize zv_sR g (a + 9) b.length (zt_r a s) = g1 at gL1 q1 U1 p1 i51 j81
    have S1 := zt_U_st U1 s su
    have kn' : ∀ x : Nat, x < 64 → (zt_b (kn ||| zv_J g1 (zt_r a s) 16) x = true ↔ x < 48 ∧ ∃ v ∈ s :: ap, zm_nm c v x) := fun x hx => by
      rw [zt_b_or, Bool.or_eq_true, ik x hx, zt_S_nm S1 x hx]
      constructor
      · intro z
        rcases z with z | z
        · obtain ⟨z1, v, z2, z3⟩ := z
          exact ⟨z1, v, List.mem_cons_of_mem _ z2, z3⟩
        · exact ⟨z.1, s, List.mem_cons_self, z.2⟩
      · intro z
        obtain ⟨z1, v, z2, z3⟩ := z
        rcases List.mem_cons.mp z2 with y | y
        · exact Or.inr ⟨z1, by rw [← y]; exact z3⟩
        · exact Or.inl ⟨z1, v, y, z3⟩
    have L85 : ∀ g2, zt_L g2 → zt_U a c g2 → zt_q h g2 → zv_J g2 (zt_r a s) 16 = zv_J g1 (zt_r a s) 16 → zv_I g2 (a + 8) 5 = L.length → (∀ (k : Nat) (x : Int), b.length ≤ k → L.reverse[k]? = some x → zv_R g2 (a + 9) k = zt_r a x) → (∀ t : Nat, t < 64 → (zt_b (zv_J g2 (a + 8) 8) t = true ↔ t < 48 ∧ (t : Int) ∈ s :: ap ∧ zm_ed c t)) → zm_R (L4_walk_85 (d + 1) (a + 8) kn off (zt_r a s) g2) (zm_V fun h' => zt_L h' ∧ zt_q h h' ∧ zt_wk a c L h') := by
      intro g2 gL2 U2 q2 ej y5 yp ya
      have S2 := zt_U_st U2 s su
      have e2 : (s :: ap).reverse ++ b = L := by rw [List.reverse_cons, List.append_assoc]; exact e
      rw [qL4_walk_85, zm_e (zl_gI gL2 lu 6), zt_S_ac S2]
      by_cases c2 : zm_o c s 2 = 2
      · rw [if_pos c2, zm_e (zl_gJ gL2 lu 16), zm_e (zl_gJ gL2 lu 16), ej, zm_e (zl_gR gL2 lu 4), zt_S_pa S2]
        refine ih (s :: ap) _ g2 _ _ e2 hb'.2 gL2 U2 q2 y5 yp ya kn' (fun x hx => ?_)
        rw [zt_b_or, zt_b_and, zt_b_not _ hx, Bool.or_eq_true, Bool.and_eq_true, Bool.not_eq_true', io x hx, zt_S_nm S1 x hx, List.reverse_cons, zt_off_a]
        have k0 := ik x hx
        constructor
        · intro z
          rcases z with z | z
          · exact ⟨z.1, Or.inl z.2⟩
          · refine ⟨z.1.1, Or.inr ⟨fun y => ?_, z.1.2, c2⟩⟩
            obtain ⟨v, y1, y2⟩ := y
            have := k0.mpr ⟨z.1.1, v, List.mem_reverse.mp y1, y2⟩
            rw [this] at z
            exact absurd z.2 (by decide)
        · intro z
          rcases z.2 with y | y
          · exact Or.inl ⟨z.1, y⟩
          · refine Or.inr ⟨⟨z.1, y.2.1⟩, ?_⟩
            cases hk : zt_b kn x with
            | false => rfl
            | true =>
              obtain ⟨v, y1, y2⟩ := (k0.mp hk).2
              exact absurd ⟨v, List.mem_reverse.mpr y1, y2⟩ y.1
      · rw [if_neg c2, zm_e (zl_gJ gL2 lu 16), ej, zm_e (zl_gR gL2 lu 4), zt_S_pa S2]
        refine ih (s :: ap) _ g2 _ _ e2 hb'.2 gL2 U2 q2 y5 yp ya kn' (fun x hx => ?_)
        rw [io x hx, List.reverse_cons, zt_off_a]
        constructor
        · intro z; exact ⟨z.1, Or.inl z.2⟩
        · intro z
          rcases z.2 with y | y
          · exact ⟨z.1, y⟩
          · exact absurd y.2.2 c2
    rw [qL4_walk_63, zm_e (zt_C5_edits gL1 lu), zt_S_ac S1]
    dsimp only
    have mem2 : ∀ x : Nat, (x : Int) ∈ s :: ap ↔ (x : Int) = s ∨ (x : Int) ∈ ap := fun x => List.mem_cons
    by_cases ce : zm_ed c s
    · rw [if_pos (show zm_o c s 2 = 0 ∨ zm_o c s 2 = 1 from ce), if_neg (by decide), zm_e (zl_gJ gL1 lr.1 8)]
      have eb : C5_bit (d + 1) (zt_r a s) g1 = some (zt_bt s.toNat, g1) := by
        rw [zt_r_p su.1.1]
        exact zt_C5_bit gL1 la su48 (zt_U_nr U1 _ su48)
      rw [zm_e eb]
      dsimp only
      rw [zm_e (zl_pJ gL1 lr.1 8 _)]
      have q2 := zt_q_sJ (h := g1) (k := 8) (zv_J g1 (a + 8) 8 ||| zt_bt s.toNat) lr.1
      refine L85 _ gL1 (zt_U_q U1 q2) (zt_q_t q1 q2) (zy_Jn _ _ (fun q => by rw [q.1, lr.1] at lu; cases lu)) i51 p1 (fun x hx => ?_)
      rw [zy_J, zt_b_or, Bool.or_eq_true, j81 x hx, zt_b_bt su48 hx, decide_eq_true_eq, mem2]
      constructor
      · intro z
        rcases z with z | z
        · exact ⟨z.1, Or.inr z.2.1, z.2.2⟩
        · have ex : (x : Int) = s := by omega
          exact ⟨by omega, Or.inl ex, by rw [ex]; exact ce⟩
      · intro z
        rcases z.2.1 with y | y
        · exact Or.inr (by omega)
        · exact Or.inl ⟨z.1, y, z.2.2⟩
    · rw [if_neg (show ¬ (zm_o c s 2 = 0 ∨ zm_o c s 2 = 1) from ce), if_pos rfl]
      refine L85 g1 gL1 U1 q1 rfl i51 p1 (fun x hx => ?_)
      rw [j81 x hx, mem2]
      constructor
      · intro z; exact ⟨z.1, Or.inr z.2.1, z.2.2⟩
      · intro z
        rcases z.2.1 with y | y
        · exact absurd (by rw [← y]; exact z.2.2) ce
        · exact ⟨z.1, y, z.2.2⟩
theorem zt_walk {d : Nat} {h : zv_H} {a : Nat} {c : Nat → Int} {s : Int} {l : List Int} (gL : zt_L h) (U : zt_U a c h) (hs : zm_st c s) (hl : zm_Ln c (s :: l) s) : zm_R (C4_walk (d + 2) (a + 8) (zt_r a s) h) (fun h' => zt_L h' ∧ zt_q h h' ∧ zt_wk a c (s :: l) h') := by
  have la := zt_U_la U
  have lr := zt_row_l la
  have lu := zt_r_l la hs.1
  have ok := (zt_line_u (zt_U_W U) hs hl).1
  have dep := zt_S_de (zt_U_st U s hs) l hl
  have len := ok.2.2.2
  rw [List.length_cons] at len
  refine zm_cV (fun e => lC4_walk (zl_ob gL lr.1) e) ?_
  have e10 : zv_I (zv_sJ h (a + 8) 8 (Int64.ofNat 0)) (zt_r a s) 10 = l.length := dep
  have em : min ((l.length : Int) + 1) 48 = ((s :: l).length : Int) := by rw [List.length_cons]; omega
  rw [qE4_walk, zm_e (zl_pJ gL lr.1 8 _), zm_e (zl_gI (g := zv_sJ h (a + 8) 8 (Int64.ofNat 0)) gL lu 10), e10, zm_w (by omega), em, zm_e (zl_pI (g := zv_sJ h (a + 8) 8 (Int64.ofNat 0)) gL lr.1 5 _)]
  have q2 : zt_q h (zv_sI (zv_sJ h (a + 8) 8 (Int64.ofNat 0)) (a + 8) 5 ((s :: l).length : Int)) := zt_q_t (zt_q_sJ _ lr.1) (zt_q_sI _ (zt_x4 la (k := 5) (Or.inl rfl)))
  have j8 : zv_J (zv_sI (zv_sJ h (a + 8) 8 (Int64.ofNat 0)) (a + 8) 5 ((s :: l).length : Int)) (a + 8) 8 = Int64.ofNat 0 := zy_J _ _ _ _
  refine zt_walk28 hl ok (s :: l) [] s _ _ _ rfl hl gL (zt_U_q U q2) q2 (zy_I _ _ _ _) (fun k x hk hx => ?_) (fun x hx => ?_) (fun x hx => ?_) (fun x hx => ?_)
  · have := zm_lt_of_get hx
    rw [List.length_reverse] at this
    omega
  · rw [j8, zt_b_0]
    constructor
    · intro z; cases z
    · intro z; exact absurd z.2.1 List.not_mem_nil
  · rw [zt_b_0]
    constructor
    · intro z; cases z
    · intro z; obtain ⟨_, v, hv, _⟩ := z; exact absurd hv List.not_mem_nil
  · rw [zt_b_0]
    constructor
    · intro z; cases z
    · intro z; exact False.elim z.2
