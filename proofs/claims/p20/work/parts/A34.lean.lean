/-! ===== the tie: who leans, in the class ===== -/
theorem zt_Ln_app {c : Nat → Int} {t : Int} {q : List Int} : ∀ (p : List Int) {s : Int}, zm_Ln c (p ++ t :: q) s → zm_Ln c (t :: q) t
  | [], s, h => by
    have e : s = t := h.1.1
    rw [← e]
    rw [← e] at h
    exact h
  | _ :: p, s, h => zt_Ln_app p h.2
theorem zt_lcmp0 {v w : Int64} : zv_lcmp (v &&& w) (Int64.ofNat 0) = 0 ↔ ¬ ∃ i, i < 64 ∧ zt_b v i = true ∧ zt_b w i = true := by
  rw [zt_lcmp]
  constructor
  · rintro h ⟨i, i1, i2, i3⟩
    have := h i i1
    rw [zt_b_and, i2, i3] at this
    cases this
  · intro h i hi
    rw [zt_b_and]
    cases e1 : zt_b v i with
    | false => rfl
    | true =>
      cases e2 : zt_b w i with
      | false => rfl
      | true => exact absurd ⟨i, hi, e1, e2⟩ h
section
variable {a : Nat} {c : Nat → Int} {g : zv_H}
theorem zt_bitr {d : Nat} (gL : zt_L g) (U : zt_U a c g) {x : Int} (hx : zm_st c x) : C5_bit (d + 1) (zt_r a x) g = some (zt_bt x.toNat, g) := by
  have h1 := hx.1
  have i48 : x.toNat < 48 := by omega
  rw [zt_r_p hx.1.1]
  exact zt_C5_bit gL (zt_U_la U) i48 (zt_U_nr U _ i48)
theorem zt_lean8 {d : Nat} (gL : zt_L g) (U : zt_U a c g) {L : List Int} {s0 : Int} (hLn : zm_Ln c L s0) (ok : zt_ln_ok c L) (wk : zt_wk a c L g) {s : Int} {ls : List Int} (hs : zm_st c s) (hls : zm_Ln c (s :: ls) s) (s1 : 1 ≤ s) : ∀ (re pr : List Int) (f : Int64), pr ++ re = L.reverse → (∀ t : Nat, t < 64 → zt_b f t = true → t < 48 ∧ (t : Int) ∈ L ∧ zt_tc c t s) → (∀ x ∈ pr, zt_tc c x s → zt_b f x.toNat = true) → zt_b f s.toNat = true → ∃ v, L4_leaningOn_8 (d + 1) (a + 8) (zt_r a s) f pr.length g = some (some (zv_j v), g) ∧ ∀ t : Nat, t < 64 → (zt_b v t = true ↔ t < 48 ∧ (t : Int) ∈ L ∧ zt_tc c t s) := by
  have la := zt_U_la U
  have W := zt_U_W U
  have cw : ∀ t, zm_st c t → zt_cw c t := fun t ht => zt_S_cw (zt_U_st U t ht)
  obtain ⟨l8, l9, _⟩ := zt_row_l la
  have lS := zt_r_l la hs.1
  have dS := zt_S_de (zt_U_st U s hs) ls hls
  intro re
  induction re with
  | nil =>
    intro pr f e hS hC hI
    have el : (pr.length : Int) = L.length := by
      have := congrArg List.length e
      rw [List.append_nil, List.length_reverse] at this
      omega
    refine ⟨f, ?_, fun t ht => ⟨hS t ht, fun q => ?_⟩⟩
    · rw [qL4_leaningOn_8, zm_e (zl_gI gL l8 5), zt_wk_ln wk, if_neg (by omega)]
    · have m : (t : Int) ∈ pr := by
        rw [List.append_nil] at e
        rw [e]
        exact List.mem_reverse.mpr q.2.1
      exact hC t m q.2.2
  | cons x re ih =>
    intro pr f e hS hC hI
    have ll := congrArg List.length e
    rw [List.length_append, List.length_cons, List.length_reverse] at ll
    have l48 := ok.2.2.2
    have hx : L.reverse[pr.length]? = some x := by
      rw [← e, List.getElem?_append_right (Nat.le_refl _), Nat.sub_self]
      rfl
    have eL : L = re.reverse ++ x :: pr.reverse := by
      have := congrArg List.reverse e
      rw [List.reverse_reverse, List.reverse_append, List.reverse_cons, List.append_assoc] at this
      exact this.symm
    have xL : x ∈ L := List.mem_reverse.mp (List.mem_of_getElem? hx)
    have hxs := ok.2.2.1 x xL
    have lX := zt_r_l la hxs.1
    have hlx : zm_Ln c (x :: pr.reverse) x := by
      rw [eL] at hLn
      exact zt_Ln_app _ hLn
    have dX := zt_S_de (zt_U_st U x hxs) _ hlx
    rw [List.length_reverse] at dX
    have e' : (pr ++ [x]) ++ re = L.reverse := by rw [List.append_assoc]; exact e
    have w1 : zv_w ((pr.length : Int) + 1) = (((pr ++ [x]).length : Nat) : Int) := by
      rw [List.length_append, zm_w (by omega)]
      rfl
    have nx : ∀ f' : Int64, (∀ t : Nat, t < 64 → zt_b f' t = true → t < 48 ∧ (t : Int) ∈ L ∧ zt_tc c t s) → (∀ i, zt_b f i = true → zt_b f' i = true) → (zt_tc c x s → zt_b f' x.toNat = true) → ∃ v, L4_leaningOn_8 (d + 1) (a + 8) (zt_r a s) f' (((pr ++ [x]).length : Nat) : Int) g = some (some (zv_j v), g) ∧ ∀ t : Nat, t < 64 → (zt_b v t = true ↔ t < 48 ∧ (t : Int) ∈ L ∧ zt_tc c t s) := fun f' h1 h2 h3 => ih (pr ++ [x]) f' e' h1 (fun y hy ty => by
      rcases List.mem_append.mp hy with q | q
      · exact h2 _ (hC y q ty)
      · rw [List.mem_singleton.mp q] at ty ⊢
        exact h3 ty) (h2 _ hI)
    rw [qL4_leaningOn_8, zm_e (zl_gI gL l8 5), zt_wk_ln wk, if_pos (by omega), zm_e (zl_gF gL l8 0 1), show a + 8 + 1 = a + 9 from rfl, zm_e (zl_aR gL l9 (by omega) (by omega)), show ((pr.length : Nat) : Int).toNat = pr.length by omega, zt_wk_pa wk _ x hx, if_neg (zt_r0 U hxs), zm_e (zl_gI gL lX 10), zm_e (zl_gI gL lS 10), dX, dS, w1]
    by_cases dl : (pr.length : Int) ≤ (ls.length : Int)
    · rw [if_pos dl]
      refine nx f hS (fun _ q => q) (fun tx => ?_)
      have m := zt_tc_in W cw s1 tx hxs hlx
      rcases List.mem_cons.mp m with q | q
      · rw [← q]; exact hI
      · exfalso
        obtain ⟨p, eq⟩ := zt_in_suf hlx hls m
        cases p with
        | nil =>
          have nd := (zt_line_u W hxs hlx).1.1
          obtain ⟨q1, q2⟩ := List.cons.inj eq
          rw [q1] at nd
          exact (List.nodup_cons.mp nd).1 q
        | cons y p =>
          have := congrArg List.length eq
          simp only [List.length_cons, List.length_append, List.cons_append, List.length_reverse] at this
          omega
    · rw [if_neg dl, zm_e (zl_gJ gL lX 17)]
      have bs := zt_S_bs (zt_U_st U x hxs)
      by_cases cm : zv_lcmp (zv_J g (zt_r a x) 17 &&& f) (Int64.ofNat 0) = 0
      · rw [if_pos cm]
        refine nx f hS (fun _ q => q) (fun tx => ?_)
        exfalso
        rcases zt_tc_h tx with q | ⟨o, o1, o2⟩
        · rw [q] at hlx
          have := (List.cons.inj (zm_Ln_u hlx hls)).2
          rw [← this, List.length_reverse] at dl
          omega
        · have oo := zt_tc_1 W s1 o2
          obtain ⟨m, _⟩ := zt_ln_in W hxs (cw x hxs) hlx o1 (by omega)
          have mo := hC o (List.mem_reverse.mp m) o2
          have ho := (zt_line_u W hxs hlx).1.2.2.1 o (List.mem_cons_of_mem _ m)
          have h47 := ho.1
          refine zt_lcmp0.mp cm ⟨o.toNat, by omega, (bs o.toNat (by omega)).mpr ⟨by omega, by omega, ?_⟩, mo⟩
          rw [show ((o.toNat : Nat) : Int) = o by omega]
          exact o1
      · rw [if_neg cm, zm_e (zt_bitr gL U hxs)]
        dsimp only
        have h47 := hxs.1
        have bx : ∀ i, i < 64 → (zt_b (f ||| zt_bt x.toNat) i = true ↔ zt_b f i = true ∨ i = x.toNat) := fun i hi => by
          rw [zt_b_or, zt_b_bt (by omega) hi, Bool.or_eq_true, decide_eq_true_eq]
        have tx : zt_tc c x s := by
          have ex : ∃ i, i < 64 ∧ zt_b (zv_J g (zt_r a x) 17) i = true ∧ zt_b f i = true := Classical.byContradiction (fun q => cm (zt_lcmp0.mpr q))
          obtain ⟨i, i1, i2, i3⟩ := ex
          exact zt_tc_l ((bs i i1).mp i2).2.2 (hS i i1 i3).2.2
        refine nx _ (fun t ht q => ?_) (fun i q => ?_) (fun _ => (bx _ (by omega)).mpr (Or.inr rfl))
        · rcases (bx t ht).mp q with u | u
          · exact hS t ht u
          · have e3 : (t : Int) = x := by omega
            rw [e3]
            exact ⟨by omega, xL, tx⟩
        · by_cases hi : i < 64
          · exact (bx i hi).mpr (Or.inl q)
          · rw [zt_b_ge _ (by omega)] at q
            cases q
theorem zt_leaningOn {d : Nat} (gL : zt_L g) (U : zt_U a c g) {L : List Int} {s0 : Int} (hLn : zm_Ln c L s0) (ok : zt_ln_ok c L) (wk : zt_wk a c L g) {s : Int} (s1 : 1 ≤ s) (hsL : s ∈ L) : ∃ v, C4_leaningOn (d + 2) (a + 8) (zt_r a s) g = some (v, g) ∧ ∀ t : Nat, t < 64 → (zt_b v t = true ↔ t < 48 ∧ (t : Int) ∈ L ∧ zt_tc c t s) := by
  have la := zt_U_la U
  have hs := ok.2.2.1 s hsL
  have h47 := hs.1
  obtain ⟨ls, hls, _⟩ := zt_line (zt_U_W U) hs
  obtain ⟨v, e, w⟩ := zt_lean8 (d := d) gL U hLn ok wk hs hls s1 L.reverse [] (zt_bt s.toNat) (List.nil_append _) (fun t ht q => by
    rw [zt_b_bt (by omega) ht, decide_eq_true_eq] at q
    have e3 : (t : Int) = s := by omega
    rw [e3]
    exact ⟨by omega, hsL, zt_tc_r c s⟩) (fun x hx => by cases hx) (by rw [zt_b_bt (by omega) (by omega)]; exact decide_eq_true rfl)
  refine ⟨v, lC4_leaningOn (zl_ob gL (zt_row_l la).1) ?_, w⟩
  rw [qE4_leaningOn, zm_e (zt_bitr gL U hs)]
  exact e
theorem zt_grnd8 {d : Nat} (gL : zt_L g) (U : zt_U a c g) {s : Int} {ls : List Int} (hs : zm_st c s) (hls : zm_Ln c (s :: ls) s) (s1 : 1 ≤ s) : ∀ (b p : List Int) (t : Int) (f : Int64), p.reverse ++ b = s :: ls → zm_Ln c b t → (∀ x : Nat, x < 64 → zt_b f x = true → (1 ≤ x ∧ x < 48) ∧ zt_tc c s x) → zt_b f s.toNat = true → (∀ o : Nat, (o : Int) ∈ p → zt_b f o = true → ∀ x : Nat, 1 ≤ x → x < 48 → zt_ln c o x → zt_b f x = true) → ∃ v, L4_groundOf_8 (d + 1) f (zt_r a t) g = some (some (zv_j v), g) ∧ ∀ x : Nat, x < 64 → (zt_b v x = true ↔ (1 ≤ x ∧ x < 48) ∧ zt_tc c s x) := by
  have la := zt_U_la U
  have W := zt_U_W U
  have cw : ∀ t, zm_st c t → zt_cw c t := fun t ht => zt_S_cw (zt_U_st U t ht)
  have okS := (zt_line_u W hs hls).1
  intro b
  induction b with
  | nil =>
    intro p t f e ht hS hI hC
    rw [zt_r_n ht, qL4_groundOf_8, if_pos rfl]
    refine ⟨f, rfl, fun x hx => ⟨hS x hx, fun q => ?_⟩⟩
    have key : 1 ≤ (x : Int) → zt_b f ((x : Int)).toNat = true ∧ (x : Int) ∈ s :: ls := zt_tc_i (x := s) (y := (x : Int)) q.2 (Q := fun z => 1 ≤ z → zt_b f z.toNat = true ∧ z ∈ s :: ls) (fun _ => ⟨hI, List.mem_cons_self⟩) (fun o z Qo h hz => by
      obtain ⟨_, o1⟩ := zt_ln_ed W h
      obtain ⟨b1, b2⟩ := Qo o1
      have ho := okS.2.2.1 o b2
      have h47 := ho.1
      obtain ⟨pr, q2, e2, hq⟩ := zm_Ln_s hls o b2
      obtain ⟨m, _⟩ := zt_ln_in W ho (cw o ho) hq h (by omega)
      have hz2 : z ∈ s :: ls := by rw [e2]; exact List.mem_append_right _ (List.mem_cons_of_mem _ m)
      have z47 := (okS.2.2.1 z hz2).1
      refine ⟨hC o.toNat ?_ b1 z.toNat (by omega) (by omega) ?_, hz2⟩
      · rw [show ((o.toNat : Nat) : Int) = o by omega]
        rw [List.append_nil] at e
        rw [← e] at b2
        exact List.mem_reverse.mp b2
      · rw [show ((o.toNat : Nat) : Int) = o by omega, show ((z.toNat : Nat) : Int) = z by omega]
        exact h)
    exact (key (by omega)).1
  | cons u b ih =>
    intro p t f e ht hS hI hC
    have et : t = u := ht.1.1
    subst et
    have tm : t ∈ s :: ls := by rw [← e]; exact List.mem_append_right _ List.mem_cons_self
    have hts := okS.2.2.1 t tm
    have h47 := hts.1
    have lT := zt_r_l la hts.1
    have pa := zt_S_pa (zt_U_st U t hts)
    have e' : (t :: p).reverse ++ b = s :: ls := by rw [List.reverse_cons, List.append_assoc]; exact e
    have nd := okS.1
    rw [← e] at nd
    have nd2 := List.nodup_append.mp nd
    have old : ∀ z, zt_ln c t z → 0 ≤ z → z ∈ b := fun z h z0 => (zt_ln_in W hts (cw t hts) ht h z0).1
    have bs := zt_S_bs (zt_U_st U t hts)
    rw [qL4_groundOf_8, if_neg (zt_r0 U hts), zm_e (zt_bitr gL U hts)]
    dsimp only
    by_cases cm : zv_lcmp (f &&& zt_bt t.toNat) (Int64.ofNat 0) = 0
    · have nb : zt_b f t.toNat = false := (zt_lcmp_bt f (by omega)).mp cm
      rw [if_pos cm, zm_e (zl_gR gL lT 4), pa]
      refine ih (t :: p) _ f e' ht.2 hS hI (fun o ho bo x x1 x48 h => ?_)
      rcases List.mem_cons.mp ho with q | q
      · rw [show o = t.toNat by omega, nb] at bo
        cases bo
      · exact hC o q bo x x1 x48 h
    · have tb : zt_b f t.toNat = true := by
        cases z : zt_b f t.toNat with
        | true => rfl
        | false => exact absurd ((zt_lcmp_bt f (by omega)).mpr z) cm
      have ts := (hS t.toNat (by omega) tb).2
      rw [show ((t.toNat : Nat) : Int) = t by omega] at ts
      have bx : ∀ i, i < 64 → (zt_b (f ||| zv_J g (zt_r a t) 17) i = true ↔ zt_b f i = true ∨ (1 ≤ i ∧ i < 48 ∧ zt_ln c t i)) := fun i hi => by
        rw [zt_b_or, Bool.or_eq_true, bs i hi]
      rw [if_neg cm, zm_e (zl_gJ gL lT 17), zm_e (zl_gR gL lT 4), pa]
      refine ih (t :: p) _ _ e' ht.2 (fun x hx q => ?_) ((bx _ (by have := hs.1; omega)).mpr (Or.inl hI)) (fun o ho bo x x1 x48 h => ?_)
      · rcases (bx x hx).mp q with v | v
        · exact hS x hx v
        · exact ⟨⟨v.1, v.2.1⟩, zt_tc_a ts v.2.2⟩
      · rcases List.mem_cons.mp ho with q | q
        · rw [q] at h
          exact (bx x (by omega)).mpr (Or.inr ⟨x1, x48, h⟩)
        · by_cases o64 : o < 64
          · rcases (bx o o64).mp bo with v | v
            · exact (bx x (by omega)).mpr (Or.inl (hC o q v x x1 x48 h))
            · exfalso
              have ob := old (o : Int) v.2.2 (by omega)
              exact nd2.2.2 _ (List.mem_reverse.mpr q) _ (List.mem_cons_of_mem _ ob) rfl
          · rw [zt_b_ge _ (by omega)] at bo
            cases bo
theorem zt_groundOf {d : Nat} (gL : zt_L g) (U : zt_U a c g) {s : Int} (hs : zm_st c s) (s1 : 1 ≤ s) : ∃ v, C4_groundOf (d + 2) (a + 8) (zt_r a s) g = some (v, g) ∧ ∀ x : Nat, x < 64 → (zt_b v x = true ↔ (1 ≤ x ∧ x < 48) ∧ zt_tc c s x) := by
  have la := zt_U_la U
  have h47 := hs.1
  obtain ⟨ls, hls, _⟩ := zt_line (zt_U_W U) hs
  obtain ⟨v, e, w⟩ := zt_grnd8 (d := d) gL U hs hls s1 (s :: ls) [] s (zt_bt s.toNat) rfl hls (fun x hx q => by
    rw [zt_b_bt (by omega) hx, decide_eq_true_eq] at q
    have e3 : (x : Int) = s := by omega
    rw [e3]
    exact ⟨by omega, zt_tc_r c s⟩) (by rw [zt_b_bt (by omega) (by omega)]; exact decide_eq_true rfl) (fun o ho => by cases ho)
  refine ⟨v, lC4_groundOf (zl_ob gL (zt_row_l la).1) ?_, w⟩
  rw [qE4_groundOf, zm_e (zt_bitr gL U hs)]
  exact e
end
