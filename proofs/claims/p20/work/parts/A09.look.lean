/-! ===== the tie: what one sees of the row ===== -/
/-- the row stands in its cells -/
def zt_rw (a : Nat) (c : Nat → Int) (L : List Int) (g : zv_H) : Prop := (zv_I g (a + 8) 6 = (zm_row c L).length) ∧ (∀ (k : Nat) (p : Int × Int), (zm_row c L)[k]? = some p → zv_I g (a + 10) k = zt_id p)
theorem zt_rw_sz {a : Nat} {c : Nat → Int} {L : List Int} {g : zv_H} (t : zt_rw a c L g) : zv_I g (a + 8) 6 = (zm_row c L).length := t.1
theorem zt_rw_id {a : Nat} {c : Nat → Int} {L : List Int} {g : zv_H} (t : zt_rw a c L g) : ∀ (k : Nat) (p : Int × Int), (zm_row c L)[k]? = some p → zv_I g (a + 10) k = zt_id p := t.2
theorem zt_lay77 {d : Nat} {h : zv_H} {a : Nat} {c : Nat → Int} {L : List Int} (hok : ∀ p ∈ zm_row c L, zt_ok p) (hlen : (zm_row c L).length ≤ 604) {P : Option zv_V × zv_H → Prop} (fin : ∀ g, zt_B a c L h g → zt_rw a c L g → zm_R (L4_lay_118 (d + 1) (a + 8) g) P) : ∀ (R A : List (Int × Int)), A ++ R = zm_row c L → ∀ (b : Int) (g : zv_H), 0 ≤ b → zt_B a c L h g → zt_lk (zt_nx a g) b (R.map zt_id) → zv_I g (a + 8) 6 = A.length → (∀ (k : Nat) (p : Int × Int), A[k]? = some p → zv_I g (a + 10) k = zt_id p) → zm_R (L4_lay_77 (d + 1) (a + 8) (zt_nx a g b) A.length g) P := by
  intro R
  induction R with
  | nil =>
    intro A e b g hb B lk h6 hid
    rw [List.append_nil] at e
    have f := fin g B ⟨by rw [h6, e], fun k p hp => hid k p (by rw [e]; exact hp)⟩
    have eb : zt_nx a g b = -1 := lk
    rw [qL4_lay_77]
    by_cases c1 : (A.length : Int) < 604
    · rw [if_pos c1, zm_e (zt_C4_isId _)]
      dsimp only
      rw [eb, if_neg (show ¬ ((0 : Int) ≤ -1 ∧ (-1 : Int) < 604) by decide), if_pos rfl]
      exact f
    · rw [if_neg c1]
      exact f
  | cons p R ih =>
    intro A e b g hb B lk h6 hid
    have la := zt_U_la (zt_B_U B)
    have lr := zt_row_l la
    have gL := zt_B_L B
    have hp : p ∈ zm_row c L := by rw [← e]; exact List.mem_append_right _ List.mem_cons_self
    have idr := zt_id_r (hok p hp)
    have len : A.length < (zm_row c L).length := by rw [← e, List.length_append, List.length_cons]; omega
    have eb : zt_nx a g b = zt_id p := lk.1
    rw [qL4_lay_77, if_pos (by omega), zm_e (zt_C4_isId _)]
    dsimp only
    rw [eb, if_pos idr, if_neg (by decide), zm_e (zl_gF gL lr.1 1 2), show a + 8 + 2 = a + 10 from rfl, zm_e (zl_wI gL lr.2.2.1 (by omega) (by omega) _), zm_w (by omega), show ((A.length : Int)).toNat = A.length by omega]
    have B1 : zt_B a c L h (zv_sI g (a + 10) A.length (zt_id p)) := zt_B_I B _ (zt_xa la (by omega)) (by omega)
    have gL1 := zt_B_L B1
    rw [zm_e (zl_pI gL1 lr.1 6 _)]
    have B2 : zt_B a c L h (zv_sI (zv_sI g (a + 10) A.length (zt_id p)) (a + 8) 6 ((A.length : Int) + 1)) := zt_B_I B1 _ (zt_x4 la (Or.inr (Or.inl rfl))) (by omega)
    have gL2 := zt_B_L B2
    have e13 : ∀ x, zt_nx a (zv_sI (zv_sI g (a + 10) A.length (zt_id p)) (a + 8) 6 ((A.length : Int) + 1)) x = zt_nx a g x := fun x => by
      unfold zt_nx
      rw [zy_In _ _ (by omega), zy_In _ _ (by omega)]
    have e10 : ∀ k, k ≠ A.length → zv_I (zv_sI (zv_sI g (a + 10) A.length (zt_id p)) (a + 8) 6 ((A.length : Int) + 1)) (a + 10) k = zv_I g (a + 10) k := fun k hk => by
      rw [zy_In _ _ (by omega), zy_In _ _ (by omega)]
    have e10' : zv_I (zv_sI (zv_sI g (a + 10) A.length (zt_id p)) (a + 8) 6 ((A.length : Int) + 1)) (a + 10) A.length = zt_id p := by
      rw [zy_In _ _ (by omega), zy_I]
    have e6 : zv_I (zv_sI (zv_sI g (a + 10) A.length (zt_id p)) (a + 8) 6 ((A.length : Int) + 1)) (a + 8) 6 = (A.length : Int) + 1 := zy_I _ _ _ _
    generalize zv_sI (zv_sI g (a + 10) A.length (zt_id p)) (a + 8) 6 ((A.length : Int) + 1) = g2 at B2 gL2 e13 e10 e10' e6
    have ev : zv_I g2 (a + 13) (zt_id p).toNat = zt_nx a g2 (zt_id p) := rfl
    rw [zm_e (zl_gF gL2 lr.1 4 5), show a + 8 + 5 = a + 13 from rfl, zm_e (zl_aI gL2 lr.2.2.2.2.2 idr.1 (by omega)), ev]
    have el : (((A ++ [p]).length : Nat) : Int) = (A.length : Int) + 1 := by rw [List.length_append]; rfl
    have := ih (A ++ [p]) (by rw [List.append_assoc]; exact e) (zt_id p) g2 idr.1 B2 (zt_lk_fr lk.2 (fun x _ => e13 x)) (by rw [e6, el]) (fun k x hx => by
      by_cases ck : k < A.length
      · rw [List.getElem?_append_left ck] at hx
        rw [e10 k (by omega)]
        exact hid k x hx
      · rw [List.getElem?_append_right (by omega)] at hx
        have h9 : k - A.length < 1 := zm_lt_of_get hx
        have hk : k = A.length := by omega
        rw [hk, Nat.sub_self] at hx
        rw [hk, e10', ← Option.some.inj hx])
    rw [el] at this
    exact this
/-- what one sees, were those of v in force -/
def zt_sj (c : Nat → Int) (L : List Int) (v : Int64) (p : Int × Int) : Bool := (decide (p.1 = 0) || zt_b v p.1.toNat) && !(L.any fun t => zt_b v t.toNat && (decide (zm_o c t 2 = 1) && (zm_tk c t).contains p))
/-- the row, looked at -/
def zt_lo (a : Nat) (c : Nat → Int) (L : List Int) (v : Int64) (g : zv_H) : Prop := (∀ (k : Nat) (p : Int × Int), (zm_row c L)[k]? = some p → zv_I g (a + 11) k = if zt_sj c L v p = true then 1 else 0) ∧ (zv_I g (a + 8) 7 = ((zm_row c L).filter (zt_sj c L v)).length)
theorem zt_lo_se {a : Nat} {c : Nat → Int} {L : List Int} {v : Int64} {g : zv_H} (t : zt_lo a c L v g) : ∀ (k : Nat) (p : Int × Int), (zm_row c L)[k]? = some p → zv_I g (a + 11) k = if zt_sj c L v p = true then 1 else 0 := t.1
theorem zt_lo_sn {a : Nat} {c : Nat → Int} {L : List Int} {v : Int64} {g : zv_H} (t : zt_lo a c L v g) : zv_I g (a + 8) 7 = ((zm_row c L).filter (zt_sj c L v)).length := t.2
def zt_cg (c : Nat → Int) (v : Int64) (p : Int × Int) (t : Int) : Bool := zt_b v t.toNat && (decide (zm_o c t 2 = 1) && (zm_tk c t).contains p)
theorem zt_rw_I {a : Nat} {c : Nat → Int} {L : List Int} {g : zv_H} (w : zt_rw a c L g) {r k : Nat} (v : Int) (hn : r ≠ a + 10 ∧ ¬ (r = a + 8 ∧ k = 6)) : zt_rw a c L (zv_sI g r k v) := by
  refine ⟨?_, fun x p hp => ?_⟩
  · rw [zy_In _ _ (by omega)]; exact zt_rw_sz w
  · rw [zy_In _ _ (by omega)]; exact zt_rw_id w x p hp
theorem zt_look2 {d : Nat} {h : zv_H} {a : Nat} {c : Nat → Int} {L : List Int} {v : Int64} {P : Option zv_V × zv_H → Prop} (fin : ∀ g, zt_B a c L h g → zt_rw a c L g → (∀ k : Nat, k < 604 → zv_I g (a + 12) k = 0) → zm_R (L4_look_24 (d + 2) (a + 8) v 0 g) P) : ∀ (n i : Nat) (g : zv_H), i + n = 604 → zt_B a c L h g → zt_rw a c L g → (∀ k : Nat, k < i → zv_I g (a + 12) k = 0) → zm_R (L4_look_2 (d + 2) (a + 8) v i g) P := by
  intro n
  induction n with
  | zero =>
    intro i g hi B w hk
    rw [qL4_look_2, if_neg (by omega)]
    exact fin g B w (fun k hk2 => hk k (by omega))
  | succ n ih =>
    intro i g hi B w hk
    have la := zt_U_la (zt_B_U B)
    have lr := zt_row_l la
    have gL := zt_B_L B
    rw [qL4_look_2, if_pos (by omega), zm_e (zl_gF gL lr.1 3 4), show a + 8 + 4 = a + 12 from rfl, zm_e (zl_wB gL lr.2.2.2.2.1 (by omega) (by omega) (Or.inl rfl)), zm_w (by omega), show ((i : Int)).toNat = i by omega, show (i : Int) + 1 = ((i + 1 : Nat) : Int) by omega]
    refine ih (i + 1) _ (by omega) (zt_B_I B _ (zt_xa la (by omega)) (by omega)) (zt_rw_I w _ (by omega)) (fun k hk2 => ?_)
    by_cases e : k = i
    · rw [e, zy_I]
    · rw [zy_In _ _ (by omega)]
      exact hk k (by omega)
def zt_bi (b : Bool) : Int := if b = true then 1 else 0
theorem zt_bi01 (b : Bool) : zt_bi b = 0 ∨ zt_bi b = 1 := by cases b; exact Or.inl rfl; exact Or.inr rfl
theorem zt_bi0 (b : Bool) : zt_bi b = 0 ↔ b = false := by cases b <;> decide
/-- those of the letters that are gone -/
def zt_gn (a : Nat) (g : zv_H) (f : Int × Int → Bool) : Prop := ∀ p, zt_ok p → zv_I g (a + 12) (zt_id p).toNat = zt_bi (f p)
theorem zt_gn_cg {a : Nat} {g : zv_H} {f f' : Int × Int → Bool} (h : zt_gn a g f) (e : ∀ p, f' p = f p) : zt_gn a g f' := fun p hp => by
  rw [e p]
  exact h p hp
theorem zt_look43 {d : Nat} {h : zv_H} {a : Nat} {c : Nat → Int} {L : List Int} {v : Int64} {t : Int} {m : Nat} (x : Int) (ht : zm_st c t) (he : zm_ed c t) (hm : zm_o c t 5 = m) (hm12 : m ≤ 12) (hJ : zt_b v t.toNat = true) (htk : zm_o c t 2 = 1 → ∀ p ∈ zm_tk c t, zt_ok p) (f : Int × Int → Bool) {P : Option zv_V × zv_H → Prop} (fin : ∀ g, zt_B a c L h g → zt_rw a c L g → zt_gn a g (fun p => f p || zt_cg c v p t) → zm_R (L4_look_24 (d + 2) (a + 8) v (zv_w (x + 1)) g) P) : ∀ (n i : Nat) (g : zv_H), i + n = m → zt_B a c L h g → zt_rw a c L g → zt_gn a g (fun p => f p || (decide (zm_o c t 2 = 1) && ((zm_tk c t).take i).contains p)) → zm_R (L4_look_43 (d + 2) (a + 8) v x (zt_r a t) i g) P := by
  intro n
  induction n with
  | zero =>
    intro i g hi B w hg
    have U := zt_B_U B
    have la := zt_U_la U
    have lu := zt_r_l la ht.1
    have gL := zt_B_L B
    have ht1 := ht.1
    have eb : C5_bit (d + 2) (zt_r a t) g = some (zt_bt t.toNat, g) := by
      rw [zt_r_p ht.1.1]
      exact zt_C5_bit gL la (by omega) (zt_U_nr U _ (by omega))
    have hz : ¬ zv_lcmp (v &&& zt_bt t.toNat) (Int64.ofNat 0) = 0 := fun q => by
      rw [zt_lcmp_bt v (by omega), hJ] at q
      cases q
    rw [qL4_look_43, if_neg (zc_nz lu), zm_e eb]
    dsimp only
    rw [if_neg hz, zm_e (zl_gI gL lu 9), zt_S_sz (zt_U_st U t ht), hm, if_neg (by omega)]
    refine fin g B w (zt_gn_cg hg (fun p => ?_))
    have et : (zm_tk c t).take i = zm_tk c t := List.take_of_length_le (by rw [zm_tk_len]; omega)
    have ez : zt_cg c v p t = (decide (zm_o c t 2 = 1) && (zm_tk c t).contains p) := by
      unfold zt_cg
      rw [hJ, Bool.true_and]
    rw [et, ez]
  | succ n ih =>
    intro i g hi B w hg
    have U := zt_B_U B
    have la := zt_U_la U
    have lr := zt_row_l la
    have lu := zt_r_l la ht.1
    have gL := zt_B_L B
    have ht1 := ht.1
    have S := zt_U_st U t ht
    have eb : C5_bit (d + 2) (zt_r a t) g = some (zt_bt t.toNat, g) := by
      rw [zt_r_p ht.1.1]
      exact zt_C5_bit gL la (by omega) (zt_U_nr U _ (by omega))
    have hz : ¬ zv_lcmp (v &&& zt_bt t.toNat) (Int64.ofNat 0) = 0 := fun q => by
      rw [zt_lcmp_bt v (by omega), hJ] at q
      cases q
    rw [qL4_look_43, if_neg (zc_nz lu), zm_e eb]
    dsimp only
    have w1 : zv_w ((i : Int) + 1) = ((i + 1 : Nat) : Int) := by
      rw [zm_w (by omega)]
      rfl
    rw [if_neg hz, zm_e (zl_gI gL lu 9), zt_S_sz S, hm, if_pos (by omega), w1]
    by_cases c1 : zm_o c t 2 = 1
    · have hget := zm_tk_get c t (i := i) (by omega)
      have hokp := htk c1 _ (List.mem_of_getElem? hget)
      have ecell := zt_S_tk S c1 i _ hget
      have idr := zt_id_r hokp
      have ek : C5_tookAt (d + 2) (zt_r a t) i g = some (zt_id (zm_o c t (52 + 2 * (i : Int)), zm_o c t (52 + 2 * (i : Int) + 1)), g) := by
        rw [zt_C5_tookAt gL lu _, zt_S_ac S, zt_S_sz S, hm, if_pos ⟨c1, by omega, by omega, by omega⟩, show ((i : Int)).toNat = i by omega, ecell]
      rw [zm_e ek]
      dsimp only
      rw [zm_e (zt_C4_isId _)]
      dsimp only
      rw [if_pos idr, if_neg (by decide), zm_e (zl_gF gL lr.1 3 4), show a + 8 + 4 = a + 12 from rfl, zm_e (zl_wB gL lr.2.2.2.2.1 idr.1 (by omega) (Or.inr rfl))]
      refine ih (i + 1) _ (by omega) (zt_B_I B _ (zt_xa la (by omega)) (by omega)) (zt_rw_I w _ (by omega)) (fun p hp => ?_)
      have et : (zm_tk c t).take (i + 1) = (zm_tk c t).take i ++ [(zm_o c t (52 + 2 * (i : Int)), zm_o c t (52 + 2 * (i : Int) + 1))] := by
        rw [List.take_add_one, hget]
        rfl
      have ec : ((zm_tk c t).take (i + 1)).contains p = (((zm_tk c t).take i).contains p || decide (p = (zm_o c t (52 + 2 * (i : Int)), zm_o c t (52 + 2 * (i : Int) + 1)))) := by
        rw [et, Bool.eq_iff_iff, Bool.or_eq_true, List.contains_iff_mem, List.contains_iff_mem, List.mem_append, List.mem_singleton, decide_eq_true_eq]
      show zv_I _ _ _ = zt_bi (f p || (decide (zm_o c t 2 = 1) && ((zm_tk c t).take (i + 1)).contains p))
      rw [ec, decide_eq_true c1, Bool.true_and]
      by_cases ep : p = (zm_o c t (52 + 2 * (i : Int)), zm_o c t (52 + 2 * (i : Int) + 1))
      · rw [decide_eq_true ep, Bool.or_true, Bool.or_true, ep, zy_I]
        rfl
      · have hne : (zt_id p).toNat ≠ (zt_id (zm_o c t (52 + 2 * (i : Int)), zm_o c t (52 + 2 * (i : Int) + 1))).toNat := fun q => ep (zt_id_inj hp hokp (by have := zt_id_r hp; omega))
        have := hg p hp
        dsimp only at this
        rw [decide_eq_true c1, Bool.true_and] at this
        rw [decide_eq_false ep, Bool.or_false, zy_In _ _ (fun q => hne q.2)]
        exact this
    · have ek : C5_tookAt (d + 2) (zt_r a t) i g = some (-1, g) := by
        rw [zt_C5_tookAt gL lu _, zt_S_ac S, if_neg (fun q => c1 q.1)]
      rw [zm_e ek]
      dsimp only
      rw [zm_e (zt_C4_isId _)]
      dsimp only
      rw [if_neg (show ¬ ((0 : Int) ≤ -1 ∧ (-1 : Int) < 604) by decide), if_pos rfl]
      refine ih (i + 1) g (by omega) B w (zt_gn_cg hg (fun p => ?_))
      rw [decide_eq_false c1, Bool.false_and, Bool.false_and]
theorem zt_look24 {d : Nat} {h : zv_H} {a : Nat} {c : Nat → Int} {L : List Int} {v : Int64} (ok : zt_ln_ok c L) (g0 : zm_G0 c L) (gt : ∀ t ∈ L, zm_o c t 2 = 1 → ∀ p ∈ zm_tk c t, p ∈ zm_row c L) (hJ : ∀ t ∈ L, zt_b v t.toNat = true → zm_ed c t) {P : Option zv_V × zv_H → Prop} (fin : ∀ g, zt_B a c L h g → zt_rw a c L g → zt_gn a g (fun p => L.any (zt_cg c v p)) → zm_R (L4_look_24 (d + 2) (a + 8) v L.length g) P) : ∀ (re pr : List Int), pr ++ re = L.reverse → ∀ g, zt_B a c L h g → zt_rw a c L g → zt_gn a g (fun p => pr.any (zt_cg c v p)) → zm_R (L4_look_24 (d + 2) (a + 8) v pr.length g) P := by
  intro re
  induction re with
  | nil =>
    intro pr e g B w hg
    rw [List.append_nil] at e
    rw [e, List.length_reverse]
    refine fin g B w (zt_gn_cg hg (fun p => ?_))
    rw [e, List.any_reverse]
  | cons t re ih =>
    intro pr e g B w hg
    have U := zt_B_U B
    have la := zt_U_la U
    have lr := zt_row_l la
    have gL := zt_B_L B
    have htl : t ∈ L := by
      rw [← List.mem_reverse, ← e]
      exact List.mem_append_right _ List.mem_cons_self
    have st := ok.2.2.1 t htl
    have st1 := st.1
    have lu := zt_r_l la st.1
    have len : L.length = pr.length + (re.length + 1) := by rw [← List.length_reverse (as := L), ← e, List.length_append, List.length_cons]
    have l48 := ok.2.2.2
    have hx : L.reverse[pr.length]? = some t := by
      rw [← e, List.getElem?_append_right (Nat.le_refl _), Nat.sub_self]
      rfl
    have e' : (pr ++ [t]) ++ re = L.reverse := by rw [List.append_assoc]; exact e
    have el : (((pr ++ [t]).length : Nat) : Int) = zv_w ((pr.length : Int) + 1) := by rw [zm_w (by omega), List.length_append]; rfl
    have nx : ∀ g, zt_B a c L h g → zt_rw a c L g → zt_gn a g (fun p => pr.any (zt_cg c v p) || zt_cg c v p t) → zm_R (L4_look_24 (d + 2) (a + 8) v (zv_w ((pr.length : Int) + 1)) g) P := fun g B w hg => by
      rw [← el]
      refine ih (pr ++ [t]) e' g B w (zt_gn_cg hg (fun p => ?_))
      rw [List.any_append, List.any_cons, List.any_nil, Bool.or_false]
    have rd : zv_aR g (a + 9) (pr.length : Int) = some (zt_r a t) := by
      rw [zl_aR gL lr.2.1 (by omega) (by omega), show ((pr.length : Int)).toNat = pr.length by omega, zt_wk_pa (zt_B_wk B) _ _ hx]
    rw [qL4_look_24, zm_e (zl_gI gL lr.1 5), zt_wk_ln (zt_B_wk B), if_pos (by omega), zm_e (zl_gF gL lr.1 0 1), show a + 8 + 1 = a + 9 from rfl, zm_e rd]
    cases hb : zt_b v t.toNat with
    | false =>
      have eb : C5_bit (d + 2) (zt_r a t) g = some (zt_bt t.toNat, g) := by
        rw [zt_r_p st.1.1]
        exact zt_C5_bit gL la (by omega) (zt_U_nr U _ (by omega))
      have hz : zv_lcmp (v &&& zt_bt t.toNat) (Int64.ofNat 0) = 0 := by
        rw [zt_lcmp_bt v (by omega)]
        exact hb
      rw [qL4_look_43, if_neg (zc_nz lu), zm_e eb]
      dsimp only
      rw [if_pos hz]
      refine nx g B w (zt_gn_cg hg (fun p => ?_))
      have ez : zt_cg c v p t = false := by
        unfold zt_cg
        rw [hb, Bool.false_and]
      rw [ez, Bool.or_false]
    | true =>
      have he := hJ t htl hb
      have t0 : t ≠ 0 := fun q => by
        have := g0.2.2.2.1
        rw [q] at he
        rcases he with z | z <;> omega
      have hm := g0.2.2.2.2 t htl t0 he
      refine zt_look43 (d := d) (m := (zm_o c t 5).toNat) _ st he (by omega) (by omega) hb (fun q p hp => zt_row_ok ok.2.2.1 g0 p (gt t htl q p hp)) (fun p => pr.any (zt_cg c v p)) (fun g B w hg => nx g B w hg) (zm_o c t 5).toNat 0 g (Nat.zero_add _) B w (zt_gn_cg hg (fun p => ?_))
      rw [List.take_zero]
      have : ([] : List (Int × Int)).contains p = false := rfl
      rw [this, Bool.and_false, Bool.or_false]
theorem zt_look114 {d : Nat} {h : zv_H} {a : Nat} {c : Nat → Int} {L : List Int} {v : Int64} (hok : ∀ p ∈ zm_row c L, zt_ok p) (hlen : (zm_row c L).length ≤ 604) : ∀ (R A : List (Int × Int)), A ++ R = zm_row c L → ∀ g, zt_B a c L h g → zt_rw a c L g → zt_gn a g (fun p => L.any (zt_cg c v p)) → zv_I g (a + 8) 7 = (A.filter (zt_sj c L v)).length → (∀ (k : Nat) (p : Int × Int), A[k]? = some p → zv_I g (a + 11) k = if zt_sj c L v p = true then 1 else 0) → zm_R (L4_look_114 (d + 2) (a + 8) v A.length g) (zm_V fun h' => zt_B a c L h h' ∧ zt_rw a c L h' ∧ zt_lo a c L v h') := by
  intro R
  induction R with
  | nil =>
    intro A e g B w hg h7 hs
    rw [List.append_nil] at e
    have la := zt_U_la (zt_B_U B)
    have lr := zt_row_l la
    rw [qL4_look_114, zm_e (zl_gI (zt_B_L B) lr.1 6), zt_rw_sz w, e, if_neg (by omega)]
    refine zm_iV ⟨B, w, fun k p hp => hs k p (by rw [e]; exact hp), ?_⟩
    rw [h7, e]
  | cons p R ih =>
    intro A e g B w hg h7 hs
    have la := zt_U_la (zt_B_U B)
    have lr := zt_row_l la
    have gL := zt_B_L B
    have hp : p ∈ zm_row c L := by rw [← e]; exact List.mem_append_right _ List.mem_cons_self
    have okp := hok p hp
    have idr := zt_id_r okp
    have len : (zm_row c L).length = A.length + (R.length + 1) := by rw [← e, List.length_append, List.length_cons]
    have hx : (zm_row c L)[A.length]? = some p := by
      rw [← e, List.getElem?_append_right (Nat.le_refl _), Nat.sub_self]
      rfl
    have e' : (A ++ [p]) ++ R = zm_row c L := by rw [List.append_assoc]; exact e
    have el : (((A ++ [p]).length : Nat) : Int) = (A.length : Int) + 1 := by rw [List.length_append]; rfl
    have hfl : (A.filter (zt_sj c L v)).length ≤ A.length := List.length_filter_le _ _
    -- the mark is set
    have set : ∀ x : Int, x = (if zt_sj c L v p = true then 1 else 0) → zm_R (L4_look_188 (d + 2) (a + 8) v A.length (a + 11) A.length x g) (zm_V fun h' => zt_B a c L h h' ∧ zt_rw a c L h' ∧ zt_lo a c L v h') := by
      intro x ex
      have x01 : x = 0 ∨ x = 1 := by
        rw [ex]
        by_cases q : zt_sj c L v p = true
        · rw [if_pos q]; exact Or.inr rfl
        · rw [if_neg q]; exact Or.inl rfl
      rw [qL4_look_188, zm_e (zl_wB gL lr.2.2.2.1 (by omega) (by omega) x01), show ((A.length : Int)).toNat = A.length by omega]
      have B1 : zt_B a c L h (zv_sI g (a + 11) A.length x) := zt_B_I B _ (zt_xa la (by omega)) (by omega)
      have w1 : zt_rw a c L (zv_sI g (a + 11) A.length x) := zt_rw_I w _ (by omega)
      have gL1 := zt_B_L B1
      have e7 : zv_I (zv_sI g (a + 11) A.length x) (a + 8) 7 = (A.filter (zt_sj c L v)).length := by
        rw [zy_In _ _ (by omega)]; exact h7
      have e11 : zv_I (zv_sI g (a + 11) A.length x) (a + 11) A.length = x := zy_I _ _ _ _
      have f : ∀ y : Int, y = (((A ++ [p]).filter (zt_sj c L v)).length : Int) → zm_R ((zv_pI (zv_sI g (a + 11) A.length x) (a + 8) 4 7 y).bind fun g6 => L4_look_114 (d + 2) (a + 8) v (zv_w ((A.length : Int) + 1)) g6) (zm_V fun h' => zt_B a c L h h' ∧ zt_rw a c L h' ∧ zt_lo a c L v h') := by
        intro y ey
        rw [zm_e (zl_pI gL1 lr.1 7 _), zm_w (by omega), ← el]
        refine ih (A ++ [p]) e' _ (zt_B_I B1 _ (zt_x4 la (Or.inr (Or.inr rfl))) (by omega)) (zt_rw_I w1 _ (by omega)) (fun z hz => ?_) (by rw [zy_I, ey]) (fun k z hz => ?_)
        · rw [zy_In _ _ (by omega), zy_In _ _ (by omega)]
          exact hg z hz
        · rw [zy_In _ _ (by omega)]
          by_cases ck : k < A.length
          · rw [List.getElem?_append_left ck] at hz
            rw [zy_In _ _ (by omega)]
            exact hs k z hz
          · rw [List.getElem?_append_right (by omega)] at hz
            have h9 : k - A.length < 1 := zm_lt_of_get hz
            have hk : k = A.length := by omega
            rw [hk, Nat.sub_self] at hz
            rw [hk, zy_I, ex, ← Option.some.inj hz]
      have r11 : zv_aB (zv_sI g (a + 11) A.length x) (a + 11) (A.length : Int) = some x := by
        rw [zl_aB gL1 lr.2.2.2.1 (by omega) (by omega), show ((A.length : Int)).toNat = A.length by omega, e11]
      rw [zm_e (zl_gI gL1 lr.1 7), e7, zm_e (zl_gF gL1 lr.1 2 3), show a + 8 + 3 = a + 11 from rfl, zm_e r11]
      by_cases q : zt_sj c L v p = true
      · rw [if_pos q] at ex
        rw [if_neg (by omega), zm_w (by omega)]
        refine f _ ?_
        rw [List.filter_append, List.length_append, List.filter_cons_of_pos q]
        rfl
      · rw [if_neg q] at ex
        rw [if_pos ex, zm_w (by omega)]
        refine f _ ?_
        rw [List.filter_append, List.length_append, List.filter_cons_of_neg q]
        rfl
    have eid : zv_aI g (a + 10) (A.length : Int) = some (zt_id p) := by
      rw [zl_aI gL lr.2.2.1 (by omega) (by omega), show ((A.length : Int)).toNat = A.length by omega, zt_rw_id w _ _ hx]
    have egn : zv_aB g (a + 12) (zt_id p) = some (zt_bi (L.any (zt_cg c v p))) := by
      rw [zl_aB gL lr.2.2.2.2.1 idr.1 (by omega), hg p okp]
    have esj : zt_sj c L v p = ((decide (p.1 = 0) || zt_b v p.1.toNat) && !(L.any (zt_cg c v p))) := rfl
    rw [qL4_look_114, zm_e (zl_gI gL lr.1 6), zt_rw_sz w, if_pos (by omega), if_pos (by omega), zm_e (zl_gF gL lr.1 1 2), show a + 8 + 2 = a + 10 from rfl, zm_e eid, zm_e (zt_C4_putter okp)]
    dsimp only
    rw [zm_e (zl_gF gL lr.1 2 3), show a + 8 + 3 = a + 11 from rfl, zm_e (zt_C4_isId _)]
    dsimp only
    rw [if_pos idr, if_neg (by decide), zm_e (zl_gF gL lr.1 3 4), show a + 8 + 4 = a + 12 from rfl, zm_e egn]
    have p48 : 0 ≤ p.1 ∧ p.1 < 48 := by rcases okp with q | q <;> omega
    by_cases q1 : L.any (zt_cg c v p) = true
    · rw [q1, if_neg (by decide), qL4_look_187]
      exact set 0 (by rw [esj, q1, Bool.not_true, Bool.and_false]; rfl)
    · have q1' : L.any (zt_cg c v p) = false := by
        cases z : L.any (zt_cg c v p) with
        | false => rfl
        | true => exact absurd z q1
      rw [q1', if_pos (show zt_bi false = 0 from rfl)]
      by_cases q2 : p.1 = 0
      · rw [if_pos q2, qL4_look_183]
        exact set 1 (by rw [esj, q1', decide_eq_true q2]; rfl)
      · have en : p.1 = ((p.1.toNat : Nat) : Int) := by omega
        rw [if_neg q2]
        by_cases q3 : zv_lcmp (zv_lushr v p.1 &&& Int64.ofNat 1) (Int64.ofNat 0) = 0
        · rw [if_pos q3, qL4_look_187]
          rw [en, zt_lushr v (by omega)] at q3
          exact set 0 (by rw [esj, q1', decide_eq_false q2, q3]; rfl)
        · rw [if_neg q3, qL4_look_183]
          rw [en, zt_lushr v (by omega)] at q3
          have q4 : zt_b v p.1.toNat = true := by
            cases z : zt_b v p.1.toNat with
            | true => rfl
            | false => exact absurd z q3
          exact set 1 (by rw [esj, q1', decide_eq_false q2, q4]; rfl)
theorem zt_look {d : Nat} {h g : zv_H} {a : Nat} {c : Nat → Int} {L : List Int} (v : Int64) (B : zt_B a c L h g) (w : zt_rw a c L g) (ok : zt_ln_ok c L) (g0 : zm_G0 c L) (gt : ∀ t ∈ L, zm_o c t 2 = 1 → ∀ p ∈ zm_tk c t, p ∈ zm_row c L) (hJ : ∀ t ∈ L, zt_b v t.toNat = true → zm_ed c t) : zm_R (C4_look (d + 3) (a + 8) v g) (fun h' => zt_B a c L h h' ∧ zt_rw a c L h' ∧ zt_lo a c L v h') := by
  have la := zt_U_la (zt_B_U B)
  have lr := zt_row_l la
  have hok := zt_row_ok ok.2.2.1 g0
  have hlen : (zm_row c L).length ≤ 604 := by
    have := zm_row_le g0
    have := ok.2.2.2
    omega
  refine zm_cV (fun e => lC4_look (zl_ob (zt_B_L B) lr.1) e) ?_
  rw [qE4_look]
  refine zt_look2 (d := d) (fun g B w hz => ?_) 604 0 g rfl B w (fun k hk => absurd hk (Nat.not_lt_zero _))
  refine zt_look24 (d := d) ok g0 gt hJ (fun g B w hg => ?_) L.reverse [] rfl g B w (fun p hp => ?_)
  · rw [qL4_look_24, zm_e (zl_gI (zt_B_L B) lr.1 5), zt_wk_ln (zt_B_wk B), if_neg (by omega), zm_e (zl_pI (zt_B_L B) lr.1 7 _)]
    exact zt_look114 (d := d) hok hlen (zm_row c L) [] rfl _ (zt_B_I B _ (zt_x4 la (Or.inr (Or.inr rfl))) (by omega)) (zt_rw_I w _ (by omega)) (fun p hp => by rw [zy_In _ _ (by omega)]; exact hg p hp) (zy_I _ _ _ _) (fun k p hp => by cases hp)
  · have := zt_id_r hp
    rw [hz _ (by omega)]
    rfl
/-- all that lies in the cells of a laid row -/
theorem zt_lay {d : Nat} {h : zv_H} {a : Nat} {c : Nat → Int} {s : Int} {l : List Int} (gL : zt_L h) (U : zt_U a c h) (hs : zm_st c s) (hl : zm_Ln c (s :: l) s) : zm_R (C4_lay (d + 4) (a + 8) (zt_r a s) h) (fun h' => zt_B a c (s :: l) h h' ∧ zt_rw a c (s :: l) h' ∧ zt_lo a c (s :: l) (zv_J h' (a + 8) 9) h') := by
  have la := zt_U_la U
  have lr := zt_row_l la
  obtain ⟨ok, g0, gt, W1⟩ := zt_line_u (zt_U_W U) hs hl
  have hok := zt_row_ok ok.2.2.1 g0
  have hlen : (zm_row c (s :: l)).length ≤ 604 := by
    have := zm_row_le g0
    have := ok.2.2.2
    omega
  obtain ⟨g1, e1, L1, q1, wk1⟩ := zt_walk (d := d + 1) gL U hs hl
  refine zm_cV (fun e => lC4_lay (zl_ob gL lr.1) e) ?_
  rw [qE4_lay, zm_e e1, zm_e (zl_gF L1 lr.1 4 5), show a + 8 + 5 = a + 13 from rfl, zm_e (zl_wI L1 lr.2.2.2.2.2 (by decide) (by decide) _)]
  have B1 : zt_B a c (s :: l) h g1 := ⟨L1, zt_U_q U q1, q1, wk1⟩
  have B2 : zt_B a c (s :: l) h (zv_sI g1 (a + 13) (Int.toNat 604) (-1)) := zt_B_I B1 _ (zt_xa la (by omega)) (by omega)
  refine zt_lay16 (d := d + 1) hl ok g0 (fun g B lk => ?_) (s :: l).reverse [] (by rw [List.reverse_reverse, List.append_nil]) _ B2 (zy_I _ _ _ _)
  have gL3 := zt_B_L B
  have B3 : zt_B a c (s :: l) h (zv_sI g (a + 8) 6 0) := zt_B_I B _ (zt_x4 la (Or.inr (Or.inl rfl))) (by omega)
  have lk3 : zt_lk (zt_nx a (zv_sI g (a + 8) 6 0)) 604 (zt_rid c (s :: l)) := zt_lk_fr lk (fun x _ => zy_In _ _ (by omega))
  have r604 : zv_aI (zv_sI g (a + 8) 6 0) (a + 13) 604 = some (zt_nx a (zv_sI g (a + 8) 6 0) 604) := zl_aI (zt_B_L B3) lr.2.2.2.2.2 (by decide) (by decide)
  rw [qL4_lay_16, zm_e (zl_gI gL3 lr.1 5), zt_wk_ln (zt_B_wk B), if_neg (by omega), zm_e (zl_pI gL3 lr.1 6 _), zm_e (zl_gF (zt_B_L B3) lr.1 4 5), show a + 8 + 5 = a + 13 from rfl, zm_e r604]
  refine zt_lay77 (d := d + 2) hok hlen (fun g4 B4 w4 => ?_) (zm_row c (s :: l)) [] rfl 604 _ (by decide) B3 lk3 (zy_I _ _ _ _) (fun k p hp => by cases hp)
  rw [qL4_lay_118, zm_e (zl_gJ (zt_B_L B4) lr.1 9)]
  obtain ⟨g5, e5, B5, w5, o5⟩ := zt_look (d := d) (zv_J g4 (a + 8) 9) B4 w4 ok g0 gt (fun t ht hb => by
    have h1 := (ok.2.2.1 t ht).1
    have := (zt_wk_fo (zt_B_wk B4) t.toNat (by omega)).mp hb
    rw [show ((t.toNat : Nat) : Int) = t by omega] at this
    exact this.2.2.1)
  rw [zm_e e5]
  have ej : zv_J g5 (a + 8) 9 = zv_J g4 (a + 8) 9 := zt_b_ext (fun i hi => by
    rw [Bool.eq_iff_iff, zt_wk_fo (zt_B_wk B5) i hi, zt_wk_fo (zt_B_wk B4) i hi])
  refine zm_iV ⟨B5, w5, ?_⟩
  rw [ej]
  exact o5
/-- the start is in force -/
theorem zt_fc0 {c : Nat → Int} : ∀ {L : List Int} {s : Int}, zm_Ln c L s → (∀ t ∈ L, zt_cw c t) → zm_G0 c L → L ≠ [] → zm_fc c L 0 = 1 := by
  intro L
  induction L with
  | nil => intro s _ _ _ h; exact absurd rfl h
  | cons u b ih =>
    intro s hl hw g _
    have hl' : (s = u ∧ 0 ≤ u ∧ u ≤ 48) ∧ zm_Ln c b (zm_o c u 1) := hl
    by_cases hb : b = []
    · subst hb
      have e : u = 0 := Option.some.inj g.2.1
      rw [e]
      rfl
    · obtain ⟨g1, g2, _⟩ := zm_G0_t hb g
      have h0 := g.2.2.2.1
      have n0 : ¬ zm_nm c u 0 := fun q => by
        have := (zt_cw_nm (hw u List.mem_cons_self) b ⟨⟨rfl, hl'.1.2⟩, hl'.2⟩ 0 (by decide) (by decide) q).2.1
        rcases this with z | z <;> omega
      rw [zm_fc_c c u hb, if_neg (fun q => n0 q.2), if_neg (fun q => g2 q.symm)]
      exact ih hl'.2 (fun t ht => hw t (List.mem_cons_of_mem _ ht)) g1 hb
/-- of what is in force: the very letters that one sees -/
theorem zt_sj_sn {c : Nat → Int} {L : List Int} {s : Int} {v : Int64} (hl : zm_Ln c L s) (ok : zt_ln_ok c L) (hw : ∀ t ∈ L, zt_cw c t) (g : zm_G0 c L) (hv : ∀ t : Nat, t < 64 → (zt_b v t = true ↔ t < 48 ∧ (t : Int) ∈ L ∧ zm_ed c t ∧ zm_fc c L t = 1)) {p : Int × Int} (hp : p ∈ zm_row c L) (hed : p.1 ≠ 0 → zm_ed c p.1) : zt_sj c L v p = zm_sn c L p := by
  have bit : ∀ t ∈ L, zm_ed c t → zt_b v t.toNat = decide (zm_fc c L t = 1) := fun t ht he => by
    have h1 := (ok.2.2.1 t ht).1
    have := hv t.toNat (by omega)
    rw [show ((t.toNat : Nat) : Int) = t by omega] at this
    by_cases q : zm_fc c L t = 1
    · rw [decide_eq_true q]
      exact this.mpr ⟨by omega, ht, he, q⟩
    · rw [decide_eq_false q]
      cases z : zt_b v t.toNat with
      | false => rfl
      | true => exact absurd (this.mp z).2.2.2 q
  have hmem := (zm_row_mem hp).1
  have e1 : (decide (p.1 = 0) || zt_b v p.1.toNat) = decide (zm_fc c L p.1 = 1) := by
    by_cases q : p.1 = 0
    · rw [decide_eq_true q, Bool.true_or, q, zt_fc0 hl hw g (by intro e; rw [e] at hmem; cases hmem)]
      rfl
    · rw [decide_eq_false q, Bool.false_or]
      exact bit _ hmem (hed q)
  have e2 : (L.any fun t => zt_b v t.toNat && (decide (zm_o c t 2 = 1) && (zm_tk c t).contains p)) = zm_cb c L L p := by
    unfold zm_cb
    refine zm_any_cg (fun t ht => ?_)
    by_cases q : zm_o c t 2 = 1
    · rw [decide_eq_true q, Bool.true_and, Bool.true_and, bit t ht (Or.inr q)]
    · rw [decide_eq_false q, Bool.false_and, Bool.and_false, Bool.false_and]
  unfold zt_sj zm_sn
  rw [e1, e2]
theorem zt_row_ed {c : Nat → Int} {p : Int × Int} : ∀ {L : List Int}, p ∈ zm_row c L → L.getLast? = some 0 → p.1 ≠ 0 → zm_o c p.1 2 = 0 := by
  intro L
  induction L with
  | nil => intro h; cases h
  | cons t b ih =>
    intro h hl h0
    by_cases hb : b = []
    · subst hb
      have et : t = 0 := Option.some.inj hl
      rw [zm_row_1, zm_rs_mem, et] at h
      exact absurd h.1 h0
    · rw [zm_row_c c t hb] at h
      have hl' : b.getLast? = some 0 := by
        cases b with
        | nil => exact absurd rfl hb
        | cons u b => rw [List.getLast?_cons_cons] at hl; exact hl
      by_cases c1 : zm_o c t 2 = 0
      · rw [if_pos c1, zm_ins_mem] at h
        rcases h with h | h
        · exact ih h hl' h0
        · rw [(zm_rs_mem.mp h).1]
          exact c1
      · rw [if_neg c1] at h
        exact ih h hl' h0
/-- laid, and looked at as things are -/
theorem zt_lay_sn {a : Nat} {c : Nat → Int} {h g : zv_H} {s : Int} {l : List Int} (hs : zm_st c s) (hl : zm_Ln c (s :: l) s) (B : zt_B a c (s :: l) h g) {p : Int × Int} (hp : p ∈ zm_row c (s :: l)) : zt_sj c (s :: l) (zv_J g (a + 8) 9) p = zm_sn c (s :: l) p := by
  obtain ⟨ok, g0, gt, W1⟩ := zt_line_u (zt_U_W (zt_B_U B)) hs hl
  exact zt_sj_sn hl ok (fun t ht => zt_S_cw (zt_U_st (zt_B_U B) t (ok.2.2.1 t ht))) g0 (zt_wk_fo (zt_B_wk B)) hp (fun q => Or.inl (zt_row_ed hp g0.2.1 q))
