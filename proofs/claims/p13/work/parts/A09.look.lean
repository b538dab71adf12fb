/-! A09.look -/
section
/-! ===== the tie: what one sees of the row ===== -/
/-- the row stands in its cells -/
def zt_rw (a : Nat) (c : Nat → Int) (L : List Int) (g : zv_H) : Prop := (zv_I g (a + 8) 6 = (zm_row c L).length) ∧ (∀ (k : Nat) (p : Int × Int), (zm_row c L)[k]? = some p → zv_I g (a + 10) k = zt_id p)
theorem zt_rw_sz {a : Nat} {c : Nat → Int} {L : List Int} {g : zv_H} (t : zt_rw a c L g) : zv_I g (a + 8) 6 = (zm_row c L).length := t.1
theorem zt_rw_id {a : Nat} {c : Nat → Int} {L : List Int} {g : zv_H} (t : zt_rw a c L g) : ∀ (k : Nat) (p : Int × Int), (zm_row c L)[k]? = some p → zv_I g (a + 10) k = zt_id p := t.2
theorem zt_lay77 {d : Nat} {h : zv_H} {a : Nat} {c : Nat → Int} {L : List Int} (hok : ∀ p ∈ zm_row c L, zt_ok p) (hlen : (zm_row c L).length ≤ 604) {P : Option zv_V × zv_H → Prop} (fin : ∀ g, zt_B a c L h g → zt_rw a c L g → zm_R (L4_lay_118 (d + 1) (a + 8) g) P) : ∀ (R A : List (Int × Int)), A ++ R = zm_row c L → ∀ (b : Int) (g : zv_H), 0 ≤ b → zt_B a c L h g → zt_lk (zt_nx a g) b (R.map zt_id) → zv_I g (a + 8) 6 = A.length → (∀ (k : Nat) (p : Int × Int), A[k]? = some p → zv_I g (a + 10) k = zt_id p) → zm_R (L4_lay_77 (d + 1) (a + 8) (zt_nx a g b) A.length g) P := by
  intro R
  induction R with
  | nil =>
    intro A e b g hb B lk h6 hid
    rw [List.append_nil] at e
    have f := fin g B ⟨by rw [h6, e], fun k p hp => hid k p (by rw [e]; exact hp)⟩
    have eb : zt_nx a g b = -1 := lk
    rw [qL4_lay_77]
    by_cases c1 : (A.length : Int) < 604
    · rw [if_pos c1, zm_e (zt_C4_isId _)]
      dsimp only
      rw [eb, if_neg (show ¬ ((0 : Int) ≤ -1 ∧ (-1 : Int) < 604) by decide), if_pos rfl]
      exact f
    · rw [if_neg c1]
      exact f
  | cons p R ih =>
    intro A e b g hb B lk h6 hid
    have la := zt_U_la (zt_B_U B)
    have lr := zt_row_l la
    have gL := zt_B_L B
    have hp : p ∈ zm_row c L := by rw [← e]; exact List.mem_append_right _ List.mem_cons_self
    have idr := zt_id_r (hok p hp)
    have len : A.length < (zm_row c L).length := by rw [← e, List.length_append, List.length_cons]; omega
    have eb : zt_nx a g b = zt_id p := lk.1
    rw [qL4_lay_77, if_pos (by omega), zm_e (zt_C4_isId _)]
    dsimp only
    rw [eb, if_pos idr, if_neg (by decide), zm_e (zl_gF gL lr.1 1 2), show a + 8 + 2 = a + 10 from rfl, zm_e (zl_wI gL lr.2.2.1 (by omega) (by omega) _), zm_w (by omega), show ((A.length : Int)).toNat = A.length by omega]
    have B1 : zt_B a c L h (zv_sI g (a + 10) A.length (zt_id p)) := zt_B_I B _ (zt_xa la (by omega)) (by omega)
    have gL1 := zt_B_L B1
    rw [zm_e (zl_pI gL1 lr.1 6 _)]
    have B2 : zt_B a c L h (zv_sI (zv_sI g (a + 10) A.length (zt_id p)) (a + 8) 6 ((A.length : Int) + 1)) := zt_B_I B1 _ (zt_x4 la (Or.inr (Or.inl rfl))) (by omega)
    have gL2 := zt_B_L B2
    have e13 : ∀ x, zt_nx a (zv_sI (zv_sI g (a + 10) A.length (zt_id p)) (a + 8) 6 ((A.length : Int) + 1)) x = zt_nx a g x := fun x => by
      unfold zt_nx
      rw [zy_In _ _ (by omega), zy_In _ _ (by omega)]
    have e10 : ∀ k, k ≠ A.length → zv_I (zv_sI (zv_sI g (a + 10) A.length (zt_id p)) (a + 8) 6 ((A.length : Int) + 1)) (a + 10) k = zv_I g (a + 10) k := fun k hk => by
      rw [zy_In _ _ (by omega), zy_In _ _ (by omega)]
    have e10' : zv_I (zv_sI (zv_sI g (a + 10) A.length (zt_id p)) (a + 8) 6 ((A.length : Int) + 1)) (a + 10) A.length = zt_id p := by
      rw [zy_In _ _ (by omega), zy_I]
    have e6 : zv_I (zv_sI (zv_sI g (a + 10) A.length (zt_id p)) (a + 8) 6 ((A.length : Int) + 1)) (a + 8) 6 = (A.length : Int) + 1 := zy_I _ _ _ _
    generalize zv_sI (zv_sI g (a + 10) A.length (zt_id p)) (a + 8) 6 ((A.length : Int) + 1) = g2 at B2 gL2 e13 e10 e10' e6
    have ev : zv_I g2 (a + 13) (zt_id p).toNat = zt_nx a g2 (zt_id p) := rfl
    rw [zm_e (zl_gF gL2 lr.1 4 5), show a + 8 + 5 = a + 13 from rfl, zm_e (zl_aI gL2 lr.2.2.2.2.2 idr.1 (by omega)), ev]
    have el : (((A ++ [p]).length : Nat) : Int) = (A.length : Int) + 1 := by rw [List.length_append]; rfl
    have := ih (A ++ [p]) (by rw [List.append_assoc]; exact e) (zt_id p) g2 idr.1 B2 (zt_lk_fr lk.2 (fun x _ => e13 x)) (by rw [e6, el]) (fun k x hx => by
      by_cases ck : k < A.length
      · rw [List.getElem?_append_left ck] at hx
        rw [e10 k (by omega)]
        exact hid k x hx
      · rw [List.getElem?_append_right (by omega)] at hx
        have h9 : k - A.length < 1 := zm_lt_of_get hx
        have hk : k = A.length := by omega
        rw [hk, Nat.sub_self] at hx
        rw [hk, e10', ← Option.some.inj hx])
    rw [el] at this
    exact this
/-- what one sees, were those of v in force -/
def zt_sj (c : Nat → Int) (L : List Int) (v : Int64) (p : Int × Int) : Bool := (decide (p.1 = 0) || zt_b v p.1.toNat) && !(L.any fun t => zt_b v t.toNat && (decide (zm_o c t 2 = 1) && (zm_tk c t).contains p))
/-- the row, looked at -/
def zt_lo (a : Nat) (c : Nat → Int) (L : List Int) (v : Int64) (g : zv_H) : Prop := (∀ (k : Nat) (p : Int × Int), (zm_row c L)[k]? = some p → zv_I g (a + 11) k = if zt_sj c L v p = true then 1 else 0) ∧ (zv_I g (a + 8) 7 = ((zm_row c L).filter (zt_sj c L v)).length)
theorem zt_lo_se {a : Nat} {c : Nat → Int} {L : List Int} {v : Int64} {g : zv_H} (t : zt_lo a c L v g) : ∀ (k : Nat) (p : Int × Int), (zm_row c L)[k]? = some p → zv_I g (a + 11) k = if zt_sj c L v p = true then 1 else 0 := t.1
theorem zt_lo_sn {a : Nat} {c : Nat → Int} {L : List Int} {v : Int64} {g : zv_H} (t : zt_lo a c L v g) : zv_I g (a + 8) 7 = ((zm_row c L).filter (zt_sj c L v)).length := t.2
def zt_cg (c : Nat → Int) (v : Int64) (p : Int × Int) (t : Int) : Bool := zt_b v t.toNat && (decide (zm_o c t 2 = 1) && (zm_tk c t).contains p)
theorem zt_rw_I {a : Nat} {c : Nat → Int} {L : List Int} {g : zv_H} (w : zt_rw a c L g) {r k : Nat} (v : Int) (hn : r ≠ a + 10 ∧ ¬ (r = a + 8 ∧ k = 6)) : zt_rw a c L (zv_sI g r k v) := by
  refine ⟨?_, fun x p hp => ?_⟩
  · rw [zy_In _ _ (by omega)]; exact zt_rw_sz w
  · rw [zy_In _ _ (by omega)]; exact zt_rw_id w x p hp
theorem zt_look2 {d : Nat} {h : zv_H} {a : Nat} {c : Nat → Int} {L : List Int} {v : Int64} {P : Option zv_V × zv_H → Prop} (fin : ∀ g, zt_B a c L h g → zt_rw a c L g → (∀ k : Nat, k < 604 → zv_I g (a + 12) k = 0) → zm_R (L4_look_24 (d + 2) (a + 8) v 0 g) P) : ∀ (n i : Nat) (g : zv_H), i + n = 604 → zt_B a c L h g → zt_rw a c L g → (∀ k : Nat, k < i → zv_I g (a + 12) k = 0) → zm_R (L4_look_2 (d + 2) (a + 8) v i g) P := by
  intro n
  induction n with
  | zero =>
    intro i g hi B w hk
    rw [qL4_look_2, if_neg (by omega)]
    exact fin g B w (fun k hk2 => hk k (by omega))
  | succ n ih =>
    intro i g hi B w hk
    have la := zt_U_la (zt_B_U B)
    have lr := zt_row_l la
    have gL := zt_B_L B
    rw [qL4_look_2, if_pos (by omega), zm_e (zl_gF gL lr.1 3 4), show a + 8 + 4 = a + 12 from rfl, zm_e (zl_wB gL lr.2.2.2.2.1 (by omega) (by omega) (Or.inl rfl)), zm_w (by omega), show ((i : Int)).toNat = i by omega, show (i : Int) + 1 = ((i + 1 : Nat) : Int) by omega]
    refine ih (i + 1) _ (by omega) (zt_B_I B _ (zt_xa la (by omega)) (by omega)) (zt_rw_I w _ (by omega)) (fun k hk2 => ?_)
    by_cases e : k = i
    · rw [e, zy_I]
    · rw [zy_In _ _ (by omega)]
      exact hk k (by omega)
def zt_bi (b : Bool) : Int := if b = true then 1 else 0
theorem zt_bi01 (b : Bool) : zt_bi b = 0 ∨ zt_bi b = 1 := by cases b; exact Or.inl rfl; exact Or.inr rfl
theorem zt_bi0 (b : Bool) : zt_bi b = 0 ↔ b = false := by cases b <;> decide
/-- those of the letters that are gone -/
def zt_gn (a : Nat) (g : zv_H) (f : Int × Int → Bool) : Prop := ∀ p, zt_ok p → zv_I g (a + 12) (zt_id p).toNat = zt_bi (f p)
theorem zt_gn_cg {a : Nat} {g : zv_H} {f f' : Int × Int → Bool} (h : zt_gn a g f) (e : ∀ p, f' p = f p) : zt_gn a g f' := fun p hp => by
  rw [e p]
  exact h p hp
theorem zt_look43 {d : Nat} {h : zv_H} {a : Nat} {c : Nat → Int} {L : List Int} {v : Int64} {t : Int} {m : Nat} (x : Int) (ht : zm_st c t) (he : zm_ed c t) (hm : zm_o c t 5 = m) (hm12 : m ≤ 12) (hJ : zt_b v t.toNat = true) (htk : zm_o c t 2 = 1 → ∀ p ∈ zm_tk c t, zt_ok p) (f : Int × Int → Bool) {P : Option zv_V × zv_H → Prop} (fin : ∀ g, zt_B a c L h g → zt_rw a c L g → zt_gn a g (fun p => f p || zt_cg c v p t) → zm_R (L4_look_24 (d + 2) (a + 8) v (zv_w (x + 1)) g) P) : ∀ (n i : Nat) (g : zv_H), i + n = m → zt_B a c L h g → zt_rw a c L g → zt_gn a g (fun p => f p || (decide (zm_o c t 2 = 1) && ((zm_tk c t).take i).contains p)) → zm_R (L4_look_43 (d + 2) (a + 8) v x (zt_r a t) i g) P := by
  intro n
  induction n with
  | zero =>
    intro i g hi B w hg
    have U := zt_B_U B
    have la := zt_U_la U
    have lu := zt_r_l la ht.1
    have gL := zt_B_L B
    have ht1 := ht.1
    have eb : C5_bit (d + 2) (zt_r a t) g = some (zt_bt t.toNat, g) := by
      rw [zt_r_p ht.1.1]
      exact zt_C5_bit gL la (by omega) (zt_U_nr U _ (by omega))
    have hz : ¬ zv_lcmp (v &&& zt_bt t.toNat) (Int64.ofNat 0) = 0 := fun q => by
      rw [zt_lcmp_bt v (by omega), hJ] at q
      cases q
    rw [qL4_look_43, if_neg (zc_nz lu), zm_e eb]
    dsimp only
    rw [if_neg hz, zm_e (zl_gI gL lu 9), zt_S_sz (zt_U_st U t ht), hm, if_neg (by omega)]
    refine fin g B w (zt_gn_cg hg (fun p => ?_))
    have et : (zm_tk c t).take i = zm_tk c t := List.take_of_length_le (by rw [zm_tk_len]; omega)
    have ez : zt_cg c v p t = (decide (zm_o c t 2 = 1) && (zm_tk c t).contains p) := by
      unfold zt_cg
      rw [hJ, Bool.true_and]
    rw [et, ez]
  | succ n ih =>
    intro i g hi B w hg
    have U := zt_B_U B
    have la := zt_U_la U
    have lr := zt_row_l la
    have lu := zt_r_l la ht.1
    have gL := zt_B_L B
    have ht1 := ht.1
    have S := zt_U_st U t ht
    have eb : C5_bit (d + 2) (zt_r a t) g = some (zt_bt t.toNat, g) := by
      rw [zt_r_p ht.1.1]
      exact zt_C5_bit gL la (by omega) (zt_U_nr U _ (by omega))
    have hz : ¬ zv_lcmp (v &&& zt_bt t.toNat) (Int64.ofNat 0) = 0 := fun q => by
      rw [zt_lcmp_bt v (by omega), hJ] at q
      cases q
    rw [qL4_look_43, if_neg (zc_nz lu), zm_e eb]
    dsimp only
    have w1 : zv_w ((i : Int) + 1) = ((i + 1 : Nat) : Int) := by
      rw [zm_w (by omega)]
      rfl
    rw [if_neg hz, zm_e (zl_gI gL lu 9), zt_S_sz S, hm, if_pos (by omega), w1]
    by_cases c1 : zm_o c t 2 = 1
    · have hget := zm_tk_get c t (i := i) (by omega)
      have hokp := htk c1 _ (List.mem_of_getElem? hget)
      have ecell := zt_S_tk S c1 i _ hget
      have idr := zt_id_r hokp
      have ek : C5_tookAt (d + 2) (zt_r a t) i g = some (zt_id (zm_o c t (52 + 2 * (i : Int)), zm_o c t (52 + 2 * (i : Int) + 1)), g) := by
        rw [zt_C5_tookAt gL lu _, zt_S_ac S, zt_S_sz S, hm, if_pos ⟨c1, by omega, by omega, by omega⟩, show ((i : Int)).toNat = i by omega, ecell]
      rw [zm_e ek]
      dsimp only
      rw [zm_e (zt_C4_isId _)]
      dsimp only
      rw [if_pos idr, if_neg (by decide), zm_e (zl_gF gL lr.1 3 4), show a + 8 + 4 = a + 12 from rfl, zm_e (zl_wB gL lr.2.2.2.2.1 idr.1 (by omega) (Or.inr rfl))]
      refine ih (i + 1) _ (by omega) (zt_B_I B _ (zt_xa la (by omega)) (by omega)) (zt_rw_I w _ (by omega)) (fun p hp => ?_)
      have et : (zm_tk c t).take (i + 1) = (zm_tk c t).take i ++ [(zm_o c t (52 + 2 * (i : Int)), zm_o c t (52 + 2 * (i : Int) + 1))] := by
        rw [List.take_add_one, hget]
        rfl
      have ec : ((zm_tk c t).take (i + 1)).contains p = (((zm_tk c t).take i).contains p || decide (p = (zm_o c t (52 + 2 * (i : Int)), zm_o c t (52 + 2 * (i : Int) + 1)))) := by
        rw [et, Bool.eq_iff_iff, Bool.or_eq_true, List.contains_iff_mem, List.contains_iff_mem, List.mem_append, List.mem_singleton, decide_eq_true_eq]
      show zv_I _ _ _ = zt_bi (f p || (decide (zm_o c t 2 = 1) && ((zm_tk c t).take (i + 1)).contains p))
      rw [ec, decide_eq_true c1, Bool.true_and]
      by_cases ep : p = (zm_o c t (52 + 2 * (i : Int)), zm_o c t (52 + 2 * (i : Int) + 1))
      · rw [decide_eq_true ep, Bool.or_true, Bool.or_true, ep, zy_I]
        rfl
      · have hne : (zt_id p).toNat ≠ (zt_id (zm_o c t (52 + 2 * (i : Int)), zm_o c t (52 + 2 * (i : Int) + 1))).toNat := fun q => ep (zt_id_inj hp hokp (by have := zt_id_r hp; omega))
        have := hg p hp
        dsimp only at this
        rw [decide_eq_true c1, Bool.true_and] at this
        rw [decide_eq_false ep, Bool.or_false, zy_In _ _ (fun q => hne q.2)]
        exact this
    · have ek : C5_tookAt (d + 2) (zt_r a t) i g = some (-1, g) := by
        rw [zt_C5_tookAt gL lu _, zt_S_ac S, if_neg (fun q => c1 q.1)]
      rw [zm_e ek]
      dsimp only
      rw [zm_e (zt_C4_isId _)]
      dsimp only
      rw [if_neg (show ¬ ((0 : Int) ≤ -1 ∧ (-1 : Int) < 604) by decide), if_pos rfl]
      refine ih (i + 1) g (by omega) B w (zt_gn_cg hg (fun p => ?_))
      rw [decide_eq_false c1, Bool.false_and, Bool.false_and]
theorem zt_look24 {d : Nat} {h : zv_H} {a : Nat} {c : Nat → Int} {L : List Int} {v : Int64} (ok : zt_ln_ok c L) (g0 : zm_G0 c L) (gt : ∀ t ∈ L, zm_o c t 2 = 1 → ∀ p ∈ zm_tk c t, p ∈ zm_row c L) (hJ : ∀ t ∈ L, zt_b v t.toNat = true → zm_ed c t) {P : Option zv_V × zv_H → Prop} (fin : ∀ g, zt_B a c L h g → zt_rw a c L g → zt_gn a g (fun p => L.any (zt_cg c v p)) → zm_R (L4_look_24 (d + 2) (a + 8) v L.length g) P) : ∀ (re pr : List Int), pr ++ re = L.reverse → ∀ g, zt_B a c L h g → zt_rw a c L g → zt_gn a g (fun p => pr.any (zt_cg c v p)) → zm_R (L4_look_24 (d + 2) (a + 8) v pr.length g) P := by
  intro re
  induction re with
  | nil =>
    intro pr e g B w hg
    rw [List.append_nil] at e
    rw [e, List.length_reverse]
    refine fin g B w (zt_gn_cg hg (fun p => ?_))
    rw [e, List.any_reverse]
  | cons t re ih =>
    intro pr e g B w hg
    have U := zt_B_U B
    have la := zt_U_la U
    have lr := zt_row_l la
    have gL := zt_B_L B
    have htl : t ∈ L := by
      rw [← List.mem_reverse, ← e]
      exact List.mem_append_right _ List.mem_cons_self
    have st := ok.2.2.1 t htl
    have st1 := st.1
    have lu := zt_r_l la st.1
    have len : L.length = pr.length + (re.length + 1) := by rw [← List.length_reverse (as := L), ← e, List.length_append, List.length_cons]
    have l48 := ok.2.2.2
    have hx : L.reverse[pr.length]? = some t := by
      rw [← e, List.getElem?_append_right (Nat.le_refl _), Nat.sub_self]
      rfl
    have e' : (pr ++ [t]) ++ re = L.reverse := by rw [List.append_assoc]; exact e
    have el : (((pr ++ [t]).length : Nat) : Int) = zv_w ((pr.length : Int) + 1) := by rw [zm_w (by omega), List.length_append]; rfl
    have nx : ∀ g, zt_B a c L h g → zt_rw a c L g → zt_gn a g (fun p => pr.any (zt_cg c v p) || zt_cg c v p t) → zm_R (L4_look_24 (d + 2) (a + 8) v (zv_w ((pr.length : Int) + 1)) g) P := fun g B w hg => by
      rw [← el]
      refine ih (pr ++ [t]) e' g B w (zt_gn_cg hg (fun p => ?_))
      rw [List.any_append, List.any_cons, List.any_nil, Bool.or_false]
    have rd : zv_aR g (a + 9) (pr.length : Int) = some (zt_r a t) := by
      rw [zl_aR gL lr.2.1 (by omega) (by omega), show ((pr.length : Int)).toNat = pr.length by omega, zt_wk_pa (zt_B_wk B) _ _ hx]
    rw [qL4_look_24, zm_e (zl_gI gL lr.1 5), zt_wk_ln (zt_B_wk B), if_pos (by omega), zm_e (zl_gF gL lr.1 0 1), show a + 8 + 1 = a + 9 from rfl, zm_e rd]
    cases hb : zt_b v t.toNat with
    | false =>
      have eb : C5_bit (d + 2) (zt_r a t) g = some (zt_bt t.toNat, g) := by
        rw [zt_r_p st.1.1]
        exact zt_C5_bit gL la (by omega) (zt_U_nr U _ (by omega))
      have hz : zv_lcmp (v &&& zt_bt t.toNat) (Int64.ofNat 0) = 0 := by
        rw [zt_lcmp_bt v (by omega)]
        exact hb
      rw [qL4_look_43, if_neg (zc_nz lu), zm_e eb]
      dsimp only
      rw [if_pos hz]
      refine nx g B w (zt_gn_cg hg (fun p => ?_))
      have ez : zt_cg c v p t = false := by
        unfold zt_cg
        rw [hb, Bool.false_and]
      rw [ez, Bool.or_false]
    | true =>
      have he := hJ t htl hb
      have t0 : t ≠ 0 := fun q => by
        have := g0.2.2.2.1
        rw [q] at he
        rcases he with z | z <;> omega
      have hm := g0.2.2.2.2 t htl t0 he
      refine zt_look43 (d := d) (m := (zm_o c t 5).toNat) _ st he (by omega) (by omega) hb (fun q p hp => zt_row_ok ok.2.2.1 g0 p (gt t htl q p hp)) (fun p => pr.any (zt_cg c v p)) (fun g B w hg => nx g B w hg) (zm_o c t 5).toNat 0 g (Nat.zero_add _) B w (zt_gn_cg hg (fun p => ?_))
      rw [List.take_zero]
      have : ([] : List (Int × Int)).contains p = false := rfl
      rw [this, Bool.and_false, Bool.or_false]
theorem zt_look114 {d : Nat} {h : zv_H} {a : Nat} {c : Nat → Int} {L : List Int} {v : Int64} (hok : ∀ p ∈ zm_row c L, zt_ok p) (hlen : (zm_row c L).length ≤ 604) : ∀ (R A : List (Int × Int)), A ++ R = zm_row c L → ∀ g, zt_B a c L h g → zt_rw a c L g → zt_gn a g (fun p => L.any (zt_cg c v p)) → zv_I g (a + 8) 7 = (A.filter (zt_sj c L v)).length → (∀ (k : Nat) (p : Int × Int), A[k]? = some p → zv_I g (a + 11) k = if zt_sj c L v p = true then 1 else 0) → zm_R (L4_look_114 (d + 2) (a + 8) v A.length g) (zm_V fun h' => zt_B a c L h h' ∧ zt_rw a c L h' ∧ zt_lo a c L v h') := by
  intro R
  induction R with
  | nil =>
    intro A e g B w hg h7 hs
    rw [List.append_nil] at e
    have la := zt_U_la (zt_B_U B)
    have lr := zt_row_l la
    rw [qL4_look_114, zm_e (zl_gI (zt_B_L B) lr.1 6), zt_rw_sz w, e, if_neg (by omega)]
    refine zm_iV ⟨B, w, fun k p hp => hs k p (by rw [e]; exact hp), ?_⟩
    rw [h7, e]
  | cons p R ih =>
    intro A e g B w hg h7 hs
    have la := zt_U_la (zt_B_U B)
    have lr := zt_row_l la
    have gL := zt_B_L B
    have hp : p ∈ zm_row c L := by rw [← e]; exact List.mem_append_right _ List.mem_cons_self
    have okp := hok p hp
    have idr := zt_id_r okp
    have len : (zm_row c L).length = A.length + (R.length + 1) := by rw [← e, List.length_append, List.length_cons]
    have hx : (zm_row c L)[A.length]? = some p := by
      rw [← e, List.getElem?_append_right (Nat.le_refl _), Nat.sub_self]
      rfl
    have e' : (A ++ [p]) ++ R = zm_row c L := by rw [List.append_assoc]; exact e
    have el : (((A ++ [p]).length : Nat) : Int) = (A.length : Int) + 1 := by rw [List.length_append]; rfl
    have hfl : (A.filter (zt_sj c L v)).length ≤ A.length := List.length_filter_le _ _
    -- the mark is set
    have set : ∀ x : Int, x = (if zt_sj c L v p = true then 1 else 0) → zm_R (L4_look_188 (d + 2) (a + 8) v A.length (a + 11) A.length x g) (zm_V fun h' => zt_B a c L h h' ∧ zt_rw a c L h' ∧ zt_lo a c L v h') := by
      intro x ex
      have x01 : x = 0 ∨ x = 1 := by
        rw [ex]
        by_cases q : zt_sj c L v p = true
        · rw [if_pos q]; exact Or.inr rfl
        · rw [if_neg q]; exact Or.inl rfl
      rw [qL4_look_188, zm_e (zl_wB gL lr.2.2.2.1 (by omega) (by omega) x01), show ((A.length : Int)).toNat = A.length by omega]
      have B1 : zt_B a c L h (zv_sI g (a + 11) A.length x) := zt_B_I B _ (zt_xa la (by omega)) (by omega)
      have w1 : zt_rw a c L (zv_sI g (a + 11) A.length x) := zt_rw_I w _ (by omega)
      have gL1 := zt_B_L B1
      have e7 : zv_I (zv_sI g (a + 11) A.length x) (a + 8) 7 = (A.filter (zt_sj c L v)).length := by
        rw [zy_In _ _ (by omega)]; exact h7
      have e11 : zv_I (zv_sI g (a + 11) A.length x) (a + 11) A.length = x := zy_I _ _ _ _
      have f : ∀ y : Int, y = (((A ++ [p]).filter (zt_sj c L v)).length : Int) → zm_R ((zv_pI (zv_sI g (a + 11) A.length x) (a + 8) 4 7 y).bind fun g6 => L4_look_114 (d + 2) (a + 8) v (zv_w ((A.length : Int) + 1)) g6) (zm_V fun h' => zt_B a c L h h' ∧ zt_rw a c L h' ∧ zt_lo a c L v h') := by
        intro y ey
        rw [zm_e (zl_pI gL1 lr.1 7 _), zm_w (by omega), ← el]
        refine ih (A ++ [p]) e' _ (zt_B_I B1 _ (zt_x4 la (Or.inr (Or.inr rfl))) (by omega)) (zt_rw_I w1 _ (by omega)) (fun z hz => ?_) (by rw [zy_I, ey]) (fun k z hz => ?_)
        · rw [zy_In _ _ (by omega), zy_In _ _ (by omega)]
          exact hg z hz
        · rw [zy_In _ _ (by omega)]
          by_cases ck : k < A.length
          · rw [List.getElem?_append_left ck] at hz
            rw [zy_In _ _ (by omega)]
            exact hs k z hz
          · rw [List.getElem?_append_right (by omega)] at hz
            have h9 : k - A.length < 1 := zm_lt_of_get hz
            have hk : k = A.length := by omega
            rw [hk, Nat.sub_self] at hz
            rw [hk, zy_I, ex, ← Option.some.inj hz]
      have r11 : zv_aB (zv_sI g (a + 11) A.length x) (a + 11) (A.length : Int) = some x := by
        rw [zl_aB gL1 lr.2.2.2.1 (by omega) (by omega), show ((A.length : Int)).toNat = A.length by omega, e11]
      rw [zm_e (zl_gI gL1 lr.1 7), e7, zm_e (zl_gF gL1 lr.1 2 3), show a + 8 + 3 = a + 11 from rfl, zm_e r11]
      by_cases q : zt_sj c L v p = true
      · rw [if_pos q] at ex
        rw [if_neg (by omega), zm_w (by omega)]
        refine f _ ?_
        rw [List.filter_append, List.length_append, List.filter_cons_of_pos q]
        rfl
      · rw [if_neg q] at ex
        rw [if_pos ex, zm_w (by omega)]
        refine f _ ?_
        rw [List.filter_append, List.length_append, List.filter_cons_of_neg q]
        rfl
    have eid : zv_aI g (a + 10) (A.length : Int) = some (zt_id p) := by
      rw [zl_aI gL lr.2.2.1 (by omega) (by omega), show ((A.length : Int)).toNat = A.length by omega, zt_rw_id w _ _ hx]
    have egn : zv_aB g (a + 12) (zt_id p) = some (zt_bi (L.any (zt_cg c v p))) := by
      rw [zl_aB gL lr.2.2.2.2.1 idr.1 (by omega), hg p okp]
    have esj : zt_sj c L v p = ((decide (p.1 = 0) || zt_b v p.1.toNat) && !(L.any (zt_cg c v p))) := rfl
    rw [qL4_look_114, zm_e (zl_gI gL lr.1 6), zt_rw_sz w, if_pos (by omega), if_pos (by omega), zm_e (zl_gF gL lr.1 1 2), show a + 8 + 2 = a + 10 from rfl, zm_e eid, zm_e (zt_C4_putter okp)]
    dsimp only
    rw [zm_e (zl_gF gL lr.1 2 3), show a + 8 + 3 = a + 11 from rfl, zm_e (zt_C4_isId _)]
    dsimp only
    rw [if_pos idr, if_neg (by decide), zm_e (zl_gF gL lr.1 3 4), show a + 8 + 4 = a + 12 from rfl, zm_e egn]
    have p48 : 0 ≤ p.1 ∧ p.1 < 48 := by rcases okp with q | q <;> omega
    by_cases q1 : L.any (zt_cg c v p) = true
    · rw [q1, if_neg (by decide), qL4_look_187]
      exact set 0 (by rw [esj, q1, Bool.not_true, Bool.and_false]; rfl)
    · have q1' : L.any (zt_cg c v p) = false := by
        cases z : L.any (zt_cg c v p) with
        | false => rfl
        | true => exact absurd z q1
      rw [q1', if_pos (show zt_bi false = 0 from rfl)]
      by_cases q2 : p.1 = 0
      · rw [if_pos q2, qL4_look_183]
        exact set 1 (by rw [esj, q1', decide_eq_true q2]; rfl)
      · have en : p.1 = ((p.1.toNat : Nat) : Int) := by omega
        rw [if_neg q2]
        by_cases q3 : zv_lcmp (zv_lushr v p.1 &&& Int64.ofNat 1) (Int64.ofNat 0) = 0
        · rw [if_pos q3, qL4_look_187]
          rw [en, zt_lushr v (by omega)] at q3
          exact set 0 (by rw [esj, q1', decide_eq_false q2, q3]; rfl)
        · rw [if_neg q3, qL4_look_183]
          rw [en, zt_lushr v (by omega)] at q3
          have q4 : zt_b v p.1.toNat = true := by
            cases z : zt_b v p.1.toNat with
            | true => rfl
            | false => exact absurd z q3
          exact set 1 (by rw [esj, q1', decide_eq_false q2, q4]; rfl)
theorem zt_look {d : Nat} {h g : zv_H} {a : Nat} {c : Nat → Int} {L : List Int} (v : Int64) (B : zt_B a c L h g) (w : zt_rw a c L g) (ok : zt_ln_ok c L) (g0 : zm_G0 c L) (gt : ∀ t ∈ L, zm_o c t 2 = 1 → ∀ p ∈ zm_tk c t, p ∈ zm_row c L) (hJ : ∀ t ∈ L, zt_b v t.toNat = true → zm_ed c t) : zm_R (C4_look (d + 3) (a + 8) v g) (fun h' => zt_B a c L h h' ∧ zt_rw a c L h' ∧ zt_lo a c L v h') := by
  have la := zt_U_la (zt_B_U B)
  have lr := zt_row_l la
  have hok := zt_row_ok ok.2.2.1 g0
  have hlen : (zm_row c L).length ≤ 604 := by
    have := zm_row_le g0
    have := ok.2.2.2
    omega
  refine zm_cV (fun e => lC4_look (zl_ob (zt_B_L B) lr.1) e) ?_
  rw [qE4_look]
  refine zt_look2 (d := d) (fun g B w hz => ?_) 604 0 g rfl B w (fun k hk => absurd hk (Nat.not_lt_zero _))
  refine zt_look24 (d := d) ok g0 gt hJ (fun g B w hg => ?_) L.reverse [] rfl g B w (fun p hp => ?_)
  · rw [qL4_look_24, zm_e (zl_gI (zt_B_L B) lr.1 5), zt_wk_ln (zt_B_wk B), if_neg (by omega), zm_e (zl_pI (zt_B_L B) lr.1 7 _)]
    exact zt_look114 (d := d) hok hlen (zm_row c L) [] rfl _ (zt_B_I B _ (zt_x4 la (Or.inr (Or.inr rfl))) (by omega)) (zt_rw_I w _ (by omega)) (fun p hp => by rw [zy_In _ _ (by omega)]; exact hg p hp) (zy_I _ _ _ _) (fun k p hp => by cases hp)
  · have := zt_id_r hp
    rw [hz _ (by omega)]
    rfl
/-- all that lies in the cells of a laid row -/
theorem zt_lay {d : Nat} {h : zv_H} {a : Nat} {c : Nat → Int} {s : Int} {l : List Int} (gL : zt_L h) (U : zt_U a c h) (hs : zm_st c s) (hl : zm_Ln c (s :: l) s) : zm_R (C4_lay (d + 4) (a + 8) (zt_r a s) h) (fun h' => zt_B a c (s :: l) h h' ∧ zt_rw a c (s :: l) h' ∧ zt_lo a c (s :: l) (zv_J h' (a + 8) 9) h') := by
  have la := zt_U_la U
  have lr := zt_row_l la
  obtain ⟨ok, g0, gt, W1⟩ := zt_line_u (zt_U_W U) hs hl
  have hok := zt_row_ok ok.2.2.1 g0
  have hlen : (zm_row c (s :: l)).length ≤ 604 := by
    have := zm_row_le g0
    have := ok.2.2.2
    omega
  obtain ⟨g1, e1, L1, q1, wk1⟩ := zt_walk (d := d + 1) gL U hs hl
  refine zm_cV (fun e => lC4_lay (zl_ob gL lr.1) e) ?_
  rw [qE4_lay, zm_e e1, zm_e (zl_gF L1 lr.1 4 5), show a + 8 + 5 = a + 13 from rfl, zm_e (zl_wI L1 lr.2.2.2.2.2 (by decide) (by decide) _)]
  have B1 : zt_B a c (s :: l) h g1 := ⟨L1, zt_U_q U q1, q1, wk1⟩
  have B2 : zt_B a c (s :: l) h (zv_sI g1 (a + 13) (Int.toNat 604) (-1)) := zt_B_I B1 _ (zt_xa la (by omega)) (by omega)
  refine zt_lay16 (d := d + 1) hl ok g0 (fun g B lk => ?_) (s :: l).reverse [] (by rw [List.reverse_reverse, List.append_nil]) _ B2 (zy_I _ _ _ _)
  have gL3 := zt_B_L B
  have B3 : zt_B a c (s :: l) h (zv_sI g (a + 8) 6 0) := zt_B_I B _ (zt_x4 la (Or.inr (Or.inl rfl))) (by omega)
  have lk3 : zt_lk (zt_nx a (zv_sI g (a + 8) 6 0)) 604 (zt_rid c (s :: l)) := zt_lk_fr lk (fun x _ => zy_In _ _ (by omega))
  have r604 : zv_aI (zv_sI g (a + 8) 6 0) (a + 13) 604 = some (zt_nx a (zv_sI g (a + 8) 6 0) 604) := zl_aI (zt_B_L B3) lr.2.2.2.2.2 (by decide) (by decide)
  rw [qL4_lay_16, zm_e (zl_gI gL3 lr.1 5), zt_wk_ln (zt_B_wk B), if_neg (by omega), zm_e (zl_pI gL3 lr.1 6 _), zm_e (zl_gF (zt_B_L B3) lr.1 4 5), show a + 8 + 5 = a + 13 from rfl, zm_e r604]
  refine zt_lay77 (d := d + 2) hok hlen (fun g4 B4 w4 => ?_) (zm_row c (s :: l)) [] rfl 604 _ (by decide) B3 lk3 (zy_I _ _ _ _) (fun k p hp => by cases hp)
  rw [qL4_lay_118, zm_e (zl_gJ (zt_B_L B4) lr.1 9)]
  obtain ⟨g5, e5, B5, w5, o5⟩ := zt_look (d := d) (zv_J g4 (a + 8) 9) B4 w4 ok g0 gt (fun t ht hb => by
    have h1 := (ok.2.2.1 t ht).1
    have := (zt_wk_fo (zt_B_wk B4) t.toNat (by omega)).mp hb
    rw [show ((t.toNat : Nat) : Int) = t by omega] at this
    exact this.2.2.1)
  rw [zm_e e5]
  have ej : zv_J g5 (a + 8) 9 = zv_J g4 (a + 8) 9 := zt_b_ext (fun i hi => by
    rw [Bool.eq_iff_iff, zt_wk_fo (zt_B_wk B5) i hi, zt_wk_fo (zt_B_wk B4) i hi])
  refine zm_iV ⟨B5, w5, ?_⟩
  rw [ej]
  exact o5
/-- the start is in force -/
theorem zt_fc0 {c : Nat → Int} : ∀ {L : List Int} {s : Int}, zm_Ln c L s → (∀ t ∈ L, zt_cw c t) → zm_G0 c L → L ≠ [] → zm_fc c L 0 = 1 := by
  intro L
  induction L with
  | nil => intro s _ _ _ h; exact absurd rfl h
  | cons u b ih =>
    intro s hl hw g _
    have hl' : (s = u ∧ 0 ≤ u ∧ u ≤ 48) ∧ zm_Ln c b (zm_o c u 1) := hl
    by_cases hb : b = []
    · subst hb
      have e : u = 0 := Option.some.inj g.2.1
      rw [e]
      rfl
    · obtain ⟨g1, g2, _⟩ := zm_G0_t hb g
      have h0 := g.2.2.2.1
      have n0 : ¬ zm_nm c u 0 := fun q => by
        have := (zt_cw_nm (hw u List.mem_cons_self) b ⟨⟨rfl, hl'.1.2⟩, hl'.2⟩ 0 (by decide) (by decide) q).2.1
        rcases this with z | z <;> omega
      rw [zm_fc_c c u hb, if_neg (fun q => n0 q.2), if_neg (fun q => g2 q.symm)]
      exact ih hl'.2 (fun t ht => hw t (List.mem_cons_of_mem _ ht)) g1 hb
/-- of what is in force: the very letters that one sees -/
theorem zt_sj_sn {c : Nat → Int} {L : List Int} {s : Int} {v : Int64} (hl : zm_Ln c L s) (ok : zt_ln_ok c L) (hw : ∀ t ∈ L, zt_cw c t) (g : zm_G0 c L) (hv : ∀ t : Nat, t < 64 → (zt_b v t = true ↔ t < 48 ∧ (t : Int) ∈ L ∧ zm_ed c t ∧ zm_fc c L t = 1)) {p : Int × Int} (hp : p ∈ zm_row c L) (hed : p.1 ≠ 0 → zm_ed c p.1) : zt_sj c L v p = zm_sn c L p := by
  have bit : ∀ t ∈ L, zm_ed c t → zt_b v t.toNat = decide (zm_fc c L t = 1) := fun t ht he => by
    have h1 := (ok.2.2.1 t ht).1
    have := hv t.toNat (by omega)
    rw [show ((t.toNat : Nat) : Int) = t by omega] at this
    by_cases q : zm_fc c L t = 1
    · rw [decide_eq_true q]
      exact this.mpr ⟨by omega, ht, he, q⟩
    · rw [decide_eq_false q]
      cases z : zt_b v t.toNat with
      | false => rfl
      | true => exact absurd (this.mp z).2.2.2 q
  have hmem := (zm_row_mem hp).1
  have e1 : (decide (p.1 = 0) || zt_b v p.1.toNat) = decide (zm_fc c L p.1 = 1) := by
    by_cases q : p.1 = 0
    · rw [decide_eq_true q, Bool.true_or, q, zt_fc0 hl hw g (by intro e; rw [e] at hmem; cases hmem)]
      rfl
    · rw [decide_eq_false q, Bool.false_or]
      exact bit _ hmem (hed q)
  have e2 : (L.any fun t => zt_b v t.toNat && (decide (zm_o c t 2 = 1) && (zm_tk c t).contains p)) = zm_cb c L L p := by
    unfold zm_cb
    refine zm_any_cg (fun t ht => ?_)
    by_cases q : zm_o c t 2 = 1
    · rw [decide_eq_true q, Bool.true_and, Bool.true_and, bit t ht (Or.inr q)]
    · rw [decide_eq_false q, Bool.false_and, Bool.and_false, Bool.false_and]
  unfold zt_sj zm_sn
  rw [e1, e2]
theorem zt_row_ed {c : Nat → Int} {p : Int × Int} : ∀ {L : List Int}, p ∈ zm_row c L → L.getLast? = some 0 → p.1 ≠ 0 → zm_o c p.1 2 = 0 := by
  intro L
  induction L with
  | nil => intro h; cases h
  | cons t b ih =>
    intro h hl h0
    by_cases hb : b = []
    · subst hb
      have et : t = 0 := Option.some.inj hl
      rw [zm_row_1, zm_rs_mem, et] at h
      exact absurd h.1 h0
    · rw [zm_row_c c t hb] at h
      have hl' : b.getLast? = some 0 := by
        cases b with
        | nil => exact absurd rfl hb
        | cons u b => rw [List.getLast?_cons_cons] at hl; exact hl
      by_cases c1 : zm_o c t 2 = 0
      · rw [if_pos c1, zm_ins_mem] at h
        rcases h with h | h
        · exact ih h hl' h0
        · rw [(zm_rs_mem.mp h).1]
          exact c1
      · rw [if_neg c1] at h
        exact ih h hl' h0
/-- laid, and looked at as things are -/
theorem zt_lay_sn {a : Nat} {c : Nat → Int} {h g : zv_H} {s : Int} {l : List Int} (hs : zm_st c s) (hl : zm_Ln c (s :: l) s) (B : zt_B a c (s :: l) h g) {p : Int × Int} (hp : p ∈ zm_row c (s :: l)) : zt_sj c (s :: l) (zv_J g (a + 8) 9) p = zm_sn c (s :: l) p := by
  obtain ⟨ok, g0, gt, W1⟩ := zt_line_u (zt_U_W (zt_B_U B)) hs hl
  exact zt_sj_sn hl ok (fun t ht => zt_S_cw (zt_U_st (zt_B_U B) t (ok.2.2.1 t ht))) g0 (zt_wk_fo (zt_B_wk B)) hp (fun q => Or.inl (zt_row_ed hp g0.2.1 q))
end
/-! A10.evr -/
section
/-! ===== the tie: TEST, as the reference reckons it ===== -/
def zt_cm (how v n : Int) : Bool := if how = 0 then decide (v < n) else if how = 1 then decide (v = n) else !(decide (v ≤ n))
/-- codes over a heap of truths, the top first -/
def zt_ev (f : Int → Int) : List Int → List Bool → Bool
  | [], st => st.headD false
  | v :: r, st => if 0 ≤ v then zt_ev f r (zt_cm ((v.tdiv 6).tmod 3) (f (v.tmod 6)) (v.tdiv 18) :: st) else if v = -1 then (match st with | [] => false | b :: st => zt_ev f r ((!b) :: st)) else (match st with | [] => false | [_] => false | y :: x :: st => zt_ev f r ((if v = -2 then x && y else x || y) :: st))
theorem zt_ev_p {f : Int → Int} {v : Int} {r : List Int} {st : List Bool} (hv : 0 ≤ v) : zt_ev f (v :: r) st = zt_ev f r (zt_cm ((v.tdiv 6).tmod 3) (f (v.tmod 6)) (v.tdiv 18) :: st) := if_pos hv
theorem zt_ev_n {f : Int → Int} {r : List Int} {b : Bool} {st : List Bool} : zt_ev f (-1 :: r) (b :: st) = zt_ev f r ((!b) :: st) := rfl
theorem zt_ev_2 {f : Int → Int} {v : Int} {r : List Int} {x y : Bool} {st : List Bool} (h0 : ¬ 0 ≤ v) (h1 : v ≠ -1) : zt_ev f (v :: r) (y :: x :: st) = zt_ev f r ((if v = -2 then x && y else x || y) :: st) := by
  show (if 0 ≤ v then _ else if v = -1 then _ else _) = _
  rw [if_neg h0, if_neg h1]
theorem zt_compares (d : Nat) (a b n : Int) (h : zv_H) : C9_compares (d + 1) a b n h = some (zt_bi (zt_cm a b n), h) := by
  refine lC9_compares ?_
  rw [qE9_compares]
  unfold zt_cm
  by_cases c1 : a = 0
  · rw [if_pos c1, if_pos c1]
    by_cases c2 : b < n
    · rw [if_pos c2, decide_eq_true c2]; rfl
    · rw [if_neg c2, decide_eq_false c2]; rfl
  · rw [if_neg c1, if_neg c1]
    by_cases c2 : a = 1
    · rw [if_pos c2, if_pos c2]
      by_cases c3 : b = n
      · rw [if_pos c3, decide_eq_true c3]; rfl
      · rw [if_neg c3, decide_eq_false c3]; rfl
    · rw [if_neg c2, if_neg c2]
      by_cases c3 : b ≤ n
      · rw [if_pos c3, decide_eq_true c3]; rfl
      · rw [if_neg c3, decide_eq_false c3]; rfl
/-- the heap of truths in its cells, the top first -/
def zt_sk (h : zv_H) (st : List Bool) : Prop := ∀ (k : Nat) (b : Bool), st[k]? = some b → zv_I h 359 (st.length - 1 - k) = zt_bi b
theorem zt_sk_push {h : zv_H} {st : List Bool} (s : zt_sk h st) (b : Bool) : zt_sk (zv_sI h 359 st.length (zt_bi b)) (b :: st) := by
  intro k x hx
  cases k with
  | zero =>
    have e : b = x := Option.some.inj hx
    rw [← e]
    exact zy_I _ _ _ _
  | succ k =>
    have hx' : st[k]? = some x := hx
    have hk := zm_lt_of_get hx'
    rw [List.length_cons, show st.length + 1 - 1 - (k + 1) = st.length - 1 - k by omega, zy_In _ _ (by omega)]
    exact s k x hx'
theorem zt_sk_pop {h : zv_H} {b : Bool} {st : List Bool} (s : zt_sk h (b :: st)) : zt_sk h st := by
  intro k x hx
  have hk := zm_lt_of_get hx
  have := s (k + 1) x hx
  rw [List.length_cons, show st.length + 1 - 1 - (k + 1) = st.length - 1 - k by omega] at this
  exact this
theorem zt_sk_top {h : zv_H} {b : Bool} {st : List Bool} (s : zt_sk h (b :: st)) : zv_I h 359 st.length = zt_bi b := by
  have := s 0 b rfl
  rw [List.length_cons, show st.length + 1 - 1 - 0 = st.length by omega] at this
  exact this
theorem zt_holds_l (d : Nat) : ∀ (r : List Int) (k : Nat) (st : List Bool) (h : zv_H), zm_M h → (∀ (j : Nat) (x : Int), r[j]? = some x → zv_I h 348 (8 + (k + j)) = x ∧ x < 100000) → zv_I h 348 4 = ((k + r.length : Nat) : Int) → k + r.length ≤ 392 → st.length ≤ k → zm_ph r st.length → zt_sk h st → ∃ h', L9_holds_60 (d + 1) 347 st.length k h = some (some (zv_i (zt_bi (zt_ev (fun i => zv_I h 358 i.toNat) r st))), h') ∧ zm_F [359] [] h h'
  | [], k, st, h, hM, _, h4, hn, t1, hp, hs => by
    have e1 : (st.length : Int) = 1 := hp
    rw [List.length_nil] at h4
    obtain ⟨b, rfl⟩ : ∃ b, st = [b] := by
      cases st with
      | nil => cases e1
      | cons b st =>
        cases st with
        | nil => exact ⟨b, rfl⟩
        | cons x st => rw [List.length_cons, List.length_cons] at e1; omega
    have h0 : zv_I h 359 (Int.toNat 0) = zt_bi b := zt_sk_top hs
    rw [qL9_holds_60, zm_e (zm_f0 hM), zm_e (zm_aI hM zm_l348 rfl (by decide) (by decide)), show zv_I h 348 (Int.toNat 4) = _ from h4, if_neg (by omega), zm_e (zm_f16 hM), zm_e (zm_aB hM zm_l359 (Or.inl rfl) rfl (by decide) (by decide)), h0, if_pos (zt_bi01 b)]
    exact ⟨_, rfl, zm_F_r _ _ h⟩
  | v :: r, k, st, h, hM, hr, h4, hn, t1, hp, hs => by
    rw [List.length_cons] at h4 hn
    have hv : zv_I h 348 (8 + k) = v := (hr 0 v rfl).1
    have hv2 : v < 100000 := (hr 0 v rfl).2
    have w1 : zv_w ((k : Int) + 1) = ((k + 1 : Nat) : Int) := by
      rw [zm_w (by omega)]
      rfl
    have go : ∀ (b : Bool) (st' : List Bool) (t : Int), zt_sk h st' → t = ((st'.length + 1 : Nat) : Int) → st'.length ≤ k → zm_ph r t → ∃ h', ((zv_wB h 359 (st'.length : Int) (zt_bi b)).bind fun g => L9_holds_60 (d + 1) 347 t ((k + 1 : Nat) : Int) g) = some (some (zv_i (zt_bi (zt_ev (fun i => zv_I h 358 i.toNat) r (b :: st')))), h') ∧ zm_F [359] [] h h' := by
      intro b st' t sk et lk hph
      have nz : zv_nz (zt_bi b) = zt_bi b := by cases b <;> rfl
      rw [zm_e (zm_wB hM zm_l359 rfl (by omega) (by omega) _), nz, show ((st'.length : Int)).toNat = st'.length by omega, et]
      obtain ⟨h', e1, e2⟩ := zt_holds_l d r (k + 1) (b :: st') (zv_sI h 359 st'.length (zt_bi b)) hM (fun j x hx => by
        rw [zm_so h _ _, show k + 1 + j = k + (j + 1) by omega]
        exact hr (j + 1) x hx) (by rw [zm_so h _ _, h4]; omega) (by omega) (by rw [List.length_cons]; omega) (by rw [List.length_cons, ← et]; exact hph) (zt_sk_push sk b)
      have ef : (fun i : Int => zv_I (zv_sI h 359 st'.length (zt_bi b)) 358 i.toNat) = fun i : Int => zv_I h 358 i.toNat := by
        funext i
        rw [zm_so h _ _]
      rw [ef] at e1
      exact ⟨h', e1, zm_F_t (zm_F_I (zm_F_r _ _ h) rfl _ _) e2⟩
    have rd : ∀ i : Int, 0 ≤ i → i < 400 → zv_aB h 359 i = some (zv_I h 359 i.toNat) := fun i i0 i1 => zm_aB hM zm_l359 (Or.inl rfl) rfl i0 (by omega)
    have hp2 : if 0 ≤ v then zm_ph r ((st.length : Int) + 1) else if v = -1 then 1 ≤ (st.length : Int) ∧ zm_ph r st.length else 2 ≤ (st.length : Int) ∧ zm_ph r ((st.length : Int) - 1) := hp
    rw [qL9_holds_60, zm_e (zm_f0 hM), zm_e (zm_aI hM zm_l348 rfl (by decide) (by decide)), show zv_I h 348 (Int.toNat 4) = _ from h4, if_pos (by omega), zm_e (zm_f0 hM), zm_w (x := 8 + (k : Int)) (by omega), zm_e (zm_aI hM zm_l348 rfl (by omega) (by omega)), show (8 + (k : Int)).toNat = 8 + k by omega, hv, w1]
    by_cases c1 : 0 ≤ v
    · rw [if_pos c1] at hp2
      have hm := zm_tmod (n := 6) c1 (by decide)
      have d6 : zv_w (v.tdiv 6) = v.tdiv 6 := zm_w (by rw [Int.tdiv_eq_ediv_of_nonneg c1]; omega)
      have d18 : zv_w (v.tdiv 18) = v.tdiv 18 := zm_w (by rw [Int.tdiv_eq_ediv_of_nonneg c1]; omega)
      rw [if_neg (by omega), zm_e (zm_f16 hM), zm_e (zm_f15 hM), zm_e (zm_aI hM zm_l358 rfl hm.1 (by omega)), zm_e (zt_compares d _ _ _ h), zm_w (x := (st.length : Int) + 1) (by omega), d6, d18, zt_ev_p c1]
      exact go _ st _ hs (by omega) t1 hp2
    · rw [if_neg c1] at hp2
      rw [if_pos (by omega)]
      by_cases c2 : v = -1
      · rw [if_pos c2] at hp2
        obtain ⟨p1, p2⟩ := hp2
        cases st with
        | nil => exact absurd p1 (by decide)
        | cons b st =>
          have top := zt_sk_top hs
          rw [List.length_cons] at p2 t1 ⊢
          have e1 : ((st.length + 1 : Nat) : Int) - 1 = (st.length : Int) := by omega
          rw [if_pos c2, zm_e (zm_f16 hM), zm_e (zm_f16 hM), zm_w (by omega), e1, zm_e (rd _ (by omega) (by omega)), show ((st.length : Int)).toNat = st.length by omega, top, c2, zt_ev_n]
          cases b with
          | false =>
            rw [if_pos (show zt_bi false = 0 from rfl)]
            exact go true st _ (zt_sk_pop hs) rfl (by omega) p2
          | true =>
            rw [if_neg (show ¬ zt_bi true = 0 by decide)]
            exact go false st _ (zt_sk_pop hs) rfl (by omega) p2
      · rw [if_neg c2] at hp2
        obtain ⟨p1, p2⟩ := hp2
        cases st with
        | nil => exact absurd p1 (by decide)
        | cons y st =>
          cases st with
          | nil =>
            rw [List.length_cons, List.length_nil] at p1
            omega
          | cons x st =>
            have ty := zt_sk_top hs
            have tx := zt_sk_top (zt_sk_pop hs)
            rw [List.length_cons] at ty
            rw [List.length_cons, List.length_cons] at p2 t1 ⊢
            have e1 : zv_w (((st.length + 1 + 1 : Nat) : Int) + -1) = ((st.length + 1 : Nat) : Int) := by
              rw [zm_w (by omega)]
              omega
            have e2 : zv_w (((st.length + 1 : Nat) : Int) - 1) = (st.length : Int) := by
              rw [zm_w (by omega)]
              omega
            have e3 : ((st.length + 1 + 1 : Nat) : Int) - 1 = ((st.length + 1 : Nat) : Int) := by omega
            rw [e3] at p2
            have rx : zv_aB h 359 (st.length : Int) = some (zt_bi x) := by
              rw [rd _ (by omega) (by omega), show ((st.length : Int)).toNat = st.length by omega, tx]
            have ry : zv_aB h 359 ((st.length + 1 : Nat) : Int) = some (zt_bi y) := by
              rw [rd _ (by omega) (by omega), show ((st.length + 1 : Nat) : Int).toNat = st.length + 1 by omega, ty]
            have G := fun b => go b st _ (zt_sk_pop (zt_sk_pop hs)) rfl (by omega) p2
            rw [if_neg c2, zm_e (zm_f16 hM), e1, e2, zt_ev_2 c1 c2]
            by_cases c3 : v = -2
            · rw [if_pos c3, zm_e (zm_f16 hM), zm_e rx, if_pos c3]
              cases x with
              | false =>
                rw [if_pos (show zt_bi false = 0 from rfl)]
                exact G false
              | true =>
                rw [if_neg (show ¬ zt_bi true = 0 by decide), zm_e (zm_f16 hM), zm_e ry]
                cases y with
                | false =>
                  rw [if_pos (show zt_bi false = 0 from rfl)]
                  exact G false
                | true =>
                  rw [if_neg (show ¬ zt_bi true = 0 by decide)]
                  exact G true
            · rw [if_neg c3, zm_e (zm_f16 hM), zm_e rx, if_neg c3]
              cases x with
              | false =>
                rw [if_pos (show zt_bi false = 0 from rfl), zm_e (zm_f16 hM), zm_e ry]
                cases y with
                | false =>
                  rw [if_pos (show zt_bi false = 0 from rfl)]
                  exact G false
                | true =>
                  rw [if_neg (show ¬ zt_bi true = 0 by decide)]
                  exact G true
              | true =>
                rw [if_neg (show ¬ zt_bi true = 0 by decide)]
                exact G true
/-- whether a TEST holds -/
def zt_hd (c : Nat → Int) (f : Int → Int) : Bool := if c 4 = 0 then decide (f 0 < 3) && (decide (f 3 = 1) && (decide (f 4 = 1) && decide (f 1 < 8))) else zt_ev f (zm_cd c) []
/-- codes as they come -/
def zt_ck (c : Nat → Int) : Prop := ∀ x ∈ zm_cd c, x < 100000
theorem zt_holds {h : zv_H} {c : Nat → Int} (hM : zm_M h) (hc : zv_I h 348 = c) (w : zm_Wh c) (ck : zt_ck c) (d : Nat) : zm_R (C9_holds (d + 2) 347 h) (fun q => q.1 = zt_bi (zt_hd c (fun i => zv_I h 358 i.toNat)) ∧ zm_F [359] [] h q.2) := by
  refine zm_cI (P := fun v h' => v = zt_bi (zt_hd c (fun i => zv_I h 358 i.toNat)) ∧ zm_F [359] [] h h') (lC9_holds (zm_ob hM)) ?_
  have rf : ∀ i : Int, 0 ≤ i → i < 6 → zv_aI h 358 i = some (zv_I h 358 i.toNat) := fun i i0 i1 => zm_aI hM zm_l358 rfl i0 (by omega)
  rw [qE9_holds, zm_e (zm_f0 hM), zm_e (zm_aI hM zm_l348 rfl (by decide) (by decide)), hc]
  by_cases c1 : c (Int.toNat 4) = 0
  · have z : ∀ b : Bool, zt_hd c (fun i => zv_I h 358 i.toNat) = b → zm_R (some (some (zv_i (zt_bi b)), h)) (zm_I fun v h' => v = zt_bi (zt_hd c (fun i => zv_I h 358 i.toNat)) ∧ zm_F [359] [] h h') := fun b e => zm_iI ⟨by rw [e], zm_F_r _ _ h⟩
    have eh : zt_hd c (fun i => zv_I h 358 i.toNat) = (decide (zv_I h 358 (Int.toNat 0) < 3) && (decide (zv_I h 358 (Int.toNat 3) = 1) && (decide (zv_I h 358 (Int.toNat 4) = 1) && decide (zv_I h 358 (Int.toNat 1) < 8)))) := if_pos c1
    rw [if_pos c1, zm_e (zm_f15 hM), zm_e (rf 0 (by decide) (by decide))]
    refine zm_if (fun q0 => ?_) (fun q0 => z false (by rw [eh, decide_eq_false q0]; rfl))
    rw [zm_e (zm_f15 hM), zm_e (rf 3 (by decide) (by decide))]
    refine zm_if (fun q3 => ?_) (fun q3 => z false (by rw [eh, decide_eq_true q0, decide_eq_false q3]; rfl))
    rw [zm_e (zm_f15 hM), zm_e (rf 4 (by decide) (by decide))]
    refine zm_if (fun q4 => ?_) (fun q4 => z false (by rw [eh, decide_eq_true q0, decide_eq_true q3, decide_eq_false q4]; rfl))
    rw [zm_e (zm_f15 hM), zm_e (rf 1 (by decide) (by decide))]
    exact zm_if (fun q1 => z true (by rw [eh, decide_eq_true q0, decide_eq_true q3, decide_eq_true q4, decide_eq_true q1]; rfl)) (fun q1 => z false (by rw [eh, decide_eq_true q0, decide_eq_true q3, decide_eq_true q4, decide_eq_false q1]; rfl))
  · rw [if_neg c1]
    obtain ⟨_, w2, w3, _⟩ := w
    have hph : zm_ph (zm_cd c) 0 := by
      rcases w3 with q | q
      · exact absurd q c1
      · exact q
    have hlen : (zm_cd c).length = (c 4).toNat := by
      unfold zm_cd
      rw [List.length_map, List.length_range]
    obtain ⟨h', e1, e3⟩ := zt_holds_l d (zm_cd c) 0 [] h hM (fun j x hx => by
      refine ⟨?_, ck x (List.mem_of_getElem? hx)⟩
      have hj := zm_lt_of_get hx
      rw [hlen] at hj
      unfold zm_cd at hx
      rw [List.getElem?_map, List.getElem?_range hj] at hx
      rw [hc, Nat.zero_add]
      exact Option.some.inj hx) (by rw [hc, hlen]; omega) (by omega) (Nat.le_refl _) hph (fun k b hb => by cases hb)
    have eh : zt_hd c (fun i => zv_I h 358 i.toNat) = zt_ev (fun i => zv_I h 358 i.toNat) (zm_cd c) [] := if_neg c1
    rw [show L9_holds_60 (d + 1) 347 0 0 h = _ from e1, ← eh]
    exact zm_iI ⟨rfl, e3⟩
/-- near, as numbers -/
def zt_nr (c : Nat → Int) (p a b n : Int) : Bool := if a = 0 then (if zm_o c p 2 = 0 then decide (b = zv_w (zm_o c p 4 + zm_o c p 5)) else decide (b = zm_o c p 4)) else (if zm_o c p 2 = 0 then decide (zv_w (b + n) = zv_w (zm_o c p 4 + zm_o c p 5)) else (decide (b = zm_o c p 4) || decide (zv_w (b + n) = zm_o c p 4)))
theorem zt_dd {p : Prop} [Decidable p] {h : zv_H} : (if p then (some (some (zv_i (1 : Int)), h) : zv_O) else some (some (zv_i (0 : Int)), h)) = some (some (zv_i (zt_bi (decide p))), h) := by
  by_cases q : p
  · rw [if_pos q, decide_eq_true q]; rfl
  · rw [if_neg q, decide_eq_false q]; rfl
theorem zt_isNear {h : zv_H} (hM : zm_M h) (d : Nat) (a b n : Int) {p : Int} (hp : 0 ≤ p ∧ p ≤ 48) : C9_isNear (d + 2) 347 a b n p h = some (zt_bi (zt_nr (zv_I h 348) p a b n), h) := by
  refine lC9_isNear (zm_ob hM) ?_
  rw [qE9_isNear, zm_e (zm_of hM d hp (by decide))]
  dsimp only
  unfold zt_nr
  by_cases c1 : zm_o (zv_I h 348) p 2 = 0
  · rw [if_pos c1, qL9_isNear_15, zm_e (zm_of hM d hp (by decide)), zm_e (zm_of hM d hp (by decide))]
    dsimp only
    by_cases c2 : a = 0
    · rw [if_pos c2, if_neg (by decide), if_pos c2, if_pos c1, zt_dd]
    · rw [if_neg c2, if_neg (by decide), if_neg c2, if_pos c1, zt_dd]
  · rw [if_neg c1, qL9_isNear_15, zm_e (zm_of hM d hp (by decide)), zm_e (zm_of hM d hp (by decide))]
    dsimp only
    by_cases c2 : a = 0
    · rw [if_pos c2, if_pos rfl, if_pos c2, if_neg c1, zt_dd]
    · rw [if_neg c2, if_pos rfl, if_neg c2, if_neg c1, zt_dd]
      by_cases c3 : b = zm_o (zv_I h 348) p 4
      · rw [if_pos c3, decide_eq_true c3, Bool.true_or]; rfl
      · rw [if_neg c3, decide_eq_false c3, Bool.false_or]
/-- how deep a state lies -/
def zt_dp (c : Nat → Int) (s n : Int) : Prop := ∃ l, zm_Ln c (s :: l) s ∧ n = l.length
/-- what is asked of a new act behind here -/
def zt_fa (c : Nat → Int) (n1 n2 a b n : Int) (i : Int) : Int := if i = 0 then zv_w (c 1 - zm_o c (c 0) 3) else if i = 1 then zv_w (zv_w (n1 - n2) + 1) else if i = 2 then a else if i = 3 then (if zm_o c (c 0) 2 = a then 1 else 0) else if i = 4 then zt_bi (zt_nr c (c 0) a b n) else n
def zt_jn (c : Nat → Int) (n1 n2 a b n : Int) : Bool := decide (zm_ed c (c 0)) && zt_hd c (zt_fa c n1 n2 a b n)
theorem zt_ev_cg {f g : Int → Int} (hfg : ∀ i : Int, 0 ≤ i → i < 6 → f i = g i) : ∀ (r : List Int) (st : List Bool), zt_ev f r st = zt_ev g r st
  | [], st => rfl
  | v :: r, st => by
    by_cases c1 : 0 ≤ v
    · have hm := zm_tmod (n := 6) c1 (by decide)
      rw [zt_ev_p c1, zt_ev_p c1, hfg _ hm.1 hm.2, zt_ev_cg hfg r]
    · by_cases c2 : v = -1
      · subst c2
        cases st with
        | nil => rfl
        | cons b st => rw [zt_ev_n, zt_ev_n, zt_ev_cg hfg r]
      · cases st with
        | nil =>
          show (if 0 ≤ v then _ else if v = -1 then _ else _) = (if 0 ≤ v then _ else if v = -1 then _ else _)
          simp only [if_neg c1, if_neg c2]
        | cons y st =>
          cases st with
          | nil =>
            show (if 0 ≤ v then _ else if v = -1 then _ else _) = (if 0 ≤ v then _ else if v = -1 then _ else _)
            simp only [if_neg c1, if_neg c2]
          | cons x st => rw [zt_ev_2 c1 c2, zt_ev_2 c1 c2, zt_ev_cg hfg r]
theorem zt_hd_cg {c : Nat → Int} {f g : Int → Int} (hfg : ∀ i : Int, 0 ≤ i → i < 6 → f i = g i) : zt_hd c f = zt_hd c g := by
  unfold zt_hd
  rw [zt_ev_cg hfg, hfg 0 (by decide) (by decide), hfg 1 (by decide) (by decide), hfg 3 (by decide) (by decide), hfg 4 (by decide) (by decide)]
theorem zt_joins {h : zv_H} {c : Nat → Int} (hM : zm_M h) (hc : zv_I h 348 = c) (w : zm_W c) (ck : zt_ck c) (d : Nat) (a b n : Int) : zm_R (C9_joins (d + 3) 347 a b n h) (fun q => (∃ n1 n2, zt_dp c (c 0) n1 ∧ (zm_ed c (c 0) → zt_dp c (zm_o c (c 0) 6) n2) ∧ q.1 = zt_bi (zt_jn c n1 n2 a b n)) ∧ zm_F [358, 359] [] h q.2) := by
  refine zm_cI (P := fun v h' => (∃ n1 n2, zt_dp c (c 0) n1 ∧ (zm_ed c (c 0) → zt_dp c (zm_o c (c 0) 6) n2) ∧ v = zt_bi (zt_jn c n1 n2 a b n)) ∧ zm_F [358, 359] [] h h') (lC9_joins (zm_ob hM)) ?_
  obtain ⟨w1, w2, w3⟩ := w
  obtain ⟨l, l1, l2, l3, l4⟩ := zm_W_l w1 w2
  have hp := w2.1
  rw [qE9_joins, zm_e (zm_here hM _), hc]
  dsimp only
  rw [zm_e (zm_isEdit hM _ (by omega)), hc]
  dsimp only
  by_cases c1 : zm_ed c (c 0)
  · have h0 : c 0 ≠ 0 := by
      intro q
      rw [q] at c1
      have := w1.2.1.2.2.1
      rcases c1 with q2 | q2
      · rw [this] at q2
        cases q2
      · rw [this] at q2
        cases q2
    have hf := l1.2.2.1 h0
    obtain ⟨fa, fb, fe, fl⟩ := zm_Ln_s l1.1 _ hf.1
    have flen := congrArg List.length fe
    rw [List.length_cons, List.length_append, List.length_cons] at flen
    rw [if_pos c1, if_neg (by decide), zm_e (zm_f15 hM), zm_e (zm_f0 hM), zm_e (zm_aI hM zm_l348 rfl (by decide) (by decide)), zm_e (zm_of hM _ (by omega) (by decide)), hc]
    dsimp only
    rw [zm_e (zm_wI hM zm_l358 rfl (by decide) (by decide) _)]
    generalize ev0 : zv_w (c (Int.toNat 1) - zm_o c (c 0) 3) = v0
    have f1 : zm_F [358, 359] [] h (zv_sI h 358 (Int.toNat 0) v0) := zm_F_I (zm_F_r _ _ h) rfl _ _
    have k1 : zv_I (zv_sI h 358 (Int.toNat 0) v0) 358 = zm_u (zv_I h 358) 0 v0 := zm_ss _ _ _ _
    generalize zv_sI h 358 (Int.toNat 0) v0 = h1 at f1 k1
    have hM1 := zm_F_M f1 hM
    have e1 : zv_I h1 348 = c := (zm_F_a f1 348).trans hc
    have hl1 : zm_Ln (zv_I h1 348) (c 0 :: l) (c 0) := by
      rw [e1]
      exact l1.1
    have hl2 : zm_Ln (zv_I h1 348) (zm_o c (c 0) 6 :: fb) (zm_o c (c 0) 6) := by
      rw [e1]
      exact fl
    rw [zm_e (zm_f15 hM1), zm_e (zm_depthOf hM1 (d + 0) hl1 (by omega))]
    dsimp only
    rw [zm_e (zm_of hM1 _ (by omega) (by decide)), e1]
    dsimp only
    rw [zm_e (zm_depthOf hM1 (d + 0) hl2 (by omega))]
    dsimp only
    rw [zm_e (zm_wI hM1 zm_l358 rfl (by decide) (by decide) _)]
    generalize ev1 : zv_w (zv_w ((l.length : Int) - (fb.length : Int)) + 1) = v1
    have f2 : zm_F [358, 359] [] h (zv_sI h1 358 (Int.toNat 1) v1) := zm_F_I f1 rfl _ _
    have k2 : zv_I (zv_sI h1 358 (Int.toNat 1) v1) 358 = zm_u (zv_I h1 358) 1 v1 := zm_ss _ _ _ _
    generalize zv_sI h1 358 (Int.toNat 1) v1 = h2 at f2 k2
    have hM2 := zm_F_M f2 hM
    rw [zm_e (zm_f15 hM2), zm_e (zm_wI hM2 zm_l358 rfl (by decide) (by decide) _)]
    have f3 : zm_F [358, 359] [] h (zv_sI h2 358 (Int.toNat 2) a) := zm_F_I f2 rfl _ _
    have k3 : zv_I (zv_sI h2 358 (Int.toNat 2) a) 358 = zm_u (zv_I h2 358) 2 a := zm_ss _ _ _ _
    generalize zv_sI h2 358 (Int.toNat 2) a = h3 at f3 k3
    have hM3 := zm_F_M f3 hM
    have e3 : zv_I h3 348 = c := (zm_F_a f3 348).trans hc
    rw [zm_e (zm_f15 hM3), zm_e (zm_of hM3 _ (by omega) (by decide)), e3]
    dsimp only
    have l92 : ∀ v : Int, v = (if zm_o c (c 0) 2 = a then 1 else 0) → zm_R (L9_joins_92 (d + 2) 347 a b n (c 0) 358 3 v h3) (zm_I fun v h' => (∃ n1 n2, zt_dp c (c 0) n1 ∧ (zm_ed c (c 0) → zt_dp c (zm_o c (c 0) 6) n2) ∧ v = zt_bi (zt_jn c n1 n2 a b n)) ∧ zm_F [358, 359] [] h h') := by
      intro v3 ev3
      have f4 : zm_F [358, 359] [] h (zv_sI h3 358 (Int.toNat 3) v3) := zm_F_I f3 rfl _ _
      have k4 : zv_I (zv_sI h3 358 (Int.toNat 3) v3) 358 = zm_u (zv_I h3 358) 3 v3 := zm_ss _ _ _ _
      rw [qL9_joins_92, zm_e (zm_wI hM3 zm_l358 rfl (by decide) (by decide) _)]
      generalize zv_sI h3 358 (Int.toNat 3) v3 = h4 at f4 k4
      have hM4 := zm_F_M f4 hM
      have e4 : zv_I h4 348 = c := (zm_F_a f4 348).trans hc
      rw [zm_e (zm_f15 hM4), zm_e (zt_isNear hM4 d a b n (p := c 0) (by omega)), e4]
      dsimp only
      have l115 : ∀ v : Int, v = zt_bi (zt_nr c (c 0) a b n) → zm_R (L9_joins_115 (d + 2) 347 n 358 4 v h4) (zm_I fun v h' => (∃ n1 n2, zt_dp c (c 0) n1 ∧ (zm_ed c (c 0) → zt_dp c (zm_o c (c 0) 6) n2) ∧ v = zt_bi (zt_jn c n1 n2 a b n)) ∧ zm_F [358, 359] [] h h') := by
        intro v4 ev4
        have f5 : zm_F [358, 359] [] h (zv_sI h4 358 (Int.toNat 4) v4) := zm_F_I f4 rfl _ _
        have k5 : zv_I (zv_sI h4 358 (Int.toNat 4) v4) 358 = zm_u (zv_I h4 358) 4 v4 := zm_ss _ _ _ _
        rw [qL9_joins_115, zm_e (zm_wI hM4 zm_l358 rfl (by decide) (by decide) _)]
        generalize zv_sI h4 358 (Int.toNat 4) v4 = h5 at f5 k5
        have hM5 := zm_F_M f5 hM
        have f6 : zm_F [358, 359] [] h (zv_sI h5 358 (Int.toNat 5) n) := zm_F_I f5 rfl _ _
        have k6 : zv_I (zv_sI h5 358 (Int.toNat 5) n) 358 = zm_u (zv_I h5 358) 5 n := zm_ss _ _ _ _
        rw [zm_e (zm_f15 hM5), zm_e (zm_wI hM5 zm_l358 rfl (by decide) (by decide) _)]
        generalize zv_sI h5 358 (Int.toNat 5) n = h6 at f6 k6
        have hM6 := zm_F_M f6 hM
        obtain ⟨⟨b7, h7⟩, e7, q7, f7⟩ := zt_holds hM6 ((zm_F_a f6 348).trans hc) w3 ck d
        rw [zm_e e7]
        dsimp only at q7 f7 ⊢
        have ef : zt_hd c (fun i => zv_I h6 358 i.toNat) = zt_hd c (zt_fa c l.length fb.length a b n) := zt_hd_cg (fun i i0 i1 => by
          rw [k6, k5, k4, k3, k2, k1]
          unfold zm_u zt_fa
          by_cases z5 : i = 5
          · subst z5; rfl
          · by_cases z4 : i = 4
            · subst z4; exact ev4
            · by_cases z3 : i = 3
              · subst z3; exact ev3
              · by_cases z2 : i = 2
                · subst z2; rfl
                · by_cases z1 : i = 1
                  · subst z1; exact ev1.symm
                  · have z0 : i = 0 := by omega
                    subst z0
                    exact ev0.symm)
        rw [ef] at q7
        rw [if_pos (by rw [q7]; exact zt_bi01 _)]
        refine zm_iI ⟨⟨l.length, fb.length, ⟨l, l1.1, rfl⟩, fun _ => ⟨fb, fl, rfl⟩, ?_⟩, zm_F_t f6 (zm_F_s f7 rfl rfl)⟩
        rw [q7]
        unfold zt_jn
        rw [decide_eq_true c1, Bool.true_and]
      refine zm_if (fun q => l115 0 q.symm) (fun q => l115 1 ?_)
      rcases zt_bi01 (zt_nr c (c 0) a b n) with z | z
      · exact absurd z q
      · exact z.symm
    exact zm_if (fun q => l92 1 (by rw [if_pos q])) (fun q => l92 0 (by rw [if_neg q]))
  · rw [if_neg c1, if_pos rfl]
    refine zm_iI ⟨⟨l.length, 0, ⟨l, l1.1, rfl⟩, fun q => absurd q c1, ?_⟩, zm_F_r _ _ h⟩
    unfold zt_jn
    rw [decide_eq_false c1, Bool.false_and]
    rfl
end
/-! A11.putr -/
section
/-! ===== the tie: put and cut of the reference, exactly ===== -/
/-- the first number that is free -/
def zt_free (c : Nat → Int) (s : Int) : Prop := (0 ≤ s ∧ s ≤ 47) ∧ (∀ j : Int, 0 ≤ j → j < s → zm_o c j 0 = 1) ∧ zm_o c s 0 ≠ 1
/-- which group a new one is of -/
def zt_gp (c c' : Nat → Int) (s a b n : Int) : Prop := ∃ n1 n2, zt_dp c (c 0) n1 ∧ (zm_ed c (c 0) → zt_dp c (zm_o c (c 0) 6) n2) ∧ (zm_o c' s 6 = if zt_jn c n1 n2 a b n = true then zm_o c (c 0) 6 else s) ∧ zm_o c' s 7 = zv_w (c 2 + 1) ∧ zm_o c' s 10 = 0 ∧ zm_o c' s 11 = 0
theorem zt_vc7 (c : Nat → Int) {s : Int} (hs : 0 ≤ s ∧ s ≤ 47) : zm_o (zm_vc c s) s 7 = zv_w (c 2 + 1) := by
  unfold zm_o zm_vc
  rw [if_neg (by omega), if_neg (by omega), if_neg (by omega), if_neg (by omega), if_pos (show 432 + 76 * s.toNat + Int.toNat 7 = 432 + 76 * s.toNat + 7 from rfl)]
theorem zt_put84 {h : zv_H} {c : Nat → Int} {l : List Int} (hM : zm_M h) (hc : zv_I h 348 = c) (w : zm_W c) (ck : zt_ck c) (d : Nat) (hl : zm_W1 c (c 0) l) (g : zm_G0 c (c 0 :: l)) (hSn : zm_Sn h c (c 0 :: l)) {s place row : Int} (hs : 0 ≤ s ∧ s ≤ 47) (hd : zm_o c s 0 ≠ 1) {m : Nat} (hm : m ≤ 12) (h19 : zv_I h 347 19 = m) (hp : 0 ≤ place ∧ place ≤ ((zm_row c (c 0 :: l)).filter (zm_sn c (c 0 :: l))).length) (hcnt : ((zm_row c (c 0 :: l)).filter (zm_sn c (c 0 :: l))).length + m ≤ 120) (hrow : (place = 0 ∧ row = -1) ∨ (place ≠ 0 ∧ row = zm_rp (zm_sn c (c 0 :: l)) (zm_row c (c 0 :: l)) (place - 1))) :
    zm_R (L9_putNow_84 (d + 4) 347 place s row h) (zm_I fun v h' => v = s ∧ zt_gp c (zv_I h' 348) s 0 place m) := by
  have h0 : 0 ≤ c 0 ∧ c 0 ≤ 47 := w.2.1.1
  have hns : ¬ zm_st c s := fun q => hd q.2
  have hne : s ≠ c 0 := fun e => hns (by rw [e]; exact w.2.1)
  rw [qL9_putNow_84, zm_e (zm_gI hM 19), zm_e (zm_gI hM 19), h19]
  obtain ⟨⟨j, h2⟩, e2, ⟨n1, n2, dp1, dp2, qj⟩, f2⟩ := zt_joins hM hc w ck (d + 1) 0 place m
  dsimp only at qj f2
  have hM2 := zm_F_M f2 hM
  have c2 : zv_I h2 348 = c := (zm_F_a f2 348).trans hc
  rw [zm_e e2]
  dsimp only
  obtain ⟨h3, e3, f3, b3⟩ := zm_begins hM2 c2 (d + 2) (s := s) (by omega) h0 hne 0 place m j
  have hM3 := zm_F_M f3 hM2
  obtain ⟨⟨b30, b31, b32, b33, b34, b35, b36⟩, b38, b39, b3k⟩ := b3
  rw [zm_e e3]
  have w3 : zv_I h3 360 = zv_I h 360 := (zm_F_a f3 360).trans (zm_F_a f2 360)
  have n3 : zv_I h3 347 19 = m := (zm_F_g f3 19).trans ((zm_F_g f2 19).trans h19)
  obtain ⟨h4, i1, i2, i3, i4, i5⟩ := zm_put110 (d + 3) (s := s) (by omega) row (zv_I h3 348) (zv_I h 360) m hm m 0 h3 (by omega) hM3 n3 w3 (fun _ _ _ _ => rfl) (fun k hk => by omega) (fun _ _ => rfl)
  have hM4 := zm_F_M i2 hM3
  rw [show L9_putNow_110 (d + 4) 347 s row 0 h3 = _ from i1, qL9_putNow_110, zm_e (zm_gI hM4 19), show zv_I h4 347 19 = (m : Int) from (zm_F_g i2 19).trans n3, if_neg (by omega)]
  have o4 : zm_o (zv_I h4 348) s 6 = zm_o (zv_I h3 348) s 6 := i3 6 (by decide) (by decide) (by omega)
  have o10 : zm_o (zv_I h4 348) s 10 = 0 := (i3 10 (by decide) (by decide) (by omega)).trans (b39 10 (by decide) (by decide))
  have o11 : zm_o (zv_I h4 348) s 11 = 0 := (i3 11 (by decide) (by decide) (by omega)).trans (b39 11 (by decide) (by decide))
  have c40 : zv_I h4 348 0 = c 0 := (i5 0 (by omega)).trans (b3k 0 (by omega))
  have c42 : zv_I h4 348 2 = c 2 := (i5 2 (by omega)).trans (b3k 2 (by omega))
  have fin : ∀ h5 : zv_H, zm_M h5 → zv_I h5 348 0 = c 0 → zv_I h5 348 2 = c 2 → zm_o (zv_I h5 348) s 6 = zm_o (zv_I h3 348) s 6 → zm_o (zv_I h5 348) s 10 = 0 → zm_o (zv_I h5 348) s 11 = 0 → zm_R (L9_putNow_175 (d + 4) 347 s h5) (zm_I fun v h' => v = s ∧ zt_gp c (zv_I h' 348) s 0 place m) := by
    intro h5 hM5 c50 c52 o5 p10 p11
    obtain ⟨h6, e6, f6, c6⟩ := zm_visits hM5 rfl (d + 2) hs
    rw [if_neg (by rw [c50]; exact hne)] at c6
    rw [qL9_putNow_175, zm_e e6]
    refine zm_iI ⟨rfl, n1, n2, dp1, dp2, ?_, by rw [c6, zt_vc7 _ hs, c52], by rw [c6, zm_vc_o hs (by omega) (by decide) (by omega)]; exact p10, by rw [c6, zm_vc_o hs (by omega) (by decide) (by omega)]; exact p11⟩
    rw [c6, zm_vc_o hs (by omega) (by decide) (by omega), o5, b36, qj]
    by_cases q : zt_jn c n1 n2 0 place m = true
    · rw [if_pos q, q, if_neg (by decide)]
    · have q' : zt_jn c n1 n2 0 place m = false := by
        cases z : zt_jn c n1 n2 0 place m with
        | false => rfl
        | true => exact absurd z q
      rw [if_neg q, q', if_pos (show zt_bi false = 0 from rfl)]
  rcases hrow with ⟨r1, r2⟩ | ⟨r1, r2⟩
  · rw [if_pos (by omega)]
    exact fin h4 hM4 c40 c42 o4 o10 o11
  · obtain ⟨p, ep⟩ : ∃ p : Nat, place - 1 = p := ⟨(place - 1).toNat, by omega⟩
    have hrp := zm_rp_in (zm_sn c (c 0 :: l)) (zm_row c (c 0 :: l)) p (by omega)
    have hrp2 := zm_rp_ge (zm_sn c (c 0 :: l)) (zm_row c (c 0 :: l)) p
    rw [ep] at r2
    have hrl := zm_row_le g
    have hll : (c 0 :: l).length ≤ 48 := zm_nd_le (n := 48) hl.2.1.1 (fun t ht => by have := (hl.2.1.2.2 t ht).1; omega)
    rw [if_neg (by omega), zm_e (zm_f6 hM4), zm_e (zm_aI hM4 zm_l352 rfl (by omega) (by omega)), zm_e (zm_sets hM4 _ (by omega) (by decide) _)]
    generalize zv_I h4 352 row.toNat = x1
    have c5 : zv_I (zv_sI h4 348 (432 + 76 * s.toNat + Int.toNat 8) x1) 348 = zm_os (zv_I h4 348) s 8 x1 := zm_ss _ _ _ _
    have hM5 : zm_M (zv_sI h4 348 (432 + 76 * s.toNat + Int.toNat 8) x1) := hM4
    generalize zv_sI h4 348 (432 + 76 * s.toNat + Int.toNat 8) x1 = h5 at hM5 c5
    rw [zm_e (zm_f7 hM5), zm_e (zm_aI hM5 zm_l353 rfl (by omega) (by omega)), zm_e (zm_sets hM5 _ (by omega) (by decide) _)]
    generalize zv_I h5 353 row.toNat = x2
    have c6 : zv_I (zv_sI h5 348 (432 + 76 * s.toNat + Int.toNat 9) x2) 348 = zm_os (zm_os (zv_I h4 348) s 8 x1) s 9 x2 := by
      rw [← c5]
      exact zm_ss _ _ _ _
    refine fin _ hM5 ?_ ?_ ?_ ?_ ?_
    · rw [c6, zm_os_k _ _ (by decide) (by omega), zm_os_k _ _ (by decide) (by omega)]
      exact c40
    · rw [c6, zm_os_k _ _ (by decide) (by omega), zm_os_k _ _ (by decide) (by omega)]
      exact c42
    · rw [c6, zm_os_o _ _ hs.1 (by decide) hs.1 (by decide) (fun q => by cases q.2), zm_os_o _ _ hs.1 (by decide) hs.1 (by decide) (fun q => by cases q.2)]
      exact o4
    · rw [c6, zm_os_o _ _ hs.1 (by decide) hs.1 (by decide) (fun q => by cases q.2), zm_os_o _ _ hs.1 (by decide) hs.1 (by decide) (fun q => by cases q.2)]
      exact o10
    · rw [c6, zm_os_o _ _ hs.1 (by decide) hs.1 (by decide) (fun q => by cases q.2), zm_os_o _ _ hs.1 (by decide) hs.1 (by decide) (fun q => by cases q.2)]
      exact o11
/-- what a put wants -/
def zt_pk (c : Nat → Int) (n m place : Int) : Prop := (0 ≤ place ∧ place ≤ n) ∧ m ≠ 0 ∧ zm_nst c ≠ 48 ∧ n + m ≤ 120
theorem zt_freeS {h : zv_H} (hM : zm_M h) (d : Nat) (hn : zm_nst (zv_I h 348) ≠ 48) : ∃ v : Int, C9_freeState (d + 2) 347 h = some (v, h) ∧ zt_free (zv_I h 348) v := by
  obtain ⟨v, e, r1, r2, r3⟩ := zm_free hM d hn
  exact ⟨v, e, r1, r2, r3⟩
theorem zt_putNow {h : zv_H} {c : Nat → Int} (hM : zm_M h) (hc : zv_I h 348 = c) (w : zm_W c) (ck : zt_ck c) (d : Nat) {m : Nat} (hm : m ≤ 12) (h19 : zv_I h 347 19 = m) {l : List Int} (hl : zm_Ln c (c 0 :: l) (c 0)) (place : Int) : zm_R (C9_putNow (d + 6) 347 place h) (fun q => (q.1 = -1 ∧ ¬ zt_pk c (zt_dc c (c 0 :: l)).length m place) ∨ (zt_pk c (zt_dc c (c 0 :: l)).length m place ∧ zt_free c q.1 ∧ zt_gp c (zv_I q.2 348) q.1 0 place m)) := by
  refine zm_cI (P := fun v h' => (v = -1 ∧ ¬ zt_pk c (zt_dc c (c 0 :: l)).length m place) ∨ (zt_pk c (zt_dc c (c 0 :: l)).length m place ∧ zt_free c v ∧ zt_gp c (zv_I h' 348) v 0 place m)) (lC9_putNow (zm_ob hM)) ?_
  obtain ⟨l', hl', hl2, g, gt⟩ := zm_W_l w.1 w.2.1
  have el : l' = l := (List.cons.inj (zm_Ln_u hl'.1 hl)).2
  subst el
  obtain ⟨⟨n, h1⟩, e1, en, f1, hSn⟩ := zm_lettersOf hM d (zm_sees_st hM hc d hl' hl2 g gt)
  dsimp only at en f1 hSn
  have hM1 := zm_F_M f1 hM
  have c1 : zv_I h1 348 = c := (zm_F_a f1 348).trans hc
  have hrl := zm_row_le g
  rw [List.length_cons] at hrl
  have hfl := List.length_filter_le (zm_sn c (c 0 :: l')) (zm_row c (c 0 :: l'))
  have h19' : zv_I h1 347 19 = m := (zm_F_g f1 19).trans h19
  have en' : n = ((zt_dc c (c 0 :: l')).length : Int) := en
  have refu : ∀ v : Int, (¬ zt_pk c (zt_dc c (c 0 :: l')).length m place) → zm_R ((C9_refuse (d + 5) 347 v h1).bind fun q => (some (some (zv_i q.1), q.2) : zv_O)) (zm_I fun v h' => (v = -1 ∧ ¬ zt_pk c (zt_dc c (c 0 :: l')).length m place) ∨ (zt_pk c (zt_dc c (c 0 :: l')).length m place ∧ zt_free c v ∧ zt_gp c (zv_I h' 348) v 0 place m)) := by
    intro v hn
    rw [zm_e (zm_refuse hM1 _ v)]
    exact zm_iI (Or.inl ⟨rfl, hn⟩)
  rw [qE9_putNow, zm_e (zm_here hM _), hc]
  dsimp only
  rw [zm_e e1]
  dsimp only
  refine zm_gb (zm_isIn _ place 0 n) (fun hp => ?_) (fun hp => ?_)
  · rw [qL9_putNow_25]
    exact refu 1 (fun q => hp (by rw [en']; exact q.1))
  · dsimp only
    rw [zm_e (zm_gI hM1 19), h19']
    refine zm_if (fun hm0 => ?_) (fun hm0 => ?_)
    · rw [qL9_putNow_25]
      exact refu 1 (fun q => q.2.1 hm0)
    · rw [zm_e (zm_states hM1 _ (by rw [c1]; exact w.1.1)), c1]
      dsimp only
      refine zm_if (fun q48 => refu 3 (fun q => q.2.2.1 q48)) (fun hns => ?_)
      rw [zm_e (zm_gI hM1 19), h19', zm_w (by omega)]
      refine zm_if (fun hcn => ?_) (fun hcn => refu 6 (fun q => hcn (by rw [en']; exact q.2.2.2)))
      have ok : zt_pk c (zt_dc c (c 0 :: l')).length m place := ⟨by rw [← en']; exact hp, hm0, hns, by rw [← en']; exact hcn⟩
      obtain ⟨s, es, fr⟩ := zt_freeS hM1 (d + 3) (by rw [c1]; exact hns)
      rw [c1] at fr
      rw [zm_e es]
      dsimp only
      have go : ∀ row : Int, ((place = 0 ∧ row = -1) ∨ (place ≠ 0 ∧ row = zm_rp (zm_sn c (c 0 :: l')) (zm_row c (c 0 :: l')) (place - 1))) → zm_R (L9_putNow_84 (d + 5) 347 place s row h1) (zm_I fun v h' => (v = -1 ∧ ¬ zt_pk c (zt_dc c (c 0 :: l')).length m place) ∨ (zt_pk c (zt_dc c (c 0 :: l')).length m place ∧ zt_free c v ∧ zt_gp c (zv_I h' 348) v 0 place m)) := by
        intro row hrow
        refine zm_mono (zt_put84 hM1 c1 w ck (d + 1) hl' g hSn fr.1 fr.2.2 hm h19' (by omega) (by omega) hrow) ?_
        rintro ⟨ov, h'⟩ ⟨v, ev, e2, p2⟩
        exact ⟨v, ev, Or.inr ⟨ok, by rw [e2]; exact fr, by rw [e2]; exact p2⟩⟩
      refine zm_if (fun hp0 => go (-1) (Or.inl ⟨hp0, rfl⟩)) (fun hp0 => ?_)
      rw [zm_w (by omega), zm_e (zm_rowPlace hM1 _ hSn (by omega) (by omega) (by omega))]
      exact go _ (Or.inr ⟨hp0, rfl⟩)
/-- what a cut wants -/
def zt_uk (c : Nat → Int) (n place many : Int) : Prop := (1 ≤ many ∧ many ≤ 12) ∧ 0 ≤ place ∧ many ≤ n - place ∧ zm_nst c ≠ 48
theorem zt_cutNow {h : zv_H} {c : Nat → Int} (hM : zm_M h) (hc : zv_I h 348 = c) (w : zm_W c) (ck : zt_ck c) (d : Nat) (place many : Int) (hpl : place < 2147483648) {l : List Int} (hl : zm_Ln c (c 0 :: l) (c 0)) : zm_R (C9_cutNow (d + 6) 347 place many h) (fun q => (q.1 = -1 ∧ ¬ zt_uk c (zt_dc c (c 0 :: l)).length place many) ∨ (zt_uk c (zt_dc c (c 0 :: l)).length place many ∧ zt_free c q.1 ∧ zt_gp c (zv_I q.2 348) q.1 1 place many)) := by
  refine zm_cI (P := fun v h' => (v = -1 ∧ ¬ zt_uk c (zt_dc c (c 0 :: l)).length place many) ∨ (zt_uk c (zt_dc c (c 0 :: l)).length place many ∧ zt_free c v ∧ zt_gp c (zv_I h' 348) v 1 place many)) (lC9_cutNow (zm_ob hM)) ?_
  obtain ⟨l', hl', hl2, g, gt⟩ := zm_W_l w.1 w.2.1
  have el : l' = l := (List.cons.inj (zm_Ln_u hl'.1 hl)).2
  subst el
  have hrl := zm_row_le g
  rw [List.length_cons] at hrl
  have hfl := List.length_filter_le (zm_sn c (c 0 :: l')) (zm_row c (c 0 :: l'))
  have refu : ∀ (v : Int) (h1 : zv_H), zm_M h1 → (¬ zt_uk c (zt_dc c (c 0 :: l')).length place many) → zm_R ((C9_refuse (d + 5) 347 v h1).bind fun q => (some (some (zv_i q.1), q.2) : zv_O)) (zm_I fun v h' => (v = -1 ∧ ¬ zt_uk c (zt_dc c (c 0 :: l')).length place many) ∨ (zt_uk c (zt_dc c (c 0 :: l')).length place many ∧ zt_free c v ∧ zt_gp c (zv_I h' 348) v 1 place many)) := by
    intro v h1 hM1 hn
    rw [zm_e (zm_refuse hM1 _ v)]
    exact zm_iI (Or.inl ⟨rfl, hn⟩)
  rw [qE9_cutNow]
  refine zm_gb (zm_isIn _ many 1 12) (fun hmn => ?_) (fun hmn => ?_)
  · rw [qL9_cutNow_14]
    exact refu 1 h hM (fun q => hmn q.1)
  dsimp only
  refine zm_if (fun hp0 => ?_) (fun hp0 => ?_)
  · rw [qL9_cutNow_14]
    exact refu 1 h hM (fun q => by have := q.2.1; omega)
  obtain ⟨⟨n, h1⟩, e1, en, f1, hSn⟩ := zm_lettersOf hM d (zm_sees_st hM hc d hl' hl2 g gt)
  dsimp only at en f1 hSn
  have hM1 := zm_F_M f1 hM
  have c1 : zv_I h1 348 = c := (zm_F_a f1 348).trans hc
  have en' : n = ((zt_dc c (c 0 :: l')).length : Int) := en
  rw [zm_e (zm_here hM _), hc]
  dsimp only
  rw [zm_e e1]
  dsimp only
  rw [zm_w (by omega)]
  refine zm_if (fun hfit => ?_) (fun hfit => refu 5 h1 hM1 (fun q => hfit (by have := q.2.2.1; omega)))
  rw [zm_e (zm_states hM1 _ (by rw [c1]; exact w.1.1)), c1]
  dsimp only
  refine zm_if (fun q48 => refu 3 h1 hM1 (fun q => q.2.2.2 q48)) (fun hns => ?_)
  have ok : zt_uk c (zt_dc c (c 0 :: l')).length place many := ⟨hmn, by omega, by omega, hns⟩
  obtain ⟨s, es, fr⟩ := zt_freeS hM1 (d + 3) (by rw [c1]; exact hns)
  rw [c1] at fr
  have hs := fr.1
  have hd := fr.2.2
  rw [zm_e es]
  dsimp only
  have h0 : 0 ≤ c 0 ∧ c 0 ≤ 47 := w.2.1.1
  have hnst : ¬ zm_st c s := fun q => hd q.2
  have hne : s ≠ c 0 := fun e => hnst (by rw [e]; exact w.2.1)
  obtain ⟨⟨j, h2⟩, e2, ⟨n1, n2, dp1, dp2, qj⟩, f2⟩ := zt_joins hM1 c1 w ck (d + 2) 1 place many
  dsimp only at qj f2
  have hM2 := zm_F_M f2 hM1
  have c2 : zv_I h2 348 = c := (zm_F_a f2 348).trans c1
  rw [zm_e e2]
  dsimp only
  obtain ⟨h3, e3, f3, b3⟩ := zm_begins hM2 c2 (d + 3) (s := s) (by omega) h0 hne 1 place many j
  have hM3 := zm_F_M f3 hM2
  obtain ⟨⟨b30, b31, b32, b33, b34, b35, b36⟩, b38, b39, b3k⟩ := b3
  rw [zm_e e3]
  obtain ⟨m, em⟩ : ∃ m : Nat, many = m := ⟨many.toNat, by omega⟩
  subst em
  obtain ⟨h4, i1, i2, i3, i4, i5⟩ := zm_cut78 (d + 4) (s := s) (by omega) place (by omega) (zv_I h3 348) m (by omega) (c := c) (l := c 0 :: l') (by omega) (by omega) m 0 h3 (by omega) hM3 (zm_Sn_F (zm_Sn_F hSn f2) f3) (fun _ _ _ => rfl) (fun k hk => by omega) (fun _ _ => rfl)
  have hM4 := zm_F_M i2 hM3
  rw [show L9_cutNow_78 (d + 5) 347 place m s 0 h3 = _ from i1, qL9_cutNow_78, if_neg (by omega)]
  obtain ⟨h6, e6, f6, c6⟩ := zm_visits hM4 rfl (d + 3) hs
  have c40 : zv_I h4 348 0 = c 0 := (i5 0 (by omega)).trans (b3k 0 (by omega))
  rw [if_neg (by rw [c40]; exact hne)] at c6
  rw [zm_e e6]
  have c42 : zv_I h4 348 2 = c 2 := (i5 2 (by omega)).trans (b3k 2 (by omega))
  refine zm_iI (Or.inr ⟨ok, fr, n1, n2, dp1, dp2, ?_, by rw [c6, zt_vc7 _ hs, c42], by rw [c6, zm_vc_o hs (by omega) (by decide) (by omega), i3 10 (by decide) (by decide), b39 10 (by decide) (by decide)], by rw [c6, zm_vc_o hs (by omega) (by decide) (by omega), i3 11 (by decide) (by decide), b39 11 (by decide) (by decide)]⟩)
  rw [c6, zm_vc_o hs (by omega) (by decide) (by omega), i3 6 (by decide) (by decide), b36, qj]
  by_cases q : zt_jn c n1 n2 1 place m = true
  · rw [if_pos q, q, if_neg (by decide)]
  · have q' : zt_jn c n1 n2 1 place m = false := by
      cases z : zt_jn c n1 n2 1 place m with
      | false => rfl
      | true => exact absurd z q
    rw [if_neg q, q', if_pos (show zt_bi false = 0 from rfl)]
end
/-! A12.mk -/
section
/-! ===== the tie: making the relation anew ===== -/
/-- one State, but for its depth and its children -/
def zt_S0 (a : Nat) (c : Nat → Int) (h : zv_H) (s : Int) : Prop := (zv_R h (zt_r a s) 4 = zt_r a (zm_o c s 1)) ∧ (zv_R h (zt_r a s) 5 = zt_r a (zm_o c s 6)) ∧ (zv_I h (zt_r a s) 6 = zm_o c s 2) ∧ (zv_I h (zt_r a s) 7 = zm_o c s 3) ∧ (zv_I h (zt_r a s) 8 = zm_o c s 4) ∧ (zv_I h (zt_r a s) 9 = zm_o c s 5) ∧ (zv_I h (zt_r a s) 13 = zm_o c s 7) ∧ (zv_I h (zt_r a s) 15 = (if zm_o c s 2 = 0 ∧ 0 ≤ zm_o c s 8 then zt_id (zm_o c s 8, zm_o c s 9) else -1)) ∧ (∀ t : Nat, t < 64 → (zt_b (zv_J h (zt_r a s) 16) t = true ↔ t < 48 ∧ zm_nm c s t)) ∧ (∀ t : Nat, t < 64 → (zt_b (zv_J h (zt_r a s) 17) t = true ↔ 1 ≤ t ∧ t < 48 ∧ zt_ln c s t)) ∧ (zm_o c s 2 = 1 → ∀ (k : Nat) (x : Int × Int), (zm_tk c s)[k]? = some x → zv_I h (zt_r a s + 1) k = zt_id x) ∧ ((zm_o c s 2 = 0 ∨ s = 0) → ∀ k : Nat, (k : Int) < zm_o c s 5 → zv_I h (a + 5) (zt_id (s, (k : Int))).toNat = zm_o c s (12 + (k : Int))) ∧ (∀ l, zm_Ln c (s :: l) s → zv_I h (zt_r a s) 12 = (zt_dc c (s :: l)).length) ∧ (∀ l, zm_Ln c (s :: l) s → ∀ (n : Nat) (x : Int × Int), (zt_dc c (s :: l))[n]? = some x → zv_I h (zt_r a s + 2) n = zt_id x) ∧ (zt_cw c s)
theorem zt_S0_pa {a : Nat} {c : Nat → Int} {h : zv_H} {s : Int} (t : zt_S0 a c h s) : zv_R h (zt_r a s) 4 = zt_r a (zm_o c s 1) := t.1
theorem zt_S0_fi {a : Nat} {c : Nat → Int} {h : zv_H} {s : Int} (t : zt_S0 a c h s) : zv_R h (zt_r a s) 5 = zt_r a (zm_o c s 6) := t.2.1
theorem zt_S0_ac {a : Nat} {c : Nat → Int} {h : zv_H} {s : Int} (t : zt_S0 a c h s) : zv_I h (zt_r a s) 6 = zm_o c s 2 := t.2.2.1
theorem zt_S0_ti {a : Nat} {c : Nat → Int} {h : zv_H} {s : Int} (t : zt_S0 a c h s) : zv_I h (zt_r a s) 7 = zm_o c s 3 := t.2.2.2.1
theorem zt_S0_pl {a : Nat} {c : Nat → Int} {h : zv_H} {s : Int} (t : zt_S0 a c h s) : zv_I h (zt_r a s) 8 = zm_o c s 4 := t.2.2.2.2.1
theorem zt_S0_sz {a : Nat} {c : Nat → Int} {h : zv_H} {s : Int} (t : zt_S0 a c h s) : zv_I h (zt_r a s) 9 = zm_o c s 5 := t.2.2.2.2.2.1
theorem zt_S0_vi {a : Nat} {c : Nat → Int} {h : zv_H} {s : Int} (t : zt_S0 a c h s) : zv_I h (zt_r a s) 13 = zm_o c s 7 := t.2.2.2.2.2.2.1
theorem zt_S0_an {a : Nat} {c : Nat → Int} {h : zv_H} {s : Int} (t : zt_S0 a c h s) : zv_I h (zt_r a s) 15 = (if zm_o c s 2 = 0 ∧ 0 ≤ zm_o c s 8 then zt_id (zm_o c s 8, zm_o c s 9) else -1) := t.2.2.2.2.2.2.2.1
theorem zt_S0_nm {a : Nat} {c : Nat → Int} {h : zv_H} {s : Int} (t : zt_S0 a c h s) : ∀ t : Nat, t < 64 → (zt_b (zv_J h (zt_r a s) 16) t = true ↔ t < 48 ∧ zm_nm c s t) := t.2.2.2.2.2.2.2.2.1
theorem zt_S0_bs {a : Nat} {c : Nat → Int} {h : zv_H} {s : Int} (t : zt_S0 a c h s) : ∀ t : Nat, t < 64 → (zt_b (zv_J h (zt_r a s) 17) t = true ↔ 1 ≤ t ∧ t < 48 ∧ zt_ln c s t) := t.2.2.2.2.2.2.2.2.2.1
theorem zt_S0_tk {a : Nat} {c : Nat → Int} {h : zv_H} {s : Int} (t : zt_S0 a c h s) : zm_o c s 2 = 1 → ∀ (k : Nat) (x : Int × Int), (zm_tk c s)[k]? = some x → zv_I h (zt_r a s + 1) k = zt_id x := t.2.2.2.2.2.2.2.2.2.2.1
theorem zt_S0_gl {a : Nat} {c : Nat → Int} {h : zv_H} {s : Int} (t : zt_S0 a c h s) : (zm_o c s 2 = 0 ∨ s = 0) → ∀ k : Nat, (k : Int) < zm_o c s 5 → zv_I h (a + 5) (zt_id (s, (k : Int))).toNat = zm_o c s (12 + (k : Int)) := t.2.2.2.2.2.2.2.2.2.2.2.1
theorem zt_S0_ln {a : Nat} {c : Nat → Int} {h : zv_H} {s : Int} (t : zt_S0 a c h s) : ∀ l, zm_Ln c (s :: l) s → zv_I h (zt_r a s) 12 = (zt_dc c (s :: l)).length := t.2.2.2.2.2.2.2.2.2.2.2.2.1
theorem zt_S0_dc {a : Nat} {c : Nat → Int} {h : zv_H} {s : Int} (t : zt_S0 a c h s) : ∀ l, zm_Ln c (s :: l) s → ∀ (n : Nat) (x : Int × Int), (zt_dc c (s :: l))[n]? = some x → zv_I h (zt_r a s + 2) n = zt_id x := t.2.2.2.2.2.2.2.2.2.2.2.2.2.1
theorem zt_S0_cw {a : Nat} {c : Nat → Int} {h : zv_H} {s : Int} (t : zt_S0 a c h s) : zt_cw c s := t.2.2.2.2.2.2.2.2.2.2.2.2.2.2
theorem zt_S_0 {a : Nat} {c : Nat → Int} {h : zv_H} {s : Int} (S : zt_S a c h s) : zt_S0 a c h s := ⟨zt_S_pa S, zt_S_fi S, zt_S_ac S, zt_S_ti S, zt_S_pl S, zt_S_sz S, zt_S_vi S, zt_S_an S, zt_S_nm S, zt_S_bs S, zt_S_tk S, zt_S_gl S, zt_S_ln S, zt_S_dc S, zt_S_cw S⟩
/-- the depth, by the parents -/
theorem zt_de_of {a : Nat} {c : Nat → Int} {h : zv_H} (la : zv_lay a = (1, 0)) (hA : zc_A h) (lv : ∀ i : Nat, i < 48 → zv_I h (zc_stt a i) 3 = zm_o c i 0) (pa : ∀ s, zm_st c s → zv_R h (zt_r a s) 4 = zt_r a (zm_o c s 1)) : ∀ (l : List Int) (s : Int), zm_Ln c (s :: l) s → (∀ t ∈ s :: l, zm_st c t) → zv_I h (zt_r a s) 10 = l.length := by
  have there : ∀ s, zm_st c s → zv_I h (zt_r a s) 3 = 1 := fun s hs => by
    have h1 := hs.1
    rw [zt_r_p hs.1.1, lv s.toNat (by omega), show ((s.toNat : Nat) : Int) = s by omega]
    exact hs.2
  intro l
  induction l with
  | nil =>
    intro s hl hst
    have hs := hst s List.mem_cons_self
    have hp : zm_o c s 1 < 0 := hl.2
    have t := hA.2.1 _ (zt_r_l la hs.1)
    have e0 : zv_R h (zt_r a s) 4 = 0 := by rw [pa s hs, zt_r_n hp]
    rcases t with t | t
    · rw [there s hs] at t
      exact absurd t.1 (by decide)
    · rcases t.2.2.1 with u | u
      · rw [u.2]; rfl
      · exact absurd e0 (zc_nz u.1)
  | cons p l ih =>
    intro s hl hst
    have hs := hst s List.mem_cons_self
    have hpst := hst p (List.mem_cons_of_mem _ List.mem_cons_self)
    have ep : zm_o c s 1 = p := hl.2.1.1
    have hl2 := hl.2
    rw [ep] at hl2
    have d := ih p hl2 (fun t ht => hst t (List.mem_cons_of_mem _ ht))
    have t := hA.2.1 _ (zt_r_l la hs.1)
    have e0 : zv_R h (zt_r a s) 4 = zt_r a p := by rw [pa s hs, ep]
    rcases t with t | t
    · rw [there s hs] at t
      exact absurd t.1 (by decide)
    · rcases t.2.2.1 with u | u
      · exact absurd (e0.symm.trans u.1) (zc_nz (zt_r_l la hpst.1))
      · have := u.2.2.2
        rw [e0, d] at this
        rw [← this, List.length_cons]
        omega
/-- the children, by the parents -/
theorem zt_ch_of {a : Nat} {c : Nat → Int} {h : zv_H} (la : zv_lay a = (1, 0)) (hA : zc_A h) (lv : ∀ i : Nat, i < 48 → zv_I h (zc_stt a i) 3 = zm_o c i 0) (pa : ∀ s, zm_st c s → zv_R h (zt_r a s) 4 = zt_r a (zm_o c s 1)) (pr : ∀ s, zm_st c s → zm_o c s 1 ≤ 47) (h01 : ∀ s, 0 ≤ s → s ≤ 47 → zm_o c s 0 = 0 ∨ zm_o c s 0 = 1) {s : Int} (hs : zm_st c s) : zv_I h (zt_r a s) 11 = zm_nch c s := by
  have hs1 := hs.1
  have there : zv_I h (zt_r a s) 3 = 1 := by
    rw [zt_r_p hs.1.1, lv s.toNat (by omega), show ((s.toNat : Nat) : Int) = s by omega]
    exact hs.2
  have t := hA.2.1 _ (zt_r_l la hs.1)
  rcases t with t | t
  · rw [there] at t
    exact absurd t.1 (by decide)
  · rw [t.2.2.2.2]
    have key : ∀ n : Nat, n ≤ 48 → zc_ch h (zt_r a s) n = zm_sum (fun k => if zm_st c k ∧ zm_o c k 1 = s then 1 else 0) n := by
      intro n
      induction n with
      | zero => intro _; rfl
      | succ n ih =>
        intro hn
        have e1 : zc_ch h (zt_r a s) (n + 1) = zc_ch h (zt_r a s) n + (if zv_R h (zc_stt (zc_hf (zt_r a s)) n) 4 = zt_r a s then 1 else 0) := rfl
        have e2 : zm_sum (fun k => if zm_st c k ∧ zm_o c k 1 = s then 1 else 0) (n + 1) = zm_sum (fun k => if zm_st c k ∧ zm_o c k 1 = s then 1 else 0) n + (if zm_st c n ∧ zm_o c n 1 = s then 1 else 0) := rfl
        rw [e1, e2, ih (by omega), zt_r_h la hs.1]
        have iff : zv_R h (zc_stt a n) 4 = zt_r a s ↔ zm_st c n ∧ zm_o c n 1 = s := by
          have rn : zt_r a (n : Int) = zc_stt a n := by
            rw [zt_r_p (by omega)]
            rfl
          constructor
          · intro q
            have hn1 : zm_st c (n : Int) := by
              refine ⟨by omega, ?_⟩
              have l := lv n (by omega)
              rcases h01 (n : Int) (by omega) (by omega) with z | z
              · exfalso
                rw [z] at l
                rcases hA.2.1 _ (zc_stl la (show n < 48 by omega)).1 with t2 | t2
                · rw [t2.2] at q
                  exact zc_nz (zt_r_l la hs.1) q.symm
                · rw [t2.1] at l
                  cases l
              · exact z
            refine ⟨hn1, ?_⟩
            have p := pa _ hn1
            rw [rn, q] at p
            have ub := pr _ hn1
            by_cases neg : zm_o c (n : Int) 1 < 0
            · rw [zt_r_n neg] at p
              exact absurd p (zc_nz (zt_r_l la hs.1))
            · exact (zt_r_inj la hs.1 ⟨by omega, ub⟩ p).symm
          · intro q
            have p := pa _ q.1
            rw [rn, q.2] at p
            exact p
        by_cases q : zv_R h (zc_stt a n) 4 = zt_r a s
        · rw [if_pos q, if_pos (iff.mp q)]
        · rw [if_neg q, if_neg (fun z => q (iff.mpr z))]
    exact key 48 (Nat.le_refl _)
theorem zt_par {c : Nat → Int} (w : zm_W c) {s : Int} (hs : zm_st c s) : zm_o c s 1 ≤ 47 := by
  obtain ⟨l, h1, _⟩ := zm_W_l w.1 hs
  cases l with
  | nil =>
    have : zm_o c s 1 < 0 := h1.1.2
    omega
  | cons p l =>
    have e : zm_o c s 1 = p := h1.1.2.1.1
    have := (h1.2.1.2.2 p (List.mem_cons_of_mem _ List.mem_cons_self)).1
    omega
theorem zt_U_mk {a : Nat} {c : Nat → Int} {h : zv_H} (la : zv_lay a = (1, 0)) (w : zm_W c) (hA : zc_A h) (lv : ∀ i : Nat, i < 48 → zv_I h (zc_stt a i) 3 = zm_o c i 0) (st : ∀ s, zm_st c s → zt_S0 a c h s) (he : zv_R h a 10 = zt_r a (c 0)) (nw : zv_I h a 11 = c 1) (ct : zv_I h a 12 = zm_nst c) : zt_U a c h := by
  have pa : ∀ s, zm_st c s → zv_R h (zt_r a s) 4 = zt_r a (zm_o c s 1) := fun s hs => zt_S0_pa (st s hs)
  refine ⟨la, w, lv, fun i hi => hA.1.2.2.2.2.2.2.2 a i la hi, fun s hs => ?_, he, nw, ct⟩
  have S := st s hs
  refine ⟨zt_S0_pa S, zt_S0_fi S, zt_S0_ac S, zt_S0_ti S, zt_S0_pl S, zt_S0_sz S, zt_S0_vi S, zt_S0_an S, zt_S0_nm S, zt_S0_bs S, zt_S0_tk S, zt_S0_gl S, zt_S0_ln S, zt_S0_dc S, fun l hl => ?_, zt_ch_of la hA lv pa (fun s hs => zt_par w hs) w.1.1 hs, zt_S0_cw S⟩
  exact zt_de_of la hA lv pa l s hl (zt_line_u w hs hl).1.2.2.1
/-- two arrays of numbers that agree about a state, but for its life -/
def zt_ag (c c' : Nat → Int) (t : Int) : Prop := ∀ w : Int, 1 ≤ w → w < 76 → zm_o c' t w = zm_o c t w
theorem zt_ag_m {c c' : Nat → Int} {t : Int} (h : zt_ag c c' t) : zm_ag c c' t := fun w w0 w1 _ => h w w0 w1
/-- a State's cells are as they were, but for its children -/
def zt_sf (a : Nat) (h h' : zv_H) (s : Int) : Prop := (∀ k, k ≠ 11 → k ≠ 14 → k ≠ 3 → zv_I h' (zt_r a s) k = zv_I h (zt_r a s) k) ∧ (∀ k, zv_I h' (zt_r a s + 1) k = zv_I h (zt_r a s + 1) k) ∧ (∀ k, zv_I h' (zt_r a s + 2) k = zv_I h (zt_r a s + 2) k) ∧ (∀ k, zv_J h' (zt_r a s) k = zv_J h (zt_r a s) k) ∧ ∀ k, zv_R h' (zt_r a s) k = zv_R h (zt_r a s) k
theorem zt_cw_cg {c c' : Nat → Int} {s : Int} {l : List Int} (w : zt_cw c s) (hl : zm_Ln c (s :: l) s) (ha : ∀ t ∈ s :: l, zm_ag c c' t) : zt_cw c' s := by
  have hs := ha s List.mem_cons_self
  have e2 : zm_o c' s 2 = zm_o c s 2 := hs 2 (by decide) (by decide) (by decide)
  have ed : zm_ed c' s ↔ zm_ed c s := zm_ed_cg hs
  have un : ∀ l', zm_Ln c' (s :: l') s → l' = l := fun l' h' => (List.cons.inj (zm_Ln_u h' (zm_Ln_cg ha hl))).2
  refine ⟨fun l' h' t t0 t1 hn => ?_, fun l' h' k0 k1 => ?_, ?_, ?_, fun q k k0 k1 => ?_, fun q q5 => ?_⟩
  · rw [un l' h']
    have hn' := (zm_nm_cg hs t).mp hn
    obtain ⟨a1, a2, a3⟩ := zt_cw_nm w l hl t t0 t1 hn'
    exact ⟨a1, (zm_ed_cg (ha t (List.mem_cons_of_mem _ a1))).mpr a2, fun q => a3 (ed.mp q)⟩
  · rw [un l' h']
    rw [e2] at k0
    rw [hs 8 (by decide) (by decide) (by decide)] at k1
    rw [hs 8 (by decide) (by decide) (by decide), hs 9 (by decide) (by decide) (by decide), zm_row_cg (fun t ht => ha t (List.mem_cons_of_mem _ ht))]
    exact zt_cw_an w l hl k0 k1
  · rw [e2]; exact zt_cw_s0 w
  · rw [e2]; exact zt_cw_ac w
  · rw [e2] at q
    rw [hs 5 (by decide) (by decide) (by decide)] at k0
    rw [hs (12 + (k : Int)) (by omega) (by omega) (by omega)]
    exact zt_cw_lt w q k k0 k1
  · rw [e2] at q
    rw [hs 5 (by decide) (by decide) (by decide)] at q5
    rw [zm_tk_cg hs q5]
    exact zt_cw_tn w q q5
theorem zt_dc_cg {c c' : Nat → Int} {L : List Int} (ha : ∀ t ∈ L, zm_ag c c' t) (g : zm_G0 c L) : zt_dc c' L = zt_dc c L := by
  unfold zt_dc
  rw [zm_row_cg ha, zm_fl_cg (fun p _ => zm_sn_cg p ha (zm_cut12 g))]
/-- an old State, whose cells and whose line are as they were -/
theorem zt_S0_cg {a : Nat} {c c' : Nat → Int} {h h' : zv_H} {s : Int} {l : List Int} (W : zm_W c) (hs : zm_st c s) (S : zt_S0 a c h s) (hl : zm_Ln c (s :: l) s) (ha : ∀ t ∈ s :: l, zm_ag c c' t) (h7 : zv_I h' (zt_r a s) 13 = zm_o c' s 7) (f : ∀ k, k ≠ 11 → k ≠ 14 → k ≠ 3 → k ≠ 13 → zv_I h' (zt_r a s) k = zv_I h (zt_r a s) k) (f1 : ∀ k, zv_I h' (zt_r a s + 1) k = zv_I h (zt_r a s + 1) k) (f2 : ∀ k, zv_I h' (zt_r a s + 2) k = zv_I h (zt_r a s + 2) k) (fJ : ∀ k, zv_J h' (zt_r a s) k = zv_J h (zt_r a s) k) (fR : ∀ k, zv_R h' (zt_r a s) k = zv_R h (zt_r a s) k) (fg : (zm_o c s 2 = 0 ∨ s = 0) → ∀ k : Nat, (k : Int) < zm_o c s 5 → zv_I h' (a + 5) (zt_id (s, (k : Int))).toNat = zv_I h (a + 5) (zt_id (s, (k : Int))).toNat) : zt_S0 a c' h' s := by
  have hag := ha s List.mem_cons_self
  have e : ∀ w : Int, 1 ≤ w → w < 76 → w ≠ 7 → zm_o c' s w = zm_o c s w := hag
  obtain ⟨ok, g0, gt, W1⟩ := zt_line_u W hs hl
  have un : ∀ l', zm_Ln c' (s :: l') s → l' = l := fun l' h' => (List.cons.inj (zm_Ln_u h' (zm_Ln_cg ha hl))).2
  have edc := zt_dc_cg ha g0
  have etk : zm_o c s 2 = 1 → zm_tk c' s = zm_tk c s := fun q => zm_tk_cg hag (zm_cut12 g0 s List.mem_cons_self q)
  refine ⟨?_, ?_, ?_, ?_, ?_, ?_, h7, ?_, fun t ht => ?_, fun t ht => ?_, fun q k x hx => ?_, fun q k hk => ?_, fun l' hl' => ?_, fun l' hl' n x hx => ?_, zt_cw_cg (zt_S0_cw S) hl ha⟩
  · rw [fR, e 1 (by decide) (by decide) (by decide)]; exact zt_S0_pa S
  · rw [fR, e 6 (by decide) (by decide) (by decide)]; exact zt_S0_fi S
  · rw [f 6 (by decide) (by decide) (by decide) (by decide), e 2 (by decide) (by decide) (by decide)]; exact zt_S0_ac S
  · rw [f 7 (by decide) (by decide) (by decide) (by decide), e 3 (by decide) (by decide) (by decide)]; exact zt_S0_ti S
  · rw [f 8 (by decide) (by decide) (by decide) (by decide), e 4 (by decide) (by decide) (by decide)]; exact zt_S0_pl S
  · rw [f 9 (by decide) (by decide) (by decide) (by decide), e 5 (by decide) (by decide) (by decide)]; exact zt_S0_sz S
  · rw [f 15 (by decide) (by decide) (by decide) (by decide), e 2 (by decide) (by decide) (by decide), e 8 (by decide) (by decide) (by decide), e 9 (by decide) (by decide) (by decide)]; exact zt_S0_an S
  · rw [fJ, zt_S0_nm S t ht, zm_nm_cg hag]
  · rw [fJ, zt_S0_bs S t ht]
    have : zt_ln c' s t ↔ zt_ln c s t := by
      unfold zt_ln
      rw [e 2 (by decide) (by decide) (by decide), e 8 (by decide) (by decide) (by decide)]
      constructor
      · intro q
        rcases q with q | q
        · exact Or.inl q
        · rw [etk q.1] at q; exact Or.inr q
      · intro q
        rcases q with q | q
        · exact Or.inl q
        · rw [← etk q.1] at q; exact Or.inr q
    rw [this]
  · rw [e 2 (by decide) (by decide) (by decide)] at q
    rw [etk q] at hx
    rw [f1]; exact zt_S0_tk S q k x hx
  · rw [e 2 (by decide) (by decide) (by decide)] at q
    rw [e 5 (by decide) (by decide) (by decide)] at hk
    have hk2 : (k : Int) < 64 := by
      rcases q with z | z
      · by_cases s0 : s = 0
        · have := g0.2.2.1
          rw [s0] at hk
          omega
        · have := g0.2.2.2.2 s List.mem_cons_self s0 (Or.inl z)
          omega
      · have := g0.2.2.1
        rw [z] at hk
        omega
    rw [e (12 + (k : Int)) (by omega) (by omega) (by omega), fg q k hk]
    exact zt_S0_gl S q k hk
  · rw [un l' hl', f 12 (by decide) (by decide) (by decide) (by decide), edc]; exact zt_S0_ln S l hl
  · rw [un l' hl', edc] at hx
    rw [f2]; exact zt_S0_dc S l hl n x hx
end
/-! A13.grow -/
section
/-! ===== the tie: a new State, exactly ===== -/
theorem zt_vis_l {a : Nat} (ha : zv_lay a = (1, 0)) : zv_lay (a + 17) = (1, 6) ∧ zv_lay (a + 18) = (2, 40) ∧ zv_lay (a + 19) = (2, 40) ∧ zv_lay (a + 20) = (2, 40) ∧ zv_lay (a + 21) = (2, 40) := by cases zc_lh ha with
  | inl e => rw [e]; exact ⟨rfl, rfl, rfl, rfl, rfl⟩
  | inr e => rw [e]; exact ⟨rfl, rfl, rfl, rfl, rfl⟩
/-- the heap behind a visit -/
def zt_vh (a s : Nat) (t : Int) (g : zv_H) : zv_H := zv_sI (zv_sI (zv_sI (zv_sI g (a + 18) (zv_I g (a + 17) 4 % 40).toNat (zv_I g s 0)) (a + 19) (zv_I g (a + 17) 4 % 40).toNat t) (a + 17) 4 (zv_w (zv_I g (a + 17) 4 + 1))) s 13 (zv_w (zv_I g (a + 17) 4 + 1))
theorem zt_C6_add {d : Nat} {a s : Nat} {t : Int} {g : zv_H} (gL : zt_L g) (ha : zv_lay a = (1, 0)) (ls : zv_lay s = (1, 5)) (h0 : 0 ≤ zv_I g (a + 17) 4) : C6_add (d + 1) (a + 17) s t g = some (zt_vh a s t g) := by
  obtain ⟨l0, l1, l2, _, _⟩ := zt_vis_l ha
  refine lC6_add (zl_ob gL l0) ?_
  have hm : (zv_I g (a + 17) 4).tmod 40 = zv_I g (a + 17) 4 % 40 := Int.tmod_eq_emod_of_nonneg h0
  have r : 0 ≤ zv_I g (a + 17) 4 % 40 ∧ zv_I g (a + 17) 4 % 40 < 40 := ⟨Int.emod_nonneg _ (by decide), Int.emod_lt_of_pos _ (by decide)⟩
  have n18 : ∀ (g : zv_H) (k : Nat) (v : Int), zv_I (zv_sI g (a + 18) k v) (a + 17) 4 = zv_I g (a + 17) 4 := fun g k v => zy_In _ _ (by omega)
  have n19 : ∀ (g : zv_H) (k : Nat) (v : Int), zv_I (zv_sI g (a + 19) k v) (a + 17) 4 = zv_I g (a + 17) 4 := fun g k v => zy_In _ _ (by omega)
  rw [qE6_add, zm_e (zl_gI gL l0 4), hm, if_neg (by omega), if_pos r.2, zm_e (zl_gF gL l0 0 1), show a + 17 + 1 = a + 18 from rfl, zm_e (zl_gI gL ls 0), zm_e (zl_wI gL l1 r.1 r.2 _)]
  rw [zm_e (zl_gF (g := zv_sI g (a + 18) (zv_I g (a + 17) 4 % 40).toNat (zv_I g s 0)) gL l0 1 2), show a + 17 + 2 = a + 19 from rfl, zm_e (zl_wI (g := zv_sI g (a + 18) (zv_I g (a + 17) 4 % 40).toNat (zv_I g s 0)) gL l2 r.1 r.2 _)]
  rw [zm_e (zl_gI (g := zv_sI (zv_sI g (a + 18) (zv_I g (a + 17) 4 % 40).toNat (zv_I g s 0)) (a + 19) (zv_I g (a + 17) 4 % 40).toNat t) gL l0 4), n19, n18, zm_e (zl_pI (g := zv_sI (zv_sI g (a + 18) (zv_I g (a + 17) 4 % 40).toNat (zv_I g s 0)) (a + 19) (zv_I g (a + 17) 4 % 40).toNat t) gL l0 4 _)]
  rw [zm_e (zl_gI (g := zv_sI (zv_sI (zv_sI g (a + 18) (zv_I g (a + 17) 4 % 40).toNat (zv_I g s 0)) (a + 19) (zv_I g (a + 17) 4 % 40).toNat t) (a + 17) 4 (zv_w (zv_I g (a + 17) 4 + 1))) gL l0 4), zy_I, zm_e (zl_pI (g := zv_sI (zv_sI (zv_sI g (a + 18) (zv_I g (a + 17) 4 % 40).toNat (zv_I g s 0)) (a + 19) (zv_I g (a + 17) 4 % 40).toNat t) (a + 17) 4 (zv_w (zv_I g (a + 17) 4 + 1))) gL ls 13 _)]
  rfl
/-! one write behind another -/
theorem zs_II (h : zv_H) (r k : Nat) (v : Int) : zv_I (zv_sI h r k v) r k = v := if_pos ⟨rfl, rfl⟩
theorem zs_In (h : zv_H) (r k : Nat) (v : Int) {b : Nat} (hb : b ≠ k) : zv_I (zv_sI h r k v) r b = zv_I h r b := if_neg (fun q => hb q.2)
theorem zs_Io (h : zv_H) (r k : Nat) (v : Int) {a b : Nat} (ha : a ≠ r) : zv_I (zv_sI h r k v) a b = zv_I h a b := if_neg (fun q => ha q.1)
theorem zs_IJ (h : zv_H) (r k : Nat) (v : Int64) (a b : Nat) : zv_I (zv_sJ h r k v) a b = zv_I h a b := rfl
theorem zs_IR (h : zv_H) (r k v a b : Nat) : zv_I (zv_sR h r k v) a b = zv_I h a b := rfl
theorem zs_JJ (h : zv_H) (r k : Nat) (v : Int64) : zv_J (zv_sJ h r k v) r k = v := if_pos ⟨rfl, rfl⟩
theorem zs_Jn (h : zv_H) (r k : Nat) (v : Int64) {b : Nat} (hb : b ≠ k) : zv_J (zv_sJ h r k v) r b = zv_J h r b := if_neg (fun q => hb q.2)
theorem zs_Jo (h : zv_H) (r k : Nat) (v : Int64) {a b : Nat} (ha : a ≠ r) : zv_J (zv_sJ h r k v) a b = zv_J h a b := if_neg (fun q => ha q.1)
theorem zs_JI (h : zv_H) (r k : Nat) (v : Int) (a b : Nat) : zv_J (zv_sI h r k v) a b = zv_J h a b := rfl
theorem zs_JR (h : zv_H) (r k v a b : Nat) : zv_J (zv_sR h r k v) a b = zv_J h a b := rfl
theorem zs_RR (h : zv_H) (r k v : Nat) : zv_R (zv_sR h r k v) r k = v := if_pos ⟨rfl, rfl⟩
theorem zs_Rn (h : zv_H) (r k v : Nat) {b : Nat} (hb : b ≠ k) : zv_R (zv_sR h r k v) r b = zv_R h r b := if_neg (fun q => hb q.2)
theorem zs_Rg (h : zv_H) (r k v : Nat) {a b : Nat} (ha : ¬ (a = r ∧ b = k)) : zv_R (zv_sR h r k v) a b = zv_R h a b := if_neg ha
theorem zs_RI (h : zv_H) (r k : Nat) (v : Int) (a b : Nat) : zv_R (zv_sI h r k v) a b = zv_R h a b := rfl
theorem zs_RJ (h : zv_H) (r k : Nat) (v : Int64) (a b : Nat) : zv_R (zv_sJ h r k v) a b = zv_R h a b := rfl
/-- what State.open leaves, exactly -/
def zt_op (h : zv_H) (h' : zv_H) (s : Nat) (p : Nat) (x : Int) (y : Int) (z : Int) : Prop := (h'.1 = h.1) ∧ (h'.2.2.2.2 = h.2.2.2.2) ∧ (∀ r k, r ≠ s → zv_I h' r k = zv_I h r k) ∧ (∀ r k, r ≠ s → zv_J h' r k = zv_J h r k) ∧ (∀ r k, ¬ (r = s ∧ (k = 4 ∨ k = 5)) → zv_R h' r k = zv_R h r k) ∧ (zv_I h' s 0 = zv_I h s 0) ∧ (zv_I h' s 3 = 1) ∧ (zv_I h' s 6 = x) ∧ (zv_I h' s 8 = y) ∧ (zv_I h' s 9 = z) ∧ (zv_I h' s 11 = 0) ∧ (zv_I h' s 12 = 0) ∧ (zv_I h' s 15 = -1) ∧ (zv_J h' s 16 = Int64.ofNat 0) ∧ (zv_J h' s 17 = Int64.ofNat 0) ∧ (zv_R h' s 4 = p) ∧ (zv_R h' s 5 = s)
theorem zt_op_f1 {h : zv_H} {h' : zv_H} {s : Nat} {p : Nat} {x : Int} {y : Int} {z : Int} (t : zt_op h h' s p x y z) : h'.1 = h.1 := t.1
theorem zt_op_f2 {h : zv_H} {h' : zv_H} {s : Nat} {p : Nat} {x : Int} {y : Int} {z : Int} (t : zt_op h h' s p x y z) : h'.2.2.2.2 = h.2.2.2.2 := t.2.1
theorem zt_op_oI {h : zv_H} {h' : zv_H} {s : Nat} {p : Nat} {x : Int} {y : Int} {z : Int} (t : zt_op h h' s p x y z) : ∀ r k, r ≠ s → zv_I h' r k = zv_I h r k := t.2.2.1
theorem zt_op_oJ {h : zv_H} {h' : zv_H} {s : Nat} {p : Nat} {x : Int} {y : Int} {z : Int} (t : zt_op h h' s p x y z) : ∀ r k, r ≠ s → zv_J h' r k = zv_J h r k := t.2.2.2.1
theorem zt_op_oR {h : zv_H} {h' : zv_H} {s : Nat} {p : Nat} {x : Int} {y : Int} {z : Int} (t : zt_op h h' s p x y z) : ∀ r k, ¬ (r = s ∧ (k = 4 ∨ k = 5)) → zv_R h' r k = zv_R h r k := t.2.2.2.2.1
theorem zt_op_s0 {h : zv_H} {h' : zv_H} {s : Nat} {p : Nat} {x : Int} {y : Int} {z : Int} (t : zt_op h h' s p x y z) : zv_I h' s 0 = zv_I h s 0 := t.2.2.2.2.2.1
theorem zt_op_s3 {h : zv_H} {h' : zv_H} {s : Nat} {p : Nat} {x : Int} {y : Int} {z : Int} (t : zt_op h h' s p x y z) : zv_I h' s 3 = 1 := t.2.2.2.2.2.2.1
theorem zt_op_s6 {h : zv_H} {h' : zv_H} {s : Nat} {p : Nat} {x : Int} {y : Int} {z : Int} (t : zt_op h h' s p x y z) : zv_I h' s 6 = x := t.2.2.2.2.2.2.2.1
theorem zt_op_s8 {h : zv_H} {h' : zv_H} {s : Nat} {p : Nat} {x : Int} {y : Int} {z : Int} (t : zt_op h h' s p x y z) : zv_I h' s 8 = y := t.2.2.2.2.2.2.2.2.1
theorem zt_op_s9 {h : zv_H} {h' : zv_H} {s : Nat} {p : Nat} {x : Int} {y : Int} {z : Int} (t : zt_op h h' s p x y z) : zv_I h' s 9 = z := t.2.2.2.2.2.2.2.2.2.1
theorem zt_op_sb {h : zv_H} {h' : zv_H} {s : Nat} {p : Nat} {x : Int} {y : Int} {z : Int} (t : zt_op h h' s p x y z) : zv_I h' s 11 = 0 := t.2.2.2.2.2.2.2.2.2.2.1
theorem zt_op_sc {h : zv_H} {h' : zv_H} {s : Nat} {p : Nat} {x : Int} {y : Int} {z : Int} (t : zt_op h h' s p x y z) : zv_I h' s 12 = 0 := t.2.2.2.2.2.2.2.2.2.2.2.1
theorem zt_op_sf {h : zv_H} {h' : zv_H} {s : Nat} {p : Nat} {x : Int} {y : Int} {z : Int} (t : zt_op h h' s p x y z) : zv_I h' s 15 = -1 := t.2.2.2.2.2.2.2.2.2.2.2.2.1
theorem zt_op_jg {h : zv_H} {h' : zv_H} {s : Nat} {p : Nat} {x : Int} {y : Int} {z : Int} (t : zt_op h h' s p x y z) : zv_J h' s 16 = Int64.ofNat 0 := t.2.2.2.2.2.2.2.2.2.2.2.2.2.1
theorem zt_op_jh {h : zv_H} {h' : zv_H} {s : Nat} {p : Nat} {x : Int} {y : Int} {z : Int} (t : zt_op h h' s p x y z) : zv_J h' s 17 = Int64.ofNat 0 := t.2.2.2.2.2.2.2.2.2.2.2.2.2.2.1
theorem zt_op_r4 {h : zv_H} {h' : zv_H} {s : Nat} {p : Nat} {x : Int} {y : Int} {z : Int} (t : zt_op h h' s p x y z) : zv_R h' s 4 = p := t.2.2.2.2.2.2.2.2.2.2.2.2.2.2.2.1
theorem zt_op_r5 {h : zv_H} {h' : zv_H} {s : Nat} {p : Nat} {x : Int} {y : Int} {z : Int} (t : zt_op h h' s p x y z) : zv_R h' s 5 = s := t.2.2.2.2.2.2.2.2.2.2.2.2.2.2.2.2
theorem zs_1I (h : zv_H) (a k : Nat) (v : Int) : (zv_sI h a k v).1 = h.1 := rfl
theorem zs_1J (h : zv_H) (a k : Nat) (v : Int64) : (zv_sJ h a k v).1 = h.1 := rfl
theorem zs_1R (h : zv_H) (a k v : Nat) : (zv_sR h a k v).1 = h.1 := rfl
theorem zs_4I (h : zv_H) (a k : Nat) (v : Int) : (zv_sI h a k v).2.2.2.2 = h.2.2.2.2 := rfl
theorem zs_4J (h : zv_H) (a k : Nat) (v : Int64) : (zv_sJ h a k v).2.2.2.2 = h.2.2.2.2 := rfl
theorem zs_4R (h : zv_H) (a k v : Nat) : (zv_sR h a k v).2.2.2.2 = h.2.2.2.2 := rfl
theorem zs_oI {h : zv_H} {r c a k : Nat} {v : Int} (o : zv_ob h r c) : zv_ob (zv_sI h a k v) r c := o
theorem zs_oJ {h : zv_H} {r c a k : Nat} {v : Int64} (o : zv_ob h r c) : zv_ob (zv_sJ h a k v) r c := o
theorem zs_oR {h : zv_H} {r c a k v : Nat} (o : zv_ob h r c) : zv_ob (zv_sR h a k v) r c := o
theorem zt_E5_open {d : Nat} {h : zv_H} {s p : Nat} {x y z : Int} (gL : zt_L h) (ls : zv_lay s = (1, 5)) (lp : p = 0 ∨ zv_lay p = (1, 5)) : zm_R (E5_open d s p x y z h) (zm_V fun h' => zt_op h h' s p x y z) := by
  have ob := zl_ob gL ls
  have tail : ∀ w : Int, zm_R (L5_open_51 d s s w (zv_sI (zv_sI (zv_sI (zv_sI (zv_sR (zv_sR (zv_sI h s 3 1) s 4 p) s 5 s) s 6 x) s 7 0) s 8 y) s 9 z)) (zm_V fun h' => zt_op h h' s p x y z) := by
    intro w
    rw [qL5_open_51]
    refine zc_dI (zs_oI (zs_oI (zs_oI (zs_oI (zs_oR (zs_oR (zs_oI ob))))))) ?_
    refine zc_dI (zs_oI (zs_oI (zs_oI (zs_oI (zs_oI (zs_oR (zs_oR (zs_oI ob)))))))) ?_
    refine zc_dI (zs_oI (zs_oI (zs_oI (zs_oI (zs_oI (zs_oI (zs_oR (zs_oR (zs_oI ob))))))))) ?_
    refine zc_dI (zs_oI (zs_oI (zs_oI (zs_oI (zs_oI (zs_oI (zs_oI (zs_oR (zs_oR (zs_oI ob)))))))))) ?_
    refine zc_dI (zs_oI (zs_oI (zs_oI (zs_oI (zs_oI (zs_oI (zs_oI (zs_oI (zs_oR (zs_oR (zs_oI ob))))))))))) ?_
    refine zc_dI (zs_oI (zs_oI (zs_oI (zs_oI (zs_oI (zs_oI (zs_oI (zs_oI (zs_oI (zs_oR (zs_oR (zs_oI ob)))))))))))) ?_
    refine zc_dJ (zs_oI (zs_oI (zs_oI (zs_oI (zs_oI (zs_oI (zs_oI (zs_oI (zs_oI (zs_oI (zs_oR (zs_oR (zs_oI ob))))))))))))) ?_
    refine zc_dJ (zs_oJ (zs_oI (zs_oI (zs_oI (zs_oI (zs_oI (zs_oI (zs_oI (zs_oI (zs_oI (zs_oI (zs_oR (zs_oR (zs_oI ob)))))))))))))) ?_
    refine zm_iV ⟨by simp only [zs_1I, zs_1J, zs_1R], by simp only [zs_4I, zs_4J, zs_4R], fun r k hr => ?_, fun r k hr => ?_, fun r k hr => ?_, ?_, ?_, ?_, ?_, ?_, ?_, ?_, ?_, ?_, ?_, ?_, ?_⟩
    · rw [zs_IJ, zs_IJ]
      simp only [zs_Io _ _ _ _ hr, zs_IR]
    · rw [zs_Jo _ _ _ _ hr, zs_Jo _ _ _ _ hr]
      simp only [zs_JI, zs_JR]
    · have h4 : ¬ (r = s ∧ k = 4) := fun q => hr ⟨q.1, Or.inl q.2⟩
      have h5 : ¬ (r = s ∧ k = 5) := fun q => hr ⟨q.1, Or.inr q.2⟩
      simp only [zs_RI, zs_RJ, zs_Rg _ _ _ _ h4, zs_Rg _ _ _ _ h5]
    all_goals simp only [zs_II, zs_IJ, zs_IR, zs_JJ, zs_JI, zs_JR, zs_RR, zs_RI, zs_RJ, zs_In, zs_Jn, zs_Rn, ne_eq, Nat.reduceEqDiff, not_false_eq_true]
  rw [qE5_open]
  refine zc_dZ ob (Or.inr rfl) ?_
  refine zc_dR (zs_oI ob) ?_
  refine zc_dR (zs_oR (zs_oI ob)) ?_
  refine zc_dI (zs_oR (zs_oR (zs_oI ob))) ?_
  refine zc_dI (zs_oI (zs_oR (zs_oR (zs_oI ob)))) ?_
  refine zc_dI (zs_oI (zs_oI (zs_oR (zs_oR (zs_oI ob))))) ?_
  refine zc_dI (zs_oI (zs_oI (zs_oI (zs_oR (zs_oR (zs_oI ob)))))) ?_
  refine zm_if (fun c => tail 0) (fun c => ?_)
  have op := zl_ob gL (lp.resolve_left c)
  refine zc_eI (zs_oI (zs_oI (zs_oI (zs_oI (zs_oR (zs_oR (zs_oI op))))))) rfl ?_
  exact tail _
theorem zt_C5_open {d : Nat} {h : zv_H} {s p : Nat} {x y z : Int} (gL : zt_L h) (ls : zv_lay s = (1, 5)) (lp : p = 0 ∨ zv_lay p = (1, 5)) : zm_R (C5_open (d + 1) s p x y z h) (fun h' => zt_op h h' s p x y z) := zm_cV (fun e => lC5_open (zl_ob gL ls) e) (zt_E5_open gL ls lp)
/-- what grow leaves, exactly: the new one is number i -/
def zt_gw (a : Nat) (h : zv_H) (g : zv_H) (i : Nat) (x : Int) (y : Int) (z : Int) : Prop := (zt_L g) ∧ (g.1 = h.1) ∧ (g.2.2.2.2 = h.2.2.2.2) ∧ (∀ r k, r ≠ zc_stt a i → ¬ (r = zv_R h a 10 ∧ k = 11) → ¬ (r = a ∧ k = 12) → ¬ (r = a + 17 ∧ k = 4) → r ≠ a + 18 → r ≠ a + 19 → zv_I g r k = zv_I h r k) ∧ (∀ r k, r ≠ zc_stt a i → zv_J g r k = zv_J h r k) ∧ (∀ r k, r ≠ zc_stt a i → ¬ (r = a ∧ k = 10) → zv_R g r k = zv_R h r k) ∧ (zv_I g (zc_stt a i) 0 = i) ∧ (zv_I g (zc_stt a i) 3 = 1) ∧ (zv_I g (zc_stt a i) 6 = x) ∧ (zv_I g (zc_stt a i) 7 = zv_I h a 11) ∧ (zv_I g (zc_stt a i) 8 = y) ∧ (zv_I g (zc_stt a i) 9 = z) ∧ (zv_I g (zc_stt a i) 12 = 0) ∧ (zv_I g (zc_stt a i) 13 = zv_w (zv_I h (a + 17) 4 + 1)) ∧ (zv_I g (zc_stt a i) 15 = -1) ∧ (zv_J g (zc_stt a i) 16 = Int64.ofNat 0) ∧ (zv_J g (zc_stt a i) 17 = Int64.ofNat 0) ∧ (zv_R g (zc_stt a i) 4 = zv_R h a 10) ∧ (zv_R g (zc_stt a i) 5 = zc_stt a i) ∧ (zv_R g a 10 = zc_stt a i) ∧ (zv_I g a 12 = zv_w (zv_I h a 12 + 1)) ∧ (zv_I g (a + 17) 4 = zv_w (zv_I h (a + 17) 4 + 1)) ∧ (∀ k, zv_I g (a + 18) k = if k = (zv_I h (a + 17) 4 % 40).toNat then (i : Int) else zv_I h (a + 18) k) ∧ (∀ k, zv_I g (a + 19) k = if k = (zv_I h (a + 17) 4 % 40).toNat then zv_I h a 11 else zv_I h (a + 19) k)
theorem zt_gw_L {a : Nat} {h : zv_H} {g : zv_H} {i : Nat} {x : Int} {y : Int} {z : Int} (t : zt_gw a h g i x y z) : zt_L g := t.1
theorem zt_gw_f1 {a : Nat} {h : zv_H} {g : zv_H} {i : Nat} {x : Int} {y : Int} {z : Int} (t : zt_gw a h g i x y z) : g.1 = h.1 := t.2.1
theorem zt_gw_f2 {a : Nat} {h : zv_H} {g : zv_H} {i : Nat} {x : Int} {y : Int} {z : Int} (t : zt_gw a h g i x y z) : g.2.2.2.2 = h.2.2.2.2 := t.2.2.1
theorem zt_gw_oI {a : Nat} {h : zv_H} {g : zv_H} {i : Nat} {x : Int} {y : Int} {z : Int} (t : zt_gw a h g i x y z) : ∀ r k, r ≠ zc_stt a i → ¬ (r = zv_R h a 10 ∧ k = 11) → ¬ (r = a ∧ k = 12) → ¬ (r = a + 17 ∧ k = 4) → r ≠ a + 18 → r ≠ a + 19 → zv_I g r k = zv_I h r k := t.2.2.2.1
theorem zt_gw_oJ {a : Nat} {h : zv_H} {g : zv_H} {i : Nat} {x : Int} {y : Int} {z : Int} (t : zt_gw a h g i x y z) : ∀ r k, r ≠ zc_stt a i → zv_J g r k = zv_J h r k := t.2.2.2.2.1
theorem zt_gw_oR {a : Nat} {h : zv_H} {g : zv_H} {i : Nat} {x : Int} {y : Int} {z : Int} (t : zt_gw a h g i x y z) : ∀ r k, r ≠ zc_stt a i → ¬ (r = a ∧ k = 10) → zv_R g r k = zv_R h r k := t.2.2.2.2.2.1
theorem zt_gw_s0 {a : Nat} {h : zv_H} {g : zv_H} {i : Nat} {x : Int} {y : Int} {z : Int} (t : zt_gw a h g i x y z) : zv_I g (zc_stt a i) 0 = i := t.2.2.2.2.2.2.1
theorem zt_gw_s3 {a : Nat} {h : zv_H} {g : zv_H} {i : Nat} {x : Int} {y : Int} {z : Int} (t : zt_gw a h g i x y z) : zv_I g (zc_stt a i) 3 = 1 := t.2.2.2.2.2.2.2.1
theorem zt_gw_s6 {a : Nat} {h : zv_H} {g : zv_H} {i : Nat} {x : Int} {y : Int} {z : Int} (t : zt_gw a h g i x y z) : zv_I g (zc_stt a i) 6 = x := t.2.2.2.2.2.2.2.2.1
theorem zt_gw_s7 {a : Nat} {h : zv_H} {g : zv_H} {i : Nat} {x : Int} {y : Int} {z : Int} (t : zt_gw a h g i x y z) : zv_I g (zc_stt a i) 7 = zv_I h a 11 := t.2.2.2.2.2.2.2.2.2.1
theorem zt_gw_s8 {a : Nat} {h : zv_H} {g : zv_H} {i : Nat} {x : Int} {y : Int} {z : Int} (t : zt_gw a h g i x y z) : zv_I g (zc_stt a i) 8 = y := t.2.2.2.2.2.2.2.2.2.2.1
theorem zt_gw_s9 {a : Nat} {h : zv_H} {g : zv_H} {i : Nat} {x : Int} {y : Int} {z : Int} (t : zt_gw a h g i x y z) : zv_I g (zc_stt a i) 9 = z := t.2.2.2.2.2.2.2.2.2.2.2.1
theorem zt_gw_sc {a : Nat} {h : zv_H} {g : zv_H} {i : Nat} {x : Int} {y : Int} {z : Int} (t : zt_gw a h g i x y z) : zv_I g (zc_stt a i) 12 = 0 := t.2.2.2.2.2.2.2.2.2.2.2.2.1
theorem zt_gw_sd {a : Nat} {h : zv_H} {g : zv_H} {i : Nat} {x : Int} {y : Int} {z : Int} (t : zt_gw a h g i x y z) : zv_I g (zc_stt a i) 13 = zv_w (zv_I h (a + 17) 4 + 1) := t.2.2.2.2.2.2.2.2.2.2.2.2.2.1
theorem zt_gw_sf {a : Nat} {h : zv_H} {g : zv_H} {i : Nat} {x : Int} {y : Int} {z : Int} (t : zt_gw a h g i x y z) : zv_I g (zc_stt a i) 15 = -1 := t.2.2.2.2.2.2.2.2.2.2.2.2.2.2.1
theorem zt_gw_jg {a : Nat} {h : zv_H} {g : zv_H} {i : Nat} {x : Int} {y : Int} {z : Int} (t : zt_gw a h g i x y z) : zv_J g (zc_stt a i) 16 = Int64.ofNat 0 := t.2.2.2.2.2.2.2.2.2.2.2.2.2.2.2.1
theorem zt_gw_jh {a : Nat} {h : zv_H} {g : zv_H} {i : Nat} {x : Int} {y : Int} {z : Int} (t : zt_gw a h g i x y z) : zv_J g (zc_stt a i) 17 = Int64.ofNat 0 := t.2.2.2.2.2.2.2.2.2.2.2.2.2.2.2.2.1
theorem zt_gw_r4 {a : Nat} {h : zv_H} {g : zv_H} {i : Nat} {x : Int} {y : Int} {z : Int} (t : zt_gw a h g i x y z) : zv_R g (zc_stt a i) 4 = zv_R h a 10 := t.2.2.2.2.2.2.2.2.2.2.2.2.2.2.2.2.2.1
theorem zt_gw_r5 {a : Nat} {h : zv_H} {g : zv_H} {i : Nat} {x : Int} {y : Int} {z : Int} (t : zt_gw a h g i x y z) : zv_R g (zc_stt a i) 5 = zc_stt a i := t.2.2.2.2.2.2.2.2.2.2.2.2.2.2.2.2.2.2.1
theorem zt_gw_he {a : Nat} {h : zv_H} {g : zv_H} {i : Nat} {x : Int} {y : Int} {z : Int} (t : zt_gw a h g i x y z) : zv_R g a 10 = zc_stt a i := t.2.2.2.2.2.2.2.2.2.2.2.2.2.2.2.2.2.2.2.1
theorem zt_gw_ct {a : Nat} {h : zv_H} {g : zv_H} {i : Nat} {x : Int} {y : Int} {z : Int} (t : zt_gw a h g i x y z) : zv_I g a 12 = zv_w (zv_I h a 12 + 1) := t.2.2.2.2.2.2.2.2.2.2.2.2.2.2.2.2.2.2.2.2.1
theorem zt_gw_v4 {a : Nat} {h : zv_H} {g : zv_H} {i : Nat} {x : Int} {y : Int} {z : Int} (t : zt_gw a h g i x y z) : zv_I g (a + 17) 4 = zv_w (zv_I h (a + 17) 4 + 1) := t.2.2.2.2.2.2.2.2.2.2.2.2.2.2.2.2.2.2.2.2.2.1
theorem zt_gw_vs {a : Nat} {h : zv_H} {g : zv_H} {i : Nat} {x : Int} {y : Int} {z : Int} (t : zt_gw a h g i x y z) : ∀ k, zv_I g (a + 18) k = if k = (zv_I h (a + 17) 4 % 40).toNat then (i : Int) else zv_I h (a + 18) k := t.2.2.2.2.2.2.2.2.2.2.2.2.2.2.2.2.2.2.2.2.2.2.1
theorem zt_gw_vt {a : Nat} {h : zv_H} {g : zv_H} {i : Nat} {x : Int} {y : Int} {z : Int} (t : zt_gw a h g i x y z) : ∀ k, zv_I g (a + 19) k = if k = (zv_I h (a + 17) 4 % 40).toNat then zv_I h a 11 else zv_I h (a + 19) k := t.2.2.2.2.2.2.2.2.2.2.2.2.2.2.2.2.2.2.2.2.2.2.2
theorem zt_hn {a n : Nat} (ha : zv_lay a = (1, 0)) (hn : n ≠ 1 ∧ n ≤ 27) : zv_lay (a + n) ≠ (1, 5) := by
  have e : ((List.range 28).all fun n => Nat.beq n 1 || (decide (zv_lay (9 + n) ≠ (1, 5)) && decide (zv_lay (178 + n) ≠ (1, 5)))) = true := by decide +kernel
  have e1 := List.all_eq_true.mp e n (List.mem_range.mpr (by omega))
  rw [Bool.or_eq_true, Bool.and_eq_true] at e1
  rcases e1 with q | q
  · exact absurd (Nat.eq_of_beq_eq_true q) hn.1
  · rcases zc_lh ha with z | z
    · rw [z]; exact of_decide_eq_true q.1
    · rw [z]; exact of_decide_eq_true q.2
theorem zt_stt_ne {a i x : Nat} (ha : zv_lay a = (1, 0)) (hi : i < 48) (hx : x ≠ 1 ∧ x ≤ 27) : a + x ≠ zc_stt a i := fun q => zt_hn ha hx (by
  rw [q]
  exact (zc_stl ha hi).1)
theorem zt_grow25 {d : Nat} {a i : Nat} {h : zv_H} {x y z : Int} (gL : zt_L h) (ha : zv_lay a = (1, 0)) (hi : i < 48) (hn : zv_I h (zc_stt a i) 0 = i) (lp : zv_lay (zv_R h a 10) = (1, 5)) (np : zv_R h a 10 ≠ zc_stt a i) (h0 : 0 ≤ zv_I h (a + 17) 4) : zm_R (L0_grow_25 (d + 1) a x y z (i : Int) h) (zm_N fun v g => v = zc_stt a i ∧ zt_gw a h g i x y z) := by
  have ls := (zc_stl ha hi).1
  obtain ⟨l17, l18, l19, _, _⟩ := zt_vis_l ha
  have h9 := zc_lh ha
  have nx : ∀ n, n ≠ 1 ∧ n ≤ 27 → a + n ≠ zc_stt a i := fun n hn => zt_stt_ne ha hi hn
  have na : a ≠ zc_stt a i := nx 0 (by decide)
  have pn : ∀ n, n ≠ 1 → n ≤ 27 → a + n ≠ zv_R h a 10 := fun n h1 h2 q => zt_hn ha ⟨h1, h2⟩ (by
    rw [q]
    exact lp)
  have pa : a ≠ zv_R h a 10 := pn 0 (by decide) (by decide)
  rw [qL0_grow_25, if_pos (by omega), zm_e (zl_gF gL ha 1 4), zm_e (zl_aS gL ha (by omega) (by omega)), show ((i : Int)).toNat = i by omega, if_neg (zc_nz ls), zm_e (zl_gF gL ha 1 4), zm_e (zl_aS gL ha (by omega) (by omega)), show ((i : Int)).toNat = i by omega, zm_e (zl_gR gL ha 10)]
  generalize hs : zc_stt a i = s at *
  generalize hp : zv_R h a 10 = p at *
  obtain ⟨g6, e6, O⟩ := zt_C5_open (d := d) (x := x) (y := y) (z := z) gL ls (Or.inr lp)
  rw [zm_e e6]
  have L6 : zt_L g6 := by
    refine ⟨?_, fun r k c1 c2 => ?_, fun b j c1 c2 => ?_⟩
    · show g6.1.1 = 372
      rw [zt_op_f1 O]; exact gL.1
    · rw [zt_op_oR O r k (fun q => by
        rw [q.1, ls] at c2
        rcases q.2 with e | e <;> rw [e] at c2 <;> exact c2 rfl)]
      exact gL.2.1 r k c1 c2
    · rw [zt_op_oR O (b + 4) j (fun q => by
        have := zl_l4 c1
        rw [q.1, ls] at this
        cases this)]
      exact gL.2.2 b j c1 c2
  have ra : zv_R g6 a 10 = p := (zt_op_oR O a 10 (fun q => na q.1)).trans hp
  rw [zm_e (zl_gI L6 ha 11), zt_op_oI O a 11 na, zm_e (zl_pI L6 ls 7 _), zm_e (zl_gR (g := zv_sI g6 s 7 (zv_I h a 11)) L6 ha 10), show zv_R (zv_sI g6 s 7 (zv_I h a 11)) a 10 = p from ra, zm_e (zl_gI (g := zv_sI g6 s 7 (zv_I h a 11)) L6 lp 11), zm_e (zl_pI (g := zv_sI g6 s 7 (zv_I h a 11)) L6 lp 11 _)]
  have e1 : zv_I (zv_sI g6 s 7 (zv_I h a 11)) p 11 = zv_I h p 11 := by rw [zy_In _ _ (fun q => np q.1), zt_op_oI O p 11 np]
  rw [e1]
  generalize hw : zv_w (zv_I h p 11 + 1) = w
  have L7 : zt_L (zv_sI (zv_sI g6 s 7 (zv_I h a 11)) p 11 w) := L6
  have e2 : zv_I (zv_sI (zv_sI g6 s 7 (zv_I h a 11)) p 11 w) a 12 = zv_I h a 12 := by rw [zy_In _ _ (fun q => pa q.1), zy_In _ _ (fun q => na q.1), zt_op_oI O a 12 na]
  rw [zm_e (zl_gI L7 ha 12), e2, zm_e (zl_pI L7 ha 12 _)]
  have L8 : zt_L (zv_sI (zv_sI (zv_sI g6 s 7 (zv_I h a 11)) p 11 w) a 12 (zv_w (zv_I h a 12 + 1))) := L6
  rw [zm_e (zl_pR L8 ha 10 s)]
  have L9 : zt_L (zv_sR (zv_sI (zv_sI (zv_sI g6 s 7 (zv_I h a 11)) p 11 w) a 12 (zv_w (zv_I h a 12 + 1))) a 10 s) := zl_sR L8 (fun _ => by rw [ha]; rfl) (by omega) (by omega)
  have y1 := zt_op_f1 O
  have y2 := zt_op_f2 O
  have oI : ∀ r k, r ≠ s → ¬ (r = p ∧ k = 11) → ¬ (r = a ∧ k = 12) → zv_I (zv_sR (zv_sI (zv_sI (zv_sI g6 s 7 (zv_I h a 11)) p 11 w) a 12 (zv_w (zv_I h a 12 + 1))) a 10 s) r k = zv_I h r k := fun r k c1 c2 c3 => by
    rw [show ∀ g, zv_I (zv_sR g a 10 s) r k = zv_I g r k from fun _ => rfl, zy_In _ _ c3, zy_In _ _ c2, zy_In _ _ (fun q => c1 q.1), zt_op_oI O r k c1]
  have sI : ∀ k, k ≠ 7 → zv_I (zv_sR (zv_sI (zv_sI (zv_sI g6 s 7 (zv_I h a 11)) p 11 w) a 12 (zv_w (zv_I h a 12 + 1))) a 10 s) s k = zv_I g6 s k := fun k hk => by
    rw [show ∀ g, zv_I (zv_sR g a 10 s) s k = zv_I g s k from fun _ => rfl, zy_In _ _ (fun q => na q.1.symm), zy_In _ _ (fun q => np q.1.symm), zy_In _ _ (fun q => hk q.2)]
  have s7 : zv_I (zv_sR (zv_sI (zv_sI (zv_sI g6 s 7 (zv_I h a 11)) p 11 w) a 12 (zv_w (zv_I h a 12 + 1))) a 10 s) s 7 = zv_I h a 11 := by
    rw [show ∀ g, zv_I (zv_sR g a 10 s) s 7 = zv_I g s 7 from fun _ => rfl, zy_In _ _ (fun q => na q.1.symm), zy_In _ _ (fun q => np q.1.symm), zy_I]
  have a12 : zv_I (zv_sR (zv_sI (zv_sI (zv_sI g6 s 7 (zv_I h a 11)) p 11 w) a 12 (zv_w (zv_I h a 12 + 1))) a 10 s) a 12 = zv_w (zv_I h a 12 + 1) := zy_I _ _ _ _
  have oJ : ∀ r k, zv_J (zv_sR (zv_sI (zv_sI (zv_sI g6 s 7 (zv_I h a 11)) p 11 w) a 12 (zv_w (zv_I h a 12 + 1))) a 10 s) r k = zv_J g6 r k := fun _ _ => rfl
  have oR : ∀ r k, ¬ (r = a ∧ k = 10) → zv_R (zv_sR (zv_sI (zv_sI (zv_sI g6 s 7 (zv_I h a 11)) p 11 w) a 12 (zv_w (zv_I h a 12 + 1))) a 10 s) r k = zv_R g6 r k := fun r k c1 => zy_Rn _ _ c1
  have rh : zv_R (zv_sR (zv_sI (zv_sI (zv_sI g6 s 7 (zv_I h a 11)) p 11 w) a 12 (zv_w (zv_I h a 12 + 1))) a 10 s) a 10 = s := zy_R _ _ _ _
  have x1 : (zv_sR (zv_sI (zv_sI (zv_sI g6 s 7 (zv_I h a 11)) p 11 w) a 12 (zv_w (zv_I h a 12 + 1))) a 10 s).1 = h.1 := y1
  have x2 : (zv_sR (zv_sI (zv_sI (zv_sI g6 s 7 (zv_I h a 11)) p 11 w) a 12 (zv_w (zv_I h a 12 + 1))) a 10 s).2.2.2.2 = h.2.2.2.2 := y2
  generalize zv_sR (zv_sI (zv_sI (zv_sI g6 s 7 (zv_I h a 11)) p 11 w) a 12 (zv_w (zv_I h a 12 + 1))) a 10 s = g9 at L9 oI sI s7 a12 oJ oR rh x1 x2
  have ecn : zv_I g9 (a + 17) 4 = zv_I h (a + 17) 4 := oI _ _ (nx 17 (by decide)) (fun q => absurd q.2 (by decide)) (fun q => absurd q.2 (by decide))
  have enw : zv_I g9 a 11 = zv_I h a 11 := oI _ _ na (fun q => pa q.1) (fun q => absurd q.2 (by decide))
  have enm : zv_I g9 s 0 = i := by rw [sI 0 (by decide), zt_op_s0 O]; exact hn
  rw [zm_e (zl_gF L9 ha 7 17), zm_e (zl_gI L9 ha 11), enw, zm_e (zt_C6_add L9 ha ls (by rw [ecn]; exact h0))]
  have V : ∀ r k, ¬ (r = s ∧ k = 13) → ¬ (r = a + 17 ∧ k = 4) → r ≠ a + 18 → r ≠ a + 19 → zv_I (zt_vh a s (zv_I h a 11) g9) r k = zv_I g9 r k := fun r k c1 c2 c3 c4 => by
    unfold zt_vh
    rw [zy_In _ _ c1, zy_In _ _ c2, zy_In _ _ (fun q => c4 q.1), zy_In _ _ (fun q => c3 q.1)]
  have Vs : ∀ k, k ≠ 13 → zv_I (zt_vh a s (zv_I h a 11) g9) s k = zv_I g9 s k := fun k hk => V s k (fun q => hk q.2) (fun q => nx 17 (by decide) q.1.symm) (fun q => nx 18 (by decide) q.symm) (fun q => nx 19 (by decide) q.symm)
  refine zm_iN ⟨rfl, L9, x1, x2, fun r k c1 c2 c3 c4 c5 c6 => (V r k (fun q => c1 (q.1.trans hs.symm)) c4 c5 c6).trans (oI r k (fun q => c1 (q.trans hs.symm)) (fun q => c2 ⟨q.1.trans hp.symm, q.2⟩) c3), fun r k c1 => (oJ r k).trans (zt_op_oJ O r k (fun q => c1 (q.trans hs.symm))), fun r k c1 c2 => (oR r k c2).trans (zt_op_oR O r k (fun q => c1 (q.1.trans hs.symm))), ?_, ?_, ?_, ?_, ?_, ?_, ?_, ?_, ?_, ?_, ?_, ?_, ?_, ?_, ?_, ?_, fun k => ?_, fun k => ?_⟩
  all_goals try rw [hs]
  · rw [Vs 0 (by decide)]; exact enm
  · rw [Vs 3 (by decide), sI 3 (by decide)]; exact zt_op_s3 O
  · rw [Vs 6 (by decide), sI 6 (by decide)]; exact zt_op_s6 O
  · rw [Vs 7 (by decide)]; exact s7
  · rw [Vs 8 (by decide), sI 8 (by decide)]; exact zt_op_s8 O
  · rw [Vs 9 (by decide), sI 9 (by decide)]; exact zt_op_s9 O
  · rw [Vs 12 (by decide), sI 12 (by decide)]; exact zt_op_sc O
  · unfold zt_vh
    rw [zy_I, ecn]
  · rw [Vs 15 (by decide), sI 15 (by decide)]; exact zt_op_sf O
  · exact (oJ s 16).trans (zt_op_jg O)
  · exact (oJ s 17).trans (zt_op_jh O)
  · rw [hp]; exact (oR s 4 (fun q => na q.1.symm)).trans (zt_op_r4 O)
  · exact (oR s 5 (fun q => na q.1.symm)).trans (zt_op_r5 O)
  · exact rh
  · rw [V a 12 (fun q => na q.1) (fun q => absurd q.2 (by decide)) (by omega) (by omega)]; exact a12
  · unfold zt_vh
    rw [zy_In _ _ (fun q => nx 17 (by decide) q.1), zy_I, ecn]
  · unfold zt_vh
    rw [zy_In _ _ (fun q => nx 18 (by decide) q.1), zy_In _ _ (by omega), zy_In _ _ (by omega), ecn, enm]
    by_cases q : k = (zv_I h (a + 17) 4 % 40).toNat
    · rw [if_pos q, q, zy_I]
    · rw [if_neg q, zy_In _ _ (fun z => q z.2)]
      exact oI _ _ (nx 18 (by decide)) (fun z => pn 18 (by decide) (by decide) z.1) (by omega)
  · unfold zt_vh
    rw [zy_In _ _ (fun q => nx 19 (by decide) q.1), zy_In _ _ (by omega), ecn]
    by_cases q : k = (zv_I h (a + 17) 4 % 40).toNat
    · rw [if_pos q, q, zy_I]
    · rw [if_neg q, zy_In _ _ (fun z => q z.2), zy_In _ _ (by omega)]
      exact oI _ _ (nx 19 (by decide)) (fun z => pn 19 (by decide) (by decide) z.1) (by omega)
theorem zt_grow {d : Nat} {a : Nat} {c : Nat → Int} {h : zv_H} {x y z : Int} (gL : zt_L h) (U : zt_U a c h) (h0 : 0 ≤ zv_I h (a + 17) 4) {s : Int} (fr : zt_free c s) : zm_R (C0_grow (d + 2) a x y z h) (fun q => q.1 = zt_r a s ∧ zt_gw a h q.2 s.toNat x y z) := by
  have la := zt_U_la U
  have w := zt_U_W U
  obtain ⟨f1, f2, f3⟩ := fr
  have lp : zv_lay (zv_R h a 10) = (1, 5) := by
    rw [zt_U_he U]
    exact zt_r_l la w.2.1.1
  have np : zv_R h a 10 ≠ zc_stt a s.toNat := fun q => by
    rw [zt_U_he U, ← zt_r_p f1.1] at q
    have e := zt_r_inj la w.2.1.1 f1 q
    rw [← e] at f3
    exact f3 w.2.1.2
  refine zm_cN (P := fun v g => v = zt_r a s ∧ zt_gw a h g s.toNat x y z) (fun e => lC0_grow (zl_ob gL la) e) ?_
  have fin : zm_R (L0_grow_25 (d + 1) a x y z s h) (zm_N fun v g => v = zt_r a s ∧ zt_gw a h g s.toNat x y z) := by
    have := zt_grow25 (d := d) (x := x) (y := y) (z := z) (i := s.toNat) gL la (by omega) (zt_U_nr U _ (by omega)) lp np h0
    rw [show ((s.toNat : Nat) : Int) = s by omega] at this
    rw [zt_r_p f1.1]
    exact this
  have loop : ∀ (n i : Nat), (i : Int) + n = s → zm_R (L0_grow_3 (d + 1) a x y z i h) (zm_N fun v g => v = zt_r a s ∧ zt_gw a h g s.toNat x y z) := by
    intro n
    induction n with
    | zero =>
      intro i hi
      have ei : (i : Int) = s := by omega
      have at0 : C0_at (d + 1) a (i : Int) h = some (0, h) := by
        refine lC0_at (zl_ob gL la) ?_
        have ls := (zc_stl la (show i < 48 by omega)).1
        have l3 := zt_U_lv U i (by omega)
        have h01 := w.1.1 s f1.1 f1.2
        rw [qE0_at, if_neg (by omega), if_pos (by omega), zm_e (zl_gF gL la 1 4), zm_e (zl_aS gL la (by omega) (by omega)), show ((i : Int)).toNat = i by omega, if_neg (zc_nz ls), zm_e (zl_gI gL ls 3), l3, ei, if_pos (h01.resolve_right f3)]
      rw [qL0_grow_3, if_pos (by omega), zm_e at0]
      dsimp only
      rw [if_pos rfl, ei]
      exact fin
    | succ n ih =>
      intro i hi
      have ls := (zc_stl la (show i < 48 by omega)).1
      have at1 : C0_at (d + 1) a (i : Int) h = some (zc_stt a i, h) := by
        refine lC0_at (zl_ob gL la) ?_
        have l3 := zt_U_lv U i (by omega)
        rw [f2 (i : Int) (by omega) (by omega)] at l3
        rw [qE0_at, if_neg (by omega), if_pos (by omega), zm_e (zl_gF gL la 1 4), zm_e (zl_aS gL la (by omega) (by omega)), show ((i : Int)).toNat = i by omega, if_neg (zc_nz ls), zm_e (zl_gI gL ls 3), l3, if_neg (by decide)]
      rw [qL0_grow_3, if_pos (by omega), zm_e at1]
      dsimp only
      rw [if_neg (zc_nz ls), zm_w (by omega), show (i : Int) + 1 = ((i + 1 : Nat) : Int) by omega]
      exact ih (i + 1) (by omega)
  rw [qE0_grow]
  exact loop s.toNat 0 (by omega)
end
