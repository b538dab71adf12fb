/-! ===== what is asked, answered alike: the row of letters ===== -/
/-- how many of a list are so -/
def zb_nf (f : Int → Bool) : List Int → Int
  | [] => 0
  | t :: l => (if f t = true then 1 else 0) + zb_nf f l
/-- the last of a list that is so -/
def zb_ls (f : Int → Bool) : List Int → Int → Int
  | [], v => v
  | t :: l, v => zb_ls f l (if f t = true then t else v)
theorem zb_ls_a (f : Int → Bool) (t : Int) : ∀ (l : List Int) (v : Int), zb_ls f (l ++ [t]) v = if f t = true then t else zb_ls f l v
  | [], _ => rfl
  | _ :: l, v => zb_ls_a f t l _
theorem zb_nf_r (f : Int → Bool) : ∀ l : List Int, 0 ≤ zb_nf f l ∧ zb_nf f l ≤ l.length
  | [] => ⟨Int.le_refl _, Int.le_refl _⟩
  | t :: l => by
    have h := zb_nf_r f l
    have e : zb_nf f (t :: l) = (if f t = true then 1 else 0) + zb_nf f l := rfl
    rw [e, List.length_cons]
    split <;> omega
/-- a CUT that took this letter -/
def zb_cu (c : Nat → Int) (p : Int × Int) (t : Int) : Bool := decide (zm_o c t 2 = 1 ∧ p ∈ zm_tk c t)
/-- and is in force -/
def zb_cf (c : Nat → Int) (l : List Int) (p : Int × Int) (t : Int) : Bool := zb_cu c p t && decide (zm_fc c l t = 1)
section
variable {a b m : Nat} {g k : zv_H}
/-- did it take this letter: the class -/
theorem zb_took {d : Nat} {c : Nat → Int} (gL : zt_L g) (U : zt_U a c g) {t : Int} (ht : zm_st c t) (rg : zm_o c t 5 < 2147483648) (h12 : zm_o c t 2 = 1 → zm_o c t 5 ≤ 12) (okt : zm_o c t 2 = 1 → ∀ q ∈ zm_tk c t, zt_ok q) {p : Int × Int} (hp : zt_ok p) : C5_tookIt (d + 2) (zt_r a t) (zt_id p) g = some ((if zb_cu c p t = true then 1 else 0), g) := by
  have la := zt_U_la U
  have lr := zt_r_l la ht.1
  have S := zt_U_st U t ht
  have ip := zt_id_r hp
  refine lC5_tookIt (zl_ob gL lr) ?_
  rw [qE5_tookIt]
  by_cases c1 : zm_o c t 2 = 1
  · have lp : ∀ (r q : List (Int × Int)), q ++ r = zm_tk c t → (∀ x ∈ q, x ≠ p) → L5_tookIt_2 (d + 1) (zt_r a t) (zt_id p) (q.length : Int) g = some (some (zv_i (if zb_cu c p t = true then 1 else 0)), g) := by
      intro r
      induction r with
      | nil =>
        intro q hq z
        rw [List.append_nil] at hq
        have nm : ¬ zb_cu c p t = true := fun w => by
          have := (of_decide_eq_true w).2
          rw [← hq] at this
          exact z p this rfl
        have hl := congrArg List.length hq
        rw [zm_tk_len] at hl
        rw [if_neg nm, qL5_tookIt_2, zm_e (zl_gI gL lr 9), zt_S_sz S, if_neg (by omega)]
      | cons x r ih =>
        intro q hq z
        have hl := congrArg List.length hq
        rw [zm_tk_len, List.length_append, List.length_cons] at hl
        have s12 := h12 c1
        have hx : (zm_tk c t)[q.length]? = some x := by
          rw [← hq, List.getElem?_append_right (Nat.le_refl _), Nat.sub_self]
          rfl
        have hm := List.mem_of_getElem? hx
        have w1 : zv_w ((q.length : Int) + 1) = ((q ++ [x]).length : Int) := by
          rw [List.length_append, List.length_singleton, zm_w (by omega)]
          omega
        have ek : C5_tookAt (d + 1) (zt_r a t) (q.length : Int) g = some (zt_id x, g) := by
          rw [zt_C5_tookAt gL lr _, zt_S_ac S, zt_S_sz S, if_pos ⟨c1, by omega, by omega, by omega⟩, Int.toNat_natCast, zt_S_tk S c1 q.length x hx]
        rw [qL5_tookIt_2, zm_e (zl_gI gL lr 9), zt_S_sz S, if_pos (by omega), if_neg (by omega), zm_e ek, w1]
        dsimp only
        by_cases e : x = p
        · subst e
          have cu : zb_cu c x t = true := decide_eq_true ⟨c1, hm⟩
          rw [if_pos rfl, if_pos cu]
        · rw [if_neg (fun w => e (zt_id_inj (okt c1 x hm) hp w))]
          exact ih (q ++ [x]) (by rw [List.append_assoc]; exact hq) (fun y hy => by
            rcases List.mem_append.mp hy with w | w
            · exact z y w
            · rw [List.mem_singleton.mp w]
              exact e)
    exact lp (zm_tk c t) [] rfl (fun x hx => by cases hx)
  · have nm : ¬ zb_cu c p t = true := fun w => c1 (of_decide_eq_true w).1
    rw [if_neg nm]
    have lp : ∀ (n i : Nat), (i : Int) + n = max (zm_o c t 5) i → L5_tookIt_2 (d + 1) (zt_r a t) (zt_id p) (i : Int) g = some (some (zv_i 0), g) := by
      intro n
      induction n with
      | zero =>
        intro i hi
        rw [qL5_tookIt_2, zm_e (zl_gI gL lr 9), zt_S_sz S, if_neg (by omega)]
      | succ n ih =>
        intro i hi
        have ek : C5_tookAt (d + 1) (zt_r a t) (i : Int) g = some (-1, g) := by
          rw [zt_C5_tookAt gL lr _, zt_S_ac S, if_neg (fun q => c1 q.1)]
        rw [qL5_tookIt_2, zm_e (zl_gI gL lr 9), zt_S_sz S, if_pos (by omega), if_neg (by omega), zm_e ek, zm_w (by omega), show (i : Int) + 1 = ((i + 1 : Nat) : Int) by omega]
        dsimp only
        rw [if_neg (by omega)]
        exact ih (i + 1) (by omega)
    exact lp (max (zm_o c t 5) 0).toNat 0 (by omega)
/-- what the class asks of each of the line -/
def zb_at (c : Nat → Int) (L : List Int) : Prop := (∀ t ∈ L, zm_st c t) ∧ (∀ t ∈ L, zm_o c t 5 < 2147483648) ∧ (∀ t ∈ L, zm_o c t 2 = 1 → zm_o c t 5 ≤ 12) ∧ (∀ t ∈ L, zm_o c t 2 = 1 → ∀ q ∈ zm_tk c t, zt_ok q) ∧ (L.length ≤ 48)
theorem zb_at_st {c : Nat → Int} {L : List Int} (t : zb_at c L) : ∀ t ∈ L, zm_st c t := t.1
theorem zb_at_rg {c : Nat → Int} {L : List Int} (t : zb_at c L) : ∀ t ∈ L, zm_o c t 5 < 2147483648 := t.2.1
theorem zb_at_n12 {c : Nat → Int} {L : List Int} (t : zb_at c L) : ∀ t ∈ L, zm_o c t 2 = 1 → zm_o c t 5 ≤ 12 := t.2.2.1
theorem zb_at_ok {c : Nat → Int} {L : List Int} (t : zb_at c L) : ∀ t ∈ L, zm_o c t 2 = 1 → ∀ q ∈ zm_tk c t, zt_ok q := t.2.2.2.1
theorem zb_at_l48 {c : Nat → Int} {L : List Int} (t : zb_at c L) : L.length ≤ 48 := t.2.2.2.2
theorem zb_pth {c : Nat → Int} {L : List Int} (gL : zt_L g) (la : zv_lay a = (1, 0)) (wk : zt_wk a c L g) (h48 : L.length ≤ 48) {i : Nat} {t : Int} (hx : L.reverse[i]? = some t) : zv_aR g (a + 9) (i : Int) = some (zt_r a t) := by
  have l9 := (zt_row_l la).2.1
  have hi : i < L.length := by
    by_cases z : i < L.length
    · exact z
    · rw [List.getElem?_eq_none (by rw [List.length_reverse]; omega)] at hx
      cases hx
  exact (zl_aR gL l9 (by omega) (by omega)).trans (by rw [Int.toNat_natCast, zt_wk_pa wk i t hx])
theorem zb_cif {d : Nat} {c : Nat → Int} {L : List Int} (gL : zt_L g) (U : zt_U a c g) (wk : zt_wk a c L g) (at_ : zb_at c L) {p : Int × Int} (hp : zt_ok p) : ∀ (r q : List Int), q ++ r = L.reverse → ∀ v : Int, 0 ≤ v → v + r.length < 1000000 → L4_cutsInForce_4 (d + 2) (a + 8) (zt_id p) v (q.length : Int) g = some (some (zv_i (v + zb_nf (zb_cf c L p) r)), g) := by
  have la := zt_U_la U
  have l8 := (zt_row_l la).1
  have h48 := zb_at_l48 at_
  intro r
  induction r with
  | nil =>
    intro q hq v v0 v1
    rw [List.append_nil] at hq
    have hl := congrArg List.length hq
    rw [List.length_reverse] at hl
    rw [qL4_cutsInForce_4, zm_e (zl_gI gL l8 5), zt_wk_ln wk, if_neg (by omega), show v + zb_nf (zb_cf c L p) [] = v from Int.add_zero v]
  | cons t r ih =>
    intro q hq v v0 v1
    rw [List.length_cons] at v1
    have hl := congrArg List.length hq
    rw [List.length_reverse, List.length_append, List.length_cons] at hl
    have hx : L.reverse[q.length]? = some t := by
      rw [← hq, List.getElem?_append_right (Nat.le_refl _), Nat.sub_self]
      rfl
    have hm : t ∈ L := List.mem_reverse.mp (List.mem_of_getElem? hx)
    have ht := zb_at_st at_ t hm
    have ht1 := ht.1
    have w1 : zv_w ((q.length : Int) + 1) = ((q ++ [t]).length : Int) := by
      rw [List.length_append, List.length_singleton, zm_w (by omega)]
      omega
    have hq' : (q ++ [t]) ++ r = L.reverse := by rw [List.append_assoc]; exact hq
    have e9 : zv_gR g (a + 8) 4 0 = some (a + 9) := zl_gF gL l8 0 1
    have ec : zb_nf (zb_cf c L p) (t :: r) = (if zb_cf c L p t = true then 1 else 0) + zb_nf (zb_cf c L p) r := rfl
    have tk := zb_took (d := d) gL U ht (zb_at_rg at_ t hm) (zb_at_n12 at_ t hm) (zb_at_ok at_ t hm) hp
    rw [qL4_cutsInForce_4, zm_e (zl_gI gL l8 5), zt_wk_ln wk, if_pos (by omega), zm_e e9, zm_e (zb_pth gL la wk h48 hx), if_neg (zt_r0 U ht), zm_e (zl_gJ gL l8 9), zm_e (zt_bitr (d := d + 1) gL U ht), w1, ec]
    dsimp only
    have nx := fun w v1 => ih (q ++ [t]) hq' w v1
    by_cases cb : zt_b (zv_J g (a + 8) 9) t.toNat = true
    · have fo := (zt_wk_fo wk t.toNat (by omega)).mp cb
      rw [show ((t.toNat : Nat) : Int) = t by omega] at fo
      rw [if_neg (fun q => by
        have := (zt_lcmp_bt _ (by omega)).mp q
        rw [cb] at this
        cases this), zm_e tk]
      dsimp only
      by_cases cu : zb_cu c p t = true
      · have cf : zb_cf c L p t = true := by
          unfold zb_cf
          rw [cu, Bool.true_and]
          exact decide_eq_true fo.2.2.2
        rw [if_pos cu, if_neg (by decide), if_pos cf, zm_w (by omega), nx (v + 1) (by omega) (by omega), Int.add_assoc]
      · have cf : ¬ zb_cf c L p t = true := fun w => cu (by
          unfold zb_cf at w
          exact (Bool.and_eq_true _ _).mp w |>.1)
        rw [if_neg cu, if_pos rfl, if_neg cf, nx v v0 (by omega), Int.zero_add]
    · have cf : ¬ zb_cf c L p t = true := fun w => cb (by
        unfold zb_cf at w
        have w2 := (Bool.and_eq_true _ _).mp w
        have a1 := (of_decide_eq_true w2.1).1
        refine (zt_wk_fo wk t.toNat (by omega)).mpr ⟨by omega, ?_⟩
        rw [show ((t.toNat : Nat) : Int) = t by omega]
        exact ⟨hm, Or.inr a1, of_decide_eq_true w2.2⟩)
      rw [if_pos ((zt_lcmp_bt _ (by omega)).mpr (by
        cases e : zt_b (zv_J g (a + 8) 9) t.toNat with
        | true => exact absurd e cb
        | false => rfl)), if_neg cf, nx v v0 (by omega), Int.zero_add]
theorem zb_lst {d : Nat} {c : Nat → Int} {L : List Int} (gL : zt_L g) (U : zt_U a c g) (wk : zt_wk a c L g) (at_ : zb_at c L) {p : Int × Int} (hp : zt_ok p) : ∀ (i : Nat), i ≤ L.length → L4_lastCut_7 (d + 2) (a + 8) (zt_id p) ((i : Int) - 1) g = some (some (zv_i (zb_ls (zb_cu c p) (L.reverse.take i) (-1))), g)
  | 0, _ => by
    rw [qL4_lastCut_7, if_pos (by omega)]
    rfl
  | i + 1, hi => by
    have la := zt_U_la U
    have l8 := (zt_row_l la).1
    have h48 := zb_at_l48 at_
    have il : i < L.reverse.length := by rw [List.length_reverse]; omega
    have hx := List.getElem?_eq_getElem il
    have et := List.take_succ_eq_append_getElem il
    have hm : L.reverse[i] ∈ L := List.mem_reverse.mp (List.getElem_mem il)
    rw [et]
    generalize L.reverse[i] = t at hx hm
    have ht := zb_at_st at_ t hm
    have e9 : zv_gR g (a + 8) 4 0 = some (a + 9) := zl_gF gL l8 0 1
    have tk := zb_took (d := d) gL U ht (zb_at_rg at_ t hm) (zb_at_n12 at_ t hm) (zb_at_ok at_ t hm) hp
    have pt := zb_pth gL la wk h48 hx
    rw [zb_ls_a, qL4_lastCut_7, if_neg (by omega), show ((i + 1 : Nat) : Int) - 1 = (i : Int) by omega, zm_e e9, zm_e pt, if_neg (zt_r0 U ht), zm_e e9, zm_e pt, zm_e tk]
    dsimp only
    by_cases cu : zb_cu c p t = true
    · rw [if_pos cu, if_neg (by decide), if_pos cu, zm_e e9, zm_e pt, zm_e (zl_gI gL (zt_r_l la ht.1) 0), zt_num U ht]
    · rw [if_neg cu, if_pos rfl, if_neg cu, zm_w (by omega), show (i : Int) + -1 = (i : Int) - 1 by omega]
      exact zb_lst gL U wk at_ hp i (by omega)
/-! the reference -/
theorem zb_49 {D : Nat} (hM : zm_M k) {c : Nat → Int} (hc : zv_I k 348 = c) {t : Int} (ht : zm_st c t) (h12 : zm_o c t 5 ≤ 12) {fc : Int} (hf : zv_I k 354 t.toNat = fc) (p : Int × Int) (i : Int) (w : Int) : ∀ (r q : List (Int × Int)), q ++ r = zm_tk c t → r.Nodup → ∀ v : Int, 0 ≤ v + 1 → v + 1 + r.length < 1000000 → L9_cutsOf_49 (D + 1) 347 p.1 p.2 w v i t (q.length : Int) k = L9_cutsOf_14 (D + 1) 347 p.1 p.2 w (if p ∈ r then (if w = 0 then (if fc = 0 then v else v + 1) else t) else v) (zv_w (i + 1)) k := by
  have hs48 := zm_st48 ht
  have ht1 := ht.1
  intro r
  induction r with
  | nil =>
    intro q hq _ v _ _
    rw [List.append_nil] at hq
    have hl := congrArg List.length hq
    rw [zm_tk_len] at hl
    rw [qL9_cutsOf_49, zm_e (zm_of hM D hs48 (by decide)), hc]
    dsimp only
    rw [if_neg (by omega), if_neg (fun z => by cases z)]
  | cons x r ih =>
    intro q hq nd v v0 v1
    rw [List.length_cons] at v1
    have hl := congrArg List.length hq
    rw [zm_tk_len, List.length_append, List.length_cons] at hl
    have hx : (zm_tk c t)[q.length]? = some x := by
      rw [← hq, List.getElem?_append_right (Nat.le_refl _), Nat.sub_self]
      rfl
    have ex := Option.some.inj ((zm_tk_get c t (i := q.length) (by omega)).symm.trans hx)
    have x1 : zm_o c t (52 + 2 * (q.length : Int)) = x.1 := by rw [← ex]
    have x2 : zm_o c t (52 + 2 * (q.length : Int) + 1) = x.2 := by rw [← ex]
    have w1 : zv_w ((q.length : Int) + 1) = ((q ++ [x]).length : Int) := by
      rw [List.length_append, List.length_singleton, zm_w (by omega)]
      omega
    have w2 : zv_w (52 + zv_w (2 * (q.length : Int))) = 52 + 2 * (q.length : Int) := by
      rw [zm_w (x := 2 * (q.length : Int)) (by omega), zm_w (by omega)]
    have w3 : zv_w (52 + 2 * (q.length : Int) + 1) = 52 + 2 * (q.length : Int) + 1 := zm_w (by omega)
    have hq' : (q ++ [x]) ++ r = zm_tk c t := by rw [List.append_assoc]; exact hq
    have nx := ih (q ++ [x]) hq' (List.nodup_cons.mp nd).2
    have nr := (List.nodup_cons.mp nd).1
    rw [qL9_cutsOf_49, zm_e (zm_of hM D hs48 (by decide)), hc]
    dsimp only
    rw [if_pos (by omega), w2, w3, zm_e (zm_of hM D hs48 (by omega)), hc, x1, w1]
    dsimp only
    by_cases e1 : x.1 = p.1
    · rw [if_pos e1, zm_e (zm_of hM D hs48 (by omega)), hc, x2]
      dsimp only
      by_cases e2 : x.2 = p.2
      · have e : x = p := Prod.ext e1 e2
        subst e
        rw [if_pos e2, if_pos (List.mem_cons_self)]
        by_cases cw : w = 0
        · rw [if_pos cw, if_pos cw, zm_e (zm_f8 hM), zm_e (zm_aB hM zm_l354 (Or.inl rfl) rfl (by omega) (by omega)), hf]
          by_cases cf : fc = 0
          · rw [if_pos cf, if_pos cf, nx v v0 (by omega), if_neg nr]
          · rw [if_neg cf, if_neg cf, zm_w (x := v + 1) (by omega), nx (v + 1) (by omega) (by omega), if_neg nr]
        · rw [if_neg cw, if_neg cw, nx t (by omega) (by omega), if_neg nr]
      · have e : ¬ x = p := fun z => e2 (by rw [z])
        rw [if_neg e2, nx v v0 (by omega)]
        by_cases cp : p ∈ r
        · rw [if_pos cp, if_pos (List.mem_cons_of_mem _ cp)]
        · rw [if_neg cp, if_neg (fun z => by
            rcases List.mem_cons.mp z with y | y
            · exact e y.symm
            · exact cp y)]
    · have e : ¬ x = p := fun z => e1 (by rw [z])
      rw [if_neg e1, nx v v0 (by omega)]
      by_cases cp : p ∈ r
      · rw [if_pos cp, if_pos (List.mem_cons_of_mem _ cp)]
      · rw [if_neg cp, if_neg (fun z => by
          rcases List.mem_cons.mp z with y | y
          · exact e y.symm
          · exact cp y)]
theorem zb_14 {D : Nat} {c : Nat → Int} {L : List Int} (lh : zm_lh c L k) (at_ : zb_at c L) (hf : ∀ t ∈ L, zv_I k 354 t.toNat = zm_fc c L t) (nd : ∀ t ∈ L, zm_o c t 2 = 1 → (zm_tk c t).Nodup) (p : Int × Int) (w : Int) : ∀ (r q : List Int), q ++ r = L.reverse → ∀ v : Int, 0 ≤ v + 1 → v + 1 + r.length < 100000 → L9_cutsOf_14 (D + 1) 347 p.1 p.2 w v (q.length : Int) k = some (some (zv_i (if w = 0 then v + zb_nf (zb_cf c L p) r else zb_ls (zb_cu c p) r v)), k) := by
  obtain ⟨hM, hc, h10, h351⟩ := lh
  have h48 := zb_at_l48 at_
  intro r
  induction r with
  | nil =>
    intro q hq v v0 v1
    rw [List.append_nil] at hq
    have hl := congrArg List.length hq
    rw [List.length_reverse] at hl
    rw [qL9_cutsOf_14, zm_e (zm_gI hM 10), h10, if_neg (by omega), show v + zb_nf (zb_cf c L p) [] = v from Int.add_zero v, show zb_ls (zb_cu c p) [] v = v from rfl]
    split <;> rfl
  | cons t r ih =>
    intro q hq v v0 v1
    rw [List.length_cons] at v1
    have hl := congrArg List.length hq
    rw [List.length_reverse, List.length_append, List.length_cons] at hl
    have hx : L.reverse[q.length]? = some t := by
      rw [← hq, List.getElem?_append_right (Nat.le_refl _), Nat.sub_self]
      rfl
    have hm : t ∈ L := List.mem_reverse.mp (List.mem_of_getElem? hx)
    have ht := zb_at_st at_ t hm
    have ht1 := ht.1
    have w1 : zv_w ((q.length : Int) + 1) = ((q ++ [t]).length : Int) := by
      rw [List.length_append, List.length_singleton, zm_w (by omega)]
      omega
    have hq' : (q ++ [t]) ++ r = L.reverse := by rw [List.append_assoc]; exact hq
    have nx := ih (q ++ [t]) hq'
    rw [qL9_cutsOf_14, zm_e (zm_gI hM 10), h10, if_pos (by omega), zm_e (zm_f5 hM), zm_e (zm_aI hM zm_l351 rfl (by omega) (by omega)), Int.toNat_natCast, h351 q.length t hx, zm_e (zm_of hM D (zm_st48 ht) (by decide)), hc]
    dsimp only
    have ec : zb_nf (zb_cf c L p) (t :: r) = (if zb_cf c L p t = true then 1 else 0) + zb_nf (zb_cf c L p) r := rfl
    have el : zb_ls (zb_cu c p) (t :: r) v = zb_ls (zb_cu c p) r (if zb_cu c p t = true then t else v) := rfl
    rw [ec, el]
    by_cases c1 : zm_o c t 2 = 1
    · rw [if_pos c1]
      have tl : (zm_tk c t).length ≤ 12 := by
        have := zb_at_n12 at_ t hm c1
        rw [zm_tk_len]
        omega
      have e49 := zb_49 (D := D) hM hc ht (zb_at_n12 at_ t hm c1) (hf t hm) p (q.length : Int) w (zm_tk c t) [] rfl (nd t hm c1) v v0 (by omega)
      refine (show L9_cutsOf_49 (D + 1) 347 p.1 p.2 w v (q.length : Int) t 0 k = _ from e49).trans ?_
      rw [w1]
      by_cases cp : p ∈ zm_tk c t
      · have cu : zb_cu c p t = true := decide_eq_true ⟨c1, cp⟩
        rw [if_pos cp, if_pos cu]
        by_cases cw : w = 0
        · rw [if_pos cw, if_pos cw]
          rcases zm_fc_01 c t L with f0 | f1
          · have cf : ¬ zb_cf c L p t = true := fun z => by
              unfold zb_cf at z
              have := of_decide_eq_true ((Bool.and_eq_true _ _).mp z).2
              omega
            rw [if_pos f0, if_neg cf, nx v v0 (by omega), if_pos cw, Int.zero_add]
          · have cf : zb_cf c L p t = true := by
              unfold zb_cf
              rw [cu, Bool.true_and]
              exact decide_eq_true f1
            rw [if_neg (by omega), if_pos cf, nx (v + 1) (by omega) (by omega), if_pos cw, Int.add_assoc]
        · rw [if_neg cw, if_neg cw, nx t (by omega) (by omega), if_neg cw]
      · have cu : ¬ zb_cu c p t = true := fun z => cp (of_decide_eq_true z).2
        have cf : ¬ zb_cf c L p t = true := fun z => cu (by
          unfold zb_cf at z
          exact ((Bool.and_eq_true _ _).mp z).1)
        rw [if_neg cp, if_neg cu, if_neg cf, nx v v0 (by omega), Int.zero_add]
    · have cu : ¬ zb_cu c p t = true := fun z => c1 (of_decide_eq_true z).1
      have cf : ¬ zb_cf c L p t = true := fun z => cu (by
        unfold zb_cf at z
        exact ((Bool.and_eq_true _ _).mp z).1)
      rw [if_neg c1, if_neg cu, if_neg cf, w1, nx v v0 (by omega), Int.zero_add]
theorem zp_row {d D : Nat} (hA : zc_A g) (I : zm_MI k) (S : zt_GG m a b g k) (i w : Int) : ∃ v g' k', C8_row (d + 28) 1 i w g = some (v, g') ∧ C9_row (D + 28) 347 i w k = some (v, k') := by
  have gL := zt_L_A hA
  have hM := I.1
  have l1 : zv_lay 1 = (1, 8) := rfl
  have la := (zt_lab (zt_GG_ab S)).1
  have qC := qE8_row (d + 27) 1 i w g
  have qR := qE9_row (D + 27) 347 i w k
  by_cases i0 : i < 0
  · rw [if_pos i0, qL8_row_13, za_ref gL] at qC
    rw [if_pos i0, qL9_row_18, qL9_row_19, za_isn hM (by decide)] at qR
    exact ⟨_, _, _, lC8_row (zl_ob gL l1) qC, lC9_row (zm_ob hM) qR⟩
  rw [if_neg i0, zm_e (zc_within (d := d + 26) g w 0 4)] at qC
  rw [if_neg i0, zm_e (zm_isIn (h := k) (D + 26) w 0 4)] at qR
  dsimp only at qC qR
  by_cases cw : 0 ≤ w ∧ w ≤ 4
  rotate_left
  · rw [if_neg cw, if_pos rfl, qL8_row_13, za_ref gL] at qC
    rw [if_neg cw, if_pos rfl, qL9_row_18, qL9_row_19, za_isn hM (by decide)] at qR
    exact ⟨_, _, _, lC8_row (zl_ob gL l1) qC, lC9_row (zm_ob hM) qR⟩
  obtain ⟨n, rfl⟩ : ∃ n : Nat, i = n := ⟨i.toNat, by omega⟩
  obtain ⟨k1, i1, F1⟩ := zp_is hM
  have S1 := zt_GG_F S F1
  have M1 := zm_F_M F1 hM
  have U := zt_H_U (zt_GG_H S1)
  have W := zt_U_W U
  have hs := W.2.1
  obtain ⟨l, hl, ok, G, gt, W1⟩ := zt_line W hs
  obtain ⟨k2, e2, F2, n2, rl, dl⟩ := za_sees (D := D + 23) M1 rfl W hs hl
  have M2 := zm_F_M F2 M1
  have c2 : zv_I k2 348 = zv_I k1 348 := zm_F_a F2 348
  obtain ⟨g', e1, B, rw_, lo⟩ := za_row (d := d + 22) gL U hl
  have gL' := zt_B_L B
  have U' := zt_B_U B
  have okr := fun x hx => zt_row_ok ok.2.2.1 G x hx
  have e3' : zv_gR g' 1 8 3 = some a := (zl_gR gL' l1 3).trans (by rw [show zv_R g' 1 3 = zv_R g 1 3 from congrFun ((zt_B_q B).2.2.2.2 1 (by decide) (by decide) (zt_in0 1)) 3, zt_GG_r S])
  rw [if_pos cw, if_neg (by decide), zm_e (zp_e3 hA S), zm_e e1] at qC
  dsimp only at qC
  rw [if_pos cw, if_neg (by decide), qL9_row_19, za_isy i1] at qR
  dsimp only at qR
  rw [zm_e (zm_here M1 _)] at qR
  dsimp only at qR
  rw [zm_e e2, zm_e (zm_gI M2 11), n2.2.1.1] at qR
  by_cases ci : n < (zm_row (zv_I k1 348) (zv_I k1 348 0 :: l)).length
  rotate_left
  · have ei : C4_idAt (d + 27) (a + 8) (n : Int) g' = some (-1, g') := lC4_idAt (zl_ob gL' (zt_row_l la).1) (by
      rw [qE4_idAt, if_neg (by omega), zm_e (zl_gI gL' (zt_row_l la).1 6), zt_rw_sz rw_, if_neg (by omega)])
    rw [zm_e ei] at qC
    dsimp only at qC
    rw [if_pos rfl, za_ref gL'] at qC
    rw [if_neg (by omega), za_rf M2] at qR
    exact ⟨_, _, _, lC8_row (zl_ob gL l1) qC, lC9_row (zm_ob hM) qR⟩
  have hx : (zm_row (zv_I k1 348) (zv_I k1 348 0 :: l))[n]? = some (zm_row (zv_I k1 348) (zv_I k1 348 0 :: l))[n] := List.getElem?_eq_getElem ci
  generalize (zm_row (zv_I k1 348) (zv_I k1 348 0 :: l))[n] = x at hx
  have hm : x ∈ zm_row (zv_I k1 348) (zv_I k1 348 0 :: l) := List.mem_of_getElem? hx
  have xok := okr x hm
  have xr := zt_id_r xok
  obtain ⟨b1, b2⟩ := n2.2.1.2 n x hx
  have ei := zt_C4_idAt (d := d + 26) gL' la (zt_rw_sz rw_) (zt_rw_id rw_) rl hx
  rw [zm_e ei] at qC
  dsimp only at qC
  rw [if_neg (by omega)] at qC
  rw [if_pos (by omega)] at qR
  by_cases w0 : w = 0
  · have li := zm_letterIn M2 c2 (D + 25) n2.2.1 (by omega) hx (zm_row_ok (fun t ht => zm_st48 (ok.2.2.1 t ht)) G x hm).1 (by rcases xok with q | q <;> omega)
    rw [if_pos w0, zm_e e3', zm_e (za_glyph (d := d + 26) gL' U' hs hl hm)] at qC
    dsimp only at qC
    rw [za_giv gL'] at qC
    rw [if_pos w0, zm_e li] at qR
    exact ⟨_, _, _, lC8_row (zl_ob gL l1) qC, lC9_row (zm_ob hM) qR⟩
  rw [if_neg w0] at qC qR
  by_cases w1 : w = 1
  · rw [if_pos w1, zm_e (zt_C4_putter (d := d + 26) xok)] at qC
    dsimp only at qC
    rw [za_giv gL'] at qC
    rw [if_pos w1, zm_e (zm_f6 M2), zm_e (zm_aI M2 zm_l352 rfl (by omega) (by omega)), Int.toNat_natCast, b1] at qR
    exact ⟨_, _, _, lC8_row (zl_ob gL l1) qC, lC9_row (zm_ob hM) qR⟩
  rw [if_neg w1] at qC qR
  by_cases w2 : w = 2
  · have es := zt_C4_seesAt (d := d + 26) gL' la (zt_rw_sz rw_) (zt_lo_se lo) rl hx
    have sj := zt_lay_sn hs hl B hm
    have s355 := n2.2.2.2.1 n x hx
    rw [if_pos w2, zm_e es, sj] at qC
    dsimp only at qC
    rw [if_pos w2, zm_e (zm_f9 M2), zm_e (zm_aB M2 zm_l355 (Or.inl rfl) rfl (by omega) (by omega)), Int.toNat_natCast, s355] at qR
    by_cases cs : zm_sn (zv_I k1 348) (zv_I k1 348 0 :: l) x = true
    · rw [if_pos cs, if_neg (by decide), qL8_row_114, za_giv gL'] at qC
      rw [if_pos cs, if_neg (by decide)] at qR
      exact ⟨_, _, _, lC8_row (zl_ob gL l1) qC, lC9_row (zm_ob hM) qR⟩
    · rw [if_neg cs, if_pos rfl, qL8_row_114, za_giv gL'] at qC
      rw [if_neg cs, if_pos rfl] at qR
      exact ⟨_, _, _, lC8_row (zl_ob gL l1) qC, lC9_row (zm_ob hM) qR⟩
  rw [if_neg w2] at qC qR
  -- CUTS
  have at_ : zb_at (zv_I k1 348) (zv_I k1 348 0 :: l) := ⟨ok.2.2.1, fun t ht => by
    have h1 := zt_S_sz (zt_U_st U t (ok.2.2.1 t ht))
    have h2 := zc_rg hA (zc_lt (zt_r_l la (ok.2.2.1 t ht).1) (by decide)) 9
    rw [h1] at h2
    exact h2.2, fun t ht h => by
    by_cases z : t = 0
    · rw [z, W.1.2.1.2.2.1] at h
      exact absurd h (by decide)
    · obtain ⟨_, _, _, _, _, W2⟩ := zt_line W (ok.2.2.1 t ht)
      exact (W2.2.2.2.1 z (Or.inr h)).2, fun t ht h q hq => okr q (gt t ht h q hq), ok.2.2.2⟩
  have nd : ∀ t ∈ zv_I k1 348 0 :: l, zm_o (zv_I k1 348) t 2 = 1 → (zm_tk (zv_I k1 348) t).Nodup := fun t ht h => zt_cw_tn (zt_S_cw (zt_U_st U t (ok.2.2.1 t ht))) h (zb_at_n12 at_ t ht h)
  have lh : zm_lh (zv_I k1 348) (zv_I k1 348 0 :: l) k2 := ⟨M2, c2, n2.1.1, n2.1.2⟩
  have lrev : ∃ r0, (zv_I k1 348 0 :: l).reverse = [0] ++ r0 := by
    have h1 := ok.2.1
    rw [← List.head?_reverse] at h1
    cases e : (zv_I k1 348 0 :: l).reverse with
    | nil =>
      rw [e] at h1
      cases h1
    | cons y r0 =>
      rw [e] at h1
      have : y = 0 := Option.some.inj h1
      exact ⟨r0, by rw [this]; rfl⟩
  obtain ⟨r0, er⟩ := lrev
  have lr0 : r0.length ≤ 48 := by
    have h1 := congrArg List.length er
    rw [List.length_reverse, List.length_append] at h1
    have := ok.2.2.2
    omega
  have z0 : ¬ zb_cu (zv_I k1 348) x 0 = true := fun z => by
    have h1 := (of_decide_eq_true z).1
    rw [W.1.2.1.2.2.1] at h1
    exact absurd h1 (by decide)
  rw [zm_e (zm_f6 M2), zm_e (zm_aI M2 zm_l352 rfl (by omega) (by omega)), Int.toNat_natCast, b1, zm_e (zm_f7 M2), zm_e (zm_aI M2 zm_l353 rfl (by omega) (by omega)), Int.toNat_natCast, b2] at qR
  by_cases w3 : w = 3
  · have y1 := zb_cif (d := d + 24) gL' U' (zt_B_wk B) at_ xok (zv_I k1 348 0 :: l).reverse [] rfl 0 (Int.le_refl _) (by rw [List.length_reverse]; have := ok.2.2.2; omega)
    have y2 : C4_cutsInForce (d + 27) (a + 8) (zt_id x) g' = some (zb_nf (zb_cf (zv_I k1 348) (zv_I k1 348 0 :: l) x) (zv_I k1 348 0 :: l).reverse, g') := lC4_cutsInForce (zl_ob gL' (zt_row_l la).1) (by
      rw [qE4_cutsInForce]
      rw [Int.zero_add] at y1
      exact y1)
    have z1 := zb_14 (D := D + 25) lh at_ n2.2.2.1 nd x 0 r0 [0] er.symm 0 (by decide) (by omega)
    have z2 : C9_cutsOf (D + 27) 347 x.1 x.2 0 k2 = some (zb_nf (zb_cf (zv_I k1 348) (zv_I k1 348 0 :: l) x) (zv_I k1 348 0 :: l).reverse, k2) := lC9_cutsOf (zm_ob M2) (by
      rw [qE9_cutsOf, if_pos rfl]
      refine (show L9_cutsOf_14 (D + 26) 347 x.1 x.2 0 0 1 k2 = _ from z1).trans ?_
      have cf : ¬ zb_cf (zv_I k1 348) (zv_I k1 348 0 :: l) x 0 = true := fun z => z0 (by
        unfold zb_cf at z
        exact ((Bool.and_eq_true _ _).mp z).1)
      rw [if_pos rfl, er, show zb_nf (zb_cf (zv_I k1 348) (zv_I k1 348 0 :: l) x) ([0] ++ r0) = (if zb_cf (zv_I k1 348) (zv_I k1 348 0 :: l) x 0 = true then 1 else 0) + zb_nf (zb_cf (zv_I k1 348) (zv_I k1 348 0 :: l) x) r0 from rfl, if_neg cf])
    rw [if_pos w3, zm_e y2] at qC
    dsimp only at qC
    rw [za_giv gL'] at qC
    rw [if_neg (by omega), qL9_row_120, zm_e z2] at qR
    exact ⟨_, _, _, lC8_row (zl_ob gL l1) qC, lC9_row (zm_ob hM) qR⟩
  · have w4 : w = 4 := by omega
    have y1 := zb_lst (d := d + 24) gL' U' (zt_B_wk B) at_ xok (zv_I k1 348 0 :: l).length (Nat.le_refl _)
    rw [List.take_of_length_le (Nat.le_of_eq (List.length_reverse (as := zv_I k1 348 0 :: l)))] at y1
    have hlen := ok.2.2.2
    have y2 : C4_lastCut (d + 27) (a + 8) (zt_id x) g' = some (zb_ls (zb_cu (zv_I k1 348) x) (zv_I k1 348 0 :: l).reverse (-1), g') := lC4_lastCut (zl_ob gL' (zt_row_l la).1) (by
      rw [qE4_lastCut, zm_e (zl_gI gL' (zt_row_l la).1 5), zt_wk_ln (zt_B_wk B), zm_w (by omega)]
      exact y1)
    have z1 := zb_14 (D := D + 25) lh at_ n2.2.2.1 nd x 1 r0 [0] er.symm (-1) (by decide) (by omega)
    have z2 : C9_cutsOf (D + 27) 347 x.1 x.2 1 k2 = some (zb_ls (zb_cu (zv_I k1 348) x) (zv_I k1 348 0 :: l).reverse (-1), k2) := lC9_cutsOf (zm_ob M2) (by
      rw [qE9_cutsOf, if_neg (by decide)]
      refine (show L9_cutsOf_14 (D + 26) 347 x.1 x.2 1 (-1) 1 k2 = _ from z1).trans ?_
      rw [if_neg (by decide), er, show zb_ls (zb_cu (zv_I k1 348) x) ([0] ++ r0) (-1) = zb_ls (zb_cu (zv_I k1 348) x) r0 (if zb_cu (zv_I k1 348) x 0 = true then 0 else -1) from rfl, if_neg z0])
    rw [if_neg w3, zm_e y2] at qC
    dsimp only at qC
    rw [za_giv gL'] at qC
    rw [if_pos w4, qL9_row_120, zm_e z2] at qR
    exact ⟨_, _, _, lC8_row (zl_ob gL l1) qC, lC9_row (zm_ob hM) qR⟩
end
