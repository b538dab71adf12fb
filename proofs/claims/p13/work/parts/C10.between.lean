/-! C10.between -/
section
/-! ===== what is asked, answered alike: what lies between two documents; twins ===== -/
/-- how often in a list -/
def zb_ct (y : Int × Int) : List (Int × Int) → Int
  | [] => 0
  | x :: l => (if x = y then 1 else 0) + zb_ct y l
/-- how often each of a list in another one -/
def zb_sum (M : List (Int × Int)) : List (Int × Int) → Int
  | [] => 0
  | y :: l => zb_ct y M + zb_sum M l
theorem zb_sum_n : ∀ L : List (Int × Int), zb_sum [] L = 0
  | [] => rfl
  | y :: L => by
    have h := zb_sum_n L
    show zb_ct y [] + zb_sum [] L = 0
    rw [h]
    rfl
theorem zb_sum_c (x : Int × Int) (M : List (Int × Int)) : ∀ L : List (Int × Int), zb_sum (x :: M) L = zb_ct x L + zb_sum M L
  | [] => rfl
  | y :: L => by
    have h := zb_sum_c x M L
    have e : (if x = y then (1 : Int) else 0) = if y = x then 1 else 0 := by
      by_cases q : x = y
      · rw [if_pos q, if_pos q.symm]
      · rw [if_neg q, if_neg (fun w => q w.symm)]
    show (if x = y then (1 : Int) else 0) + zb_ct y M + zb_sum (x :: M) L = (if y = x then 1 else 0) + zb_ct x L + (zb_ct y M + zb_sum M L)
    rw [h, e]
    omega
theorem zb_sum_s : ∀ M L : List (Int × Int), zb_sum M L = zb_sum L M
  | [], L => zb_sum_n L
  | x :: M, L => by
    rw [zb_sum_c, zb_sum_s M L]
    rfl
theorem zb_ct_r (y : Int × Int) : ∀ l : List (Int × Int), 0 ≤ zb_ct y l ∧ zb_ct y l ≤ l.length
  | [] => ⟨Int.le_refl _, Int.le_refl _⟩
  | x :: l => by
    have h := zb_ct_r y l
    have e : zb_ct y (x :: l) = (if x = y then 1 else 0) + zb_ct y l := rfl
    rw [e, List.length_cons]
    split <;> omega
/-- a letter as one number -/
def zb_ky (x : Int × Int) : Int := 64 * x.1 + x.2
theorem zb_ky_inj {x y : Int × Int} (hx : zt_ok x) (hy : zt_ok y) (e : zb_ky x = zb_ky y) : x = y := by
  unfold zb_ky at e
  have h1 : x.1 = y.1 := by
    rcases hx with h | h <;> rcases hy with q | q <;> omega
  exact Prod.ext h1 (by omega)
theorem zb_ky_w {x : Int × Int} (hx : zt_ok x) : zv_w (zv_w (64 * x.1) + x.2) = zb_ky x := by
  unfold zb_ky
  rcases hx with h | h
  · rw [zm_w (x := 64 * x.1) (by omega), zm_w (by omega)]
  · rw [zm_w (x := 64 * x.1) (by omega), zm_w (by omega)]
section
variable {a b m : Nat} {g k : zv_H}
theorem zb_keys {D : Nat} {c : Nat → Int} {L : List Int} (h604 : (zm_row c L).length ≤ 604) (ok : ∀ x ∈ zm_row c L, zt_ok x) : ∀ (r q : List (Int × Int)), q ++ r = zm_row c L → ∀ h : zv_H, zm_M h → zm_Sn h c L → (∀ (i : Nat) (x : Int × Int), (q.filter (zm_sn c L))[i]? = some x → zv_I h 370 i = zb_ky x) → ∃ h', L9_keysOf_9 D 347 ((q.filter (zm_sn c L)).length : Int) (q.length : Int) h = some (some (zv_i ((zt_dc c L).length : Int)), h') ∧ zm_F [370] [] h h' ∧ ∀ (i : Nat) (x : Int × Int), (zt_dc c L)[i]? = some x → zv_I h' 370 i = zb_ky x := by
  intro r
  induction r with
  | nil =>
    intro q hq h hM sn z
    rw [List.append_nil] at hq
    subst hq
    refine ⟨h, ?_, zm_F_r _ _ h, z⟩
    rw [qL9_keysOf_9, zm_e (zm_gI hM 11), sn.2.1.1, if_neg (Int.lt_irrefl _)]
    rfl
  | cons x r ih =>
    intro q hq h hM sn z
    have hlen := congrArg List.length hq
    rw [List.length_append, List.length_cons] at hlen
    have hx : (zm_row c L)[q.length]? = some x := by
      rw [← hq, List.getElem?_append_right (Nat.le_refl _), Nat.sub_self]
      rfl
    have hm : x ∈ zm_row c L := List.mem_of_getElem? hx
    have w1 : zv_w ((q.length : Int) + 1) = ((q ++ [x]).length : Int) := by
      rw [List.length_append, List.length_singleton, zm_w (by omega)]
      omega
    have hq' : (q ++ [x]) ++ r = zm_row c L := by rw [List.append_assoc]; exact hq
    have s355 := sn.2.2.2.1 q.length x hx
    obtain ⟨b1, b2⟩ := sn.2.1.2 q.length x hx
    have hf : (q.filter (zm_sn c L)).length ≤ q.length := List.length_filter_le _ _
    rw [qL9_keysOf_9, zm_e (zm_gI hM 11), sn.2.1.1, if_pos (by omega), zm_e (zm_f9 hM), zm_e (zm_aB hM zm_l355 (Or.inl rfl) rfl (by omega) (by omega)), Int.toNat_natCast, s355, w1]
    by_cases cs : zm_sn c L x = true
    · have e1 : (q ++ [x]).filter (zm_sn c L) = q.filter (zm_sn c L) ++ [x] := by
        rw [List.filter_append, List.filter_cons_of_pos cs]
        rfl
      have ef : ((q ++ [x]).filter (zm_sn c L)).length = (q.filter (zm_sn c L)).length + 1 := by
        rw [e1, List.length_append]
        rfl
      obtain ⟨h', y1, y2, y3⟩ := ih (q ++ [x]) hq' (zv_sI h 370 (q.filter (zm_sn c L)).length (zb_ky x)) hM (zm_Sn_F sn (zm_F_I (zm_F_r [370] [] h) rfl _ _)) (fun i y hy => by
        rw [e1] at hy
        by_cases e : i = (q.filter (zm_sn c L)).length
        · subst e
          rw [List.getElem?_append_right (Nat.le_refl _), Nat.sub_self] at hy
          rw [zy_I, show x = y from Option.some.inj hy]
        · rw [zy_In _ _ (fun w => e w.2)]
          refine z i y ?_
          by_cases l : i < (q.filter (zm_sn c L)).length
          · rw [List.getElem?_append_left l] at hy
            exact hy
          · rw [List.getElem?_append_right (by omega), List.getElem?_eq_none (by rw [List.length_singleton]; omega)] at hy
            cases hy)
      rw [ef] at y1
      refine ⟨h', ?_, zm_F_t (zm_F_I (zm_F_r _ _ h) rfl _ _) y2, y3⟩
      rw [if_pos cs, if_neg (by decide), zm_e (zm_f44 hM), zm_e (zm_f6 hM), zm_e (zm_aI hM zm_l352 rfl (by omega) (by omega)), Int.toNat_natCast, b1, zm_e (zm_f7 hM), zm_e (zm_aI hM zm_l353 rfl (by omega) (by omega)), Int.toNat_natCast, b2, zb_ky_w (ok x hm), zm_e (zm_wI hM zm_l370 rfl (by omega) (by omega) _), Int.toNat_natCast, zm_w (by omega), show ((q.filter (zm_sn c L)).length : Int) + 1 = (((q.filter (zm_sn c L)).length + 1 : Nat) : Int) by omega]
      exact y1
    · have ef : (q ++ [x]).filter (zm_sn c L) = q.filter (zm_sn c L) := by
        rw [List.filter_append, List.filter_cons_of_neg cs]
        exact List.append_nil _
      obtain ⟨h', y1, y2, y3⟩ := ih (q ++ [x]) hq' h hM sn (by rw [ef]; exact z)
      rw [ef] at y1
      refine ⟨h', ?_, y2, y3⟩
      rw [if_neg cs, if_pos rfl]
      exact y1
/-- how many keys are this one -/
theorem zb_42 {D : Nat} (hM : zm_M k) {M : List (Int × Int)} (h640 : M.length ≤ 640) (okM : ∀ x ∈ M, zt_ok x) (hk : ∀ (i : Nat) (x : Int × Int), M[i]? = some x → zv_I k 370 i = zb_ky x) {y : Int × Int} (oky : zt_ok y) {p : Nat} (hp : p < 640) (b1 : zv_I k 352 p = y.1) (b2 : zv_I k 353 p = y.2) : ∀ (r q : List (Int × Int)), q ++ r = M → ∀ v : Int, 0 ≤ v → v + r.length < 1000000 → L9_keptOf_42 D 347 (M.length : Int) v (p : Int) (q.length : Int) k = L9_keptOf_17 D 347 (M.length : Int) (v + zb_ct y r) ((p + 1 : Nat) : Int) k := by
  intro r
  induction r with
  | nil =>
    intro q hq v v0 v1
    rw [List.append_nil] at hq
    subst hq
    rw [qL9_keptOf_42, if_neg (Int.lt_irrefl _), zm_w (by omega), show v + zb_ct y [] = v from Int.add_zero v]
    rfl
  | cons x r ih =>
    intro q hq v v0 v1
    rw [List.length_cons] at v1
    have hlen := congrArg List.length hq
    rw [List.length_append, List.length_cons] at hlen
    have hx : M[q.length]? = some x := by
      rw [← hq, List.getElem?_append_right (Nat.le_refl _), Nat.sub_self]
      rfl
    have hm : x ∈ M := List.mem_of_getElem? hx
    have w1 : zv_w ((q.length : Int) + 1) = ((q ++ [x]).length : Int) := by
      rw [List.length_append, List.length_singleton, zm_w (by omega)]
      omega
    have hq' : (q ++ [x]) ++ r = M := by rw [List.append_assoc]; exact hq
    have ec : zb_ct y (x :: r) = (if x = y then 1 else 0) + zb_ct y r := rfl
    rw [qL9_keptOf_42, if_pos (by omega), zm_e (zm_f44 hM), zm_e (zm_aI hM zm_l370 rfl (by omega) (by omega)), Int.toNat_natCast, hk _ _ hx, zm_e (zm_f6 hM), zm_e (zm_aI hM zm_l352 rfl (by omega) (by omega)), Int.toNat_natCast, b1, zm_e (zm_f7 hM), zm_e (zm_aI hM zm_l353 rfl (by omega) (by omega)), Int.toNat_natCast, b2, zb_ky_w oky, w1, ec]
    by_cases e : x = y
    · rw [if_pos (by rw [e]), if_pos e, zm_w (by omega), ih (q ++ [x]) hq' (v + 1) (by omega) (by omega), Int.add_assoc]
    · rw [if_neg (fun w => e (zb_ky_inj (okM x hm) oky w)), if_neg e, zm_w (by omega), ih (q ++ [x]) hq' (v + 0) (by omega) (by omega), Int.add_assoc]
theorem zb_17 {D : Nat} (hM : zm_M k) {M : List (Int × Int)} (h120 : M.length ≤ 120) (okM : ∀ x ∈ M, zt_ok x) (hk : ∀ (i : Nat) (x : Int × Int), M[i]? = some x → zv_I k 370 i = zb_ky x) {c : Nat → Int} {L : List Int} (sn : zm_Sn k c L) (h604 : (zm_row c L).length ≤ 604) (ok : ∀ x ∈ zm_row c L, zt_ok x) : ∀ (r q : List (Int × Int)), q ++ r = zm_row c L → ∀ v : Int, 0 ≤ v → v + 120 * r.length < 100000 → L9_keptOf_17 D 347 (M.length : Int) v (q.length : Int) k = some (some (zv_i (v + zb_sum M (r.filter (zm_sn c L)))), k) := by
  intro r
  induction r with
  | nil =>
    intro q hq v v0 v1
    rw [List.append_nil] at hq
    subst hq
    rw [qL9_keptOf_17, zm_e (zm_gI hM 11), sn.2.1.1, if_neg (Int.lt_irrefl _)]
    rw [show v + zb_sum M (([] : List (Int × Int)).filter (zm_sn c L)) = v from Int.add_zero v]
  | cons x r ih =>
    intro q hq v v0 v1
    rw [List.length_cons] at v1
    have hlen := congrArg List.length hq
    rw [List.length_append, List.length_cons] at hlen
    have hx : (zm_row c L)[q.length]? = some x := by
      rw [← hq, List.getElem?_append_right (Nat.le_refl _), Nat.sub_self]
      rfl
    have hm : x ∈ zm_row c L := List.mem_of_getElem? hx
    have eq1 : ((q ++ [x]).length : Int) = ((q.length + 1 : Nat) : Int) := by
      rw [List.length_append, List.length_singleton]
    have w1 : zv_w ((q.length : Int) + 1) = ((q ++ [x]).length : Int) := by
      rw [List.length_append, List.length_singleton, zm_w (by omega)]
      omega
    have hq' : (q ++ [x]) ++ r = zm_row c L := by rw [List.append_assoc]; exact hq
    have s355 := sn.2.2.2.1 q.length x hx
    obtain ⟨b1, b2⟩ := sn.2.1.2 q.length x hx
    have cr := zb_ct_r x M
    rw [qL9_keptOf_17, zm_e (zm_gI hM 11), sn.2.1.1, if_pos (by omega), zm_e (zm_f9 hM), zm_e (zm_aB hM zm_l355 (Or.inl rfl) rfl (by omega) (by omega)), Int.toNat_natCast, s355, w1]
    by_cases cs : zm_sn c L x = true
    · have e42 := zb_42 (D := D) hM (by omega) okM hk (ok x hm) (p := q.length) (by omega) b1 b2 M [] rfl v v0 (by omega)
      rw [if_pos cs, if_neg (by decide), List.filter_cons_of_pos cs]
      refine (show L9_keptOf_42 D 347 (M.length : Int) v (q.length : Int) 0 k = _ from e42).trans ?_
      rw [← eq1, ih (q ++ [x]) hq' _ (by omega) (by omega), show zb_sum M (x :: r.filter (zm_sn c L)) = zb_ct x M + zb_sum M (r.filter (zm_sn c L)) from rfl, Int.add_assoc]
    · rw [if_neg cs, if_pos rfl, List.filter_cons_of_neg cs]
      exact ih (q ++ [x]) hq' v v0 (by omega)
/-- the letters of a document, each as who put it -/
def zb_D (c : Nat → Int) (s : Int) (M : List (Int × Int)) : Prop := ∃ l, zm_Ln c (s :: l) s ∧ M = zt_dc c (s :: l)
theorem zb_C9_keptOf {D : Nat} (hM : zm_M k) {c : Nat → Int} (hc : zv_I k 348 = c) (W : zm_W c) {s t : Int} (hs : zm_st c s) (ht : zm_st c t) {M N : List (Int × Int)} (hD : zb_D c s M) (hE : zb_D c t N) : ∃ k', C9_keptOf (D + 6) 347 s t k = some (zb_sum M N, k') ∧ zm_F [370, 351, 352, 353, 354, 355] [10, 11, 12] k k' := by
  obtain ⟨l, hl, e⟩ := hD
  obtain ⟨l', hl', e'⟩ := hE
  obtain ⟨k1, e1, F1, n1, r1, d1⟩ := za_sees (D := D) hM hc W hs hl
  have M1 := zm_F_M F1 hM
  have ok1 := zt_line_u W hs hl
  have okr1 := fun x hx => zt_row_ok ok1.1.2.2.1 ok1.2.1 x hx
  obtain ⟨k2, e2, F2, z2⟩ := zb_keys (D := D + 4) r1 okr1 (zm_row c (s :: l)) [] rfl k1 M1 n1 (fun i x hx => by cases hx)
  have M2 := zm_F_M F2 M1
  have c2 : zv_I k2 348 = c := (zm_F_a F2 348).trans ((zm_F_a F1 348).trans hc)
  obtain ⟨k3, e3, F3, n3, r3, d3⟩ := za_sees (D := D + 1) M2 c2 W ht hl'
  have M3 := zm_F_M F3 M2
  have ok3 := zt_line_u W ht hl'
  have okr3 := fun x hx => zt_row_ok ok3.1.2.2.1 ok3.2.1 x hx
  have e4 := zb_17 (D := D + 5) M3 (M := M) (by rw [e]; exact d1) (fun x hx => okr1 x (List.mem_filter.mp (by rw [e] at hx; exact hx)).1) (fun i x hx => by
    rw [zm_F_a F3 370]
    exact z2 i x (by rw [← e]; exact hx)) n3 r3 okr3 (zm_row c (t :: l')) [] rfl 0 (Int.le_refl _) (by omega)
  have ek : C9_keysOf (D + 5) 347 s k = some ((M.length : Int), k2) := lC9_keysOf (zm_ob hM) (by
    rw [qE9_keysOf, zm_e e1, e]
    exact e2)
  refine ⟨k3, lC9_keptOf (zm_ob hM) ?_, zm_F_t (zm_F_s F1 rfl rfl) (zm_F_t (zm_F_s F2 rfl rfl) (zm_F_s F3 rfl rfl))⟩
  rw [qE9_keptOf, zm_e ek]
  dsimp only
  rw [zm_e e3]
  refine (show L9_keptOf_17 (D + 5) 347 (M.length : Int) 0 0 k3 = _ from e4).trans ?_
  rw [Int.zero_add, e']
  rfl
/-! the class -/
theorem zb_K17 {d : Nat} {c : Nat → Int} {s t : Int} (gL : zt_L g) (U : zt_U a c g) (hs : zm_st c s) (ht : zm_st c t) {M N : List (Int × Int)} (nM : zv_I g (zt_r a s) 12 = M.length) (nN : zv_I g (zt_r a t) 12 = N.length) (m1 : M.length ≤ 120) (n1 : N.length ≤ 120) (xM : ∀ (i : Nat) (x : Int × Int), M[i]? = some x → zv_I g (zt_r a s + 2) i = zt_id x) (xN : ∀ (i : Nat) (x : Int × Int), N[i]? = some x → zv_I g (zt_r a t + 2) i = zt_id x) (okM : ∀ x ∈ M, zt_ok x) (okN : ∀ x ∈ N, zt_ok x) {i : Nat} {y : Int × Int} (hy : M[i]? = some y) : ∀ (r q : List (Int × Int)), q ++ r = N → ∀ v : Int, 0 ≤ v → v + r.length < 1000000 → L0_keptOf_17 (d + 1) (zt_r a s) (zt_r a t) v (i : Int) (q.length : Int) g = L0_keptOf_5 (d + 1) (zt_r a s) (zt_r a t) (v + zb_ct y r) ((i + 1 : Nat) : Int) g := by
  have la := zt_U_la U
  have lS := zt_r_l la hs.1
  have lT := zt_r_l la ht.1
  have hi : i < M.length := by
    by_cases z : i < M.length
    · exact z
    · rw [List.getElem?_eq_none (by omega)] at hy
      cases hy
  have my : y ∈ M := List.mem_of_getElem? hy
  have eI := zt_C5_idAt (d := d) gL lS (by rw [nM]; omega) (i : Int)
  rw [nM, if_pos (by omega), Int.toNat_natCast, xM i y hy] at eI
  intro r
  induction r with
  | nil =>
    intro q hq v v0 v1
    rw [List.append_nil] at hq
    subst hq
    rw [qL0_keptOf_17, zm_e (zl_gI gL lT 12), nN, if_neg (Int.lt_irrefl _), zm_w (by omega), show v + zb_ct y [] = v from Int.add_zero v]
    rfl
  | cons x r ih =>
    intro q hq v v0 v1
    rw [List.length_cons] at v1
    have hlen := congrArg List.length hq
    rw [List.length_append, List.length_cons] at hlen
    have hx : N[q.length]? = some x := by
      rw [← hq, List.getElem?_append_right (Nat.le_refl _), Nat.sub_self]
      rfl
    have hm : x ∈ N := List.mem_of_getElem? hx
    have w1 : zv_w ((q.length : Int) + 1) = ((q ++ [x]).length : Int) := by
      rw [List.length_append, List.length_singleton, zm_w (by omega)]
      omega
    have hq' : (q ++ [x]) ++ r = N := by rw [List.append_assoc]; exact hq
    have eJ := zt_C5_idAt (d := d) gL lT (by rw [nN]; omega) (q.length : Int)
    rw [nN, if_pos (by omega), Int.toNat_natCast, xN q.length x hx] at eJ
    have ec : zb_ct y (x :: r) = (if x = y then 1 else 0) + zb_ct y r := rfl
    rw [qL0_keptOf_17, zm_e (zl_gI gL lT 12), nN, if_pos (by omega), zm_e eI]
    dsimp only
    rw [zm_e eJ, w1, ec]
    dsimp only
    by_cases e : x = y
    · rw [if_pos (by rw [e]), if_pos e, zm_w (by omega), ih (q ++ [x]) hq' (v + 1) (by omega) (by omega), Int.add_assoc]
    · rw [if_neg (fun w => e (zt_id_inj (okM y my) (okN x hm) w).symm), if_neg e, zm_w (by omega), ih (q ++ [x]) hq' (v + 0) (by omega) (by omega), Int.add_assoc]
theorem zb_K5 {d : Nat} {c : Nat → Int} {s t : Int} (gL : zt_L g) (U : zt_U a c g) (hs : zm_st c s) (ht : zm_st c t) {M N : List (Int × Int)} (nM : zv_I g (zt_r a s) 12 = M.length) (nN : zv_I g (zt_r a t) 12 = N.length) (m1 : M.length ≤ 120) (n1 : N.length ≤ 120) (xM : ∀ (i : Nat) (x : Int × Int), M[i]? = some x → zv_I g (zt_r a s + 2) i = zt_id x) (xN : ∀ (i : Nat) (x : Int × Int), N[i]? = some x → zv_I g (zt_r a t + 2) i = zt_id x) (okM : ∀ x ∈ M, zt_ok x) (okN : ∀ x ∈ N, zt_ok x) : ∀ (r q : List (Int × Int)), q ++ r = M → ∀ v : Int, 0 ≤ v → v + 120 * r.length < 100000 → L0_keptOf_5 (d + 1) (zt_r a s) (zt_r a t) v (q.length : Int) g = some (some (zv_i (v + zb_sum N r)), g) := by
  have la := zt_U_la U
  have lS := zt_r_l la hs.1
  intro r
  induction r with
  | nil =>
    intro q hq v v0 v1
    rw [List.append_nil] at hq
    subst hq
    rw [qL0_keptOf_5, zm_e (zl_gI gL lS 12), nM, if_neg (Int.lt_irrefl _), show v + zb_sum N [] = v from Int.add_zero v]
  | cons x r ih =>
    intro q hq v v0 v1
    rw [List.length_cons] at v1
    have hlen := congrArg List.length hq
    rw [List.length_append, List.length_cons] at hlen
    have hx : M[q.length]? = some x := by
      rw [← hq, List.getElem?_append_right (Nat.le_refl _), Nat.sub_self]
      rfl
    have hq' : (q ++ [x]) ++ r = M := by rw [List.append_assoc]; exact hq
    have eq1 : ((q ++ [x]).length : Int) = ((q.length + 1 : Nat) : Int) := by
      rw [List.length_append, List.length_singleton]
    have cr := zb_ct_r x N
    have e17 := zb_K17 (d := d) gL U hs ht nM nN m1 n1 xM xN okM okN hx N [] rfl v v0 (by omega)
    rw [qL0_keptOf_5, zm_e (zl_gI gL lS 12), nM, if_pos (by omega)]
    refine (show L0_keptOf_17 (d + 1) (zt_r a s) (zt_r a t) v (q.length : Int) 0 g = _ from e17).trans ?_
    rw [← eq1, ih (q ++ [x]) hq' _ (by omega) (by omega), show zb_sum N (x :: r) = zb_ct x N + zb_sum N r from rfl, Int.add_assoc]
theorem zb_D_f {c : Nat → Int} (gL : zt_L g) (U : zt_U a c g) {s : Int} (hs : zm_st c s) {M : List (Int × Int)} (hD : zb_D c s M) : zv_I g (zt_r a s) 12 = M.length ∧ M.length ≤ 120 ∧ (∀ (i : Nat) (x : Int × Int), M[i]? = some x → zv_I g (zt_r a s + 2) i = zt_id x) ∧ ∀ x ∈ M, zt_ok x := by
  obtain ⟨l, hl, e⟩ := hD
  have W := zt_U_W U
  have u := zt_U_st U s hs
  obtain ⟨ok, G, _, W1⟩ := zt_line_u W hs hl
  subst e
  exact ⟨zt_S_ln u l hl, W1.2.2.2.2.2.2, fun i x hx => zt_S_dc u l hl i x hx, fun x hx => zt_row_ok ok.2.2.1 G x (List.mem_filter.mp hx).1⟩
theorem zb_C0_keptOf {d : Nat} {c : Nat → Int} (gL : zt_L g) (U : zt_U a c g) {s t : Int} (hs : zm_st c s) (ht : zm_st c t) {M N : List (Int × Int)} (hD : zb_D c s M) (hE : zb_D c t N) : C0_keptOf (d + 2) a (zt_r a s) (zt_r a t) g = some (zb_sum N M, g) := by
  obtain ⟨a1, a2, a3, a4⟩ := zb_D_f gL U hs hD
  obtain ⟨b1, b2, b3, b4⟩ := zb_D_f gL U ht hE
  have e := zb_K5 (d := d) gL U hs ht a1 b1 a2 b2 a3 b3 a4 b4 M [] rfl 0 (Int.le_refl _) (by omega)
  refine lC0_keptOf (zl_ob gL (zt_U_la U)) ?_
  rw [qE0_keptOf]
  refine (show L0_keptOf_5 (d + 1) (zt_r a s) (zt_r a t) 0 0 g = _ from e).trans ?_
  rw [Int.zero_add]
/-! where two documents differ -/
def zb_fd (A B : List Int) (v : Int) : Prop := (v = -1 ∧ ∀ i, za_nth A i = za_nth B i) ∨ ∃ i : Nat, v = i ∧ za_nth A i ≠ za_nth B i ∧ ∀ j, j < i → za_nth A j = za_nth B j
theorem zb_fd_u {A B : List Int} {v w : Int} (h1 : zb_fd A B v) (h2 : zb_fd A B w) : v = w := by
  rcases h1 with ⟨e1, q1⟩ | ⟨i, e1, q1, q2⟩
  · rcases h2 with ⟨e2, _⟩ | ⟨j, _, r1, _⟩
    · rw [e1, e2]
    · exact absurd (q1 j) r1
  · rcases h2 with ⟨_, r1⟩ | ⟨j, e2, r1, r2⟩
    · exact absurd (r1 i) q1
    · have : i = j := by
        rcases Nat.lt_trichotomy i j with l | l | l
        · exact absurd (r2 i l) q1
        · exact l
        · exact absurd (q2 j l) r1
      rw [e1, e2, this]
theorem zb_fd_s {A B : List Int} {v : Int} (h : zb_fd A B v) : zb_fd B A v := by
  rcases h with ⟨e, q⟩ | ⟨i, e, q1, q2⟩
  · exact Or.inl ⟨e, fun i => (q i).symm⟩
  · exact Or.inr ⟨i, e, fun w => q1 w.symm, fun j hj => (q2 j hj).symm⟩
theorem zb_fd_n {A B : List Int} {v : Int} (h : zb_fd A B v) : v = -1 ∨ 0 ≤ v := by
  rcases h with ⟨e, _⟩ | ⟨i, e, _, _⟩
  · exact Or.inl e
  · exact Or.inr (by omega)
/-- letters are no less than 0 -/
theorem zb_nn {c : Nat → Int} (U : zt_U a c g) {s : Int} (hs : zm_st c s) {A : List Int} (hD : za_D c s A) : ∀ x ∈ A, 0 ≤ x := by
  obtain ⟨l, hl, e⟩ := hD
  obtain ⟨ok, G, _, _⟩ := zt_line_u (zt_U_W U) hs hl
  intro v hv
  rw [e] at hv
  obtain ⟨x, hx, ev⟩ := List.mem_map.mp hv
  have hm := (List.mem_filter.mp hx).1
  obtain ⟨m1, m2, m3⟩ := zm_row_mem hm
  have xok := zt_row_ok ok.2.2.1 G x hm
  have cw := zt_S_cw (zt_U_st U x.1 (ok.2.2.1 _ m1))
  obtain ⟨n, hn⟩ : ∃ n : Nat, x.2 = n := ⟨x.2.toNat, by omega⟩
  have h := zt_cw_lt cw (by
    by_cases z : x.1 = 0
    · exact Or.inr z
    · exact Or.inl (zt_row_ed hm G.2.1 z)) n (by omega) (by rcases xok with q | q <;> omega)
  rw [← ev]
  unfold zm_lt
  rw [hn]
  exact h
theorem zb_C0_first {d : Nat} {c : Nat → Int} (gL : zt_L g) (U : zt_U a c g) {s t : Int} (hs : zm_st c s) (ht : zm_st c t) {A B : List Int} (hD : za_D c s A) (hE : za_D c t B) (na : A.length ≤ 120) (nb : B.length ≤ 120) : ∃ v, C0_firstDifference (d + 3) a (zt_r a s) (zt_r a t) g = some (v, g) ∧ zb_fd A B v := by
  have la := zt_U_la U
  have eA : ∀ {s : Int} {A : List Int}, zm_st c s → za_D c s A → zv_I g (zt_r a s) 12 = A.length := fun hs hA => by
    obtain ⟨l, h1, h2⟩ := hA
    rw [zt_S_ln (zt_U_st U _ hs) l h1, h2, List.length_map]
  have lp : ∀ (r i : Nat), i + r = max A.length B.length → (∀ j, j < i → za_nth A j = za_nth B j) → ∃ v, L0_firstDifference_15 (d + 2) a (zt_r a s) (zt_r a t) ((max A.length B.length : Nat) : Int) (i : Int) g = some (some (zv_i v), g) ∧ zb_fd A B v := by
    intro r
    induction r with
    | zero =>
      intro i hi z
      refine ⟨-1, ?_, Or.inl ⟨rfl, fun j => ?_⟩⟩
      · rw [qL0_firstDifference_15, if_neg (by omega)]
      · by_cases hj : j < i
        · exact z j hj
        · rw [za_nth_out (by omega), za_nth_out (by omega)]
    | succ r ih =>
      intro i hi z
      have e1 := za_letterAt (d := d) gL U hs hD i
      have e2 := za_letterAt (d := d) gL U ht hE i
      rw [qL0_firstDifference_15, if_pos (by omega), zm_e e1]
      dsimp only
      rw [zm_e e2]
      dsimp only
      by_cases e : za_nth A i = za_nth B i
      · rw [if_pos e, zm_w (by omega), show (i : Int) + 1 = ((i + 1 : Nat) : Int) by omega]
        exact ih (i + 1) (by omega) (fun j hj => by
          by_cases q : j = i
          · rw [q]; exact e
          · exact z j (by omega))
      · rw [if_neg e]
        exact ⟨(i : Int), rfl, Or.inr ⟨i, rfl, e, z⟩⟩
  obtain ⟨v, y1, y2⟩ := lp (max A.length B.length) 0 (Nat.zero_add _) (fun j hj => absurd hj (by omega))
  refine ⟨v, lC0_firstDifference (zl_ob gL la) ?_, y2⟩
  rw [qE0_firstDifference, zm_e (zl_gI gL (zt_r_l la hs.1) 12), eA hs hD, zm_e (zl_gI gL (zt_r_l la ht.1) 12), eA ht hE, show max (A.length : Int) (B.length : Int) = ((max A.length B.length : Nat) : Int) by omega]
  exact y1
theorem zb_C9_differ {D : Nat} (hM : zm_M k) {c : Nat → Int} (hc : zv_I k 348 = c) (W : zm_W c) {s t : Int} (hs : zm_st c s) (ht : zm_st c t) {A B : List Int} (hD : za_D c s A) (hE : za_D c t B) (na : A.length ≤ 120) (nb : B.length ≤ 120) (pA : ∀ x ∈ A, 0 ≤ x) (pB : ∀ x ∈ B, 0 ≤ x) : ∃ v k', C9_differ (D + 6) 347 s t k = some (v, k') ∧ zb_fd A B v ∧ zm_F [356, 357, 351, 352, 353, 354, 355] [10, 11, 12] k k' := by
  obtain ⟨k2, e2, F2, x2⟩ := za_copies (D := D) hM hc W hs hD (Or.inl rfl)
  have M2 := zm_F_M F2 hM
  obtain ⟨k3, e3, F3, x3⟩ := za_copies (D := D) M2 ((zm_F_a F2 348).trans hc) W ht hE (Or.inr rfl)
  have M3 := zm_F_M F3 M2
  have x2' : ∀ i (hi : i < A.length), zv_I k3 356 i = A[i] := fun i hi => by
    rw [zm_F_a F3 356]
    exact x2 i hi
  have fin : ∀ i : Nat, i ≤ A.length → i ≤ B.length → (∀ j, j < i → za_nth A j = za_nth B j) → (i < A.length → i < B.length → za_nth A i ≠ za_nth B i) → ∃ v, L9_differ_60 (D + 5) (A.length : Int) (B.length : Int) (i : Int) k3 = some (some (zv_i v), k3) ∧ zb_fd A B v := fun i i1 i2 z w => by
    have ne : i ≠ A.length ∨ i ≠ B.length → zb_fd A B i := fun q => Or.inr ⟨i, rfl, by
      by_cases c1 : i < A.length
      · by_cases c2 : i < B.length
        · exact w c1 c2
        · rw [za_nth_in c1, za_nth_out c2]
          have := pA _ (List.getElem_mem c1)
          omega
      · rw [za_nth_out c1, za_nth_in (by omega : i < B.length)]
        have := pB _ (List.getElem_mem (by omega : i < B.length))
        omega, z⟩
    rw [qL9_differ_60]
    by_cases c1 : i = A.length
    · rw [if_pos (by omega)]
      by_cases c2 : i = B.length
      · rw [if_pos (by omega)]
        refine ⟨-1, rfl, Or.inl ⟨rfl, fun j => ?_⟩⟩
        by_cases hj : j < i
        · exact z j hj
        · rw [za_nth_out (by omega), za_nth_out (by omega)]
      · rw [if_neg (by omega)]
        exact ⟨_, rfl, ne (Or.inr c2)⟩
    · rw [if_neg (by omega)]
      exact ⟨_, rfl, ne (Or.inl c1)⟩
  have lp : ∀ (r i : Nat), i + r = A.length → i ≤ B.length → (∀ j, j < i → za_nth A j = za_nth B j) → ∃ v, L9_differ_24 (D + 5) 347 (A.length : Int) (B.length : Int) (i : Int) k3 = some (some (zv_i v), k3) ∧ zb_fd A B v := by
    intro r
    induction r with
    | zero =>
      intro i hi hb z
      rw [qL9_differ_24, if_neg (by omega)]
      exact fin i (by omega) hb z (fun q => absurd q (by omega))
    | succ r ih =>
      intro i hi hb z
      rw [qL9_differ_24, if_pos (by omega)]
      by_cases c1 : i < B.length
      · have ci : i < A.length := by omega
        rw [if_pos (by omega), zm_e (zm_f13 M3), zm_e (zm_aI M3 zm_l356 rfl (by omega) (by omega)), Int.toNat_natCast, x2' i ci, zm_e (zm_f14 M3), zm_e (zm_aI M3 zm_l357 rfl (by omega) (by omega)), Int.toNat_natCast, x3 i c1, ← za_nth_in ci, ← za_nth_in c1]
        by_cases e : za_nth A i = za_nth B i
        · rw [if_pos e, zm_w (by omega), show (i : Int) + 1 = ((i + 1 : Nat) : Int) by omega]
          exact ih (i + 1) (by omega) (by omega) (fun j hj => by
            by_cases q : j = i
            · rw [q]; exact e
            · exact z j (by omega))
        · rw [if_neg e]
          exact fin i (by omega) (by omega) z (fun _ _ => e)
      · rw [if_neg (by omega)]
        exact fin i (by omega) hb z (fun _ q => absurd q c1)
  obtain ⟨v, y1, y2⟩ := lp A.length 0 (Nat.zero_add _) (Nat.zero_le _) (fun j hj => absurd hj (by omega))
  refine ⟨v, k3, lC9_differ (zm_ob hM) ?_, y2, zm_F_t (zm_F_s F2 rfl rfl) (zm_F_s F3 rfl rfl)⟩
  rw [qE9_differ, zm_e (zm_f13 hM), zm_e e2]
  dsimp only
  rw [zm_e (zm_f14 M2), zm_e e3]
  exact y1
/-! asked -/
theorem zb_D_ex {c : Nat → Int} (W : zm_W c) {s : Int} (hs : zm_st c s) : ∃ M, zb_D c s M ∧ za_D c s (M.map (zm_lt c)) := by
  obtain ⟨l, hl, _⟩ := zt_line W hs
  exact ⟨_, ⟨l, hl, rfl⟩, ⟨l, hl, rfl⟩⟩
theorem zb_lettersOf {D : Nat} (hM : zm_M k) {c : Nat → Int} (hc : zv_I k 348 = c) (W : zm_W c) {s : Int} (hs : zm_st c s) {M : List (Int × Int)} (hD : zb_D c s M) : ∃ k', C9_lettersOf (D + 5) 347 s k = some ((M.length : Int), k') := by
  obtain ⟨l, hl, e⟩ := hD
  obtain ⟨k1, e1, F1, n1, _, _⟩ := za_sees (D := D) hM hc W hs hl
  refine ⟨k1, lC9_lettersOf (zm_ob hM) ?_⟩
  rw [qE9_lettersOf, zm_e e1, zm_e (zm_gI (zm_F_M F1 hM) 12), n1.2.2.2.2, e]
  rfl
theorem zp_between {d D : Nat} (hA : zc_A g) (I : zm_MI k) (S : zt_GG m a b g k) (s t w : Int) : ∃ v g' k', C8_between (d + 28) 1 s t w g = some (v, g') ∧ C9_between (D + 28) 347 s t w k = some (v, k') := by
  have gL := zt_L_A hA
  have hM := I.1
  have l1 : zv_lay 1 = (1, 8) := rfl
  have la := (zt_lab (zt_GG_ab S)).1
  have qC := qE8_between (d + 27) 1 s t w g
  have qR := qE9_between (D + 27) 347 s t w k
  rw [zm_e (zc_within (d := d + 26) g w 0 3)] at qC
  rw [zm_e (zm_isIn (h := k) (D + 26) w 0 3)] at qR
  dsimp only at qC qR
  by_cases cw : 0 ≤ w ∧ w ≤ 3
  rotate_left
  · rw [if_neg cw, if_pos rfl, za_ref gL] at qC
    rw [if_neg cw, if_pos rfl, qL9_between_35, za_isn hM (by decide)] at qR
    exact ⟨_, _, _, lC8_between (zl_ob gL l1) qC, lC9_between (zm_ob hM) qR⟩
  rw [if_pos cw, if_neg (by decide), zm_e (zp_e3 hA S), zm_e (za_at (d := d + 26) hA S s)] at qC
  dsimp only at qC
  rw [zm_e (zp_e3 hA S), zm_e (za_at (d := d + 26) hA S t)] at qC
  dsimp only at qC
  rw [if_pos cw, if_neg (by decide), zm_e (zm_isState hM (D + 25) s)] at qR
  dsimp only at qR
  by_cases hs : zm_st (zv_I k 348) s
  rotate_left
  · rw [if_neg hs, if_pos rfl, qL8_between_45, za_ref gL] at qC
    rw [if_neg hs, if_pos rfl, qL9_between_30, qL9_between_35, za_isn hM (by decide)] at qR
    exact ⟨_, _, _, lC8_between (zl_ob gL l1) qC, lC9_between (zm_ob hM) qR⟩
  rw [if_pos hs, if_neg (za_r0 S hs)] at qC
  rw [if_pos hs, if_neg (by decide), zm_e (zm_isState hM (D + 25) t)] at qR
  dsimp only at qR
  by_cases ht : zm_st (zv_I k 348) t
  rotate_left
  · rw [if_neg ht, if_pos rfl, qL8_between_45, za_ref gL] at qC
    rw [if_neg ht, if_pos rfl, qL9_between_30, qL9_between_35, za_isn hM (by decide)] at qR
    exact ⟨_, _, _, lC8_between (zl_ob gL l1) qC, lC9_between (zm_ob hM) qR⟩
  obtain ⟨k1, i1, F1⟩ := zp_is hM
  have S1 := zt_GG_F S F1
  have M1 := zm_F_M F1 hM
  have U := zt_H_U (zt_GG_H S1)
  have W := zt_U_W U
  have e348 : zv_I k1 348 = zv_I k 348 := zm_F_a F1 348
  have hs1 : zm_st (zv_I k1 348) s := by rw [e348]; exact hs
  have ht1 : zm_st (zv_I k1 348) t := by rw [e348]; exact ht
  obtain ⟨M, hD, hDa⟩ := zb_D_ex W hs1
  obtain ⟨N, hE, hEa⟩ := zb_D_ex W ht1
  obtain ⟨nM, m1, _, _⟩ := zb_D_f gL U hs1 hD
  obtain ⟨nN, n1, _, _⟩ := zb_D_f gL U ht1 hE
  rw [if_pos ht, if_neg (za_r0 S ht)] at qC
  rw [if_pos ht, if_neg (by decide), qL9_between_35, za_isy i1] at qR
  dsimp only at qR
  by_cases w3 : w = 3
  · obtain ⟨v, y1, y2⟩ := zb_C0_first (d := d + 24) gL U hs1 ht1 hDa hEa (by rw [List.length_map]; exact m1) (by rw [List.length_map]; exact n1)
    obtain ⟨v', k2, z1, z2, _⟩ := zb_C9_differ (D := D + 21) M1 rfl W hs1 ht1 hDa hEa (by rw [List.length_map]; exact m1) (by rw [List.length_map]; exact n1) (zb_nn U hs1 hDa) (zb_nn U ht1 hEa)
    have ev := zb_fd_u y2 z2
    subst ev
    rw [if_neg (by omega), if_neg (by omega), if_neg (by omega), zm_e (zp_e3 hA S), zm_e y1] at qC
    dsimp only at qC
    rw [za_giv gL] at qC
    rw [if_pos w3, zm_e z1] at qR
    exact ⟨_, _, _, lC8_between (zl_ob gL l1) qC, lC9_between (zm_ob hM) qR⟩
  have y1 := zb_C0_keptOf (d := d + 25) gL U hs1 ht1 hD hE
  obtain ⟨k2, z1, F2⟩ := zb_C9_keptOf (D := D + 21) M1 rfl W hs1 ht1 hD hE
  rw [zb_sum_s N M] at y1
  have M2 := zm_F_M F2 M1
  have c2 : zv_I k2 348 = zv_I k1 348 := zm_F_a F2 348
  rw [if_neg w3, zm_e z1] at qR
  dsimp only at qR
  by_cases w0 : w = 0
  · rw [if_pos w0, zm_e (zp_e3 hA S), zm_e y1] at qC
    dsimp only at qC
    rw [za_giv gL] at qC
    rw [if_pos w0] at qR
    exact ⟨_, _, _, lC8_between (zl_ob gL l1) qC, lC9_between (zm_ob hM) qR⟩
  rw [if_neg w0] at qC qR
  by_cases w1 : w = 1
  · obtain ⟨k3, z3⟩ := zb_lettersOf (D := D + 22) M2 c2 W hs1 hD
    rw [if_pos w1, zm_e (zl_gI gL (zt_r_l la hs.1) 12), nM, zm_e (zp_e3 hA S), zm_e y1] at qC
    dsimp only at qC
    rw [za_giv gL] at qC
    rw [if_pos w1, zm_e z3] at qR
    exact ⟨_, _, _, lC8_between (zl_ob gL l1) qC, lC9_between (zm_ob hM) qR⟩
  · obtain ⟨k3, z3⟩ := zb_lettersOf (D := D + 22) M2 c2 W ht1 hE
    rw [if_neg w1, if_pos (by omega), zm_e (zl_gI gL (zt_r_l la ht.1) 12), nN, zm_e (zp_e3 hA S), zm_e y1] at qC
    dsimp only at qC
    rw [za_giv gL] at qC
    rw [if_neg w1, zm_e z3] at qR
    exact ⟨_, _, _, lC8_between (zl_ob gL l1) qC, lC9_between (zm_ob hM) qR⟩
/-- the twin of one -/
theorem zb_twin {d D : Nat} {c : Nat → Int} (gL : zt_L g) (U : zt_U a c g) (he : ∀ s, zm_st c s → ∃ A, za_D c s A ∧ A.length ≤ 120) {s : Int} (hs : zm_st c s) : ∀ (r i : Nat) (k : zv_H), i + r = 48 → zm_M k → zv_I k 348 = c → ∃ v k', L0_twinOf_2 (d + 4) a (zt_r a s) (i : Int) g = some (some (zv_i v), g) ∧ zm_M k' ∧ ((v = -1 ∧ L9_twin_24 (D + 7) 347 s (i : Int) k = L9_twin_24 (D + 7) 347 s 48 k') ∨ (0 ≤ v ∧ L9_twin_24 (D + 7) 347 s (i : Int) k = some (some (zv_i v), k')))
  | 0, i, k, hi, hM, hc => by
    have e : i = 48 := by omega
    subst e
    exact ⟨-1, k, by rw [qL0_twinOf_2, if_neg (by omega)], hM, Or.inl ⟨rfl, rfl⟩⟩
  | r + 1, i, k, hi, hM, hc => by
    have la := zt_U_la U
    have W := zt_U_W U
    have wi : zv_w ((i : Int) + 1) = ((i + 1 : Nat) : Int) := by
      rw [zm_w (by omega)]
      omega
    have nx := fun k => zb_twin (d := d) (D := D) gL U he hs r (i + 1) k (by omega)
    have i48 : (i : Int) < 48 := by omega
    rw [qL0_twinOf_2, if_pos i48, zm_e (zt_at (d := d + 3) gL U (i : Int)), wi]
    rw [qL9_twin_24, if_pos i48, zm_e (zm_isState hM (D + 5) (i : Int)), hc, wi]
    dsimp only
    by_cases hi' : zm_st c (i : Int)
    rotate_left
    · rw [if_neg hi', if_pos rfl, if_neg hi', if_pos rfl]
      exact nx k hM hc
    rw [if_pos hi', if_neg (zt_r0 U hi'), if_neg (zt_fo1000 (zt_r1000 U hi') (zt_r1000 U hs)), if_pos hi', if_neg (show ¬ (1 : Int) = 0 by decide)]
    by_cases c1 : (i : Int) = s
    · rw [if_pos (show zt_r a (i : Int) = zt_r a s by rw [c1]), if_pos c1]
      exact nx k hM hc
    rw [if_neg (fun q => c1 (zt_r_inj la hi'.1 hs.1 q)), if_neg c1]
    obtain ⟨A, hDA, na⟩ := he s hs
    obtain ⟨B, hDB, nb⟩ := he _ hi'
    obtain ⟨v, y1, y2⟩ := zb_C0_first (d := d + 1) gL U hs hi' hDA hDB na nb
    obtain ⟨v', k2, z1, z2, F2⟩ := zb_C9_differ (D := D + 1) hM hc W hi' hs hDB hDA nb na (zb_nn U hi' hDB) (zb_nn U hs hDA)
    have ev := zb_fd_u y2 (zb_fd_s z2)
    subst ev
    have M2 := zm_F_M F2 hM
    rw [zm_e y1, zm_e z1]
    dsimp only
    by_cases cv : v = -1
    · rw [if_pos cv, if_pos (by omega)]
      exact ⟨(i : Int), k2, rfl, M2, Or.inr ⟨by omega, rfl⟩⟩
    · have := zb_fd_n y2
      rw [if_neg cv, if_neg (by omega)]
      exact nx k2 M2 ((zm_F_a F2 348).trans hc)
theorem zp_twin {d D : Nat} (hA : zc_A g) (I : zm_MI k) (S : zt_GG m a b g k) (s : Int) : ∃ v g' k', C8_twin (d + 28) 1 s g = some (v, g') ∧ C9_twin (D + 28) 347 s k = some (v, k') := by
  have gL := zt_L_A hA
  have hM := I.1
  have l1 : zv_lay 1 = (1, 8) := rfl
  have la := (zt_lab (zt_GG_ab S)).1
  have qC := qE8_twin (d + 27) 1 s g
  have qR := qE9_twin (D + 27) 347 s k
  rw [zm_e (zp_e3 hA S), zm_e (za_at (d := d + 26) hA S s)] at qC
  dsimp only at qC
  rw [zm_e (zm_isState hM (D + 25) s)] at qR
  dsimp only at qR
  by_cases hs : zm_st (zv_I k 348) s
  rotate_left
  · rw [if_neg hs, if_pos rfl, za_ref gL] at qC
    rw [if_neg hs, if_pos rfl, qL9_twin_14, za_isn hM (by decide)] at qR
    exact ⟨_, _, _, lC8_twin (zl_ob gL l1) qC, lC9_twin (zm_ob hM) qR⟩
  obtain ⟨k1, i1, F1⟩ := zp_is hM
  have S1 := zt_GG_F S F1
  have M1 := zm_F_M F1 hM
  have U := zt_H_U (zt_GG_H S1)
  have e348 : zv_I k1 348 = zv_I k 348 := zm_F_a F1 348
  have hs1 : zm_st (zv_I k1 348) s := by rw [e348]; exact hs
  obtain ⟨v, k2, y1, M2, y2⟩ := zb_twin (d := d + 22) (D := D + 20) gL U (fun s hs => za_D_ex S1 hs) hs1 48 0 k1 rfl M1 rfl
  have et : C0_twinOf (d + 27) a (zt_r a s) g = some (v, g) := lC0_twinOf (zl_ob gL la) (by
    rw [qE0_twinOf]
    exact y1)
  rw [if_pos hs, if_neg (za_r0 S hs), zm_e (zp_e3 hA S), zm_e et] at qC
  dsimp only at qC
  rw [if_pos hs, if_neg (by decide), qL9_twin_14, za_isy i1] at qR
  dsimp only at qR
  rcases y2 with ⟨e, y3⟩ | ⟨e, y3⟩
  · rw [if_pos e, za_ref gL] at qC
    rw [show L9_twin_24 (D + 27) 347 s 0 k1 = _ from y3, qL9_twin_24, if_neg (by decide), za_rf M2] at qR
    exact ⟨_, _, _, lC8_twin (zl_ob gL l1) qC, lC9_twin (zm_ob hM) qR⟩
  · rw [if_neg (by omega), za_giv gL] at qC
    rw [show L9_twin_24 (D + 27) 347 s 0 k1 = _ from y3] at qR
    exact ⟨_, _, _, lC8_twin (zl_ob gL l1) qC, lC9_twin (zm_ob hM) qR⟩
end
end
/-! C11.row -/
section
/-! ===== what is asked, answered alike: the row of letters ===== -/
/-- how many of a list are so -/
def zb_nf (f : Int → Bool) : List Int → Int
  | [] => 0
  | t :: l => (if f t = true then 1 else 0) + zb_nf f l
/-- the last of a list that is so -/
def zb_ls (f : Int → Bool) : List Int → Int → Int
  | [], v => v
  | t :: l, v => zb_ls f l (if f t = true then t else v)
theorem zb_ls_a (f : Int → Bool) (t : Int) : ∀ (l : List Int) (v : Int), zb_ls f (l ++ [t]) v = if f t = true then t else zb_ls f l v
  | [], _ => rfl
  | _ :: l, v => zb_ls_a f t l _
theorem zb_nf_r (f : Int → Bool) : ∀ l : List Int, 0 ≤ zb_nf f l ∧ zb_nf f l ≤ l.length
  | [] => ⟨Int.le_refl _, Int.le_refl _⟩
  | t :: l => by
    have h := zb_nf_r f l
    have e : zb_nf f (t :: l) = (if f t = true then 1 else 0) + zb_nf f l := rfl
    rw [e, List.length_cons]
    split <;> omega
/-- a CUT that took this letter -/
def zb_cu (c : Nat → Int) (p : Int × Int) (t : Int) : Bool := decide (zm_o c t 2 = 1 ∧ p ∈ zm_tk c t)
/-- and is in force -/
def zb_cf (c : Nat → Int) (l : List Int) (p : Int × Int) (t : Int) : Bool := zb_cu c p t && decide (zm_fc c l t = 1)
section
variable {a b m : Nat} {g k : zv_H}
/-- did it take this letter: the class -/
theorem zb_took {d : Nat} {c : Nat → Int} (gL : zt_L g) (U : zt_U a c g) {t : Int} (ht : zm_st c t) (rg : zm_o c t 5 < 2147483648) (h12 : zm_o c t 2 = 1 → zm_o c t 5 ≤ 12) (okt : zm_o c t 2 = 1 → ∀ q ∈ zm_tk c t, zt_ok q) {p : Int × Int} (hp : zt_ok p) : C5_tookIt (d + 2) (zt_r a t) (zt_id p) g = some ((if zb_cu c p t = true then 1 else 0), g) := by
  have la := zt_U_la U
  have lr := zt_r_l la ht.1
  have S := zt_U_st U t ht
  have ip := zt_id_r hp
  refine lC5_tookIt (zl_ob gL lr) ?_
  rw [qE5_tookIt]
  by_cases c1 : zm_o c t 2 = 1
  · have lp : ∀ (r q : List (Int × Int)), q ++ r = zm_tk c t → (∀ x ∈ q, x ≠ p) → L5_tookIt_2 (d + 1) (zt_r a t) (zt_id p) (q.length : Int) g = some (some (zv_i (if zb_cu c p t = true then 1 else 0)), g) := by
      intro r
      induction r with
      | nil =>
        intro q hq z
        rw [List.append_nil] at hq
        have nm : ¬ zb_cu c p t = true := fun w => by
          have := (of_decide_eq_true w).2
          rw [← hq] at this
          exact z p this rfl
        have hl := congrArg List.length hq
        rw [zm_tk_len] at hl
        rw [if_neg nm, qL5_tookIt_2, zm_e (zl_gI gL lr 9), zt_S_sz S, if_neg (by omega)]
      | cons x r ih =>
        intro q hq z
        have hl := congrArg List.length hq
        rw [zm_tk_len, List.length_append, List.length_cons] at hl
        have s12 := h12 c1
        have hx : (zm_tk c t)[q.length]? = some x := by
          rw [← hq, List.getElem?_append_right (Nat.le_refl _), Nat.sub_self]
          rfl
        have hm := List.mem_of_getElem? hx
        have w1 : zv_w ((q.length : Int) + 1) = ((q ++ [x]).length : Int) := by
          rw [List.length_append, List.length_singleton, zm_w (by omega)]
          omega
        have ek : C5_tookAt (d + 1) (zt_r a t) (q.length : Int) g = some (zt_id x, g) := by
          rw [zt_C5_tookAt gL lr _, zt_S_ac S, zt_S_sz S, if_pos ⟨c1, by omega, by omega, by omega⟩, Int.toNat_natCast, zt_S_tk S c1 q.length x hx]
        rw [qL5_tookIt_2, zm_e (zl_gI gL lr 9), zt_S_sz S, if_pos (by omega), if_neg (by omega), zm_e ek, w1]
        dsimp only
        by_cases e : x = p
        · subst e
          have cu : zb_cu c x t = true := decide_eq_true ⟨c1, hm⟩
          rw [if_pos rfl, if_pos cu]
        · rw [if_neg (fun w => e (zt_id_inj (okt c1 x hm) hp w))]
          exact ih (q ++ [x]) (by rw [List.append_assoc]; exact hq) (fun y hy => by
            rcases List.mem_append.mp hy with w | w
            · exact z y w
            · rw [List.mem_singleton.mp w]
              exact e)
    exact lp (zm_tk c t) [] rfl (fun x hx => by cases hx)
  · have nm : ¬ zb_cu c p t = true := fun w => c1 (of_decide_eq_true w).1
    rw [if_neg nm]
    have lp : ∀ (n i : Nat), (i : Int) + n = max (zm_o c t 5) i → L5_tookIt_2 (d + 1) (zt_r a t) (zt_id p) (i : Int) g = some (some (zv_i 0), g) := by
      intro n
      induction n with
      | zero =>
        intro i hi
        rw [qL5_tookIt_2, zm_e (zl_gI gL lr 9), zt_S_sz S, if_neg (by omega)]
      | succ n ih =>
        intro i hi
        have ek : C5_tookAt (d + 1) (zt_r a t) (i : Int) g = some (-1, g) := by
          rw [zt_C5_tookAt gL lr _, zt_S_ac S, if_neg (fun q => c1 q.1)]
        rw [qL5_tookIt_2, zm_e (zl_gI gL lr 9), zt_S_sz S, if_pos (by omega), if_neg (by omega), zm_e ek, zm_w (by omega), show (i : Int) + 1 = ((i + 1 : Nat) : Int) by omega]
        dsimp only
        rw [if_neg (by omega)]
        exact ih (i + 1) (by omega)
    exact lp (max (zm_o c t 5) 0).toNat 0 (by omega)
/-- what the class asks of each of the line -/
def zb_at (c : Nat → Int) (L : List Int) : Prop := (∀ t ∈ L, zm_st c t) ∧ (∀ t ∈ L, zm_o c t 5 < 2147483648) ∧ (∀ t ∈ L, zm_o c t 2 = 1 → zm_o c t 5 ≤ 12) ∧ (∀ t ∈ L, zm_o c t 2 = 1 → ∀ q ∈ zm_tk c t, zt_ok q) ∧ (L.length ≤ 48)
theorem zb_at_st {c : Nat → Int} {L : List Int} (t : zb_at c L) : ∀ t ∈ L, zm_st c t := t.1
theorem zb_at_rg {c : Nat → Int} {L : List Int} (t : zb_at c L) : ∀ t ∈ L, zm_o c t 5 < 2147483648 := t.2.1
theorem zb_at_n12 {c : Nat → Int} {L : List Int} (t : zb_at c L) : ∀ t ∈ L, zm_o c t 2 = 1 → zm_o c t 5 ≤ 12 := t.2.2.1
theorem zb_at_ok {c : Nat → Int} {L : List Int} (t : zb_at c L) : ∀ t ∈ L, zm_o c t 2 = 1 → ∀ q ∈ zm_tk c t, zt_ok q := t.2.2.2.1
theorem zb_at_l48 {c : Nat → Int} {L : List Int} (t : zb_at c L) : L.length ≤ 48 := t.2.2.2.2
theorem zb_pth {c : Nat → Int} {L : List Int} (gL : zt_L g) (la : zv_lay a = (1, 0)) (wk : zt_wk a c L g) (h48 : L.length ≤ 48) {i : Nat} {t : Int} (hx : L.reverse[i]? = some t) : zv_aR g (a + 9) (i : Int) = some (zt_r a t) := by
  have l9 := (zt_row_l la).2.1
  have hi : i < L.length := by
    by_cases z : i < L.length
    · exact z
    · rw [List.getElem?_eq_none (by rw [List.length_reverse]; omega)] at hx
      cases hx
  exact (zl_aR gL l9 (by omega) (by omega)).trans (by rw [Int.toNat_natCast, zt_wk_pa wk i t hx])
theorem zb_cif {d : Nat} {c : Nat → Int} {L : List Int} (gL : zt_L g) (U : zt_U a c g) (wk : zt_wk a c L g) (at_ : zb_at c L) {p : Int × Int} (hp : zt_ok p) : ∀ (r q : List Int), q ++ r = L.reverse → ∀ v : Int, 0 ≤ v → v + r.length < 1000000 → L4_cutsInForce_4 (d + 2) (a + 8) (zt_id p) v (q.length : Int) g = some (some (zv_i (v + zb_nf (zb_cf c L p) r)), g) := by
  have la := zt_U_la U
  have l8 := (zt_row_l la).1
  have h48 := zb_at_l48 at_
  intro r
  induction r with
  | nil =>
    intro q hq v v0 v1
    rw [List.append_nil] at hq
    have hl := congrArg List.length hq
    rw [List.length_reverse] at hl
    rw [qL4_cutsInForce_4, zm_e (zl_gI gL l8 5), zt_wk_ln wk, if_neg (by omega), show v + zb_nf (zb_cf c L p) [] = v from Int.add_zero v]
  | cons t r ih =>
    intro q hq v v0 v1
    rw [List.length_cons] at v1
    have hl := congrArg List.length hq
    rw [List.length_reverse, List.length_append, List.length_cons] at hl
    have hx : L.reverse[q.length]? = some t := by
      rw [← hq, List.getElem?_append_right (Nat.le_refl _), Nat.sub_self]
      rfl
    have hm : t ∈ L := List.mem_reverse.mp (List.mem_of_getElem? hx)
    have ht := zb_at_st at_ t hm
    have ht1 := ht.1
    have w1 : zv_w ((q.length : Int) + 1) = ((q ++ [t]).length : Int) := by
      rw [List.length_append, List.length_singleton, zm_w (by omega)]
      omega
    have hq' : (q ++ [t]) ++ r = L.reverse := by rw [List.append_assoc]; exact hq
    have e9 : zv_gR g (a + 8) 4 0 = some (a + 9) := zl_gF gL l8 0 1
    have ec : zb_nf (zb_cf c L p) (t :: r) = (if zb_cf c L p t = true then 1 else 0) + zb_nf (zb_cf c L p) r := rfl
    have tk := zb_took (d := d) gL U ht (zb_at_rg at_ t hm) (zb_at_n12 at_ t hm) (zb_at_ok at_ t hm) hp
    rw [qL4_cutsInForce_4, zm_e (zl_gI gL l8 5), zt_wk_ln wk, if_pos (by omega), zm_e e9, zm_e (zb_pth gL la wk h48 hx), if_neg (zt_r0 U ht), zm_e (zl_gJ gL l8 9), zm_e (zt_bitr (d := d + 1) gL U ht), w1, ec]
    dsimp only
    have nx := fun w v1 => ih (q ++ [t]) hq' w v1
    by_cases cb : zt_b (zv_J g (a + 8) 9) t.toNat = true
    · have fo := (zt_wk_fo wk t.toNat (by omega)).mp cb
      rw [show ((t.toNat : Nat) : Int) = t by omega] at fo
      rw [if_neg (fun q => by
        have := (zt_lcmp_bt _ (by omega)).mp q
        rw [cb] at this
        cases this), zm_e tk]
      dsimp only
      by_cases cu : zb_cu c p t = true
      · have cf : zb_cf c L p t = true := by
          unfold zb_cf
          rw [cu, Bool.true_and]
          exact decide_eq_true fo.2.2.2
        rw [if_pos cu, if_neg (by decide), if_pos cf, zm_w (by omega), nx (v + 1) (by omega) (by omega), Int.add_assoc]
      · have cf : ¬ zb_cf c L p t = true := fun w => cu (by
          unfold zb_cf at w
          exact (Bool.and_eq_true _ _).mp w |>.1)
        rw [if_neg cu, if_pos rfl, if_neg cf, nx v v0 (by omega), Int.zero_add]
    · have cf : ¬ zb_cf c L p t = true := fun w => cb (by
        unfold zb_cf at w
        have w2 := (Bool.and_eq_true _ _).mp w
        have a1 := (of_decide_eq_true w2.1).1
        refine (zt_wk_fo wk t.toNat (by omega)).mpr ⟨by omega, ?_⟩
        rw [show ((t.toNat : Nat) : Int) = t by omega]
        exact ⟨hm, Or.inr a1, of_decide_eq_true w2.2⟩)
      rw [if_pos ((zt_lcmp_bt _ (by omega)).mpr (by
        cases e : zt_b (zv_J g (a + 8) 9) t.toNat with
        | true => exact absurd e cb
        | false => rfl)), if_neg cf, nx v v0 (by omega), Int.zero_add]
theorem zb_lst {d : Nat} {c : Nat → Int} {L : List Int} (gL : zt_L g) (U : zt_U a c g) (wk : zt_wk a c L g) (at_ : zb_at c L) {p : Int × Int} (hp : zt_ok p) : ∀ (i : Nat), i ≤ L.length → L4_lastCut_7 (d + 2) (a + 8) (zt_id p) ((i : Int) - 1) g = some (some (zv_i (zb_ls (zb_cu c p) (L.reverse.take i) (-1))), g)
  | 0, _ => by
    rw [qL4_lastCut_7, if_pos (by omega)]
    rfl
  | i + 1, hi => by
    have la := zt_U_la U
    have l8 := (zt_row_l la).1
    have h48 := zb_at_l48 at_
    have il : i < L.reverse.length := by rw [List.length_reverse]; omega
    have hx := List.getElem?_eq_getElem il
    have et := List.take_succ_eq_append_getElem il
    have hm : L.reverse[i] ∈ L := List.mem_reverse.mp (List.getElem_mem il)
    rw [et]
    generalize L.reverse[i] = t at hx hm
    have ht := zb_at_st at_ t hm
    have e9 : zv_gR g (a + 8) 4 0 = some (a + 9) := zl_gF gL l8 0 1
    have tk := zb_took (d := d) gL U ht (zb_at_rg at_ t hm) (zb_at_n12 at_ t hm) (zb_at_ok at_ t hm) hp
    have pt := zb_pth gL la wk h48 hx
    rw [zb_ls_a, qL4_lastCut_7, if_neg (by omega), show ((i + 1 : Nat) : Int) - 1 = (i : Int) by omega, zm_e e9, zm_e pt, if_neg (zt_r0 U ht), zm_e e9, zm_e pt, zm_e tk]
    dsimp only
    by_cases cu : zb_cu c p t = true
    · rw [if_pos cu, if_neg (by decide), if_pos cu, zm_e e9, zm_e pt, zm_e (zl_gI gL (zt_r_l la ht.1) 0), zt_num U ht]
    · rw [if_neg cu, if_pos rfl, if_neg cu, zm_w (by omega), show (i : Int) + -1 = (i : Int) - 1 by omega]
      exact zb_lst gL U wk at_ hp i (by omega)
/-! the reference -/
theorem zb_49 {D : Nat} (hM : zm_M k) {c : Nat → Int} (hc : zv_I k 348 = c) {t : Int} (ht : zm_st c t) (h12 : zm_o c t 5 ≤ 12) {fc : Int} (hf : zv_I k 354 t.toNat = fc) (p : Int × Int) (i : Int) (w : Int) : ∀ (r q : List (Int × Int)), q ++ r = zm_tk c t → r.Nodup → ∀ v : Int, 0 ≤ v + 1 → v + 1 + r.length < 1000000 → L9_cutsOf_49 (D + 1) 347 p.1 p.2 w v i t (q.length : Int) k = L9_cutsOf_14 (D + 1) 347 p.1 p.2 w (if p ∈ r then (if w = 0 then (if fc = 0 then v else v + 1) else t) else v) (zv_w (i + 1)) k := by
  have hs48 := zm_st48 ht
  have ht1 := ht.1
  intro r
  induction r with
  | nil =>
    intro q hq _ v _ _
    rw [List.append_nil] at hq
    have hl := congrArg List.length hq
    rw [zm_tk_len] at hl
    rw [qL9_cutsOf_49, zm_e (zm_of hM D hs48 (by decide)), hc]
    dsimp only
    rw [if_neg (by omega), if_neg (fun z => by cases z)]
  | cons x r ih =>
    intro q hq nd v v0 v1
    rw [List.length_cons] at v1
    have hl := congrArg List.length hq
    rw [zm_tk_len, List.length_append, List.length_cons] at hl
    have hx : (zm_tk c t)[q.length]? = some x := by
      rw [← hq, List.getElem?_append_right (Nat.le_refl _), Nat.sub_self]
      rfl
    have ex := Option.some.inj ((zm_tk_get c t (i := q.length) (by omega)).symm.trans hx)
    have x1 : zm_o c t (52 + 2 * (q.length : Int)) = x.1 := by rw [← ex]
    have x2 : zm_o c t (52 + 2 * (q.length : Int) + 1) = x.2 := by rw [← ex]
    have w1 : zv_w ((q.length : Int) + 1) = ((q ++ [x]).length : Int) := by
      rw [List.length_append, List.length_singleton, zm_w (by omega)]
      omega
    have w2 : zv_w (52 + zv_w (2 * (q.length : Int))) = 52 + 2 * (q.length : Int) := by
      rw [zm_w (x := 2 * (q.length : Int)) (by omega), zm_w (by omega)]
    have w3 : zv_w (52 + 2 * (q.length : Int) + 1) = 52 + 2 * (q.length : Int) + 1 := zm_w (by omega)
    have hq' : (q ++ [x]) ++ r = zm_tk c t := by rw [List.append_assoc]; exact hq
    have nx := ih (q ++ [x]) hq' (List.nodup_cons.mp nd).2
    have nr := (List.nodup_cons.mp nd).1
    rw [qL9_cutsOf_49, zm_e (zm_of hM D hs48 (by decide)), hc]
    dsimp only
    rw [if_pos (by omega), w2, w3, zm_e (zm_of hM D hs48 (by omega)), hc, x1, w1]
    dsimp only
    by_cases e1 : x.1 = p.1
    · rw [if_pos e1, zm_e (zm_of hM D hs48 (by omega)), hc, x2]
      dsimp only
      by_cases e2 : x.2 = p.2
      · have e : x = p := Prod.ext e1 e2
        subst e
        rw [if_pos e2, if_pos (List.mem_cons_self)]
        by_cases cw : w = 0
        · rw [if_pos cw, if_pos cw, zm_e (zm_f8 hM), zm_e (zm_aB hM zm_l354 (Or.inl rfl) rfl (by omega) (by omega)), hf]
          by_cases cf : fc = 0
          · rw [if_pos cf, if_pos cf, nx v v0 (by omega), if_neg nr]
          · rw [if_neg cf, if_neg cf, zm_w (x := v + 1) (by omega), nx (v + 1) (by omega) (by omega), if_neg nr]
        · rw [if_neg cw, if_neg cw, nx t (by omega) (by omega), if_neg nr]
      · have e : ¬ x = p := fun z => e2 (by rw [z])
        rw [if_neg e2, nx v v0 (by omega)]
        by_cases cp : p ∈ r
        · rw [if_pos cp, if_pos (List.mem_cons_of_mem _ cp)]
        · rw [if_neg cp, if_neg (fun z => by
            rcases List.mem_cons.mp z with y | y
            · exact e y.symm
            · exact cp y)]
    · have e : ¬ x = p := fun z => e1 (by rw [z])
      rw [if_neg e1, nx v v0 (by omega)]
      by_cases cp : p ∈ r
      · rw [if_pos cp, if_pos (List.mem_cons_of_mem _ cp)]
      · rw [if_neg cp, if_neg (fun z => by
          rcases List.mem_cons.mp z with y | y
          · exact e y.symm
          · exact cp y)]
theorem zb_14 {D : Nat} {c : Nat → Int} {L : List Int} (lh : zm_lh c L k) (at_ : zb_at c L) (hf : ∀ t ∈ L, zv_I k 354 t.toNat = zm_fc c L t) (nd : ∀ t ∈ L, zm_o c t 2 = 1 → (zm_tk c t).Nodup) (p : Int × Int) (w : Int) : ∀ (r q : List Int), q ++ r = L.reverse → ∀ v : Int, 0 ≤ v + 1 → v + 1 + r.length < 100000 → L9_cutsOf_14 (D + 1) 347 p.1 p.2 w v (q.length : Int) k = some (some (zv_i (if w = 0 then v + zb_nf (zb_cf c L p) r else zb_ls (zb_cu c p) r v)), k) := by
  obtain ⟨hM, hc, h10, h351⟩ := lh
  have h48 := zb_at_l48 at_
  intro r
  induction r with
  | nil =>
    intro q hq v v0 v1
    rw [List.append_nil] at hq
    have hl := congrArg List.length hq
    rw [List.length_reverse] at hl
    rw [qL9_cutsOf_14, zm_e (zm_gI hM 10), h10, if_neg (by omega), show v + zb_nf (zb_cf c L p) [] = v from Int.add_zero v, show zb_ls (zb_cu c p) [] v = v from rfl]
    split <;> rfl
  | cons t r ih =>
    intro q hq v v0 v1
    rw [List.length_cons] at v1
    have hl := congrArg List.length hq
    rw [List.length_reverse, List.length_append, List.length_cons] at hl
    have hx : L.reverse[q.length]? = some t := by
      rw [← hq, List.getElem?_append_right (Nat.le_refl _), Nat.sub_self]
      rfl
    have hm : t ∈ L := List.mem_reverse.mp (List.mem_of_getElem? hx)
    have ht := zb_at_st at_ t hm
    have ht1 := ht.1
    have w1 : zv_w ((q.length : Int) + 1) = ((q ++ [t]).length : Int) := by
      rw [List.length_append, List.length_singleton, zm_w (by omega)]
      omega
    have hq' : (q ++ [t]) ++ r = L.reverse := by rw [List.append_assoc]; exact hq
    have nx := ih (q ++ [t]) hq'
    rw [qL9_cutsOf_14, zm_e (zm_gI hM 10), h10, if_pos (by omega), zm_e (zm_f5 hM), zm_e (zm_aI hM zm_l351 rfl (by omega) (by omega)), Int.toNat_natCast, h351 q.length t hx, zm_e (zm_of hM D (zm_st48 ht) (by decide)), hc]
    dsimp only
    have ec : zb_nf (zb_cf c L p) (t :: r) = (if zb_cf c L p t = true then 1 else 0) + zb_nf (zb_cf c L p) r := rfl
    have el : zb_ls (zb_cu c p) (t :: r) v = zb_ls (zb_cu c p) r (if zb_cu c p t = true then t else v) := rfl
    rw [ec, el]
    by_cases c1 : zm_o c t 2 = 1
    · rw [if_pos c1]
      have tl : (zm_tk c t).length ≤ 12 := by
        have := zb_at_n12 at_ t hm c1
        rw [zm_tk_len]
        omega
      have e49 := zb_49 (D := D) hM hc ht (zb_at_n12 at_ t hm c1) (hf t hm) p (q.length : Int) w (zm_tk c t) [] rfl (nd t hm c1) v v0 (by omega)
      refine (show L9_cutsOf_49 (D + 1) 347 p.1 p.2 w v (q.length : Int) t 0 k = _ from e49).trans ?_
      rw [w1]
      by_cases cp : p ∈ zm_tk c t
      · have cu : zb_cu c p t = true := decide_eq_true ⟨c1, cp⟩
        rw [if_pos cp, if_pos cu]
        by_cases cw : w = 0
        · rw [if_pos cw, if_pos cw]
          rcases zm_fc_01 c t L with f0 | f1
          · have cf : ¬ zb_cf c L p t = true := fun z => by
              unfold zb_cf at z
              have := of_decide_eq_true ((Bool.and_eq_true _ _).mp z).2
              omega
            rw [if_pos f0, if_neg cf, nx v v0 (by omega), if_pos cw, Int.zero_add]
          · have cf : zb_cf c L p t = true := by
              unfold zb_cf
              rw [cu, Bool.true_and]
              exact decide_eq_true f1
            rw [if_neg (by omega), if_pos cf, nx (v + 1) (by omega) (by omega), if_pos cw, Int.add_assoc]
        · rw [if_neg cw, if_neg cw, nx t (by omega) (by omega), if_neg cw]
      · have cu : ¬ zb_cu c p t = true := fun z => cp (of_decide_eq_true z).2
        have cf : ¬ zb_cf c L p t = true := fun z => cu (by
          unfold zb_cf at z
          exact ((Bool.and_eq_true _ _).mp z).1)
        rw [if_neg cp, if_neg cu, if_neg cf, nx v v0 (by omega), Int.zero_add]
    · have cu : ¬ zb_cu c p t = true := fun z => c1 (of_decide_eq_true z).1
      have cf : ¬ zb_cf c L p t = true := fun z => cu (by
        unfold zb_cf at z
        exact ((Bool.and_eq_true _ _).mp z).1)
      rw [if_neg c1, if_neg cu, if_neg cf, w1, nx v v0 (by omega), Int.zero_add]
theorem zp_row {d D : Nat} (hA : zc_A g) (I : zm_MI k) (S : zt_GG m a b g k) (i w : Int) : ∃ v g' k', C8_row (d + 28) 1 i w g = some (v, g') ∧ C9_row (D + 28) 347 i w k = some (v, k') := by
  have gL := zt_L_A hA
  have hM := I.1
  have l1 : zv_lay 1 = (1, 8) := rfl
  have la := (zt_lab (zt_GG_ab S)).1
  have qC := qE8_row (d + 27) 1 i w g
  have qR := qE9_row (D + 27) 347 i w k
  by_cases i0 : i < 0
  · rw [if_pos i0, qL8_row_13, za_ref gL] at qC
    rw [if_pos i0, qL9_row_18, qL9_row_19, za_isn hM (by decide)] at qR
    exact ⟨_, _, _, lC8_row (zl_ob gL l1) qC, lC9_row (zm_ob hM) qR⟩
  rw [if_neg i0, zm_e (zc_within (d := d + 26) g w 0 4)] at qC
  rw [if_neg i0, zm_e (zm_isIn (h := k) (D + 26) w 0 4)] at qR
  dsimp only at qC qR
  by_cases cw : 0 ≤ w ∧ w ≤ 4
  rotate_left
  · rw [if_neg cw, if_pos rfl, qL8_row_13, za_ref gL] at qC
    rw [if_neg cw, if_pos rfl, qL9_row_18, qL9_row_19, za_isn hM (by decide)] at qR
    exact ⟨_, _, _, lC8_row (zl_ob gL l1) qC, lC9_row (zm_ob hM) qR⟩
  obtain ⟨n, rfl⟩ : ∃ n : Nat, i = n := ⟨i.toNat, by omega⟩
  obtain ⟨k1, i1, F1⟩ := zp_is hM
  have S1 := zt_GG_F S F1
  have M1 := zm_F_M F1 hM
  have U := zt_H_U (zt_GG_H S1)
  have W := zt_U_W U
  have hs := W.2.1
  obtain ⟨l, hl, ok, G, gt, W1⟩ := zt_line W hs
  obtain ⟨k2, e2, F2, n2, rl, dl⟩ := za_sees (D := D + 23) M1 rfl W hs hl
  have M2 := zm_F_M F2 M1
  have c2 : zv_I k2 348 = zv_I k1 348 := zm_F_a F2 348
  obtain ⟨g', e1, B, rw_, lo⟩ := za_row (d := d + 22) gL U hl
  have gL' := zt_B_L B
  have U' := zt_B_U B
  have okr := fun x hx => zt_row_ok ok.2.2.1 G x hx
  have e3' : zv_gR g' 1 8 3 = some a := (zl_gR gL' l1 3).trans (by rw [show zv_R g' 1 3 = zv_R g 1 3 from congrFun ((zt_B_q B).2.2.2.2 1 (by decide) (by decide) (zt_in0 1)) 3, zt_GG_r S])
  rw [if_pos cw, if_neg (by decide), zm_e (zp_e3 hA S), zm_e e1] at qC
  dsimp only at qC
  rw [if_pos cw, if_neg (by decide), qL9_row_19, za_isy i1] at qR
  dsimp only at qR
  rw [zm_e (zm_here M1 _)] at qR
  dsimp only at qR
  rw [zm_e e2, zm_e (zm_gI M2 11), n2.2.1.1] at qR
  by_cases ci : n < (zm_row (zv_I k1 348) (zv_I k1 348 0 :: l)).length
  rotate_left
  · have ei : C4_idAt (d + 27) (a + 8) (n : Int) g' = some (-1, g') := lC4_idAt (zl_ob gL' (zt_row_l la).1) (by
      rw [qE4_idAt, if_neg (by omega), zm_e (zl_gI gL' (zt_row_l la).1 6), zt_rw_sz rw_, if_neg (by omega)])
    rw [zm_e ei] at qC
    dsimp only at qC
    rw [if_pos rfl, za_ref gL'] at qC
    rw [if_neg (by omega), za_rf M2] at qR
    exact ⟨_, _, _, lC8_row (zl_ob gL l1) qC, lC9_row (zm_ob hM) qR⟩
  have hx : (zm_row (zv_I k1 348) (zv_I k1 348 0 :: l))[n]? = some (zm_row (zv_I k1 348) (zv_I k1 348 0 :: l))[n] := List.getElem?_eq_getElem ci
  generalize (zm_row (zv_I k1 348) (zv_I k1 348 0 :: l))[n] = x at hx
  have hm : x ∈ zm_row (zv_I k1 348) (zv_I k1 348 0 :: l) := List.mem_of_getElem? hx
  have xok := okr x hm
  have xr := zt_id_r xok
  obtain ⟨b1, b2⟩ := n2.2.1.2 n x hx
  have ei := zt_C4_idAt (d := d + 26) gL' la (zt_rw_sz rw_) (zt_rw_id rw_) rl hx
  rw [zm_e ei] at qC
  dsimp only at qC
  rw [if_neg (by omega)] at qC
  rw [if_pos (by omega)] at qR
  by_cases w0 : w = 0
  · have li := zm_letterIn M2 c2 (D + 25) n2.2.1 (by omega) hx (zm_row_ok (fun t ht => zm_st48 (ok.2.2.1 t ht)) G x hm).1 (by rcases xok with q | q <;> omega)
    rw [if_pos w0, zm_e e3', zm_e (za_glyph (d := d + 26) gL' U' hs hl hm)] at qC
    dsimp only at qC
    rw [za_giv gL'] at qC
    rw [if_pos w0, zm_e li] at qR
    exact ⟨_, _, _, lC8_row (zl_ob gL l1) qC, lC9_row (zm_ob hM) qR⟩
  rw [if_neg w0] at qC qR
  by_cases w1 : w = 1
  · rw [if_pos w1, zm_e (zt_C4_putter (d := d + 26) xok)] at qC
    dsimp only at qC
    rw [za_giv gL'] at qC
    rw [if_pos w1, zm_e (zm_f6 M2), zm_e (zm_aI M2 zm_l352 rfl (by omega) (by omega)), Int.toNat_natCast, b1] at qR
    exact ⟨_, _, _, lC8_row (zl_ob gL l1) qC, lC9_row (zm_ob hM) qR⟩
  rw [if_neg w1] at qC qR
  by_cases w2 : w = 2
  · have es := zt_C4_seesAt (d := d + 26) gL' la (zt_rw_sz rw_) (zt_lo_se lo) rl hx
    have sj := zt_lay_sn hs hl B hm
    have s355 := n2.2.2.2.1 n x hx
    rw [if_pos w2, zm_e es, sj] at qC
    dsimp only at qC
    rw [if_pos w2, zm_e (zm_f9 M2), zm_e (zm_aB M2 zm_l355 (Or.inl rfl) rfl (by omega) (by omega)), Int.toNat_natCast, s355] at qR
    by_cases cs : zm_sn (zv_I k1 348) (zv_I k1 348 0 :: l) x = true
    · rw [if_pos cs, if_neg (by decide), qL8_row_114, za_giv gL'] at qC
      rw [if_pos cs, if_neg (by decide)] at qR
      exact ⟨_, _, _, lC8_row (zl_ob gL l1) qC, lC9_row (zm_ob hM) qR⟩
    · rw [if_neg cs, if_pos rfl, qL8_row_114, za_giv gL'] at qC
      rw [if_neg cs, if_pos rfl] at qR
      exact ⟨_, _, _, lC8_row (zl_ob gL l1) qC, lC9_row (zm_ob hM) qR⟩
  rw [if_neg w2] at qC qR
  -- CUTS
  have at_ : zb_at (zv_I k1 348) (zv_I k1 348 0 :: l) := ⟨ok.2.2.1, fun t ht => by
    have h1 := zt_S_sz (zt_U_st U t (ok.2.2.1 t ht))
    have h2 := zc_rg hA (zc_lt (zt_r_l la (ok.2.2.1 t ht).1) (by decide)) 9
    rw [h1] at h2
    exact h2.2, fun t ht h => by
    by_cases z : t = 0
    · rw [z, W.1.2.1.2.2.1] at h
      exact absurd h (by decide)
    · obtain ⟨_, _, _, _, _, W2⟩ := zt_line W (ok.2.2.1 t ht)
      exact (W2.2.2.2.1 z (Or.inr h)).2, fun t ht h q hq => okr q (gt t ht h q hq), ok.2.2.2⟩
  have nd : ∀ t ∈ zv_I k1 348 0 :: l, zm_o (zv_I k1 348) t 2 = 1 → (zm_tk (zv_I k1 348) t).Nodup := fun t ht h => zt_cw_tn (zt_S_cw (zt_U_st U t (ok.2.2.1 t ht))) h (zb_at_n12 at_ t ht h)
  have lh : zm_lh (zv_I k1 348) (zv_I k1 348 0 :: l) k2 := ⟨M2, c2, n2.1.1, n2.1.2⟩
  have lrev : ∃ r0, (zv_I k1 348 0 :: l).reverse = [0] ++ r0 := by
    have h1 := ok.2.1
    rw [← List.head?_reverse] at h1
    cases e : (zv_I k1 348 0 :: l).reverse with
    | nil =>
      rw [e] at h1
      cases h1
    | cons y r0 =>
      rw [e] at h1
      have : y = 0 := Option.some.inj h1
      exact ⟨r0, by rw [this]; rfl⟩
  obtain ⟨r0, er⟩ := lrev
  have lr0 : r0.length ≤ 48 := by
    have h1 := congrArg List.length er
    rw [List.length_reverse, List.length_append] at h1
    have := ok.2.2.2
    omega
  have z0 : ¬ zb_cu (zv_I k1 348) x 0 = true := fun z => by
    have h1 := (of_decide_eq_true z).1
    rw [W.1.2.1.2.2.1] at h1
    exact absurd h1 (by decide)
  rw [zm_e (zm_f6 M2), zm_e (zm_aI M2 zm_l352 rfl (by omega) (by omega)), Int.toNat_natCast, b1, zm_e (zm_f7 M2), zm_e (zm_aI M2 zm_l353 rfl (by omega) (by omega)), Int.toNat_natCast, b2] at qR
  by_cases w3 : w = 3
  · have y1 := zb_cif (d := d + 24) gL' U' (zt_B_wk B) at_ xok (zv_I k1 348 0 :: l).reverse [] rfl 0 (Int.le_refl _) (by rw [List.length_reverse]; have := ok.2.2.2; omega)
    have y2 : C4_cutsInForce (d + 27) (a + 8) (zt_id x) g' = some (zb_nf (zb_cf (zv_I k1 348) (zv_I k1 348 0 :: l) x) (zv_I k1 348 0 :: l).reverse, g') := lC4_cutsInForce (zl_ob gL' (zt_row_l la).1) (by
      rw [qE4_cutsInForce]
      rw [Int.zero_add] at y1
      exact y1)
    have z1 := zb_14 (D := D + 25) lh at_ n2.2.2.1 nd x 0 r0 [0] er.symm 0 (by decide) (by omega)
    have z2 : C9_cutsOf (D + 27) 347 x.1 x.2 0 k2 = some (zb_nf (zb_cf (zv_I k1 348) (zv_I k1 348 0 :: l) x) (zv_I k1 348 0 :: l).reverse, k2) := lC9_cutsOf (zm_ob M2) (by
      rw [qE9_cutsOf, if_pos rfl]
      refine (show L9_cutsOf_14 (D + 26) 347 x.1 x.2 0 0 1 k2 = _ from z1).trans ?_
      have cf : ¬ zb_cf (zv_I k1 348) (zv_I k1 348 0 :: l) x 0 = true := fun z => z0 (by
        unfold zb_cf at z
        exact ((Bool.and_eq_true _ _).mp z).1)
      rw [if_pos rfl, er, show zb_nf (zb_cf (zv_I k1 348) (zv_I k1 348 0 :: l) x) ([0] ++ r0) = (if zb_cf (zv_I k1 348) (zv_I k1 348 0 :: l) x 0 = true then 1 else 0) + zb_nf (zb_cf (zv_I k1 348) (zv_I k1 348 0 :: l) x) r0 from rfl, if_neg cf])
    rw [if_pos w3, zm_e y2] at qC
    dsimp only at qC
    rw [za_giv gL'] at qC
    rw [if_neg (by omega), qL9_row_120, zm_e z2] at qR
    exact ⟨_, _, _, lC8_row (zl_ob gL l1) qC, lC9_row (zm_ob hM) qR⟩
  · have w4 : w = 4 := by omega
    have y1 := zb_lst (d := d + 24) gL' U' (zt_B_wk B) at_ xok (zv_I k1 348 0 :: l).length (Nat.le_refl _)
    rw [List.take_of_length_le (Nat.le_of_eq (List.length_reverse (as := zv_I k1 348 0 :: l)))] at y1
    have hlen := ok.2.2.2
    have y2 : C4_lastCut (d + 27) (a + 8) (zt_id x) g' = some (zb_ls (zb_cu (zv_I k1 348) x) (zv_I k1 348 0 :: l).reverse (-1), g') := lC4_lastCut (zl_ob gL' (zt_row_l la).1) (by
      rw [qE4_lastCut, zm_e (zl_gI gL' (zt_row_l la).1 5), zt_wk_ln (zt_B_wk B), zm_w (by omega)]
      exact y1)
    have z1 := zb_14 (D := D + 25) lh at_ n2.2.2.1 nd x 1 r0 [0] er.symm (-1) (by decide) (by omega)
    have z2 : C9_cutsOf (D + 27) 347 x.1 x.2 1 k2 = some (zb_ls (zb_cu (zv_I k1 348) x) (zv_I k1 348 0 :: l).reverse (-1), k2) := lC9_cutsOf (zm_ob M2) (by
      rw [qE9_cutsOf, if_neg (by decide)]
      refine (show L9_cutsOf_14 (D + 26) 347 x.1 x.2 1 (-1) 1 k2 = _ from z1).trans ?_
      rw [if_neg (by decide), er, show zb_ls (zb_cu (zv_I k1 348) x) ([0] ++ r0) (-1) = zb_ls (zb_cu (zv_I k1 348) x) r0 (if zb_cu (zv_I k1 348) x 0 = true then 0 else -1) from rfl, if_neg z0])
    rw [if_neg w3, zm_e y2] at qC
    dsimp only at qC
    rw [za_giv gL'] at qC
    rw [if_pos w4, qL9_row_120, zm_e z2] at qR
    exact ⟨_, _, _, lC8_row (zl_ob gL l1) qC, lC9_row (zm_ob hM) qR⟩
end
end
/-! C90.zx -/
section
/-! ===== queries as the law asks them (genzx.py) ===== -/
section
variable {L : Nat} {X : Nat → Int} {m : Nat} {h : zv_H}
theorem zx_many (J : zl_J L X m h) (d : Nat) {x1 : Int} (r1 : zv_rg x1) : ∃ (v : Int) (h1 h2 : zv_H), C8_many (d + 28) 1 x1 h = some (v, h1) ∧ C9_many (d + 28) 347 x1 h1 = some (v, h2) ∧ zl_S L X h1 ∧ zl_J L X m h2 := zl_askx J (C' := fun h1 => C9_many (d + 28) 347 x1 h1) (zq_many J d r1) (zl_q (zc_Qp (K := fun _ => True) (zc_C8_many J.1.1 zc_h8 r1))) (fun a b k I S => by
  obtain ⟨v, g', k', e1, e2⟩ := zp_many (d := d) (D := d) J.1.1 I S x1
  exact ⟨v, g', k', e1, e2⟩)
theorem zx_letter (J : zl_J L X m h) (d : Nat) {x1 : Int} (r1 : zv_rg x1) {x2 : Int} (r2 : zv_rg x2) : ∃ (v : Int) (h1 h2 : zv_H), C8_letter (d + 28) 1 x1 x2 h = some (v, h1) ∧ C9_letter (d + 28) 347 x1 x2 h1 = some (v, h2) ∧ zl_S L X h1 ∧ zl_J L X m h2 := zl_askx J (C' := fun h1 => C9_letter (d + 28) 347 x1 x2 h1) (zq_letter J d r1 r2) (zl_q (zc_Qp (K := fun _ => True) (zc_C8_letter J.1.1 zc_h8 r1 r2))) (fun a b k I S => by
  obtain ⟨v, g', k', e1, e2⟩ := zp_letter (d := d) (D := d) J.1.1 I S x1 x2
  exact ⟨v, g', k', e1, e2⟩)
theorem zx_state (J : zl_J L X m h) (d : Nat) {x1 : Int} (r1 : zv_rg x1) {x2 : Int} (r2 : zv_rg x2) : ∃ (v : Int) (h1 h2 : zv_H), C8_state (d + 28) 1 x1 x2 h = some (v, h1) ∧ C9_state (d + 28) 347 x1 x2 h1 = some (v, h2) ∧ zl_S L X h1 ∧ zl_J L X m h2 := zl_askx J (C' := fun h1 => C9_state (d + 28) 347 x1 x2 h1) (zq_state J d r1 r2) (zl_q (zc_Qp (K := fun _ => True) (zc_C8_state J.1.1 zc_h8 r1 r2))) (fun a b k I S => by
  obtain ⟨v, g', k', e1, e2⟩ := zp_state (d := d) (D := d) J.1.1 I S x1 x2
  exact ⟨v, g', k', e1, e2⟩)
theorem zx_child (J : zl_J L X m h) (hm : m ≤ 600) (d : Nat) {x1 : Int} (r1 : zv_rg x1) {x2 : Int} (r2 : zv_rg x2) : ∃ (v : Int) (h1 h2 : zv_H), C8_child (d + 28) 1 x1 x2 h = some (v, h1) ∧ C9_child (d + 28) 347 x1 x2 h1 = some (v, h2) ∧ zl_S L X h1 ∧ zl_J L X m h2 := zl_askx J (C' := fun h1 => C9_child (d + 28) 347 x1 x2 h1) (zq_child J d r1 r2) (zl_q (zc_Qp (K := fun _ => True) (zc_C8_child J.1.1 zc_h8 r1 r2))) (fun a b k I S => by
  obtain ⟨v, g', k', e1, e2⟩ := zp_child (d := d) (D := d) J.1.1 I S (show m ≤ 100000 by omega) x1 r2
  exact ⟨v, g', k', e1, e2⟩)
theorem zx_force (J : zl_J L X m h) (d : Nat) {x1 : Int} (r1 : zv_rg x1) {x2 : Int} (r2 : zv_rg x2) : ∃ (v : Int) (h1 h2 : zv_H), C8_force (d + 28) 1 x1 x2 h = some (v, h1) ∧ C9_force (d + 28) 347 x1 x2 h1 = some (v, h2) ∧ zl_S L X h1 ∧ zl_J L X m h2 := zl_askx J (C' := fun h1 => C9_force (d + 28) 347 x1 x2 h1) (zq_force J d r1 r2) (zl_q (zc_Qp (K := fun _ => True) (zc_C8_force J.1.1 zc_h8 r1 r2))) (fun a b k I S => by
  obtain ⟨v, g', k', e1, e2⟩ := zp_force (d := d) (D := d) J.1.1 I S x1 x2
  exact ⟨v, g', k', e1, e2⟩)
theorem zx_blame (J : zl_J L X m h) (d : Nat) {x1 : Int} (r1 : zv_rg x1) {x2 : Int} (r2 : zv_rg x2) : ∃ (v : Int) (h1 h2 : zv_H), C8_blame (d + 28) 1 x1 x2 h = some (v, h1) ∧ C9_blame (d + 28) 347 x1 x2 h1 = some (v, h2) ∧ zl_S L X h1 ∧ zl_J L X m h2 := zl_askx J (C' := fun h1 => C9_blame (d + 28) 347 x1 x2 h1) (zq_blame J d r1 r2) (zl_q (zc_Qp (K := fun _ => True) (zc_C8_blame J.1.1 zc_h8 r1 r2))) (fun a b k I S => by
  obtain ⟨v, g', k', e1, e2⟩ := zp_blame (d := d) (D := d) J.1.1 I S x1 x2
  exact ⟨v, g', k', e1, e2⟩)
theorem zx_row (J : zl_J L X m h) (d : Nat) {x1 : Int} (r1 : zv_rg x1) {x2 : Int} (r2 : zv_rg x2) : ∃ (v : Int) (h1 h2 : zv_H), C8_row (d + 28) 1 x1 x2 h = some (v, h1) ∧ C9_row (d + 28) 347 x1 x2 h1 = some (v, h2) ∧ zl_S L X h1 ∧ zl_J L X m h2 := zl_askx J (C' := fun h1 => C9_row (d + 28) 347 x1 x2 h1) (zq_row J d r1 r2) (zl_q (zc_Qp (K := fun _ => True) (zc_C8_row J.1.1 zc_h8 r1 r2))) (fun a b k I S => by
  obtain ⟨v, g', k', e1, e2⟩ := zp_row (d := d) (D := d) J.1.1 I S x1 x2
  exact ⟨v, g', k', e1, e2⟩)
theorem zx_visit (J : zl_J L X m h) (hm : m ≤ 600) (d : Nat) {x1 : Int} (r1 : zv_rg x1) {x2 : Int} (r2 : zv_rg x2) : ∃ (v : Int) (h1 h2 : zv_H), C8_visit (d + 28) 1 x1 x2 h = some (v, h1) ∧ C9_visit (d + 28) 347 x1 x2 h1 = some (v, h2) ∧ zl_S L X h1 ∧ zl_J L X m h2 := zl_askx J (C' := fun h1 => C9_visit (d + 28) 347 x1 x2 h1) (zq_visit J d r1 r2) (zl_q (zc_Qp (K := fun _ => True) (zc_C8_visit J.1.1 zc_h8 r1 r2))) (fun a b k I S => by
  obtain ⟨v, g', k', e1, e2⟩ := zp_visit (d := d) (D := d) J.1.1 I S (show m ≤ 100000 by omega) x1 x2
  exact ⟨v, g', k', e1, e2⟩)
theorem zx_named (J : zl_J L X m h) (d : Nat) : ∃ (v : Int) (h1 h2 : zv_H), C8_named (d + 28) 1 h = some (v, h1) ∧ C9_named (d + 28) 347 h1 = some (v, h2) ∧ zl_S L X h1 ∧ zl_J L X m h2 := zl_askx J (C' := fun h1 => C9_named (d + 28) 347 h1) (zq_named J d ) (zl_q (zc_Qp (K := fun _ => True) (zc_C8_named J.1.1 zc_h8 ))) (fun a b k I S => by
  obtain ⟨v, g', k', e1, e2⟩ := zp_named (d := d) (D := d) J.1.1 I S
  exact ⟨v, g', k', e1, e2⟩)
theorem zx_common (J : zl_J L X m h) (d : Nat) {x1 : Int} (r1 : zv_rg x1) {x2 : Int} (r2 : zv_rg x2) : ∃ (v : Int) (h1 h2 : zv_H), C8_common (d + 28) 1 x1 x2 h = some (v, h1) ∧ C9_common (d + 28) 347 x1 x2 h1 = some (v, h2) ∧ zl_S L X h1 ∧ zl_J L X m h2 := zl_askx J (C' := fun h1 => C9_common (d + 28) 347 x1 x2 h1) (zq_common J d r1 r2) (zl_q (zc_Qp (K := fun _ => True) (zc_C8_common J.1.1 zc_h8 r1 r2))) (fun a b k I S => by
  obtain ⟨v, g', k', e1, e2⟩ := zp_common (d := d) (D := d) J.1.1 I S x1 x2
  exact ⟨v, g', k', e1, e2⟩)
theorem zx_way (J : zl_J L X m h) (d : Nat) {x1 : Int} (r1 : zv_rg x1) {x2 : Int} (r2 : zv_rg x2) {x3 : Int} (r3 : zv_rg x3) : ∃ (v : Int) (h1 h2 : zv_H), C8_way (d + 28) 1 x1 x2 x3 h = some (v, h1) ∧ C9_way (d + 28) 347 x1 x2 x3 h1 = some (v, h2) ∧ zl_S L X h1 ∧ zl_J L X m h2 := zl_askx J (C' := fun h1 => C9_way (d + 28) 347 x1 x2 x3 h1) (zq_way J d r1 r2 r3) (zl_q (zc_Qp (K := fun _ => True) (zc_C8_way J.1.1 zc_h8 r1 r2 r3))) (fun a b k I S => by
  obtain ⟨v, g', k', e1, e2⟩ := zp_way (d := d) (D := d) J.1.1 I S x1 x2 x3
  exact ⟨v, g', k', e1, e2⟩)
theorem zx_between (J : zl_J L X m h) (d : Nat) {x1 : Int} (r1 : zv_rg x1) {x2 : Int} (r2 : zv_rg x2) {x3 : Int} (r3 : zv_rg x3) : ∃ (v : Int) (h1 h2 : zv_H), C8_between (d + 28) 1 x1 x2 x3 h = some (v, h1) ∧ C9_between (d + 28) 347 x1 x2 x3 h1 = some (v, h2) ∧ zl_S L X h1 ∧ zl_J L X m h2 := zl_askx J (C' := fun h1 => C9_between (d + 28) 347 x1 x2 x3 h1) (zq_between J d r1 r2 r3) (zl_q (zc_Qp (K := fun _ => True) (zc_C8_between J.1.1 zc_h8 r1 r2 r3))) (fun a b k I S => by
  obtain ⟨v, g', k', e1, e2⟩ := zp_between (d := d) (D := d) J.1.1 I S x1 x2 x3
  exact ⟨v, g', k', e1, e2⟩)
theorem zx_least (J : zl_J L X m h) (d : Nat) {x1 : Int} (r1 : zv_rg x1) {x2 : Int} (r2 : zv_rg x2) : ∃ (v : Int) (h1 h2 : zv_H), C8_least (d + 28) 1 x1 x2 h = some (v, h1) ∧ C9_least (d + 28) 347 x1 x2 h1 = some (v, h2) ∧ zl_S L X h1 ∧ zl_J L X m h2 := zl_askx J (C' := fun h1 => C9_least (d + 28) 347 x1 x2 h1) (zq_least J d r1 r2) (zl_q (zc_Qp (K := fun _ => True) (zc_C8_least J.1.1 zc_h8 r1 r2))) (fun a b k I S => by
  obtain ⟨v, g', k', e1, e2⟩ := zp_least (d := d) (D := d) J.1.1 I S x1 x2
  exact ⟨v, g', k', e1, e2⟩)
theorem zx_tell (J : zl_J L X m h) (d : Nat) {x1 : Int} (r1 : zv_rg x1) : ∃ (v : Int) (h1 h2 : zv_H), C8_tell (d + 28) 1 x1 h = some (v, h1) ∧ C9_tell (d + 28) 347 x1 h1 = some (v, h2) ∧ zl_S L X h1 ∧ zl_J L X m h2 := zl_askx J (C' := fun h1 => C9_tell (d + 28) 347 x1 h1) (zq_tell J d r1) (zl_q (zc_C8_tell J.1.1 r1)) (fun a b k I S => by
  obtain ⟨v, g', k', e1, e2, _⟩ := zp_tell (d := d) (D := d) J.1.1 I S x1
  exact ⟨v, g', k', e1, e2⟩)
theorem zx_leaning (J : zl_J L X m h) (d : Nat) {x1 : Int} (r1 : zv_rg x1) {x2 : Int} (r2 : zv_rg x2) : ∃ (v : Int) (h1 h2 : zv_H), C8_leaning (d + 28) 1 x1 x2 h = some (v, h1) ∧ C9_leaning (d + 28) 347 x1 x2 h1 = some (v, h2) ∧ zl_S L X h1 ∧ zl_J L X m h2 := zl_askx J (C' := fun h1 => C9_leaning (d + 28) 347 x1 x2 h1) (zq_leaning J d r1 r2) (zl_q (zc_Qp (K := fun _ => True) (zc_C8_leaning J.1.1 zc_h8 r1 r2))) (fun a b k I S => by
  obtain ⟨v, g', k', e1, e2⟩ := zp_leaning (d := d) (D := d) J.1.1 I S x1 x2
  exact ⟨v, g', k', e1, e2⟩)
theorem zx_find (J : zl_J L X m h) (d : Nat) {x1 : Int} (r1 : zv_rg x1) : ∃ (v : Int) (h1 h2 : zv_H), C8_find (d + 28) 1 x1 h = some (v, h1) ∧ C9_find (d + 28) 347 x1 h1 = some (v, h2) ∧ zl_S L X h1 ∧ zl_J L X m h2 := zl_askx J (C' := fun h1 => C9_find (d + 28) 347 x1 h1) (zq_find J d r1) (zl_q (zc_Qp (K := fun _ => True) (zc_C8_find J.1.1 zc_h8 r1))) (fun a b k I S => by
  obtain ⟨v, g', k', e1, e2⟩ := zp_find (d := d) (D := d) J.1.1 I S x1
  exact ⟨v, g', k', e1, e2⟩)
theorem zx_first (J : zl_J L X m h) (d : Nat) : ∃ (v : Int) (h1 h2 : zv_H), C8_first (d + 28) 1 h = some (v, h1) ∧ C9_first (d + 28) 347 h1 = some (v, h2) ∧ zl_S L X h1 ∧ zl_J L X m h2 := zl_askx J (C' := fun h1 => C9_first (d + 28) 347 h1) (zq_first J d ) (zl_q (zc_Qp (K := fun _ => True) (zc_C8_first J.1.1 zc_h8 ))) (fun a b k I S => by
  obtain ⟨v, g', k', e1, e2⟩ := zp_first (d := d) (D := d) J.1.1 I S
  exact ⟨v, g', k', e1, e2⟩)
theorem zx_twin (J : zl_J L X m h) (d : Nat) {x1 : Int} (r1 : zv_rg x1) : ∃ (v : Int) (h1 h2 : zv_H), C8_twin (d + 28) 1 x1 h = some (v, h1) ∧ C9_twin (d + 28) 347 x1 h1 = some (v, h2) ∧ zl_S L X h1 ∧ zl_J L X m h2 := zl_askx J (C' := fun h1 => C9_twin (d + 28) 347 x1 h1) (zq_twin J d r1) (zl_q (zc_Qp (K := fun _ => True) (zc_C8_twin J.1.1 zc_h8 r1))) (fun a b k I S => by
  obtain ⟨v, g', k', e1, e2⟩ := zp_twin (d := d) (D := d) J.1.1 I S x1
  exact ⟨v, g', k', e1, e2⟩)
theorem zx_back (J : zl_J L X m h) (d : Nat) {x1 : Int} (r1 : zv_rg x1) : ∃ (v : Int) (h1 h2 : zv_H), C8_back (d + 28) 1 x1 h = some (v, h1) ∧ C9_back (d + 28) 347 x1 h1 = some (v, h2) ∧ zl_S L X h1 ∧ zl_J L X m h2 := zl_askx J (C' := fun h1 => C9_back (d + 28) 347 x1 h1) (zq_back J d r1) (zl_q (zc_Qp (K := fun _ => True) (zc_C8_back J.1.1 zc_h8 r1))) (fun a b k I S => by
  obtain ⟨v, g', k', e1, e2⟩ := zp_back (d := d) (D := d) J.1.1 I S x1
  exact ⟨v, g', k', e1, e2⟩)
end
end
