/-! C10.between -/
section
/-! ===== what is asked, answered alike: what lies between two documents; twins ===== -/
/-- how often in a list -/
def zb_ct (y : Int × Int) : List (Int × Int) → Int
  | [] => 0
  | x :: l => (if x = y then 1 else 0) + zb_ct y l
/-- how often each of a list in another one -/
def zb_sum (M : List (Int × Int)) : List (Int × Int) → Int
  | [] => 0
  | y :: l => zb_ct y M + zb_sum M l
theorem zb_sum_n : ∀ L : List (Int × Int), zb_sum [] L = 0
  | [] => rfl
  | y :: L => by
    have h := zb_sum_n L
    show zb_ct y [] + zb_sum [] L = 0
    rw [h]
    rfl
theorem zb_sum_c (x : Int × Int) (M : List (Int × Int)) : ∀ L : List (Int × Int), zb_sum (x :: M) L = zb_ct x L + zb_sum M L
  | [] => rfl
  | y :: L => by
    have h := zb_sum_c x M L
    have e : (if x = y then (1 : Int) else 0) = if y = x then 1 else 0 := by
      by_cases q : x = y
      · rw [if_pos q, if_pos q.symm]
      · rw [if_neg q, if_neg (fun w => q w.symm)]
    show (if x = y then (1 : Int) else 0) + zb_ct y M + zb_sum (x :: M) L = (if y = x then 1 else 0) + zb_ct x L + (zb_ct y M + zb_sum M L)
    rw [h, e]
    omega
theorem zb_sum_s : ∀ M L : List (Int × Int), zb_sum M L = zb_sum L M
  | [], L => zb_sum_n L
  | x :: M, L => by
    rw [zb_sum_c, zb_sum_s M L]
    rfl
theorem zb_ct_r (y : Int × Int) : ∀ l : List (Int × Int), 0 ≤ zb_ct y l ∧ zb_ct y l ≤ l.length
  | [] => ⟨Int.le_refl _, Int.le_refl _⟩
  | x :: l => by
    have h := zb_ct_r y l
    have e : zb_ct y (x :: l) = (if x = y then 1 else 0) + zb_ct y l := rfl
    rw [e, List.length_cons]
    split <;> omega
/-- a letter as one number -/
def zb_ky (x : Int × Int) : Int := 64 * x.1 + x.2
theorem zb_ky_inj {x y : Int × Int} (hx : zt_ok x) (hy : zt_ok y) (e : zb_ky x = zb_ky y) : x = y := by
  unfold zb_ky at e
  have h1 : x.1 = y.1 := by
    rcases hx with h | h <;> rcases hy with q | q <;> omega
  exact Prod.ext h1 (by omega)
theorem zb_ky_w {x : Int × Int} (hx : zt_ok x) : zv_w (zv_w (64 * x.1) + x.2) = zb_ky x := by
  unfold zb_ky
  rcases hx with h | h
  · rw [zm_w (x := 64 * x.1) (by omega), zm_w (by omega)]
  · rw [zm_w (x := 64 * x.1) (by omega), zm_w (by omega)]
section
variable {a b m : Nat} {g k : zv_H}
theorem zb_keys {D : Nat} {c : Nat → Int} {L : List Int} (h604 : (zm_row c L).length ≤ 604) (ok : ∀ x ∈ zm_row c L, zt_ok x) : ∀ (r q : List (Int × Int)), q ++ r = zm_row c L → ∀ h : zv_H, zm_M h → zm_Sn h c L → (∀ (i : Nat) (x : Int × Int), (q.filter (zm_sn c L))[i]? = some x → zv_I h 370 i = zb_ky x) → ∃ h', L9_keysOf_9 D 347 ((q.filter (zm_sn c L)).length : Int) (q.length : Int) h = some (some (zv_i ((zt_dc c L).length : Int)), h') ∧ zm_F [370] [] h h' ∧ ∀ (i : Nat) (x : Int × Int), (zt_dc c L)[i]? = some x → zv_I h' 370 i = zb_ky x := by
  intro r
  induction r with
  | nil =>
    intro q hq h hM sn z
    rw [List.append_nil] at hq
    subst hq
    refine ⟨h, ?_, zm_F_r _ _ h, z⟩
    rw [qL9_keysOf_9, zm_e (zm_gI hM 11), sn.2.1.1, if_neg (Int.lt_irrefl _)]
    rfl
  | cons x r ih =>
    intro q hq h hM sn z
    have hlen := congrArg List.length hq
    rw [List.length_append, List.length_cons] at hlen
    have hx : (zm_row c L)[q.length]? = some x := by
      rw [← hq, List.getElem?_append_right (Nat.le_refl _), Nat.sub_self]
      rfl
    have hm : x ∈ zm_row c L := List.mem_of_getElem? hx
    have w1 : zv_w ((q.length : Int) + 1) = ((q ++ [x]).length : Int) := by
      rw [List.length_append, List.length_singleton, zm_w (by omega)]
      omega
    have hq' : (q ++ [x]) ++ r = zm_row c L := by rw [List.append_assoc]; exact hq
    have s355 := sn.2.2.2.1 q.length x hx
    obtain ⟨b1, b2⟩ := sn.2.1.2 q.length x hx
    have hf : (q.filter (zm_sn c L)).length ≤ q.length := List.length_filter_le _ _
    rw [qL9_keysOf_9, zm_e (zm_gI hM 11), sn.2.1.1, if_pos (by omega), zm_e (zm_f9 hM), zm_e (zm_aB hM zm_l355 (Or.inl rfl) rfl (by omega) (by omega)), Int.toNat_natCast, s355, w1]
    by_cases cs : zm_sn c L x = true
    · have e1 : (q ++ [x]).filter (zm_sn c L) = q.filter (zm_sn c L) ++ [x] := by
        rw [List.filter_append, List.filter_cons_of_pos cs]
        rfl
      have ef : ((q ++ [x]).filter (zm_sn c L)).length = (q.filter (zm_sn c L)).length + 1 := by
        rw [e1, List.length_append]
        rfl
      obtain ⟨h', y1, y2, y3⟩ := ih (q ++ [x]) hq' (zv_sI h 370 (q.filter (zm_sn c L)).length (zb_ky x)) hM (zm_Sn_F sn (zm_F_I (zm_F_r [370] [] h) rfl _ _)) (fun i y hy => by
        rw [e1] at hy
        by_cases e : i = (q.filter (zm_sn c L)).length
        · subst e
          rw [List.getElem?_append_right (Nat.le_refl _), Nat.sub_self] at hy
          rw [zy_I, show x = y from Option.some.inj hy]
        · rw [zy_In _ _ (fun w => e w.2)]
          refine z i y ?_
          by_cases l : i < (q.filter (zm_sn c L)).length
          · rw [List.getElem?_append_left l] at hy
            exact hy
          · rw [List.getElem?_append_right (by omega), List.getElem?_eq_none (by rw [List.length_singleton]; omega)] at hy
            cases hy)
      rw [ef] at y1
      refine ⟨h', ?_, zm_F_t (zm_F_I (zm_F_r _ _ h) rfl _ _) y2, y3⟩
      rw [if_pos cs, if_neg (by decide), zm_e (zm_f44 hM), zm_e (zm_f6 hM), zm_e (zm_aI hM zm_l352 rfl (by omega) (by omega)), Int.toNat_natCast, b1, zm_e (zm_f7 hM), zm_e (zm_aI hM zm_l353 rfl (by omega) (by omega)), Int.toNat_natCast, b2, zb_ky_w (ok x hm), zm_e (zm_wI hM zm_l370 rfl (by omega) (by omega) _), Int.toNat_natCast, zm_w (by omega), show ((q.filter (zm_sn c L)).length : Int) + 1 = (((q.filter (zm_sn c L)).length + 1 : Nat) : Int) by omega]
      exact y1
    · have ef : (q ++ [x]).filter (zm_sn c L) = q.filter (zm_sn c L) := by
        rw [List.filter_append, List.filter_cons_of_neg cs]
        exact List.append_nil _
      obtain ⟨h', y1, y2, y3⟩ := ih (q ++ [x]) hq' h hM sn (by rw [ef]; exact z)
      rw [ef] at y1
      refine ⟨h', ?_, y2, y3⟩
      rw [if_neg cs, if_pos rfl]
      exact y1
/-- how many keys are this one -/
theorem zb_42 {D : Nat} (hM : zm_M k) {M : List (Int × Int)} (h640 : M.length ≤ 640) (okM : ∀ x ∈ M, zt_ok x) (hk : ∀ (i : Nat) (x : Int × Int), M[i]? = some x → zv_I k 370 i = zb_ky x) {y : Int × Int} (oky : zt_ok y) {p : Nat} (hp : p < 640) (b1 : zv_I k 352 p = y.1) (b2 : zv_I k 353 p = y.2) : ∀ (r q : List (Int × Int)), q ++ r = M → ∀ v : Int, 0 ≤ v → v + r.length < 1000000 → L9_keptOf_42 D 347 (M.length : Int) v (p : Int) (q.length : Int) k = L9_keptOf_17 D 347 (M.length : Int) (v + zb_ct y r) ((p + 1 : Nat) : Int) k := by
  intro r
  induction r with
  | nil =>
    intro q hq v v0 v1
    rw [List.append_nil] at hq
    subst hq
    rw [qL9_keptOf_42, if_neg (Int.lt_irrefl _), zm_w (by omega), show v + zb_ct y [] = v from Int.add_zero v]
    rfl
  | cons x r ih =>
    intro q hq v v0 v1
    rw [List.length_cons] at v1
    have hlen := congrArg List.length hq
    rw [List.length_append, List.length_cons] at hlen
    have hx : M[q.length]? = some x := by
      rw [← hq, List.getElem?_append_right (Nat.le_refl _), Nat.sub_self]
      rfl
    have hm : x ∈ M := List.mem_of_getElem? hx
    have w1 : zv_w ((q.length : Int) + 1) = ((q ++ [x]).length : Int) := by
      rw [List.length_append, List.length_singleton, zm_w (by omega)]
      omega
    have hq' : (q ++ [x]) ++ r = M := by rw [List.append_assoc]; exact hq
    have ec : zb_ct y (x :: r) = (if x = y then 1 else 0) + zb_ct y r := rfl
    rw [qL9_keptOf_42, if_pos (by omega), zm_e (zm_f44 hM), zm_e (zm_aI hM zm_l370 rfl (by omega) (by omega)), Int.toNat_natCast, hk _ _ hx, zm_e (zm_f6 hM), zm_e (zm_aI hM zm_l352 rfl (by omega) (by omega)), Int.toNat_natCast, b1, zm_e (zm_f7 hM), zm_e (zm_aI hM zm_l353 rfl (by omega) (by omega)), Int.toNat_natCast, b2, zb_ky_w oky, w1, ec]
    by_cases e : x = y
    · rw [if_pos (by rw [e]), if_pos e, zm_w (by omega), ih (q ++ [x]) hq' (v + 1) (by omega) (by omega), Int.add_assoc]
    · rw [if_neg (fun w => e (zb_ky_inj (okM x hm) oky w)), if_neg e, zm_w (by omega), ih (q ++ [x]) hq' (v + 0) (by omega) (by omega), Int.add_assoc]
theorem zb_17 {D : Nat} (hM : zm_M k) {M : List (Int × Int)} (h120 : M.length ≤ 120) (okM : ∀ x ∈ M, zt_ok x) (hk : ∀ (i : Nat) (x : Int × Int), M[i]? = some x → zv_I k 370 i = zb_ky x) {c : Nat → Int} {L : List Int} (sn : zm_Sn k c L) (h604 : (zm_row c L).length ≤ 604) (ok : ∀ x ∈ zm_row c L, zt_ok x) : ∀ (r q : List (Int × Int)), q ++ r = zm_row c L → ∀ v : Int, 0 ≤ v → v + 120 * r.length < 100000 → L9_keptOf_17 D 347 (M.length : Int) v (q.length : Int) k = some (some (zv_i (v + zb_sum M (r.filter (zm_sn c L)))), k) := by
  intro r
  induction r with
  | nil =>
    intro q hq v v0 v1
    rw [List.append_nil] at hq
    subst hq
    rw [qL9_keptOf_17, zm_e (zm_gI hM 11), sn.2.1.1, if_neg (Int.lt_irrefl _)]
    rw [show v + zb_sum M (([] : List (Int × Int)).filter (zm_sn c L)) = v from Int.add_zero v]
  | cons x r ih =>
    intro q hq v v0 v1
    rw [List.length_cons] at v1
    have hlen := congrArg List.length hq
    rw [List.length_append, List.length_cons] at hlen
    have hx : (zm_row c L)[q.length]? = some x := by
      rw [← hq, List.getElem?_append_right (Nat.le_refl _), Nat.sub_self]
      rfl
    have hm : x ∈ zm_row c L := List.mem_of_getElem? hx
    have eq1 : ((q ++ [x]).length : Int) = ((q.length + 1 : Nat) : Int) := by
      rw [List.length_append, List.length_singleton]
    have w1 : zv_w ((q.length : Int) + 1) = ((q ++ [x]).length : Int) := by
      rw [List.length_append, List.length_singleton, zm_w (by omega)]
      omega
    have hq' : (q ++ [x]) ++ r = zm_row c L := by rw [List.append_assoc]; exact hq
    have s355 := sn.2.2.2.1 q.length x hx
    obtain ⟨b1, b2⟩ := sn.2.1.2 q.length x hx
    have cr := zb_ct_r x M
    rw [qL9_keptOf_17, zm_e (zm_gI hM 11), sn.2.1.1, if_pos (by omega), zm_e (zm_f9 hM), zm_e (zm_aB hM zm_l355 (Or.inl rfl) rfl (by omega) (by omega)), Int.toNat_natCast, s355, w1]
    by_cases cs : zm_sn c L x = true
    · have e42 := zb_42 (D := D) hM (by omega) okM hk (ok x hm) (p := q.length) (by omega) b1 b2 M [] rfl v v0 (by omega)
      rw [if_pos cs, if_neg (by decide), List.filter_cons_of_pos cs]
      refine (show L9_keptOf_42 D 347 (M.length : Int) v (q.length : Int) 0 k = _ from e42).trans ?_
      rw [← eq1, ih (q ++ [x]) hq' _ (by omega) (by omega), show zb_sum M (x :: r.filter (zm_sn c L)) = zb_ct x M + zb_sum M (r.filter (zm_sn c L)) from rfl, Int.add_assoc]
    · rw [if_neg cs, if_pos rfl, List.filter_cons_of_neg cs]
      exact ih (q ++ [x]) hq' v v0 (by omega)
/-- the letters of a document, each as who put it -/
def zb_D (c : Nat → Int) (s : Int) (M : List (Int × Int)) : Prop := ∃ l, zm_Ln c (s :: l) s ∧ M = zt_dc c (s :: l)
theorem zb_C9_keptOf {D : Nat} (hM : zm_M k) {c : Nat → Int} (hc : zv_I k 348 = c) (W : zm_W c) {s t : Int} (hs : zm_st c s) (ht : zm_st c t) {M N : List (Int × Int)} (hD : zb_D c s M) (hE : zb_D c t N) : ∃ k', C9_keptOf (D + 6) 347 s t k = some (zb_sum M N, k') ∧ zm_F [370, 351, 352, 353, 354, 355] [10, 11, 12] k k' := by
  obtain ⟨l, hl, e⟩ := hD
  obtain ⟨l', hl', e'⟩ := hE
  obtain ⟨k1, e1, F1, n1, r1, d1⟩ := za_sees (D := D) hM hc W hs hl
  have M1 := zm_F_M F1 hM
  have ok1 := zt_line_u W hs hl
  have okr1 := fun x hx => zt_row_ok ok1.1.2.2.1 ok1.2.1 x hx
  obtain ⟨k2, e2, F2, z2⟩ := zb_keys (D := D + 4) r1 okr1 (zm_row c (s :: l)) [] rfl k1 M1 n1 (fun i x hx => by cases hx)
  have M2 := zm_F_M F2 M1
  have c2 : zv_I k2 348 = c := (zm_F_a F2 348).trans ((zm_F_a F1 348).trans hc)
  obtain ⟨k3, e3, F3, n3, r3, d3⟩ := za_sees (D := D + 1) M2 c2 W ht hl'
  have M3 := zm_F_M F3 M2
  have ok3 := zt_line_u W ht hl'
  have okr3 := fun x hx => zt_row_ok ok3.1.2.2.1 ok3.2.1 x hx
  have e4 := zb_17 (D := D + 5) M3 (M := M) (by rw [e]; exact d1) (fun x hx => okr1 x (List.mem_filter.mp (by rw [e] at hx; exact hx)).1) (fun i x hx => by
    rw [zm_F_a F3 370]
    exact z2 i x (by rw [← e]; exact hx)) n3 r3 okr3 (zm_row c (t :: l')) [] rfl 0 (Int.le_refl _) (by omega)
  have ek : C9_keysOf (D + 5) 347 s k = some ((M.length : Int), k2) := lC9_keysOf (zm_ob hM) (by
    rw [qE9_keysOf, zm_e e1, e]
    exact e2)
  refine ⟨k3, lC9_keptOf (zm_ob hM) ?_, zm_F_t (zm_F_s F1 rfl rfl) (zm_F_t (zm_F_s F2 rfl rfl) (zm_F_s F3 rfl rfl))⟩
  rw [qE9_keptOf, zm_e ek]
  dsimp only
  rw [zm_e e3]
  refine (show L9_keptOf_17 (D + 5) 347 (M.length : Int) 0 0 k3 = _ from e4).trans ?_
  rw [Int.zero_add, e']
  rfl
/-! the class -/
theorem zb_K17 {d : Nat} {c : Nat → Int} {s t : Int} (gL : zt_L g) (U : zt_U a c g) (hs : zm_st c s) (ht : zm_st c t) {M N : List (Int × Int)} (nM : zv_I g (zt_r a s) 12 = M.length) (nN : zv_I g (zt_r a t) 12 = N.length) (m1 : M.length ≤ 120) (n1 : N.length ≤ 120) (xM : ∀ (i : Nat) (x : Int × Int), M[i]? = some x → zv_I g (zt_r a s + 2) i = zt_id x) (xN : ∀ (i : Nat) (x : Int × Int), N[i]? = some x → zv_I g (zt_r a t + 2) i = zt_id x) (okM : ∀ x ∈ M, zt_ok x) (okN : ∀ x ∈ N, zt_ok x) {i : Nat} {y : Int × Int} (hy : M[i]? = some y) : ∀ (r q : List (Int × Int)), q ++ r = N → ∀ v : Int, 0 ≤ v → v + r.length < 1000000 → L0_keptOf_17 (d + 1) (zt_r a s) (zt_r a t) v (i : Int) (q.length : Int) g = L0_keptOf_5 (d + 1) (zt_r a s) (zt_r a t) (v + zb_ct y r) ((i + 1 : Nat) : Int) g := by
  have la := zt_U_la U
  have lS := zt_r_l la hs.1
  have lT := zt_r_l la ht.1
  have hi : i < M.length := by
    by_cases z : i < M.length
    · exact z
    · rw [List.getElem?_eq_none (by omega)] at hy
      cases hy
  have my : y ∈ M := List.mem_of_getElem? hy
  have eI := zt_C5_idAt (d := d) gL lS (by rw [nM]; omega) (i : Int)
  rw [nM, if_pos (by omega), Int.toNat_natCast, xM i y hy] at eI
  intro r
  induction r with
  | nil =>
    intro q hq v v0 v1
    rw [List.append_nil] at hq
    subst hq
    rw [qL0_keptOf_17, zm_e (zl_gI gL lT 12), nN, if_neg (Int.lt_irrefl _), zm_w (by omega), show v + zb_ct y [] = v from Int.add_zero v]
    rfl
  | cons x r ih =>
    intro q hq v v0 v1
    rw [List.length_cons] at v1
    have hlen := congrArg List.length hq
    rw [List.length_append, List.length_cons] at hlen
    have hx : N[q.length]? = some x := by
      rw [← hq, List.getElem?_append_right (Nat.le_refl _), Nat.sub_self]
      rfl
    have hm : x ∈ N := List.mem_of_getElem? hx
    have w1 : zv_w ((q.length : Int) + 1) = ((q ++ [x]).length : Int) := by
      rw [List.length_append, List.length_singleton, zm_w (by omega)]
      omega
    have hq' : (q ++ [x]) ++ r = N := by rw [List.append_assoc]; exact hq
    have eJ := zt_C5_idAt (d := d) gL lT (by rw [nN]; omega) (q.length : Int)
    rw [nN, if_pos (by omega), Int.toNat_natCast, xN q.length x hx] at eJ
    have ec : zb_ct y (x :: r) = (if x = y then 1 else 0) + zb_ct y r := rfl
    rw [qL0_keptOf_17, zm_e (zl_gI gL lT 12), nN, if_pos (by omega), zm_e eI]
    dsimp only
    rw [zm_e eJ, w1, ec]
    dsimp only
    by_cases e : x = y
    · rw [if_pos (by rw [e]), if_pos e, zm_w (by omega), ih (q ++ [x]) hq' (v + 1) (by omega) (by omega), Int.add_assoc]
    · rw [if_neg (fun w => e (zt_id_inj (okM y my) (okN x hm) w).symm), if_neg e, zm_w (by omega), ih (q ++ [x]) hq' (v + 0) (by omega) (by omega), Int.add_assoc]
theorem zb_K5 {d : Nat} {c : Nat → Int} {s t : Int} (gL : zt_L g) (U : zt_U a c g) (hs : zm_st c s) (ht : zm_st c t) {M N : List (Int × Int)} (nM : zv_I g (zt_r a s) 12 = M.length) (nN : zv_I g (zt_r a t) 12 = N.length) (m1 : M.length ≤ 120) (n1 : N.length ≤ 120) (xM : ∀ (i : Nat) (x : Int × Int), M[i]? = some x → zv_I g (zt_r a s + 2) i = zt_id x) (xN : ∀ (i : Nat) (x : Int × Int), N[i]? = some x → zv_I g (zt_r a t + 2) i = zt_id x) (okM : ∀ x ∈ M, zt_ok x) (okN : ∀ x ∈ N, zt_ok x) : ∀ (r q : List (Int × Int)), q ++ r = M → ∀ v : Int, 0 ≤ v → v + 120 * r.length < 100000 → L0_keptOf_5 (d + 1) (zt_r a s) (zt_r a t) v (q.length : Int) g = some (some (zv_i (v + zb_sum N r)), g) := by
  have la := zt_U_la U
  have lS := zt_r_l la hs.1
  intro r
  induction r with
  | nil =>
    intro q hq v v0 v1
    rw [List.append_nil] at hq
    subst hq
    rw [qL0_keptOf_5, zm_e (zl_gI gL lS 12), nM, if_neg (Int.lt_irrefl _), show v + zb_sum N [] = v from Int.add_zero v]
  | cons x r ih =>
    intro q hq v v0 v1
    rw [List.length_cons] at v1
    have hlen := congrArg List.length hq
    rw [List.length_append, List.length_cons] at hlen
    have hx : M[q.length]? = some x := by
      rw [← hq, List.getElem?_append_right (Nat.le_refl _), Nat.sub_self]
      rfl
    have hq' : (q ++ [x]) ++ r = M := by rw [List.append_assoc]; exact hq
    have eq1 : ((q ++ [x]).length : Int) = ((q.length + 1 : Nat) : Int) := by
      rw [List.length_append, List.length_singleton]
    have cr := zb_ct_r x N
    have e17 := zb_K17 (d := d) gL U hs ht nM nN m1 n1 xM xN okM okN hx N [] rfl v v0 (by omega)
    rw [qL0_keptOf_5, zm_e (zl_gI gL lS 12), nM, if_pos (by omega)]
    refine (show L0_keptOf_17 (d + 1) (zt_r a s) (zt_r a t) v (q.length : Int) 0 g = _ from e17).trans ?_
    rw [← eq1, ih (q ++ [x]) hq' _ (by omega) (by omega), show zb_sum N (x :: r) = zb_ct x N + zb_sum N r from rfl, Int.add_assoc]
theorem zb_D_f {c : Nat → Int} (gL : zt_L g) (U : zt_U a c g) {s : Int} (hs : zm_st c s) {M : List (Int × Int)} (hD : zb_D c s M) : zv_I g (zt_r a s) 12 = M.length ∧ M.length ≤ 120 ∧ (∀ (i : Nat) (x : Int × Int), M[i]? = some x → zv_I g (zt_r a s + 2) i = zt_id x) ∧ ∀ x ∈ M, zt_ok x := by
  obtain ⟨l, hl, e⟩ := hD
  have W := zt_U_W U
  have u := zt_U_st U s hs
  obtain ⟨ok, G, _, W1⟩ := zt_line_u W hs hl
  subst e
  exact ⟨zt_S_ln u l hl, W1.2.2.2.2.2.2, fun i x hx => zt_S_dc u l hl i x hx, fun x hx => zt_row_ok ok.2.2.1 G x (List.mem_filter.mp hx).1⟩
theorem zb_C0_keptOf {d : Nat} {c : Nat → Int} (gL : zt_L g) (U : zt_U a c g) {s t : Int} (hs : zm_st c s) (ht : zm_st c t) {M N : List (Int × Int)} (hD : zb_D c s M) (hE : zb_D c t N) : C0_keptOf (d + 2) a (zt_r a s) (zt_r a t) g = some (zb_sum N M, g) := by
  obtain ⟨a1, a2, a3, a4⟩ := zb_D_f gL U hs hD
  obtain ⟨b1, b2, b3, b4⟩ := zb_D_f gL U ht hE
  have e := zb_K5 (d := d) gL U hs ht a1 b1 a2 b2 a3 b3 a4 b4 M [] rfl 0 (Int.le_refl _) (by omega)
  refine lC0_keptOf (zl_ob gL (zt_U_la U)) ?_
  rw [qE0_keptOf]
  refine (show L0_keptOf_5 (d + 1) (zt_r a s) (zt_r a t) 0 0 g = _ from e).trans ?_
  rw [Int.zero_add]
/-! where two documents differ -/
def zb_fd (A B : List Int) (v : Int) : Prop := (v = -1 ∧ ∀ i, za_nth A i = za_nth B i) ∨ ∃ i : Nat, v = i ∧ za_nth A i ≠ za_nth B i ∧ ∀ j, j < i → za_nth A j = za_nth B j
theorem zb_fd_u {A B : List Int} {v w : Int} (h1 : zb_fd A B v) (h2 : zb_fd A B w) : v = w := by
  rcases h1 with ⟨e1, q1⟩ | ⟨i, e1, q1, q2⟩
  · rcases h2 with ⟨e2, _⟩ | ⟨j, _, r1, _⟩
    · rw [e1, e2]
    · exact absurd (q1 j) r1
  · rcases h2 with ⟨_, r1⟩ | ⟨j, e2, r1, r2⟩
    · exact absurd (r1 i) q1
    · have : i = j := by
        rcases Nat.lt_trichotomy i j with l | l | l
        · exact absurd (r2 i l) q1
        · exact l
        · exact absurd (q2 j l) r1
      rw [e1, e2, this]
theorem zb_fd_s {A B : List Int} {v : Int} (h : zb_fd A B v) : zb_fd B A v := by
  rcases h with ⟨e, q⟩ | ⟨i, e, q1, q2⟩
  · exact Or.inl ⟨e, fun i => (q i).symm⟩
  · exact Or.inr ⟨i, e, fun w => q1 w.symm, fun j hj => (q2 j hj).symm⟩
theorem zb_fd_n {A B : List Int} {v : Int} (h : zb_fd A B v) : v = -1 ∨ 0 ≤ v := by
  rcases h with ⟨e, _⟩ | ⟨i, e, _, _⟩
  · exact Or.inl e
  · exact Or.inr (by omega)
/-- letters are no less than 0 -/
theorem zb_nn {c : Nat → Int} (U : zt_U a c g) {s : Int} (hs : zm_st c s) {A : List Int} (hD : za_D c s A) : ∀ x ∈ A, 0 ≤ x := by
  obtain ⟨l, hl, e⟩ := hD
  obtain ⟨ok, G, _, _⟩ := zt_line_u (zt_U_W U) hs hl
  intro v hv
  rw [e] at hv
  obtain ⟨x, hx, ev⟩ := List.mem_map.mp hv
  have hm := (List.mem_filter.mp hx).1
  obtain ⟨m1, m2, m3⟩ := zm_row_mem hm
  have xok := zt_row_ok ok.2.2.1 G x hm
  have cw := zt_S_cw (zt_U_st U x.1 (ok.2.2.1 _ m1))
  obtain ⟨n, hn⟩ : ∃ n : Nat, x.2 = n := ⟨x.2.toNat, by omega⟩
  have h := zt_cw_lt cw (by
    by_cases z : x.1 = 0
    · exact Or.inr z
    · exact Or.inl (zt_row_ed hm G.2.1 z)) n (by omega) (by rcases xok with q | q <;> omega)
  rw [← ev]
  unfold zm_lt
  rw [hn]
  exact h
theorem zb_C0_first {d : Nat} {c : Nat → Int} (gL : zt_L g) (U : zt_U a c g) {s t : Int} (hs : zm_st c s) (ht : zm_st c t) {A B : List Int} (hD : za_D c s A) (hE : za_D c t B) (na : A.length ≤ 120) (nb : B.length ≤ 120) : ∃ v, C0_firstDifference (d + 3) a (zt_r a s) (zt_r a t) g = some (v, g) ∧ zb_fd A B v := by
  have la := zt_U_la U
  have eA : ∀ {s : Int} {A : List Int}, zm_st c s → za_D c s A → zv_I g (zt_r a s) 12 = A.length := fun hs hA => by
    obtain ⟨l, h1, h2⟩ := hA
    rw [zt_S_ln (zt_U_st U _ hs) l h1, h2, List.length_map]
  have lp : ∀ (r i : Nat), i + r = max A.length B.length → (∀ j, j < i → za_nth A j = za_nth B j) → ∃ v, L0_firstDifference_15 (d + 2) a (zt_r a s) (zt_r a t) ((max A.length B.length : Nat) : Int) (i : Int) g = some (some (zv_i v), g) ∧ zb_fd A B v := by
    intro r
    induction r with
    | zero =>
      intro i hi z
      refine ⟨-1, ?_, Or.inl ⟨rfl, fun j => ?_⟩⟩
      · rw [qL0_firstDifference_15, if_neg (by omega)]
      · by_cases hj : j < i
        · exact z j hj
        · rw [za_nth_out (by omega), za_nth_out (by omega)]
    | succ r ih =>
      intro i hi z
      have e1 := za_letterAt (d := d) gL U hs hD i
      have e2 := za_letterAt (d := d) gL U ht hE i
      rw [qL0_firstDifference_15, if_pos (by omega), zm_e e1]
      dsimp only
      rw [zm_e e2]
      dsimp only
      by_cases e : za_nth A i = za_nth B i
      · rw [if_pos e, zm_w (by omega), show (i : Int) + 1 = ((i + 1 : Nat) : Int) by omega]
        exact ih (i + 1) (by omega) (fun j hj => by
          by_cases q : j = i
          · rw [q]; exact e
          · exact z j (by omega))
      · rw [if_neg e]
        exact ⟨(i : Int), rfl, Or.inr ⟨i, rfl, e, z⟩⟩
  obtain ⟨v, y1, y2⟩ := lp (max A.length B.length) 0 (Nat.zero_add _) (fun j hj => absurd hj (by omega))
  refine ⟨v, lC0_firstDifference (zl_ob gL la) ?_, y2⟩
  rw [qE0_firstDifference, zm_e (zl_gI gL (zt_r_l la hs.1) 12), eA hs hD, zm_e (zl_gI gL (zt_r_l la ht.1) 12), eA ht hE, show max (A.length : Int) (B.length : Int) = ((max A.length B.length : Nat) : Int) by omega]
  exact y1
theorem zb_C9_differ {D : Nat} (hM : zm_M k) {c : Nat → Int} (hc : zv_I k 348 = c) (W : zm_W c) {s t : Int} (hs : zm_st c s) (ht : zm_st c t) {A B : List Int} (hD : za_D c s A) (hE : za_D c t B) (na : A.length ≤ 120) (nb : B.length ≤ 120) (pA : ∀ x ∈ A, 0 ≤ x) (pB : ∀ x ∈ B, 0 ≤ x) : ∃ v k', C9_differ (D + 6) 347 s t k = some (v, k') ∧ zb_fd A B v ∧ zm_F [356, 357, 351, 352, 353, 354, 355] [10, 11, 12] k k' := by
  obtain ⟨k2, e2, F2, x2⟩ := za_copies (D := D) hM hc W hs hD (Or.inl rfl)
  have M2 := zm_F_M F2 hM
  obtain ⟨k3, e3, F3, x3⟩ := za_copies (D := D) M2 ((zm_F_a F2 348).trans hc) W ht hE (Or.inr rfl)
  have M3 := zm_F_M F3 M2
  have x2' : ∀ i (hi : i < A.length), zv_I k3 356 i = A[i] := fun i hi => by
    rw [zm_F_a F3 356]
    exact x2 i hi
  have fin : ∀ i : Nat, i ≤ A.length → i ≤ B.length → (∀ j, j < i → za_nth A j = za_nth B j) → (i < A.length → i < B.length → za_nth A i ≠ za_nth B i) → ∃ v, L9_differ_60 (D + 5) (A.length : Int) (B.length : Int) (i : Int) k3 = some (some (zv_i v), k3) ∧ zb_fd A B v := fun i i1 i2 z w => by
    have ne : i ≠ A.length ∨ i ≠ B.length → zb_fd A B i := fun q => Or.inr ⟨i, rfl, by
      by_cases c1 : i < A.length
      · by_cases c2 : i < B.length
        · exact w c1 c2
        · rw [za_nth_in c1, za_nth_out c2]
          have := pA _ (List.getElem_mem c1)
          omega
      · rw [za_nth_out c1, za_nth_in (by omega : i < B.length)]
        have := pB _ (List.getElem_mem (by omega : i < B.length))
        omega, z⟩
    rw [qL9_differ_60]
    by_cases c1 : i = A.length
    · rw [if_pos (by omega)]
      by_cases c2 : i = B.length
      · rw [if_pos (by omega)]
        refine ⟨-1, rfl, Or.inl ⟨rfl, fun j => ?_⟩⟩
        by_cases hj : j < i
        · exact z j hj
        · rw [za_nth_out (by omega), za_nth_out (by omega)]
      · rw [if_neg (by omega)]
        exact ⟨_, rfl, ne (Or.inr c2)⟩
    · rw [if_neg (by omega)]
      exact ⟨_, rfl, ne (Or.inl c1)⟩
  have lp : ∀ (r i : Nat), i + r = A.length → i ≤ B.length → (∀ j, j < i → za_nth A j = za_nth B j) → ∃ v, L9_differ_24 (D + 5) 347 (A.length : Int) (B.length : Int) (i : Int) k3 = some (some (zv_i v), k3) ∧ zb_fd A B v := by
    intro r
    induction r with
    | zero =>
      intro i hi hb z
      rw [qL9_differ_24, if_neg (by omega)]
      exact fin i (by omega) hb z (fun q => absurd q (by omega))
    | succ r ih =>
      intro i hi hb z
      rw [qL9_differ_24, if_pos (by omega)]
      by_cases c1 : i < B.length
      · have ci : i < A.length := by omega
        rw [if_pos (by omega), zm_e (zm_f13 M3), zm_e (zm_aI M3 zm_l356 rfl (by omega) (by omega)), Int.toNat_natCast, x2' i ci, zm_e (zm_f14 M3), zm_e (zm_aI M3 zm_l357 rfl (by omega) (by omega)), Int.toNat_natCast, x3 i c1, ← za_nth_in ci, ← za_nth_in c1]
        by_cases e : za_nth A i = za_nth B i
        · rw [if_pos e, zm_w (by omega), show (i : Int) + 1 = ((i + 1 : Nat) : Int) by omega]
          exact ih (i + 1) (by omega) (by omega) (fun j hj => by
            by_cases q : j = i
            · rw [q]; exact e
            · exact z j (by omega))
        · rw [if_neg e]
          exact fin i (by omega) (by omega) z (fun _ _ => e)
      · rw [if_neg (by omega)]
        exact fin i (by omega) hb z (fun _ q => absurd q c1)
  obtain ⟨v, y1, y2⟩ := lp A.length 0 (Nat.zero_add _) (Nat.zero_le _) (fun j hj => absurd hj (by omega))
  refine ⟨v, k3, lC9_differ (zm_ob hM) ?_, y2, zm_F_t (zm_F_s F2 rfl rfl) (zm_F_s F3 rfl rfl)⟩
  rw [qE9_differ, zm_e (zm_f13 hM), zm_e e2]
  dsimp only
  rw [zm_e (zm_f14 M2), zm_e e3]
  exact y1
/-! asked -/
theorem zb_D_ex {c : Nat → Int} (W : zm_W c) {s : Int} (hs : zm_st c s) : ∃ M, zb_D c s M ∧ za_D c s (M.map (zm_lt c)) := by
  obtain ⟨l, hl, _⟩ := zt_line W hs
  exact ⟨_, ⟨l, hl, rfl⟩, ⟨l, hl, rfl⟩⟩
theorem zb_lettersOf {D : Nat} (hM : zm_M k) {c : Nat → Int} (hc : zv_I k 348 = c) (W : zm_W c) {s : Int} (hs : zm_st c s) {M : List (Int × Int)} (hD : zb_D c s M) : ∃ k', C9_lettersOf (D + 5) 347 s k = some ((M.length : Int), k') := by
  obtain ⟨l, hl, e⟩ := hD
  obtain ⟨k1, e1, F1, n1, _, _⟩ := za_sees (D := D) hM hc W hs hl
  refine ⟨k1, lC9_lettersOf (zm_ob hM) ?_⟩
  rw [qE9_lettersOf, zm_e e1, zm_e (zm_gI (zm_F_M F1 hM) 12), n1.2.2.2.2, e]
  rfl
theorem zp_between {d D : Nat} (hA : zc_A g) (I : zm_MI k) (S : zt_GG m a b g k) (s t w : Int) : ∃ v g' k', C8_between (d + 28) 1 s t w g = some (v, g') ∧ C9_between (D + 28) 347 s t w k = some (v, k') := by
  have gL := zt_L_A hA
  have hM := I.1
  have l1 : zv_lay 1 = (1, 8) := rfl
  have la := (zt_lab (zt_GG_ab S)).1
  have qC := qE8_between (d + 27) 1 s t w g
  have qR := qE9_between (D + 27) 347 s t w k
  rw [zm_e (zc_within (d := d + 26) g w 0 3)] at qC
  rw [zm_e (zm_isIn (h := k) (D + 26) w 0 3)] at qR
  dsimp only at qC qR
  by_cases cw : 0 ≤ w ∧ w ≤ 3
  rotate_left
  · rw [if_neg cw, if_pos rfl, za_ref gL] at qC
    rw [if_neg cw, if_pos rfl, qL9_between_35, za_isn hM (by decide)] at qR
    exact ⟨_, _, _, lC8_between (zl_ob gL l1) qC, lC9_between (zm_ob hM) qR⟩
  rw [if_pos cw, if_neg (by decide), zm_e (zp_e3 hA S), zm_e (za_at (d := d + 26) hA S s)] at qC
  dsimp only at qC
  rw [zm_e (zp_e3 hA S), zm_e (za_at (d := d + 26) hA S t)] at qC
  dsimp only at qC
  rw [if_pos cw, if_neg (by decide), zm_e (zm_isState hM (D + 25) s)] at qR
  dsimp only at qR
  by_cases hs : zm_st (zv_I k 348) s
  rotate_left
  · rw [if_neg hs, if_pos rfl, qL8_between_45, za_ref gL] at qC
    rw [if_neg hs, if_pos rfl, qL9_between_30, qL9_between_35, za_isn hM (by decide)] at qR
    exact ⟨_, _, _, lC8_between (zl_ob gL l1) qC, lC9_between (zm_ob hM) qR⟩
  rw [if_pos hs, if_neg (za_r0 S hs)] at qC
  rw [if_pos hs, if_neg (by decide), zm_e (zm_isState hM (D + 25) t)] at qR
  dsimp only at qR
  by_cases ht : zm_st (zv_I k 348) t
  rotate_left
  · rw [if_neg ht, if_pos rfl, qL8_between_45, za_ref gL] at qC
    rw [if_neg ht, if_pos rfl, qL9_between_30, qL9_between_35, za_isn hM (by decide)] at qR
    exact ⟨_, _, _, lC8_between (zl_ob gL l1) qC, lC9_between (zm_ob hM) qR⟩
  obtain ⟨k1, i1, F1⟩ := zp_is hM
  have S1 := zt_GG_F S F1
  have M1 := zm_F_M F1 hM
  have U := zt_H_U (zt_GG_H S1)
  have W := zt_U_W U
  have e348 : zv_I k1 348 = zv_I k 348 := zm_F_a F1 348
  have hs1 : zm_st (zv_I k1 348) s := by rw [e348]; exact hs
  have ht1 : zm_st (zv_I k1 348) t := by rw [e348]; exact ht
  obtain ⟨M, hD, hDa⟩ := zb_D_ex W hs1
  obtain ⟨N, hE, hEa⟩ := zb_D_ex W ht1
  obtain ⟨nM, m1, _, _⟩ := zb_D_f gL U hs1 hD
  obtain ⟨nN, n1, _, _⟩ := zb_D_f gL U ht1 hE
  rw [if_pos ht, if_neg (za_r0 S ht)] at qC
  rw [if_pos ht, if_neg (by decide), qL9_between_35, za_isy i1] at qR
  dsimp only at qR
  by_cases w3 : w = 3
  · obtain ⟨v, y1, y2⟩ := zb_C0_first (d := d + 24) gL U hs1 ht1 hDa hEa (by rw [List.length_map]; exact m1) (by rw [List.length_map]; exact n1)
    obtain ⟨v', k2, z1, z2, _⟩ := zb_C9_differ (D := D + 21) M1 rfl W hs1 ht1 hDa hEa (by rw [List.length_map]; exact m1) (by rw [List.length_map]; exact n1) (zb_nn U hs1 hDa) (zb_nn U ht1 hEa)
    have ev := zb_fd_u y2 z2
    subst ev
    rw [if_neg (by omega), if_neg (by omega), if_neg (by omega), zm_e (zp_e3 hA S), zm_e y1] at qC
    dsimp only at qC
    rw [za_giv gL] at qC
    rw [if_pos w3, zm_e z1] at qR
    exact ⟨_, _, _, lC8_between (zl_ob gL l1) qC, lC9_between (zm_ob hM) qR⟩
  have y1 := zb_C0_keptOf (d := d + 25) gL U hs1 ht1 hD hE
  obtain ⟨k2, z1, F2⟩ := zb_C9_keptOf (D := D + 21) M1 rfl W hs1 ht1 hD hE
  rw [zb_sum_s N M] at y1
  have M2 := zm_F_M F2 M1
  have c2 : zv_I k2 348 = zv_I k1 348 := zm_F_a F2 348
  rw [if_neg w3, zm_e z1] at qR
  dsimp only at qR
  by_cases w0 : w = 0
  · rw [if_pos w0, zm_e (zp_e3 hA S), zm_e y1] at qC
    dsimp only at qC
    rw [za_giv gL] at qC
    rw [if_pos w0] at qR
    exact ⟨_, _, _, lC8_between (zl_ob gL l1) qC, lC9_between (zm_ob hM) qR⟩
  rw [if_neg w0] at qC qR
  by_cases w1 : w = 1
  · obtain ⟨k3, z3⟩ := zb_lettersOf (D := D + 22) M2 c2 W hs1 hD
    rw [if_pos w1, zm_e (zl_gI gL (zt_r_l la hs.1) 12), nM, zm_e (zp_e3 hA S), zm_e y1] at qC
    dsimp only at qC
    rw [za_giv gL] at qC
    rw [if_pos w1, zm_e z3] at qR
    exact ⟨_, _, _, lC8_between (zl_ob gL l1) qC, lC9_between (zm_ob hM) qR⟩
  · obtain ⟨k3, z3⟩ := zb_lettersOf (D := D + 22) M2 c2 W ht1 hE
    rw [if_neg w1, if_pos (by omega), zm_e (zl_gI gL (zt_r_l la ht.1) 12), nN, zm_e (zp_e3 hA S), zm_e y1] at qC
    dsimp only at qC
    rw [za_giv gL] at qC
    rw [if_neg w1, zm_e z3] at qR
    exact ⟨_, _, _, lC8_between (zl_ob gL l1) qC, lC9_between (zm_ob hM) qR⟩
/-- the twin of one -/
theorem zb_twin {d D : Nat} {c : Nat → Int} (gL : zt_L g) (U : zt_U a c g) (he : ∀ s, zm_st c s → ∃ A, za_D c s A ∧ A.length ≤ 120) {s : Int} (hs : zm_st c s) : ∀ (r i : Nat) (k : zv_H), i + r = 48 → zm_M k → zv_I k 348 = c → ∃ v k', L0_twinOf_2 (d + 4) a (zt_r a s) (i : Int) g = some (some (zv_i v), g) ∧ zm_M k' ∧ ((v = -1 ∧ L9_twin_24 (D + 7) 347 s (i : Int) k = L9_twin_24 (D + 7) 347 s 48 k') ∨ (0 ≤ v ∧ L9_twin_24 (D + 7) 347 s (i : Int) k = some (some (zv_i v), k')))
  | 0, i, k, hi, hM, hc => by
    have e : i = 48 := by omega
    subst e
    exact ⟨-1, k, by rw [qL0_twinOf_2, if_neg (by omega)], hM, Or.inl ⟨rfl, rfl⟩⟩
  | r + 1, i, k, hi, hM, hc => by
    have la := zt_U_la U
    have W := zt_U_W U
    have wi : zv_w ((i : Int) + 1) = ((i + 1 : Nat) : Int) := by
      rw [zm_w (by omega)]
      omega
    have nx := fun k => zb_twin (d := d) (D := D) gL U he hs r (i + 1) k (by omega)
    have i48 : (i : Int) < 48 := by omega
    rw [qL0_twinOf_2, if_pos i48, zm_e (zt_at (d := d + 3) gL U (i : Int)), wi]
    rw [qL9_twin_24, if_pos i48, zm_e (zm_isState hM (D + 5) (i : Int)), hc, wi]
    dsimp only
    by_cases hi' : zm_st c (i : Int)
    rotate_left
    · rw [if_neg hi', if_pos rfl, if_neg hi', if_pos rfl]
      exact nx k hM hc
    rw [if_pos hi', if_neg (zt_r0 U hi'), if_neg (zt_fo1000 (zt_r1000 U hi') (zt_r1000 U hs)), if_pos hi', if_neg (show ¬ (1 : Int) = 0 by decide)]
    by_cases c1 : (i : Int) = s
    · rw [if_pos (show zt_r a (i : Int) = zt_r a s by rw [c1]), if_pos c1]
      exact nx k hM hc
    rw [if_neg (fun q => c1 (zt_r_inj la hi'.1 hs.1 q)), if_neg c1]
    obtain ⟨A, hDA, na⟩ := he s hs
    obtain ⟨B, hDB, nb⟩ := he _ hi'
    obtain ⟨v, y1, y2⟩ := zb_C0_first (d := d + 1) gL U hs hi' hDA hDB na nb
    obtain ⟨v', k2, z1, z2, F2⟩ := zb_C9_differ (D := D + 1) hM hc W hi' hs hDB hDA nb na (zb_nn U hi' hDB) (zb_nn U hs hDA)
    have ev := zb_fd_u y2 (zb_fd_s z2)
    subst ev
    have M2 := zm_F_M F2 hM
    rw [zm_e y1, zm_e z1]
    dsimp only
    by_cases cv : v = -1
    · rw [if_pos cv, if_pos (by omega)]
      exact ⟨(i : Int), k2, rfl, M2, Or.inr ⟨by omega, rfl⟩⟩
    · have := zb_fd_n y2
      rw [if_neg cv, if_neg (by omega)]
      exact nx k2 M2 ((zm_F_a F2 348).trans hc)
theorem zp_twin {d D : Nat} (hA : zc_A g) (I : zm_MI k) (S : zt_GG m a b g k) (s : Int) : ∃ v g' k', C8_twin (d + 28) 1 s g = some (v, g') ∧ C9_twin (D + 28) 347 s k = some (v, k') := by
  have gL := zt_L_A hA
  have hM := I.1
  have l1 : zv_lay 1 = (1, 8) := rfl
  have la := (zt_lab (zt_GG_ab S)).1
  have qC := qE8_twin (d + 27) 1 s g
  have qR := qE9_twin (D + 27) 347 s k
  rw [zm_e (zp_e3 hA S), zm_e (za_at (d := d + 26) hA S s)] at qC
  dsimp only at qC
  rw [zm_e (zm_isState hM (D + 25) s)] at qR
  dsimp only at qR
  by_cases hs : zm_st (zv_I k 348) s
  rotate_left
  · rw [if_neg hs, if_pos rfl, za_ref gL] at qC
    rw [if_neg hs, if_pos rfl, qL9_twin_14, za_isn hM (by decide)] at qR
    exact ⟨_, _, _, lC8_twin (zl_ob gL l1) qC, lC9_twin (zm_ob hM) qR⟩
  obtain ⟨k1, i1, F1⟩ := zp_is hM
  have S1 := zt_GG_F S F1
  have M1 := zm_F_M F1 hM
  have U := zt_H_U (zt_GG_H S1)
  have e348 : zv_I k1 348 = zv_I k 348 := zm_F_a F1 348
  have hs1 : zm_st (zv_I k1 348) s := by rw [e348]; exact hs
  obtain ⟨v, k2, y1, M2, y2⟩ := zb_twin (d := d + 22) (D := D + 20) gL U (fun s hs => za_D_ex S1 hs) hs1 48 0 k1 rfl M1 rfl
  have et : C0_twinOf (d + 27) a (zt_r a s) g = some (v, g) := lC0_twinOf (zl_ob gL la) (by
    rw [qE0_twinOf]
    exact y1)
  rw [if_pos hs, if_neg (za_r0 S hs), zm_e (zp_e3 hA S), zm_e et] at qC
  dsimp only at qC
  rw [if_pos hs, if_neg (by decide), qL9_twin_14, za_isy i1] at qR
  dsimp only at qR
  rcases y2 with ⟨e, y3⟩ | ⟨e, y3⟩
  · rw [if_pos e, za_ref gL] at qC
    rw [show L9_twin_24 (D + 27) 347 s 0 k1 = _ from y3, qL9_twin_24, if_neg (by decide), za_rf M2] at qR
    exact ⟨_, _, _, lC8_twin (zl_ob gL l1) qC, lC9_twin (zm_ob hM) qR⟩
  · rw [if_neg (by omega), za_giv gL] at qC
    rw [show L9_twin_24 (D + 27) 347 s 0 k1 = _ from y3] at qR
    exact ⟨_, _, _, lC8_twin (zl_ob gL l1) qC, lC9_twin (zm_ob hM) qR⟩
end
end
/-! C11.row -/
section
/-! ===== what is asked, answered alike: the row of letters ===== -/
/-- how many of a list are so -/
def zb_nf (f : Int → Bool) : List Int → Int
  | [] => 0
  | t :: l => (if f t = true then 1 else 0) + zb_nf f l
/-- the last of a list that is so -/
def zb_ls (f : Int → Bool) : List Int → Int → Int
  | [], v => v
  | t :: l, v => zb_ls f l (if f t = true then t else v)
theorem zb_ls_a (f : Int → Bool) (t : Int) : ∀ (l : List Int) (v : Int), zb_ls f (l ++ [t]) v = if f t = true then t else zb_ls f l v
  | [], _ => rfl
  | _ :: l, v => zb_ls_a f t l _
theorem zb_nf_r (f : Int → Bool) : ∀ l : List Int, 0 ≤ zb_nf f l ∧ zb_nf f l ≤ l.length
  | [] => ⟨Int.le_refl _, Int.le_refl _⟩
  | t :: l => by
    have h := zb_nf_r f l
    have e : zb_nf f (t :: l) = (if f t = true then 1 else 0) + zb_nf f l := rfl
    rw [e, List.length_cons]
    split <;> omega
/-- a CUT that took this letter -/
def zb_cu (c : Nat → Int) (p : Int × Int) (t : Int) : Bool := decide (zm_o c t 2 = 1 ∧ p ∈ zm_tk c t)
/-- and is in force -/
def zb_cf (c : Nat → Int) (l : List Int) (p : Int × Int) (t : Int) : Bool := zb_cu c p t && decide (zm_fc c l t = 1)
section
variable {a b m : Nat} {g k : zv_H}
/-- did it take this letter: the class -/
theorem zb_took {d : Nat} {c : Nat → Int} (gL : zt_L g) (U : zt_U a c g) {t : Int} (ht : zm_st c t) (rg : zm_o c t 5 < 2147483648) (h12 : zm_o c t 2 = 1 → zm_o c t 5 ≤ 12) (okt : zm_o c t 2 = 1 → ∀ q ∈ zm_tk c t, zt_ok q) {p : Int × Int} (hp : zt_ok p) : C5_tookIt (d + 2) (zt_r a t) (zt_id p) g = some ((if zb_cu c p t = true then 1 else 0), g) := by
  have la := zt_U_la U
  have lr := zt_r_l la ht.1
  have S := zt_U_st U t ht
  have ip := zt_id_r hp
  refine lC5_tookIt (zl_ob gL lr) ?_
  rw [qE5_tookIt]
  by_cases c1 : zm_o c t 2 = 1
  · have lp : ∀ (r q : List (Int × Int)), q ++ r = zm_tk c t → (∀ x ∈ q, x ≠ p) → L5_tookIt_2 (d + 1) (zt_r a t) (zt_id p) (q.length : Int) g = some (some (zv_i (if zb_cu c p t = true then 1 else 0)), g) := by
      intro r
      induction r with
      | nil =>
        intro q hq z
        rw [List.append_nil] at hq
        have nm : ¬ zb_cu c p t = true := fun w => by
          have := (of_decide_eq_true w).2
          rw [← hq] at this
          exact z p this rfl
        have hl := congrArg List.length hq
        rw [zm_tk_len] at hl
        rw [if_neg nm, qL5_tookIt_2, zm_e (zl_gI gL lr 9), zt_S_sz S, if_neg (by omega)]
      | cons x r ih =>
        intro q hq z
        have hl := congrArg List.length hq
        rw [zm_tk_len, List.length_append, List.length_cons] at hl
        have s12 := h12 c1
        have hx : (zm_tk c t)[q.length]? = some x := by
          rw [← hq, List.getElem?_append_right (Nat.le_refl _), Nat.sub_self]
          rfl
        have hm := List.mem_of_getElem? hx
        have w1 : zv_w ((q.length : Int) + 1) = ((q ++ [x]).length : Int) := by
          rw [List.length_append, List.length_singleton, zm_w (by omega)]
          omega
        have ek : C5_tookAt (d + 1) (zt_r a t) (q.length : Int) g = some (zt_id x, g) := by
          rw [zt_C5_tookAt gL lr _, zt_S_ac S, zt_S_sz S, if_pos ⟨c1, by omega, by omega, by omega⟩, Int.toNat_natCast, zt_S_tk S c1 q.length x hx]
        rw [qL5_tookIt_2, zm_e (zl_gI gL lr 9), zt_S_sz S, if_pos (by omega), if_neg (by omega), zm_e ek, w1]
        dsimp only
        by_cases e : x = p
        · subst e
          have cu : zb_cu c x t = true := decide_eq_true ⟨c1, hm⟩
          rw [if_pos rfl, if_pos cu]
        · rw [if_neg (fun w => e (zt_id_inj (okt c1 x hm) hp w))]
          exact ih (q ++ [x]) (by rw [List.append_assoc]; exact hq) (fun y hy => by
            rcases List.mem_append.mp hy with w | w
            · exact z y w
            · rw [List.mem_singleton.mp w]
              exact e)
    exact lp (zm_tk c t) [] rfl (fun x hx => by cases hx)
  · have nm : ¬ zb_cu c p t = true := fun w => c1 (of_decide_eq_true w).1
    rw [if_neg nm]
    have lp : ∀ (n i : Nat), (i : Int) + n = max (zm_o c t 5) i → L5_tookIt_2 (d + 1) (zt_r a t) (zt_id p) (i : Int) g = some (some (zv_i 0), g) := by
      intro n
      induction n with
      | zero =>
        intro i hi
        rw [qL5_tookIt_2, zm_e (zl_gI gL lr 9), zt_S_sz S, if_neg (by omega)]
      | succ n ih =>
        intro i hi
        have ek : C5_tookAt (d + 1) (zt_r a t) (i : Int) g = some (-1, g) := by
          rw [zt_C5_tookAt gL lr _, zt_S_ac S, if_neg (fun q => c1 q.1)]
        rw [qL5_tookIt_2, zm_e (zl_gI gL lr 9), zt_S_sz S, if_pos (by omega), if_neg (by omega), zm_e ek, zm_w (by omega), show (i : Int) + 1 = ((i + 1 : Nat) : Int) by omega]
        dsimp only
        rw [if_neg (by omega)]
        exact ih (i + 1) (by omega)
    exact lp (max (zm_o c t 5) 0).toNat 0 (by omega)
/-- what the class asks of each of the line -/
def zb_at (c : Nat → Int) (L : List Int) : Prop := (∀ t ∈ L, zm_st c t) ∧ (∀ t ∈ L, zm_o c t 5 < 2147483648) ∧ (∀ t ∈ L, zm_o c t 2 = 1 → zm_o c t 5 ≤ 12) ∧ (∀ t ∈ L, zm_o c t 2 = 1 → ∀ q ∈ zm_tk c t, zt_ok q) ∧ (L.length ≤ 48)
theorem zb_at_st {c : Nat → Int} {L : List Int} (t : zb_at c L) : ∀ t ∈ L, zm_st c t := t.1
theorem zb_at_rg {c : Nat → Int} {L : List Int} (t : zb_at c L) : ∀ t ∈ L, zm_o c t 5 < 2147483648 := t.2.1
theorem zb_at_n12 {c : Nat → Int} {L : List Int} (t : zb_at c L) : ∀ t ∈ L, zm_o c t 2 = 1 → zm_o c t 5 ≤ 12 := t.2.2.1
theorem zb_at_ok {c : Nat → Int} {L : List Int} (t : zb_at c L) : ∀ t ∈ L, zm_o c t 2 = 1 → ∀ q ∈ zm_tk c t, zt_ok q := t.2.2.2.1
theorem zb_at_l48 {c : Nat → Int} {L : List Int} (t : zb_at c L) : L.length ≤ 48 := t.2.2.2.2
theorem zb_pth {c : Nat → Int} {L : List Int} (gL : zt_L g) (la : zv_lay a = (1, 0)) (wk : zt_wk a c L g) (h48 : L.length ≤ 48) {i : Nat} {t : Int} (hx : L.reverse[i]? = some t) : zv_aR g (a + 9) (i : Int) = some (zt_r a t) := by
  have l9 := (zt_row_l la).2.1
  have hi : i < L.length := by
    by_cases z : i < L.length
    · exact z
    · rw [List.getElem?_eq_none (by rw [List.length_reverse]; omega)] at hx
      cases hx
  exact (zl_aR gL l9 (by omega) (by omega)).trans (by rw [Int.toNat_natCast, zt_wk_pa wk i t hx])
theorem zb_cif {d : Nat} {c : Nat → Int} {L : List Int} (gL : zt_L g) (U : zt_U a c g) (wk : zt_wk a c L g) (at_ : zb_at c L) {p : Int × Int} (hp : zt_ok p) : ∀ (r q : List Int), q ++ r = L.reverse → ∀ v : Int, 0 ≤ v → v + r.length < 1000000 → L4_cutsInForce_4 (d + 2) (a + 8) (zt_id p) v (q.length : Int) g = some (some (zv_i (v + zb_nf (zb_cf c L p) r)), g) := by
  have la := zt_U_la U
  have l8 := (zt_row_l la).1
  have h48 := zb_at_l48 at_
  intro r
  induction r with
  | nil =>
    intro q hq v v0 v1
    rw [List.append_nil] at hq
    have hl := congrArg List.length hq
    rw [List.length_reverse] at hl
    rw [qL4_cutsInForce_4, zm_e (zl_gI gL l8 5), zt_wk_ln wk, if_neg (by omega), show v + zb_nf (zb_cf c L p) [] = v from Int.add_zero v]
  | cons t r ih =>
    intro q hq v v0 v1
    rw [List.length_cons] at v1
    have hl := congrArg List.length hq
    rw [List.length_reverse, List.length_append, List.length_cons] at hl
    have hx : L.reverse[q.length]? = some t := by
      rw [← hq, List.getElem?_append_right (Nat.le_refl _), Nat.sub_self]
      rfl
    have hm : t ∈ L := List.mem_reverse.mp (List.mem_of_getElem? hx)
    have ht := zb_at_st at_ t hm
    have ht1 := ht.1
    have w1 : zv_w ((q.length : Int) + 1) = ((q ++ [t]).length : Int) := by
      rw [List.length_append, List.length_singleton, zm_w (by omega)]
      omega
    have hq' : (q ++ [t]) ++ r = L.reverse := by rw [List.append_assoc]; exact hq
    have e9 : zv_gR g (a + 8) 4 0 = some (a + 9) := zl_gF gL l8 0 1
    have ec : zb_nf (zb_cf c L p) (t :: r) = (if zb_cf c L p t = true then 1 else 0) + zb_nf (zb_cf c L p) r := rfl
    have tk := zb_took (d := d) gL U ht (zb_at_rg at_ t hm) (zb_at_n12 at_ t hm) (zb_at_ok at_ t hm) hp
    rw [qL4_cutsInForce_4, zm_e (zl_gI gL l8 5), zt_wk_ln wk, if_pos (by omega), zm_e e9, zm_e (zb_pth gL la wk h48 hx), if_neg (zt_r0 U ht), zm_e (zl_gJ gL l8 9), zm_e (zt_bitr (d := d + 1) gL U ht), w1, ec]
    dsimp only
    have nx := fun w v1 => ih (q ++ [t]) hq' w v1
    by_cases cb : zt_b (zv_J g (a + 8) 9) t.toNat = true
    · have fo := (zt_wk_fo wk t.toNat (by omega)).mp cb
      rw [show ((t.toNat : Nat) : Int) = t by omega] at fo
      rw [if_neg (fun q => by
        have := (zt_lcmp_bt _ (by omega)).mp q
        rw [cb] at this
        cases this), zm_e tk]
      dsimp only
      by_cases cu : zb_cu c p t = true
      · have cf : zb_cf c L p t = true := by
          unfold zb_cf
          rw [cu, Bool.true_and]
          exact decide_eq_true fo.2.2.2
        rw [if_pos cu, if_neg (by decide), if_pos cf, zm_w (by omega), nx (v + 1) (by omega) (by omega), Int.add_assoc]
      · have cf : ¬ zb_cf c L p t = true := fun w => cu (by
          unfold zb_cf at w
          exact (Bool.and_eq_true _ _).mp w |>.1)
        rw [if_neg cu, if_pos rfl, if_neg cf, nx v v0 (by omega), Int.zero_add]
    · have cf : ¬ zb_cf c L p t = true := fun w => cb (by
        unfold zb_cf at w
        have w2 := (Bool.and_eq_true _ _).mp w
        have a1 := (of_decide_eq_true w2.1).1
        refine (zt_wk_fo wk t.toNat (by omega)).mpr ⟨by omega, ?_⟩
        rw [show ((t.toNat : Nat) : Int) = t by omega]
        exact ⟨hm, Or.inr a1, of_decide_eq_true w2.2⟩)
      rw [if_pos ((zt_lcmp_bt _ (by omega)).mpr (by
        cases e : zt_b (zv_J g (a + 8) 9) t.toNat with
        | true => exact absurd e cb
        | false => rfl)), if_neg cf, nx v v0 (by omega), Int.zero_add]
theorem zb_lst {d : Nat} {c : Nat → Int} {L : List Int} (gL : zt_L g) (U : zt_U a c g) (wk : zt_wk a c L g) (at_ : zb_at c L) {p : Int × Int} (hp : zt_ok p) : ∀ (i : Nat), i ≤ L.length → L4_lastCut_7 (d + 2) (a + 8) (zt_id p) ((i : Int) - 1) g = some (some (zv_i (zb_ls (zb_cu c p) (L.reverse.take i) (-1))), g)
  | 0, _ => by
    rw [qL4_lastCut_7, if_pos (by omega)]
    rfl
  | i + 1, hi => by
    have la := zt_U_la U
    have l8 := (zt_row_l la).1
    have h48 := zb_at_l48 at_
    have il : i < L.reverse.length := by rw [List.length_reverse]; omega
    have hx := List.getElem?_eq_getElem il
    have et := List.take_succ_eq_append_getElem il
    have hm : L.reverse[i] ∈ L := List.mem_reverse.mp (List.getElem_mem il)
    rw [et]
    generalize L.reverse[i] = t at hx hm
    have ht := zb_at_st at_ t hm
    have e9 : zv_gR g (a + 8) 4 0 = some (a + 9) := zl_gF gL l8 0 1
    have tk := zb_took (d := d) gL U ht (zb_at_rg at_ t hm) (zb_at_n12 at_ t hm) (zb_at_ok at_ t hm) hp
    have pt := zb_pth gL la wk h48 hx
    rw [zb_ls_a, qL4_lastCut_7, if_neg (by omega), show ((i + 1 : Nat) : Int) - 1 = (i : Int) by omega, zm_e e9, zm_e pt, if_neg (zt_r0 U ht), zm_e e9, zm_e pt, zm_e tk]
    dsimp only
    by_cases cu : zb_cu c p t = true
    · rw [if_pos cu, if_neg (by decide), if_pos cu, zm_e e9, zm_e pt, zm_e (zl_gI gL (zt_r_l la ht.1) 0), zt_num U ht]
    · rw [if_neg cu, if_pos rfl, if_neg cu, zm_w (by omega), show (i : Int) + -1 = (i : Int) - 1 by omega]
      exact zb_lst gL U wk at_ hp i (by omega)
/-! the reference -/
theorem zb_49 {D : Nat} (hM : zm_M k) {c : Nat → Int} (hc : zv_I k 348 = c) {t : Int} (ht : zm_st c t) (h12 : zm_o c t 5 ≤ 12) {fc : Int} (hf : zv_I k 354 t.toNat = fc) (p : Int × Int) (i : Int) (w : Int) : ∀ (r q : List (Int × Int)), q ++ r = zm_tk c t → r.Nodup → ∀ v : Int, 0 ≤ v + 1 → v + 1 + r.length < 1000000 → L9_cutsOf_49 (D + 1) 347 p.1 p.2 w v i t (q.length : Int) k = L9_cutsOf_14 (D + 1) 347 p.1 p.2 w (if p ∈ r then (if w = 0 then (if fc = 0 then v else v + 1) else t) else v) (zv_w (i + 1)) k := by
  have hs48 := zm_st48 ht
  have ht1 := ht.1
  intro r
  induction r with
  | nil =>
    intro q hq _ v _ _
    rw [List.append_nil] at hq
    have hl := congrArg List.length hq
    rw [zm_tk_len] at hl
    rw [qL9_cutsOf_49, zm_e (zm_of hM D hs48 (by decide)), hc]
    dsimp only
    rw [if_neg (by omega), if_neg (fun z => by cases z)]
  | cons x r ih =>
    intro q hq nd v v0 v1
    rw [List.length_cons] at v1
    have hl := congrArg List.length hq
    rw [zm_tk_len, List.length_append, List.length_cons] at hl
    have hx : (zm_tk c t)[q.length]? = some x := by
      rw [← hq, List.getElem?_append_right (Nat.le_refl _), Nat.sub_self]
      rfl
    have ex := Option.some.inj ((zm_tk_get c t (i := q.length) (by omega)).symm.trans hx)
    have x1 : zm_o c t (52 + 2 * (q.length : Int)) = x.1 := by rw [← ex]
    have x2 : zm_o c t (52 + 2 * (q.length : Int) + 1) = x.2 := by rw [← ex]
    have w1 : zv_w ((q.length : Int) + 1) = ((q ++ [x]).length : Int) := by
      rw [List.length_append, List.length_singleton, zm_w (by omega)]
      omega
    have w2 : zv_w (52 + zv_w (2 * (q.length : Int))) = 52 + 2 * (q.length : Int) := by
      rw [zm_w (x := 2 * (q.length : Int)) (by omega), zm_w (by omega)]
    have w3 : zv_w (52 + 2 * (q.length : Int) + 1) = 52 + 2 * (q.length : Int) + 1 := zm_w (by omega)
    have hq' : (q ++ [x]) ++ r = zm_tk c t := by rw [List.append_assoc]; exact hq
    have nx := ih (q ++ [x]) hq' (List.nodup_cons.mp nd).2
    have nr := (List.nodup_cons.mp nd).1
    rw [qL9_cutsOf_49, zm_e (zm_of hM D hs48 (by decide)), hc]
    dsimp only
    rw [if_pos (by omega), w2, w3, zm_e (zm_of hM D hs48 (by omega)), hc, x1, w1]
    dsimp only
    by_cases e1 : x.1 = p.1
    · rw [if_pos e1, zm_e (zm_of hM D hs48 (by omega)), hc, x2]
      dsimp only
      by_cases e2 : x.2 = p.2
      · have e : x = p := Prod.ext e1 e2
        subst e
        rw [if_pos e2, if_pos (List.mem_cons_self)]
        by_cases cw : w = 0
        · rw [if_pos cw, if_pos cw, zm_e (zm_f8 hM), zm_e (zm_aB hM zm_l354 (Or.inl rfl) rfl (by omega) (by omega)), hf]
          by_cases cf : fc = 0
          · rw [if_pos cf, if_pos cf, nx v v0 (by omega), if_neg nr]
          · rw [if_neg cf, if_neg cf, zm_w (x := v + 1) (by omega), nx (v + 1) (by omega) (by omega), if_neg nr]
        · rw [if_neg cw, if_neg cw, nx t (by omega) (by omega), if_neg nr]
      · have e : ¬ x = p := fun z => e2 (by rw [z])
        rw [if_neg e2, nx v v0 (by omega)]
        by_cases cp : p ∈ r
        · rw [if_pos cp, if_pos (List.mem_cons_of_mem _ cp)]
        · rw [if_neg cp, if_neg (fun z => by
            rcases List.mem_cons.mp z with y | y
            · exact e y.symm
            · exact cp y)]
    · have e : ¬ x = p := fun z => e1 (by rw [z])
      rw [if_neg e1, nx v v0 (by omega)]
      by_cases cp : p ∈ r
      · rw [if_pos cp, if_pos (List.mem_cons_of_mem _ cp)]
      · rw [if_neg cp, if_neg (fun z => by
          rcases List.mem_cons.mp z with y | y
          · exact e y.symm
          · exact cp y)]
theorem zb_14 {D : Nat} {c : Nat → Int} {L : List Int} (lh : zm_lh c L k) (at_ : zb_at c L) (hf : ∀ t ∈ L, zv_I k 354 t.toNat = zm_fc c L t) (nd : ∀ t ∈ L, zm_o c t 2 = 1 → (zm_tk c t).Nodup) (p : Int × Int) (w : Int) : ∀ (r q : List Int), q ++ r = L.reverse → ∀ v : Int, 0 ≤ v + 1 → v + 1 + r.length < 100000 → L9_cutsOf_14 (D + 1) 347 p.1 p.2 w v (q.length : Int) k = some (some (zv_i (if w = 0 then v + zb_nf (zb_cf c L p) r else zb_ls (zb_cu c p) r v)), k) := by
  obtain ⟨hM, hc, h10, h351⟩ := lh
  have h48 := zb_at_l48 at_
  intro r
  induction r with
  | nil =>
    intro q hq v v0 v1
    rw [List.append_nil] at hq
    have hl := congrArg List.length hq
    rw [List.length_reverse] at hl
    rw [qL9_cutsOf_14, zm_e (zm_gI hM 10), h10, if_neg (by omega), show v + zb_nf (zb_cf c L p) [] = v from Int.add_zero v, show zb_ls (zb_cu c p) [] v = v from rfl]
    split <;> rfl
  | cons t r ih =>
    intro q hq v v0 v1
    rw [List.length_cons] at v1
    have hl := congrArg List.length hq
    rw [List.length_reverse, List.length_append, List.length_cons] at hl
    have hx : L.reverse[q.length]? = some t := by
      rw [← hq, List.getElem?_append_right (Nat.le_refl _), Nat.sub_self]
      rfl
    have hm : t ∈ L := List.mem_reverse.mp (List.mem_of_getElem? hx)
    have ht := zb_at_st at_ t hm
    have ht1 := ht.1
    have w1 : zv_w ((q.length : Int) + 1) = ((q ++ [t]).length : Int) := by
      rw [List.length_append, List.length_singleton, zm_w (by omega)]
      omega
    have hq' : (q ++ [t]) ++ r = L.reverse := by rw [List.append_assoc]; exact hq
    have nx := ih (q ++ [t]) hq'
    rw [qL9_cutsOf_14, zm_e (zm_gI hM 10), h10, if_pos (by omega), zm_e (zm_f5 hM), zm_e (zm_aI hM zm_l351 rfl (by omega) (by omega)), Int.toNat_natCast, h351 q.length t hx, zm_e (zm_of hM D (zm_st48 ht) (by decide)), hc]
    dsimp only
    have ec : zb_nf (zb_cf c L p) (t :: r) = (if zb_cf c L p t = true then 1 else 0) + zb_nf (zb_cf c L p) r := rfl
    have el : zb_ls (zb_cu c p) (t :: r) v = zb_ls (zb_cu c p) r (if zb_cu c p t = true then t else v) := rfl
    rw [ec, el]
    by_cases c1 : zm_o c t 2 = 1
    · rw [if_pos c1]
      have tl : (zm_tk c t).length ≤ 12 := by
        have := zb_at_n12 at_ t hm c1
        rw [zm_tk_len]
        omega
      have e49 := zb_49 (D := D) hM hc ht (zb_at_n12 at_ t hm c1) (hf t hm) p (q.length : Int) w (zm_tk c t) [] rfl (nd t hm c1) v v0 (by omega)
      refine (show L9_cutsOf_49 (D + 1) 347 p.1 p.2 w v (q.length : Int) t 0 k = _ from e49).trans ?_
      rw [w1]
      by_cases cp : p ∈ zm_tk c t
      · have cu : zb_cu c p t = true := decide_eq_true ⟨c1, cp⟩
        rw [if_pos cp, if_pos cu]
        by_cases cw : w = 0
        · rw [if_pos cw, if_pos cw]
          rcases zm_fc_01 c t L with f0 | f1
          · have cf : ¬ zb_cf c L p t = true := fun z => by
              unfold zb_cf at z
              have := of_decide_eq_true ((Bool.and_eq_true _ _).mp z).2
              omega
            rw [if_pos f0, if_neg cf, nx v v0 (by omega), if_pos cw, Int.zero_add]
          · have cf : zb_cf c L p t = true := by
              unfold zb_cf
              rw [cu, Bool.true_and]
              exact decide_eq_true f1
            rw [if_neg (by omega), if_pos cf, nx (v + 1) (by omega) (by omega), if_pos cw, Int.add_assoc]
        · rw [if_neg cw, if_neg cw, nx t (by omega) (by omega), if_neg cw]
      · have cu : ¬ zb_cu c p t = true := fun z => cp (of_decide_eq_true z).2
        have cf : ¬ zb_cf c L p t = true := fun z => cu (by
          unfold zb_cf at z
          exact ((Bool.and_eq_true _ _).mp z).1)
        rw [if_neg cp, if_neg cu, if_neg cf, nx v v0 (by omega), Int.zero_add]
    · have cu : ¬ zb_cu c p t = true := fun z => c1 (of_decide_eq_true z).1
      have cf : ¬ zb_cf c L p t = true := fun z => cu (by
        unfold zb_cf at z
        exact ((Bool.and_eq_true _ _).mp z).1)
      rw [if_neg c1, if_neg cu, if_neg cf, w1, nx v v0 (by omega), Int.zero_add]
theorem zp_row {d D : Nat} (hA : zc_A g) (I : zm_MI k) (S : zt_GG m a b g k) (i w : Int) : ∃ v g' k', C8_row (d + 28) 1 i w g = some (v, g') ∧ C9_row (D + 28) 347 i w k = some (v, k') := by
  have gL := zt_L_A hA
  have hM := I.1
  have l1 : zv_lay 1 = (1, 8) := rfl
  have la := (zt_lab (zt_GG_ab S)).1
  have qC := qE8_row (d + 27) 1 i w g
  have qR := qE9_row (D + 27) 347 i w k
  by_cases i0 : i < 0
  · rw [if_pos i0, qL8_row_13, za_ref gL] at qC
    rw [if_pos i0, qL9_row_18, qL9_row_19, za_isn hM (by decide)] at qR
    exact ⟨_, _, _, lC8_row (zl_ob gL l1) qC, lC9_row (zm_ob hM) qR⟩
  rw [if_neg i0, zm_e (zc_within (d := d + 26) g w 0 4)] at qC
  rw [if_neg i0, zm_e (zm_isIn (h := k) (D + 26) w 0 4)] at qR
  dsimp only at qC qR
  by_cases cw : 0 ≤ w ∧ w ≤ 4
  rotate_left
  · rw [if_neg cw, if_pos rfl, qL8_row_13, za_ref gL] at qC
    rw [if_neg cw, if_pos rfl, qL9_row_18, qL9_row_19, za_isn hM (by decide)] at qR
    exact ⟨_, _, _, lC8_row (zl_ob gL l1) qC, lC9_row (zm_ob hM) qR⟩
  obtain ⟨n, rfl⟩ : ∃ n : Nat, i = n := ⟨i.toNat, by omega⟩
  obtain ⟨k1, i1, F1⟩ := zp_is hM
  have S1 := zt_GG_F S F1
  have M1 := zm_F_M F1 hM
  have U := zt_H_U (zt_GG_H S1)
  have W := zt_U_W U
  have hs := W.2.1
  obtain ⟨l, hl, ok, G, gt, W1⟩ := zt_line W hs
  obtain ⟨k2, e2, F2, n2, rl, dl⟩ := za_sees (D := D + 23) M1 rfl W hs hl
  have M2 := zm_F_M F2 M1
  have c2 : zv_I k2 348 = zv_I k1 348 := zm_F_a F2 348
  obtain ⟨g', e1, B, rw_, lo⟩ := za_row (d := d + 22) gL U hl
  have gL' := zt_B_L B
  have U' := zt_B_U B
  have okr := fun x hx => zt_row_ok ok.2.2.1 G x hx
  have e3' : zv_gR g' 1 8 3 = some a := (zl_gR gL' l1 3).trans (by rw [show zv_R g' 1 3 = zv_R g 1 3 from congrFun ((zt_B_q B).2.2.2.2 1 (by decide) (by decide) (zt_in0 1)) 3, zt_GG_r S])
  rw [if_pos cw, if_neg (by decide), zm_e (zp_e3 hA S), zm_e e1] at qC
  dsimp only at qC
  rw [if_pos cw, if_neg (by decide), qL9_row_19, za_isy i1] at qR
  dsimp only at qR
  rw [zm_e (zm_here M1 _)] at qR
  dsimp only at qR
  rw [zm_e e2, zm_e (zm_gI M2 11), n2.2.1.1] at qR
  by_cases ci : n < (zm_row (zv_I k1 348) (zv_I k1 348 0 :: l)).length
  rotate_left
  · have ei : C4_idAt (d + 27) (a + 8) (n : Int) g' = some (-1, g') := lC4_idAt (zl_ob gL' (zt_row_l la).1) (by
      rw [qE4_idAt, if_neg (by omega), zm_e (zl_gI gL' (zt_row_l la).1 6), zt_rw_sz rw_, if_neg (by omega)])
    rw [zm_e ei] at qC
    dsimp only at qC
    rw [if_pos rfl, za_ref gL'] at qC
    rw [if_neg (by omega), za_rf M2] at qR
    exact ⟨_, _, _, lC8_row (zl_ob gL l1) qC, lC9_row (zm_ob hM) qR⟩
  have hx : (zm_row (zv_I k1 348) (zv_I k1 348 0 :: l))[n]? = some (zm_row (zv_I k1 348) (zv_I k1 348 0 :: l))[n] := List.getElem?_eq_getElem ci
  generalize (zm_row (zv_I k1 348) (zv_I k1 348 0 :: l))[n] = x at hx
  have hm : x ∈ zm_row (zv_I k1 348) (zv_I k1 348 0 :: l) := List.mem_of_getElem? hx
  have xok := okr x hm
  have xr := zt_id_r xok
  obtain ⟨b1, b2⟩ := n2.2.1.2 n x hx
  have ei := zt_C4_idAt (d := d + 26) gL' la (zt_rw_sz rw_) (zt_rw_id rw_) rl hx
  rw [zm_e ei] at qC
  dsimp only at qC
  rw [if_neg (by omega)] at qC
  rw [if_pos (by omega)] at qR
  by_cases w0 : w = 0
  · have li := zm_letterIn M2 c2 (D + 25) n2.2.1 (by omega) hx (zm_row_ok (fun t ht => zm_st48 (ok.2.2.1 t ht)) G x hm).1 (by rcases xok with q | q <;> omega)
    rw [if_pos w0, zm_e e3', zm_e (za_glyph (d := d + 26) gL' U' hs hl hm)] at qC
    dsimp only at qC
    rw [za_giv gL'] at qC
    rw [if_pos w0, zm_e li] at qR
    exact ⟨_, _, _, lC8_row (zl_ob gL l1) qC, lC9_row (zm_ob hM) qR⟩
  rw [if_neg w0] at qC qR
  by_cases w1 : w = 1
  · rw [if_pos w1, zm_e (zt_C4_putter (d := d + 26) xok)] at qC
    dsimp only at qC
    rw [za_giv gL'] at qC
    rw [if_pos w1, zm_e (zm_f6 M2), zm_e (zm_aI M2 zm_l352 rfl (by omega) (by omega)), Int.toNat_natCast, b1] at qR
    exact ⟨_, _, _, lC8_row (zl_ob gL l1) qC, lC9_row (zm_ob hM) qR⟩
  rw [if_neg w1] at qC qR
  by_cases w2 : w = 2
  · have es := zt_C4_seesAt (d := d + 26) gL' la (zt_rw_sz rw_) (zt_lo_se lo) rl hx
    have sj := zt_lay_sn hs hl B hm
    have s355 := n2.2.2.2.1 n x hx
    rw [if_pos w2, zm_e es, sj] at qC
    dsimp only at qC
    rw [if_pos w2, zm_e (zm_f9 M2), zm_e (zm_aB M2 zm_l355 (Or.inl rfl) rfl (by omega) (by omega)), Int.toNat_natCast, s355] at qR
    by_cases cs : zm_sn (zv_I k1 348) (zv_I k1 348 0 :: l) x = true
    · rw [if_pos cs, if_neg (by decide), qL8_row_114, za_giv gL'] at qC
      rw [if_pos cs, if_neg (by decide)] at qR
      exact ⟨_, _, _, lC8_row (zl_ob gL l1) qC, lC9_row (zm_ob hM) qR⟩
    · rw [if_neg cs, if_pos rfl, qL8_row_114, za_giv gL'] at qC
      rw [if_neg cs, if_pos rfl] at qR
      exact ⟨_, _, _, lC8_row (zl_ob gL l1) qC, lC9_row (zm_ob hM) qR⟩
  rw [if_neg w2] at qC qR
  -- CUTS
  have at_ : zb_at (zv_I k1 348) (zv_I k1 348 0 :: l) := ⟨ok.2.2.1, fun t ht => by
    have h1 := zt_S_sz (zt_U_st U t (ok.2.2.1 t ht))
    have h2 := zc_rg hA (zc_lt (zt_r_l la (ok.2.2.1 t ht).1) (by decide)) 9
    rw [h1] at h2
    exact h2.2, fun t ht h => by
    by_cases z : t = 0
    · rw [z, W.1.2.1.2.2.1] at h
      exact absurd h (by decide)
    · obtain ⟨_, _, _, _, _, W2⟩ := zt_line W (ok.2.2.1 t ht)
      exact (W2.2.2.2.1 z (Or.inr h)).2, fun t ht h q hq => okr q (gt t ht h q hq), ok.2.2.2⟩
  have nd : ∀ t ∈ zv_I k1 348 0 :: l, zm_o (zv_I k1 348) t 2 = 1 → (zm_tk (zv_I k1 348) t).Nodup := fun t ht h => zt_cw_tn (zt_S_cw (zt_U_st U t (ok.2.2.1 t ht))) h (zb_at_n12 at_ t ht h)
  have lh : zm_lh (zv_I k1 348) (zv_I k1 348 0 :: l) k2 := ⟨M2, c2, n2.1.1, n2.1.2⟩
  have lrev : ∃ r0, (zv_I k1 348 0 :: l).reverse = [0] ++ r0 := by
    have h1 := ok.2.1
    rw [← List.head?_reverse] at h1
    cases e : (zv_I k1 348 0 :: l).reverse with
    | nil =>
      rw [e] at h1
      cases h1
    | cons y r0 =>
      rw [e] at h1
      have : y = 0 := Option.some.inj h1
      exact ⟨r0, by rw [this]; rfl⟩
  obtain ⟨r0, er⟩ := lrev
  have lr0 : r0.length ≤ 48 := by
    have h1 := congrArg List.length er
    rw [List.length_reverse, List.length_append] at h1
    have := ok.2.2.2
    omega
  have z0 : ¬ zb_cu (zv_I k1 348) x 0 = true := fun z => by
    have h1 := (of_decide_eq_true z).1
    rw [W.1.2.1.2.2.1] at h1
    exact absurd h1 (by decide)
  rw [zm_e (zm_f6 M2), zm_e (zm_aI M2 zm_l352 rfl (by omega) (by omega)), Int.toNat_natCast, b1, zm_e (zm_f7 M2), zm_e (zm_aI M2 zm_l353 rfl (by omega) (by omega)), Int.toNat_natCast, b2] at qR
  by_cases w3 : w = 3
  · have y1 := zb_cif (d := d + 24) gL' U' (zt_B_wk B) at_ xok (zv_I k1 348 0 :: l).reverse [] rfl 0 (Int.le_refl _) (by rw [List.length_reverse]; have := ok.2.2.2; omega)
    have y2 : C4_cutsInForce (d + 27) (a + 8) (zt_id x) g' = some (zb_nf (zb_cf (zv_I k1 348) (zv_I k1 348 0 :: l) x) (zv_I k1 348 0 :: l).reverse, g') := lC4_cutsInForce (zl_ob gL' (zt_row_l la).1) (by
      rw [qE4_cutsInForce]
      rw [Int.zero_add] at y1
      exact y1)
    have z1 := zb_14 (D := D + 25) lh at_ n2.2.2.1 nd x 0 r0 [0] er.symm 0 (by decide) (by omega)
    have z2 : C9_cutsOf (D + 27) 347 x.1 x.2 0 k2 = some (zb_nf (zb_cf (zv_I k1 348) (zv_I k1 348 0 :: l) x) (zv_I k1 348 0 :: l).reverse, k2) := lC9_cutsOf (zm_ob M2) (by
      rw [qE9_cutsOf, if_pos rfl]
      refine (show L9_cutsOf_14 (D + 26) 347 x.1 x.2 0 0 1 k2 = _ from z1).trans ?_
      have cf : ¬ zb_cf (zv_I k1 348) (zv_I k1 348 0 :: l) x 0 = true := fun z => z0 (by
        unfold zb_cf at z
        exact ((Bool.and_eq_true _ _).mp z).1)
      rw [if_pos rfl, er, show zb_nf (zb_cf (zv_I k1 348) (zv_I k1 348 0 :: l) x) ([0] ++ r0) = (if zb_cf (zv_I k1 348) (zv_I k1 348 0 :: l) x 0 = true then 1 else 0) + zb_nf (zb_cf (zv_I k1 348) (zv_I k1 348 0 :: l) x) r0 from rfl, if_neg cf])
    rw [if_pos w3, zm_e y2] at qC
    dsimp only at qC
    rw [za_giv gL'] at qC
    rw [if_neg (by omega), qL9_row_120, zm_e z2] at qR
    exact ⟨_, _, _, lC8_row (zl_ob gL l1) qC, lC9_row (zm_ob hM) qR⟩
  · have w4 : w = 4 := by omega
    have y1 := zb_lst (d := d + 24) gL' U' (zt_B_wk B) at_ xok (zv_I k1 348 0 :: l).length (Nat.le_refl _)
    rw [List.take_of_length_le (Nat.le_of_eq (List.length_reverse (as := zv_I k1 348 0 :: l)))] at y1
    have hlen := ok.2.2.2
    have y2 : C4_lastCut (d + 27) (a + 8) (zt_id x) g' = some (zb_ls (zb_cu (zv_I k1 348) x) (zv_I k1 348 0 :: l).reverse (-1), g') := lC4_lastCut (zl_ob gL' (zt_row_l la).1) (by
      rw [qE4_lastCut, zm_e (zl_gI gL' (zt_row_l la).1 5), zt_wk_ln (zt_B_wk B), zm_w (by omega)]
      exact y1)
    have z1 := zb_14 (D := D + 25) lh at_ n2.2.2.1 nd x 1 r0 [0] er.symm (-1) (by decide) (by omega)
    have z2 : C9_cutsOf (D + 27) 347 x.1 x.2 1 k2 = some (zb_ls (zb_cu (zv_I k1 348) x) (zv_I k1 348 0 :: l).reverse (-1), k2) := lC9_cutsOf (zm_ob M2) (by
      rw [qE9_cutsOf, if_neg (by decide)]
      refine (show L9_cutsOf_14 (D + 26) 347 x.1 x.2 1 (-1) 1 k2 = _ from z1).trans ?_
      rw [if_neg (by decide), er, show zb_ls (zb_cu (zv_I k1 348) x) ([0] ++ r0) (-1) = zb_ls (zb_cu (zv_I k1 348) x) r0 (if zb_cu (zv_I k1 348) x 0 = true then 0 else -1) from rfl, if_neg z0])
    rw [if_neg w3, zm_e y2] at qC
    dsimp only at qC
    rw [za_giv gL'] at qC
    rw [if_pos w4, qL9_row_120, zm_e z2] at qR
    exact ⟨_, _, _, lC8_row (zl_ob gL l1) qC, lC9_row (zm_ob hM) qR⟩
end
end
/-! C20.frame -/
section
/-! ===== what most calls leave alone: what was told, on both sides ===== -/
/-- one instruction: it neither takes the told bytes' array nor sets how many they are, makes nothing, calls only what is so as well -/
def zf_i (G : Nat → Bool) (M : zv_M) : Instr → Bool
  | .getfield ix => match zv_lk M.2.2.2.1 ix with
    | some f => !((Nat.beq f.1 8 && Nat.beq f.2.1 0) || (Nat.beq f.1 9 && Nat.beq f.2.1 46))
    | none => true
  | .putfield ix => match zv_lk M.2.2.2.1 ix with
    | some f => !((Nat.beq f.1 8 && Nat.beq f.2.1 5) || (Nat.beq f.1 9 && Nat.beq f.2.1 47))
    | none => true
  | .invokevirtual ix => match zv_lk M.2.2.2.2.1 ix with
    | some e => G e.1 || Nat.ble 20 e.2.1
    | none => true
  | .invokestatic ix => match zv_lk M.2.2.2.2.1 ix with
    | some e => G e.1 || Nat.ble 20 e.2.1
    | none => true
  | .invokespecial ix => match zv_lk M.2.2.2.2.1 ix with
    | some e => G e.1 || Nat.ble 20 e.2.1
    | none => true
  | .new _ => false
  | .newarray _ => false
  | .anewarray _ => false
  | _ => true
def zf_M (G : Nat → Bool) (M : zv_M) : Bool := M.2.1.all fun q => zf_i G M q.2
/-- all methods but those that make, tell, or give out what was told -/
def zf_G (id : Nat) : Bool := !([0, 55, 62, 69, 90, 109, 118, 126, 131, 172, 173, 174, 175, 176, 177, 178, 184, 296, 297, 298, 299, 300].contains id)
theorem zf_all0 : ((List.range 320).all fun id => match zv_prog id with
    | some m => !zf_G id || zf_M zf_G m.2
    | none => true) = true := by decide +kernel
theorem zf_all {id : Nat} {o : Option Nat} {M : zv_M} (h : zv_prog id = some (o, M)) (g : zf_G id = true) : zf_M zf_G M = true := by
  by_cases hid : id < 320
  · have h1 := List.all_eq_true.mp zf_all0 id (List.mem_range.mpr hid)
    rw [h] at h1
    have h2 : (!zf_G id || zf_M zf_G M) = true := h1
    rw [g] at h2
    exact h2
  · exfalso
    unfold zv_prog at h
    have : ∀ k, 20 ≤ k → zp_ch k = [] := fun k hk => by
      unfold zp_ch
      split <;> first | omega | rfl
    rw [this (id / 16) (by omega)] at h
    cases h
/-- not the told bytes' arrays -/
def zf_v (v : zv_V) : Prop := ∀ x, v = zv_r x → x ≠ 2 ∧ x ≠ 372
def zf_L (ls : zv_Ls) : Prop := ∀ v, some v ∈ ls → zf_v v
def zf_S (st : List zv_V) : Prop := ∀ v, v ∈ st → zf_v v
/-- only where they belong do they stand -/
def zf_H (h : zv_H) : Prop := zv_n h = 372 ∧ ∀ r k, r ≤ 372 → ((∃ ci, zv_lay r = (1, ci) ∧ zv_ft ci k = 3) ∨ ((zv_lay r).1 = 6 ∧ k < (zv_lay r).2)) → (zv_R h r k = 2 → r = 1 ∧ k = 0) ∧ (zv_R h r k = 372 → r = 347 ∧ k = 46)
def zf_q (r k : Nat) : Prop := (r = 1 ∧ k = 5) ∨ r = 2 ∨ (r = 347 ∧ k = 47) ∨ r = 372
def zf_k (h h' : zv_H) : Prop := ∀ r k, zf_q r k → zv_I h' r k = zv_I h r k
def zf_O (h0 : zv_H) (o : Option zv_V × zv_H) : Prop := zf_H o.2 ∧ zf_k h0 o.2 ∧ ∀ v, o.1 = some v → zf_v v
def zf_g (h0 : zv_H) (go : zv_G) : Prop := ∀ pc ls st h r, zf_L ls → zf_S st → zf_H h → zf_k h0 h → go pc ls st h = some r → zf_O h0 r
def zf_c (c : zv_C) : Prop := ∀ id as h, zf_G id = true → zf_S as → zf_H h → (∀ h', c.1 id as h = some h' → zf_H h' ∧ zf_k h h') ∧ (∀ q, c.2.1 id as h = some q → zf_H q.2 ∧ zf_k h q.2) ∧ (∀ q, c.2.2.1 id as h = some q → zf_H q.2 ∧ zf_k h q.2) ∧ ∀ q, c.2.2.2 id as h = some q → (zf_H q.2 ∧ zf_k h q.2) ∧ zf_v (zv_r q.1)
theorem zf_vi (x : Int) : zf_v (zv_i x) := fun _ e => by cases e
theorem zf_vj (x : Int64) : zf_v (zv_j x) := fun _ e => by cases e
theorem zf_vr {x : Nat} (h1 : x ≠ 2) (h2 : x ≠ 372) : zf_v (zv_r x) := fun y e => by
  cases e
  exact ⟨h1, h2⟩
theorem zf_Sc {v : zv_V} {st : List zv_V} (hv : zf_v v) (h : zf_S st) : zf_S (v :: st) := fun w hw => by
  rcases List.mem_cons.mp hw with q | q
  · rw [q]; exact hv
  · exact h w q
theorem zf_St {v : zv_V} {st : List zv_V} (h : zf_S (v :: st)) : zf_S st := fun w hw => h w (List.mem_cons_of_mem _ hw)
theorem zf_Sh {v : zv_V} {st : List zv_V} (h : zf_S (v :: st)) : zf_v v := h v List.mem_cons_self
theorem zf_Sn : zf_S [] := fun w hw => by cases hw
theorem zf_kr (h : zv_H) : zf_k h h := fun _ _ _ => rfl
theorem zf_kt {h h1 h2 : zv_H} (a : zf_k h h1) (b : zf_k h1 h2) : zf_k h h2 := fun r k q => (b r k q).trans (a r k q)
theorem zf_ld : ∀ {ls : zv_Ls} {k : Nat} {v : zv_V}, zf_L ls → zv_ld ls k = some v → zf_v v
  | [], k, v, _, h => by cases h
  | a :: l, 0, v, hL, h => hL v (by
    have e : a = some v := h
    rw [e]
    exact List.mem_cons_self)
  | a :: l, k + 1, v, hL, h => zf_ld (ls := l) (k := k) (fun w hw => hL w (List.mem_cons_of_mem _ hw)) h
theorem zf_st : ∀ {ls : zv_Ls} {k : Nat} {o : Option zv_V}, zf_L ls → (∀ v, o = some v → zf_v v) → zf_L (zv_st ls k o)
  | [], k, o, _, _ => fun w hw => by cases hw
  | a :: l, 0, o, hL, h => fun w hw => by
    rcases List.mem_cons.mp (show some w ∈ o :: l from hw) with q | q
    · exact h w q.symm
    · exact hL w (List.mem_cons_of_mem _ q)
  | a :: l, k + 1, o, hL, h => fun w hw => by
    rcases List.mem_cons.mp (show some w ∈ a :: zv_st l k o from hw) with q | q
    · exact hL w (by rw [q]; exact List.mem_cons_self)
    · exact zf_st (ls := l) (k := k) (fun u hu => hL u (List.mem_cons_of_mem _ hu)) h w q
theorem zf_cr {ls : zv_Ls} {k : Nat} (hL : zf_L ls) : zf_L (zv_cr ls k) := by
  unfold zv_cr
  split
  · exact hL
  · split
    · exact zf_st hL (fun v e => by cases e)
    · exact hL
theorem zf_s1 {ls : zv_Ls} {k : Nat} {v : zv_V} (hL : zf_L ls) (hv : zf_v v) : zf_L (zv_s1 ls k v) := zf_st (zf_cr hL) (fun w e => by
  rw [← Option.some.inj e]
  exact hv)
theorem zf_s2 {ls : zv_Ls} {k : Nat} {x : Int64} (hL : zf_L ls) : zf_L (zv_s2 ls k x) := zf_st (zf_st (zf_cr hL) (fun w e => by
  rw [← Option.some.inj e]
  exact zf_vj x)) (fun w e => by cases e)
theorem zf_msk : ∀ {b : List Bool} {ls : zv_Ls}, zf_L ls → zf_L (zv_msk b ls)
  | true :: b, a :: l, hL => fun w hw => by
    rcases List.mem_cons.mp (show some w ∈ a :: zv_msk b l from hw) with q | q
    · exact hL w (by rw [q]; exact List.mem_cons_self)
    · exact zf_msk (b := b) (ls := l) (fun u hu => hL u (List.mem_cons_of_mem _ hu)) w q
  | false :: b, a :: l, hL => fun w hw => by
    rcases List.mem_cons.mp (show some w ∈ none :: zv_msk b l from hw) with q | q
    · cases q
    · exact zf_msk (b := b) (ls := l) (fun u hu => hL u (List.mem_cons_of_mem _ hu)) w q
  | [], l, hL => by
    show zf_L l
    exact hL
  | true :: b, [], hL => fun w hw => by cases hw
  | false :: b, [], hL => fun w hw => by cases hw
theorem zf_tk : ∀ {n : Nat} {acc st as rest : List zv_V}, zf_S acc → zf_S st → zv_tk n acc st = some (as, rest) → zf_S as ∧ zf_S rest
  | 0, acc, st, as, rest, ha, hs, h => by
    have e := Prod.mk.inj (Option.some.inj h)
    rw [← e.1, ← e.2]
    exact ⟨ha, hs⟩
  | n + 1, acc, v :: st, as, rest, ha, hs, h => zf_tk (n := n) (zf_Sc (zf_Sh hs) ha) (zf_St hs) h
  | n + 1, acc, [], as, rest, ha, hs, h => by cases h
theorem zf_en : ∀ {as : List zv_V} {n : Nat}, zf_S as → zf_L (zv_en as n)
  | [], n, _ => fun w hw => by
    have := List.eq_of_mem_replicate (show some w ∈ List.replicate n none from hw)
    cases this
  | Sum.inl x :: t, n + 1, h => fun w hw => by
    rcases List.mem_cons.mp (show some w ∈ some (zv_i x) :: zv_en t n from hw) with q | q
    · rw [Option.some.inj q]; exact zf_vi x
    · exact zf_en (zf_St h) w q
  | Sum.inr (Sum.inr x) :: t, n + 1, h => fun w hw => by
    rcases List.mem_cons.mp (show some w ∈ some (zv_r x) :: zv_en t n from hw) with q | q
    · rw [Option.some.inj q]; exact zf_Sh h
    · exact zf_en (zf_St h) w q
  | Sum.inr (Sum.inl x) :: t, n + 2, h => fun w hw => by
    rcases List.mem_cons.mp (show some w ∈ some (zv_j x) :: none :: zv_en t n from hw) with q | q
    · rw [Option.some.inj q]; exact zf_vj x
    · rcases List.mem_cons.mp q with q | q
      · cases q
      · exact zf_en (zf_St h) w q
  | Sum.inl x :: t, 0, _ => fun w hw => by cases hw
  | Sum.inr (Sum.inr x) :: t, 0, _ => fun w hw => by cases hw
  | Sum.inr (Sum.inl x) :: t, 0, _ => fun w hw => by cases hw
  | Sum.inr (Sum.inl x) :: t, 1, _ => fun w hw => by cases hw
theorem zf_op {i : Instr} {ls : zv_Ls} {st : List zv_V} {q : zv_Ls × List zv_V} (hL : zf_L ls) (hS : zf_S st) (h : zv_op i ls st = some q) : zf_L q.1 ∧ zf_S q.2 := by
  unfold zv_op at h
  split at h
  all_goals (repeat' split at h)
  all_goals first
    | (cases h; done)
    | skip
  all_goals (have e := (Option.some.inj h).symm; subst e)
  all_goals dsimp only
  all_goals first
    | exact ⟨hL, zf_Sc (zf_vi _) hS⟩
    | exact ⟨hL, zf_Sc (zf_vj _) hS⟩
    | (refine ⟨hL, zf_Sc (zf_vr ?_ ?_) hS⟩ <;> decide)
    | (rename_i heq; exact ⟨hL, zf_Sc (zf_ld hL heq) hS⟩)
    | exact ⟨zf_s1 hL (zf_vi _), zf_St hS⟩
    | exact ⟨zf_s2 hL, zf_St hS⟩
    | exact ⟨zf_s1 hL (zf_Sh hS), zf_St hS⟩
    | exact ⟨zf_s1 hL (zf_vi _), hS⟩
    | exact ⟨hL, zf_Sc (zf_vi _) (zf_St (zf_St hS))⟩
    | exact ⟨hL, zf_Sc (zf_vj _) (zf_St (zf_St hS))⟩
    | exact ⟨hL, zf_Sc (zf_vi _) (zf_St hS)⟩
    | exact ⟨hL, zf_Sc (zf_vj _) (zf_St hS)⟩
    | exact ⟨hL, zf_Sc (zf_Sh hS) hS⟩
    | exact ⟨hL, zf_Sc (zf_vi _) (zf_Sc (zf_Sh (zf_St hS)) hS)⟩
    | exact ⟨hL, zf_St hS⟩
section
variable {h0 : zv_H} {go : zv_G} {pc : Nat} {ls : zv_Ls} {st : List zv_V} {h : zv_H} {r : Option zv_V × zv_H}
theorem zf_jp (hg : zf_g h0 go) (hL : zf_L ls) (hS : zf_S st) (hH : zf_H h) (hK : zf_k h0 h) {off : Int} (e : zv_jp go pc off ls st h = some r) : zf_O h0 r := by
  unfold zv_jp at e
  split at e
  · cases e
  · exact hg _ _ _ _ _ hL hS hH hK e
theorem zf_bc (hg : zf_g h0 go) (hL : zf_L ls) (hS : zf_S st) (hH : zf_H h) (hK : zf_k h0 h) {off : Int} {P : Prop} [Decidable P] (e : zv_bc go pc off ls st h P = some r) : zf_O h0 r := by
  unfold zv_bc at e
  split at e
  · cases e
  · split at e
    · exact hg _ _ _ _ _ hL hS hH hK e
    · exact hg _ _ _ _ _ hL hS hH hK e
theorem zf_bn (hg : zf_g h0 go) (hL : zf_L ls) (hS : zf_S st) (hH : zf_H h) (hK : zf_k h0 h) {off : Int} {P : Prop} [Decidable P] (e : zv_bn go pc off ls st h P = some r) : zf_O h0 r := by
  unfold zv_bn at e
  split at e
  · cases e
  · split at e
    · exact hg _ _ _ _ _ hL hS hH hK e
    · exact hg _ _ _ _ _ hL hS hH hK e
theorem zf_tsw (hg : zf_g h0 go) (hL : zf_L ls) (hS : zf_S st) (hH : zf_H h) (hK : zf_k h0 h) {x dflt : Int} : ∀ {os : List Int} {lo : Int}, zv_tsw go pc x dflt ls st h lo os = some r → zf_O h0 r
  | [], _, e => zf_jp hg hL hS hH hK e
  | o :: t, lo, e => by
    have e' : (if x = lo then zv_jp go pc o ls st h else zv_tsw go pc x dflt ls st h (lo + 1) t) = some r := e
    split at e'
    · exact zf_jp hg hL hS hH hK e'
    · exact zf_tsw hg hL hS hH hK (os := t) e'
theorem zf_lsw (hg : zf_g h0 go) (hL : zf_L ls) (hS : zf_S st) (hH : zf_H h) (hK : zf_k h0 h) {x dflt : Int} : ∀ {os : List (Int × Int)}, zv_lsw go pc x dflt ls st h os = some r → zf_O h0 r
  | [], e => zf_jp hg hL hS hH hK e
  | o :: t, e => by
    have e' : (if x = o.1 then zv_jp go pc o.2 ls st h else zv_lsw go pc x dflt ls st h t) = some r := e
    split at e'
    · exact zf_jp hg hL hS hH hK e'
    · exact zf_lsw hg hL hS hH hK (os := t) e'
/-! what is written -/
theorem zf_b {α β : Type} {o : Option α} {f : α → Option β} {r : β} (e : (o.bind f) = some r) : ∃ v, o = some v ∧ f v = some r := by
  cases o with
  | none => cases e
  | some v => exact ⟨v, rfl, e⟩
theorem zf_wI {a k : Nat} {v : Int} (n : ¬ zf_q a k) (hH : zf_H h) (hK : zf_k h0 h) : zf_H (zv_sI h a k v) ∧ zf_k h0 (zv_sI h a k v) := ⟨hH, fun r k q => (zy_In _ _ (fun w => n (by rw [← w.1, ← w.2]; exact q))).trans (hK r k q)⟩
theorem zf_wJ {a k : Nat} {v : Int64} (hH : zf_H h) (hK : zf_k h0 h) : zf_H (zv_sJ h a k v) ∧ zf_k h0 (zv_sJ h a k v) := ⟨hH, hK⟩
theorem zf_wR {a k v : Nat} (h1 : v ≠ 2) (h2 : v ≠ 372) (hH : zf_H h) (hK : zf_k h0 h) : zf_H (zv_sR h a k v) ∧ zf_k h0 (zv_sR h a k v) := by
  refine ⟨⟨hH.1, fun r j hr hq => ?_⟩, hK⟩
  have e : zv_R (zv_sR h a k v) r j = if r = a ∧ j = k then v else zv_R h r j := rfl
  rw [e]
  split
  · exact ⟨fun q => absurd q h1, fun q => absurd q h2⟩
  · exact hH.2 r j hr hq
theorem zf_n1 {a ci k : Nat} (l : zv_lay a = (1, ci)) (hc : (!((Nat.beq ci 8 && Nat.beq k 5) || (Nat.beq ci 9 && Nat.beq k 47))) = true) : ¬ zf_q a k := by
  intro q
  rcases q with ⟨e1, e2⟩ | e1 | ⟨e1, e2⟩ | e1
  · subst e1 e2
    have e : ci = 8 := (congrArg Prod.snd (l.symm.trans (show zv_lay 1 = (1, 8) from rfl)))
    subst e
    exact absurd hc (by decide)
  · subst e1
    exact absurd (show (2 : Nat) = 1 from congrArg Prod.fst l) (by decide)
  · subst e1 e2
    have e : ci = 9 := (congrArg Prod.snd (l.symm.trans (show zv_lay 347 = (1, 9) from rfl)))
    subst e
    exact absurd hc (by decide)
  · subst e1
    exact absurd (show (2 : Nat) = 1 from congrArg Prod.fst l) (by decide)
theorem zf_n2 {a k : Nat} (n1 : a ≠ 2) (n2 : a ≠ 372) (l : (zv_lay a).1 ≠ 1) : ¬ zf_q a k := by
  intro q
  rcases q with ⟨e1, _⟩ | e1 | ⟨e1, _⟩ | e1
  · subst e1
    exact l rfl
  · exact n1 e1
  · subst e1
    exact l rfl
  · exact n2 e1
theorem zf_gf (hg : zf_g h0 go) (hL : zf_L ls) (hS : zf_S st) (hH : zf_H h) (hK : zf_k h0 h) {a : Nat} {o : Option (Nat × (Nat × Bool))} (ho : (match o with
    | some f => !((Nat.beq f.1 8 && Nat.beq f.2.1 0) || (Nat.beq f.1 9 && Nat.beq f.2.1 46))
    | none => true) = true) (e : zv_gf go pc ls st h a o = some r) : zf_O h0 r := by
  cases o with
  | none => cases e
  | some f =>
    unfold zv_gf at e
    dsimp only at e
    have hf : (!((Nat.beq f.1 8 && Nat.beq f.2.1 0) || (Nat.beq f.1 9 && Nat.beq f.2.1 46))) = true := ho
    generalize et : zv_ft f.1 f.2.1 = t at e
    split at e
    · obtain ⟨v, _, e2⟩ := zf_b e
      exact hg _ _ _ _ _ hL (zf_Sc (zf_vi v) hS) hH hK e2
    · obtain ⟨v, _, e2⟩ := zf_b e
      exact hg _ _ _ _ _ hL (zf_Sc (zf_vi v) hS) hH hK e2
    · obtain ⟨v, _, e2⟩ := zf_b e
      exact hg _ _ _ _ _ hL (zf_Sc (zf_vj v) hS) hH hK e2
    · obtain ⟨v, e1, e2⟩ := zf_b e
      unfold zv_gR at e1
      split at e1
      · rename_i hc
        have ev := Option.some.inj e1
        have hq := hH.2 a f.2.1 (by rw [← hH.1]; exact hc.1) (Or.inl ⟨f.1, hc.2, et⟩)
        refine hg _ _ _ _ _ hL (zf_Sc (zf_vr (fun q => ?_) (fun q => ?_)) hS) hH hK e2
        · obtain ⟨z1, z2⟩ := hq.1 (ev.trans q)
          rw [z1] at hc
          have e8 : f.1 = 8 := (congrArg Prod.snd (hc.2.symm.trans (show zv_lay 1 = (1, 8) from rfl)))
          rw [e8, z2] at hf
          exact absurd hf (by decide)
        · obtain ⟨z1, z2⟩ := hq.2 (ev.trans q)
          rw [z1] at hc
          have e9 : f.1 = 9 := (congrArg Prod.snd (hc.2.symm.trans (show zv_lay 347 = (1, 9) from rfl)))
          rw [e9, z2] at hf
          exact absurd hf (by decide)
      · cases e1
    · obtain ⟨v, _, e2⟩ := zf_b e
      exact hg _ _ _ _ _ hL (zf_Sc (zf_vi v) hS) hH hK e2
    · obtain ⟨v, e1, e2⟩ := zf_b e
      unfold zv_tV at e1
      split at e1
      · have ev := Option.some.inj e1
        exact hg _ _ _ _ _ hL (zf_Sc (zf_vr (by omega) (by omega)) hS) hH hK e2
      · cases e1
    · cases e
theorem zf_pf (hg : zf_g h0 go) (hL : zf_L ls) (hS : zf_S st) (hH : zf_H h) (hK : zf_k h0 h) {a : Nat} {w : zv_V} (hw : zf_v w) {o : Option (Nat × (Nat × Bool))} (ho : (match o with
    | some f => !((Nat.beq f.1 8 && Nat.beq f.2.1 5) || (Nat.beq f.1 9 && Nat.beq f.2.1 47))
    | none => true) = true) (e : zv_pf go pc ls st h a w o = some r) : zf_O h0 r := by
  cases o with
  | none => cases e
  | some f =>
    unfold zv_pf at e
    dsimp only at e
    have hf : (!((Nat.beq f.1 8 && Nat.beq f.2.1 5) || (Nat.beq f.1 9 && Nat.beq f.2.1 47))) = true := ho
    split at e
    · obtain ⟨v, e1, e2⟩ := zf_b e
      unfold zv_pI at e1
      split at e1
      · rename_i hc
        have ev := Option.some.inj e1
        subst ev
        obtain ⟨z1, z2⟩ := zf_wI (zf_n1 hc.2 hf) hH hK
        exact hg _ _ _ _ _ hL hS z1 z2 e2
      · cases e1
    · obtain ⟨v, e1, e2⟩ := zf_b e
      unfold zv_pZ at e1
      split at e1
      · rename_i hc
        have ev := Option.some.inj e1
        subst ev
        obtain ⟨z1, z2⟩ := zf_wI (zf_n1 hc.1.2 hf) hH hK
        exact hg _ _ _ _ _ hL hS z1 z2 e2
      · cases e1
    · obtain ⟨v, e1, e2⟩ := zf_b e
      unfold zv_pJ at e1
      split at e1
      · have ev := Option.some.inj e1
        subst ev
        obtain ⟨z1, z2⟩ := zf_wJ hH hK
        exact hg _ _ _ _ _ hL hS z1 z2 e2
      · cases e1
    · obtain ⟨v, e1, e2⟩ := zf_b e
      unfold zv_pR at e1
      split at e1
      · have ev := Option.some.inj e1
        subst ev
        obtain ⟨n1, n2⟩ := hw _ rfl
        obtain ⟨z1, z2⟩ := zf_wR n1 n2 hH hK
        exact hg _ _ _ _ _ hL hS z1 z2 e2
      · cases e1
    · cases e
theorem zf_call {c : zv_C} (hc : zf_c c) (hg : zf_g h0 go) (hL : zf_L ls) (hS : zf_S st) (hH : zf_H h) (hK : zf_k h0 h) {x : Nat × (Nat × (Nat × Nat))} (gx : zf_G x.1 = true) (e : zv_call c go pc ls st h x = some r) : zf_O h0 r := by
  unfold zv_call at e
  split at e
  · cases e
  · rename_i as rest et
    obtain ⟨s1, s2⟩ := zf_tk zf_Sn hS et
    obtain ⟨c1, c2, c3, c4⟩ := hc x.1 as h gx s1 hH
    split at e
    · cases e
    · split at e
      · obtain ⟨v, e1, e2⟩ := zf_b e
        obtain ⟨z1, z2⟩ := c1 v e1
        exact hg _ _ _ _ _ hL s2 z1 (zf_kt hK z2) e2
      · obtain ⟨v, e1, e2⟩ := zf_b e
        obtain ⟨z1, z2⟩ := c2 v e1
        exact hg _ _ _ _ _ hL (zf_Sc (zf_vi _) s2) z1 (zf_kt hK z2) e2
      · obtain ⟨v, e1, e2⟩ := zf_b e
        obtain ⟨z1, z2⟩ := c3 v e1
        exact hg _ _ _ _ _ hL (zf_Sc (zf_vj _) s2) z1 (zf_kt hK z2) e2
      · obtain ⟨v, e1, e2⟩ := zf_b e
        obtain ⟨⟨z1, z2⟩, z3⟩ := c4 v e1
        exact hg _ _ _ _ _ hL (zf_Sc z3 s2) z1 (zf_kt hK z2) e2
theorem zf_cyS (hg : zf_g h0 go) (hL : zf_L ls) (hS : zf_S st) (hH : zf_H h) (hK : zf_k h0 h) (e : zv_cyS go pc ls st h = some r) : zf_O h0 r := by
  unfold zv_cyS at e
  split at e
  · rename_i n dp d sp s st'
    split at e
    · cases e
    · obtain ⟨v, e1, e2⟩ := zf_b e
      unfold zv_cy at e1
      split at e1
      · rename_i hc
        have ev := Option.some.inj e1
        subst ev
        have hd := hS (Sum.inr (Sum.inr d)) (List.mem_cons_of_mem _ (List.mem_cons_of_mem _ List.mem_cons_self)) d rfl
        have hn : ∀ k, ¬ zf_q d k := fun k => zf_n2 hd.1 hd.2 (by rw [hc.1.2.2.2]; decide)
        refine hg _ _ _ (zv_cp h s sp.toNat d dp.toNat n.toNat) _ hL (zf_St (zf_St (zf_St (zf_St (zf_St hS))))) hH (fun a k q => ?_) e2
        have ed : ¬ a = d := fun z => hn k (by rw [← z]; exact q)
        refine Eq.trans ?_ (hK a k q)
        show (if a = d ∧ dp.toNat ≤ k ∧ k < dp.toNat + n.toNat then _ else h.2.1 a k) = h.2.1 a k
        exact if_neg (fun z => ed z.1)
      · cases e1
  · cases e
theorem zf_mx (hg : zf_g h0 go) (hL : zf_L ls) (hS : zf_S st) (hH : zf_H h) (hK : zf_k h0 h) {b : Bool} (e : zv_mx go pc ls st h b = some r) : zf_O h0 r := by
  unfold zv_mx at e
  split at e
  · split at e
    · cases e
    · exact hg _ _ _ _ _ hL (zf_Sc (zf_vi _) (zf_St (zf_St hS))) hH hK e
  · cases e
theorem zf_oi (hg : zf_g h0 go) (hL : zf_L ls) (hS : zf_S st) (hH : zf_H h) (hK : zf_k h0 h) (e : zv_oi go pc ls st h = some r) : zf_O h0 r := by
  unfold zv_oi at e
  split at e
  · split at e
    · cases e
    · split at e
      · cases e
      · exact hg _ _ _ _ _ hL (zf_St hS) hH hK e
  · cases e
theorem zf_lo {x : Bool} {n m : Nat} (h : (x || Nat.ble 20 n) = true) (hn : n = m) (hm : m < 20) : x = true := by
  rcases (Bool.or_eq_true _ _).mp h with q | q
  · exact q
  · have := Nat.le_of_ble_eq_true q
    omega
theorem zf_iv {c : zv_C} (hc : zf_c c) (hg : zf_g h0 go) (hL : zf_L ls) (hS : zf_S st) (hH : zf_H h) (hK : zf_k h0 h) {o : Option (Nat × (Nat × (Nat × Nat)))} (ho : (match o with
    | some e => zf_G e.1 || Nat.ble 20 e.2.1
    | none => true) = true) (e : zv_iv c go pc ls st h o = some r) : zf_O h0 r := by
  cases o with
  | none => cases e
  | some x =>
    have hx : (zf_G x.1 || Nat.ble 20 x.2.1) = true := ho
    unfold zv_iv at e
    dsimp only at e
    split at e
    · rename_i q
      exact zf_call hc hg hL hS hH hK (by rcases q with q | q <;> exact zf_lo hx q (by decide)) e
    · cases e
theorem zf_is {c : zv_C} (hc : zf_c c) (hg : zf_g h0 go) (hL : zf_L ls) (hS : zf_S st) (hH : zf_H h) (hK : zf_k h0 h) {o : Option (Nat × (Nat × (Nat × Nat)))} (ho : (match o with
    | some e => zf_G e.1 || Nat.ble 20 e.2.1
    | none => true) = true) (e : zv_is c go pc ls st h o = some r) : zf_O h0 r := by
  cases o with
  | none => cases e
  | some x =>
    have hx : (zf_G x.1 || Nat.ble 20 x.2.1) = true := ho
    unfold zv_is at e
    dsimp only at e
    split at e
    · rename_i q
      exact zf_call hc hg hL hS hH hK (by rcases q with q | q <;> exact zf_lo hx q (by decide)) e
    · split at e
      · exact zf_cyS hg hL hS hH hK e
      · split at e
        · exact zf_mx hg hL hS hH hK e
        · split at e
          · exact zf_mx hg hL hS hH hK e
          · cases e
theorem zf_ip {c : zv_C} (hc : zf_c c) (hg : zf_g h0 go) (hL : zf_L ls) (hS : zf_S st) (hH : zf_H h) (hK : zf_k h0 h) {o : Option (Nat × (Nat × (Nat × Nat)))} (ho : (match o with
    | some e => zf_G e.1 || Nat.ble 20 e.2.1
    | none => true) = true) (e : zv_ip c go pc ls st h o = some r) : zf_O h0 r := by
  cases o with
  | none => cases e
  | some x =>
    have hx : (zf_G x.1 || Nat.ble 20 x.2.1) = true := ho
    unfold zv_ip at e
    dsimp only at e
    split at e
    · rename_i q
      exact zf_call hc hg hL hS hH hK (by rcases q with q | q <;> exact zf_lo hx q (by decide)) e
    · split at e
      · exact zf_oi hg hL hS hH hK e
      · cases e
theorem zf_rt {w : Option zv_V} {t : Option FieldType} (hw : ∀ v, w = some v → zf_v v) (hH : zf_H h) (hK : zf_k h0 h) (e : zv_rt h w t = some r) : zf_O h0 r := by
  have main : (∃ v, r = (some v, h) ∧ zf_v v) ∨ r = (none, h) := by
    unfold zv_rt at e
    split at e
    all_goals (repeat' split at e)
    all_goals first
      | (cases e; done)
      | exact Or.inl ⟨_, (Option.some.inj e).symm, zf_vi _⟩
      | exact Or.inl ⟨_, (Option.some.inj e).symm, zf_vj _⟩
      | exact Or.inl ⟨_, (Option.some.inj e).symm, hw _ rfl⟩
      | exact Or.inr (Option.some.inj e).symm
  rcases main with ⟨v, e1, e2⟩ | e1
  · subst e1
    exact ⟨hH, hK, fun u hu => by rw [← Option.some.inj hu]; exact e2⟩
  · subst e1
    exact ⟨hH, hK, fun u hu => by cases hu⟩
theorem zf_ar (hg : zf_g h0 go) (hL : zf_L ls) (hS : zf_S st) (hH : zf_H h) (hK : zf_k h0 h) {a p : Nat} {j : Int} (e : ((zv_aR h a j).bind fun v => go p ls (zv_r v :: st) h) = some r) : zf_O h0 r := by
  obtain ⟨v, e1, e2⟩ := zf_b e
  unfold zv_aR at e1
  split at e1
  · rename_i hc
    have ev := Option.some.inj e1
    have hq := hH.2 a j.toNat (by rw [← hH.1]; exact hc.1) (Or.inr ⟨hc.2.1, by omega⟩)
    refine hg _ _ _ _ _ hL (zf_Sc (zf_vr (fun q => ?_) (fun q => ?_)) hS) hH hK e2
    · have z := (hq.1 (ev.trans q)).1
      rw [z] at hc
      exact absurd hc.2.1 (by decide)
    · have z := (hq.2 (ev.trans q)).1
      rw [z] at hc
      exact absurd hc.2.1 (by decide)
  · cases e1
theorem zf_wi {a : Nat} {j v : Int} {h' : zv_H} (ha : a ≠ 2 ∧ a ≠ 372) (hH : zf_H h) (hK : zf_k h0 h) (e : zv_wI h a j v = some h') : zf_H h' ∧ zf_k h0 h' := by
  unfold zv_wI at e
  split at e
  · rename_i hc
    rw [← Option.some.inj e]
    exact zf_wI (zf_n2 ha.1 ha.2 (by rw [hc.2.1]; decide)) hH hK
  · cases e
theorem zf_wb {a : Nat} {j v : Int} {h' : zv_H} (ha : a ≠ 2 ∧ a ≠ 372) (hH : zf_H h) (hK : zf_k h0 h) (e : zv_wB h a j v = some h') : zf_H h' ∧ zf_k h0 h' := by
  unfold zv_wB at e
  split at e
  · rename_i hc
    rw [← Option.some.inj e]
    exact zf_wI (zf_n2 ha.1 ha.2 (by rcases hc.2.1 with q | q <;> rw [q] <;> decide)) hH hK
  · cases e
theorem zf_wj {a : Nat} {j : Int} {v : Int64} {h' : zv_H} (hH : zf_H h) (hK : zf_k h0 h) (e : zv_wJ h a j v = some h') : zf_H h' ∧ zf_k h0 h' := by
  unfold zv_wJ at e
  split at e
  · rw [← Option.some.inj e]
    exact zf_wJ hH hK
  · cases e
theorem zf_wr {a : Nat} {j : Int} {v : Nat} {h' : zv_H} (hv : v ≠ 2 ∧ v ≠ 372) (hH : zf_H h) (hK : zf_k h0 h) (e : zv_wR h a j v = some h') : zf_H h' ∧ zf_k h0 h' := by
  unfold zv_wR at e
  split at e
  · rw [← Option.some.inj e]
    exact zf_wR hv.1 hv.2 hH hK
  · cases e
theorem zf_goi (hg : zf_g h0 go) (hL : zf_L ls) {a p : Nat} {j : Int} {v : Int} (hS : zf_S (zv_i v :: zv_i j :: zv_r a :: st)) (hH : zf_H h) (hK : zf_k h0 h) (e : ((zv_wI h a j v).bind fun h' => go p ls st h') = some r) : zf_O h0 r := by
  obtain ⟨h', e1, e2⟩ := zf_b e
  obtain ⟨z1, z2⟩ := zf_wi (zf_Sh (zf_St (zf_St hS)) _ rfl) hH hK e1
  exact hg _ _ _ _ _ hL (zf_St (zf_St (zf_St hS))) z1 z2 e2
theorem zf_gob (hg : zf_g h0 go) (hL : zf_L ls) {a p : Nat} {j : Int} {v : Int} (hS : zf_S (zv_i v :: zv_i j :: zv_r a :: st)) (hH : zf_H h) (hK : zf_k h0 h) (e : ((zv_wB h a j v).bind fun h' => go p ls st h') = some r) : zf_O h0 r := by
  obtain ⟨h', e1, e2⟩ := zf_b e
  obtain ⟨z1, z2⟩ := zf_wb (zf_Sh (zf_St (zf_St hS)) _ rfl) hH hK e1
  exact hg _ _ _ _ _ hL (zf_St (zf_St (zf_St hS))) z1 z2 e2
theorem zf_goj (hg : zf_g h0 go) (hL : zf_L ls) {a p : Nat} {j : Int} {v : Int64} (hS : zf_S (zv_j v :: zv_i j :: zv_r a :: st)) (hH : zf_H h) (hK : zf_k h0 h) (e : ((zv_wJ h a j v).bind fun h' => go p ls st h') = some r) : zf_O h0 r := by
  obtain ⟨h', e1, e2⟩ := zf_b e
  obtain ⟨z1, z2⟩ := zf_wj hH hK e1
  exact hg _ _ _ _ _ hL (zf_St (zf_St (zf_St hS))) z1 z2 e2
theorem zf_gor (hg : zf_g h0 go) (hL : zf_L ls) {a p : Nat} {j : Int} {v : Nat} (hS : zf_S (zv_r v :: zv_i j :: zv_r a :: st)) (hH : zf_H h) (hK : zf_k h0 h) (e : ((zv_wR h a j v).bind fun h' => go p ls st h') = some r) : zf_O h0 r := by
  obtain ⟨h', e1, e2⟩ := zf_b e
  obtain ⟨z1, z2⟩ := zf_wr (zf_Sh hS _ rfl) hH hK e1
  exact hg _ _ _ _ _ hL (zf_St (zf_St (zf_St hS))) z1 z2 e2
set_option maxHeartbeats 4000000 in
theorem zf_hp {c : zv_C} {M : zv_M} (hc : zf_c c) (hg : zf_g h0 go) (hL : zf_L ls) (hS : zf_S st) (hH : zf_H h) (hK : zf_k h0 h) {i : Instr} (hi : zf_i zf_G M i = true) (e : zv_hp c M go pc ls st h i = some r) : zf_O h0 r := by
  unfold zv_hp at e
  split at e
  all_goals first
    | exact zf_jp hg hL hS hH hK e
    | exact zf_bc hg hL (zf_St hS) hH hK e
    | exact zf_bn hg hL (zf_St hS) hH hK e
    | exact zf_bc hg hL (zf_St (zf_St hS)) hH hK e
    | exact zf_bn hg hL (zf_St (zf_St hS)) hH hK e
    | (split at e
       · cases e
       · exact zf_bc hg hL (zf_St (zf_St hS)) hH hK e)
    | (split at e
       · cases e
       · exact zf_bn hg hL (zf_St (zf_St hS)) hH hK e)
    | (split at e
       · exact zf_tsw hg hL (zf_St hS) hH hK e
       · cases e)
    | (split at e
       · exact zf_lsw hg hL (zf_St hS) hH hK e
       · cases e)
    | exact zf_gf hg hL (zf_St hS) hH hK hi e
    | exact zf_pf hg hL (zf_St (zf_St hS)) hH hK (zf_Sh hS) hi e
    | exact zf_iv hc hg hL hS hH hK hi e
    | exact zf_is hc hg hL hS hH hK hi e
    | exact zf_ip hc hg hL hS hH hK hi e
    | exact zf_ar hg hL (zf_St (zf_St hS)) hH hK e
    | exact zf_goi hg hL hS hH hK e
    | exact zf_gob hg hL hS hH hK e
    | exact zf_goj hg hL hS hH hK e
    | exact zf_gor hg hL hS hH hK e
    | (cases e; done)
    | (have hi' : false = true := hi
       cases hi'; done)
    | (refine zf_rt (fun v q => ?_) hH hK e
       cases q; done)
    | (refine zf_rt (fun v q => ?_) hH hK e
       cases q
       first | exact zf_vi _ | exact zf_vj _ | exact zf_Sh hS)
    | skip
  all_goals first
    | (unfold zv_gs at e
       split at e
       · exact hg _ _ _ _ _ hL (zf_Sc (zf_vi _) hS) hH hK e
       · cases e)
    | (unfold zv_ls at e
       split at e
       · exact hg _ _ _ _ _ hL (zf_Sc (zf_vr (by omega) (by omega)) hS) hH hK e
       · cases e)
    | (unfold zv_li at e
       split at e
       · exact hg _ _ _ _ _ hL (zf_Sc (zf_vr (by omega) (by omega)) hS) hH hK e
       · cases e)
    | (unfold zv_ll at e
       split at e
       · exact hg _ _ _ _ _ hL (zf_Sc (zf_vj _) hS) hH hK e
       · cases e)
    | (obtain ⟨v, e1, e2⟩ := zf_b e
       first
        | exact hg _ _ _ _ _ hL (zf_Sc (zf_vi v) (zf_St hS)) hH hK e2
        | exact hg _ _ _ _ _ hL (zf_Sc (zf_vi v) (zf_St (zf_St hS))) hH hK e2
        | exact hg _ _ _ _ _ hL (zf_Sc (zf_vj v) (zf_St (zf_St hS))) hH hK e2)
    | cases e
theorem zf_lk {α : Type} {P : α → Bool} : ∀ {l : List (Nat × α)} {n : Nat} {x : α}, (l.all fun q => P q.2) = true → zv_lk l n = some x → P x = true
  | [], n, x, _, h => by cases h
  | a :: l, n, x, ha, h => by
    have h1 := (Bool.and_eq_true _ _).mp (show (P a.2 && l.all fun q => P q.2) = true from ha)
    have h' : (bif Nat.beq a.1 n then some a.2 else zv_lk l n) = some x := h
    cases hb : Nat.beq a.1 n with
    | true =>
      rw [hb] at h'
      rw [← Option.some.inj h']
      exact h1.1
    | false =>
      rw [hb] at h'
      exact zf_lk h1.2 h'
theorem zf_stp {c : zv_C} {M : zv_M} (hM : zf_M zf_G M = true) (hc : zf_c c) (hg : zf_g h0 go) (hL : zf_L ls) (hS : zf_S st) (hH : zf_H h) (hK : zf_k h0 h) (e : zv_stp c M go pc ls st h = some r) : zf_O h0 r := by
  unfold zv_stp at e
  split at e
  · cases e
  · rename_i i hi
    split at e
    · rename_i q hq
      obtain ⟨z1, z2⟩ := zf_op hL hS hq
      exact hg _ _ _ _ _ z1 z2 hH hK e
    · exact zf_hp hc hg hL hS hH hK (zf_lk (P := zf_i zf_G M) hM hi) e
end
theorem zf_seg {h0 : zv_H} {c : zv_C} {M : zv_M} (hM : zf_M zf_G M = true) (hc : zf_c c) {kt : zv_G} (hk : zf_g h0 kt) : ∀ n, zf_g h0 (zv_seg c M kt n)
  | 0 => hk
  | n + 1 => fun pc ls st h r hL hS hH hK e => by
    have e' : zv_stp c M (fun pc ls st h => match zv_lk M.2.2.1 pc with
      | some b => kt pc (zv_msk b ls) st h
      | none => zv_seg c M kt n pc ls st h) pc ls st h = some r := e
    refine zf_stp hM hc (fun pc ls st h r hL hS hH hK e => ?_) hL hS hH hK e'
    split at e
    · exact hk _ _ _ _ _ (zf_msk hL) hS hH hK e
    · exact zf_seg hM hc hk n _ _ _ _ _ hL hS hH hK e
theorem zf_it {h0 : zv_H} {c : zv_C} {M : zv_M} (hM : zf_M zf_G M = true) (hc : zf_c c) : ∀ n, zf_g h0 (zv_it c M n)
  | 0 => fun _ _ _ _ _ _ _ _ _ e => by cases e
  | n + 1 => zf_seg hM hc (zf_it hM hc n) 400
theorem zf_sem {c : zv_C} (hc : zf_c c) {id : Nat} {as : List zv_V} {h : zv_H} (g : zf_G id = true) (hS : zf_S as) (hH : zf_H h) {r : Option zv_V × zv_H} (e : zv_sem zv_prog c id as h = some r) : zf_O h r := by
  unfold zv_sem at e
  split at e
  · unfold zv_jd at e
    split at e
    · split at e
      · rw [← Option.some.inj e]
        exact ⟨hH, zf_kr h, fun v q => by cases q⟩
      · cases e
    · cases e
  · split at e
    · cases e
    · rename_i m hm
      split at e
      · obtain ⟨n, hn⟩ := (zv_lim_iff _ _ _ _ _ _ _).mp e
        exact zf_it (zf_all (o := m.1) (M := m.2) hm g) hc n _ _ _ _ _ (zf_en hS) zf_Sn hH (zf_kr h) hn
      · cases e
/-- every call that may be called so -/
theorem zf_cs : ∀ d, zf_c (zv_cs zv_prog d)
  | 0 => fun _ _ _ _ _ _ => ⟨fun _ e => (by cases e), fun _ e => (by cases e), fun _ e => (by cases e), fun _ e => (by cases e)⟩
  | d + 1 => fun id as h g hS hH => by
    have z := fun r e => zf_sem (zf_cs d) (id := id) (as := as) (h := h) g hS hH (r := r) e
    refine ⟨fun h' e => ?_, fun q e => ?_, fun q e => ?_, fun q e => ?_⟩
    · have e' : zv_pjV (zv_sem zv_prog (zv_cs zv_prog d) id as h) = some h' := e
      unfold zv_pjV at e'
      split at e'
      · rename_i h1 e1
        rw [← Option.some.inj e']
        have y := z _ e1
        exact ⟨y.1, y.2.1⟩
      · cases e'
    · have e' : zv_pjI (zv_sem zv_prog (zv_cs zv_prog d) id as h) = some q := e
      unfold zv_pjI at e'
      split at e'
      · rename_i h1 e1
        rw [← Option.some.inj e']
        have y := z _ e1
        exact ⟨y.1, y.2.1⟩
      · cases e'
    · have e' : zv_pjJ (zv_sem zv_prog (zv_cs zv_prog d) id as h) = some q := e
      unfold zv_pjJ at e'
      split at e'
      · rename_i h1 e1
        rw [← Option.some.inj e']
        have y := z _ e1
        exact ⟨y.1, y.2.1⟩
      · cases e'
    · have e' : zv_pjR (zv_sem zv_prog (zv_cs zv_prog d) id as h) = some q := e
      unfold zv_pjR at e'
      split at e'
      · rename_i h1 e1
        rw [← Option.some.inj e']
        have y := z _ e1
        exact ⟨⟨y.1, y.2.1⟩, y.2.2 _ rfl⟩
      · cases e'
theorem zf_I {d id : Nat} {as : List zv_V} {h : zv_H} {q : Int × zv_H} (e : (zv_cs zv_prog d).2.1 id as h = some q) (g : zf_G id = true) (hS : zf_S as) (hH : zf_H h) : zf_H q.2 ∧ zf_k h q.2 := (zf_cs d id as h g hS hH).2.1 q e
end
/-! C21.zw -/
section
/-! ===== each call of the law keeps what was told alike on both sides (genzw.py) ===== -/
theorem zf_ly (r : Nat) (h : r < 373) : ((zv_lay r).1 = 1 → (zv_lay r).2 < 9 ∨ r = 347) ∧ ((zv_lay r).1 = 6 → r = 13 ∨ r = 18 ∨ r = 182 ∨ r = 187) := by
  have key : ∀ r, r < 373 → ((zv_lay r).1 = 1 → (zv_lay r).2 < 9 ∨ r = 347) ∧ ((zv_lay r).1 = 6 → r = 13 ∨ r = 18 ∨ r = 182 ∨ r = 187) := by decide +kernel
  exact key r h
abbrev zf_Pk (c k : Nat) : Prop := (zc_off c k ≠ 0 ∧ (c = 0 ∨ zc_off c k ≤ 5) ∧ zc_off c k ≤ 26 ∧ (c ≠ 8 ∨ zc_off c k ≠ 1 ∨ k = 0)) ∨ (c = 8 ∧ (k = 3 ∨ k = 4)) ∨ (c = 0 ∧ k = 10) ∨ (c = 5 ∧ (k = 4 ∨ k = 5))
theorem zf_tb0 : ((List.range 9).all fun c => (List.range 48).all fun k => !(Nat.beq (zv_ft c k) 3) || decide (zf_Pk c k)) = true := by decide +kernel
theorem zf_tb (c : Nat) (hc : c < 9) (k : Nat) (hk : k < 48) (h : zv_ft c k = 3) : zf_Pk c k := by
  have h1 := List.all_eq_true.mp zf_tb0 c (List.mem_range.mpr hc)
  have h2 := List.all_eq_true.mp h1 k (List.mem_range.mpr hk)
  rw [h] at h2
  exact of_decide_eq_true h2
theorem zf_k48 {c k : Nat} (hc : c < 10) (h : zv_ft c k = 3) : k < 48 := by
  have len : ∀ c, c < 10 → (zv_fts.getD c []).length ≤ 48 := by decide +kernel
  by_cases hk : k < 48
  · exact hk
  · have h2 : ((zv_fts.getD c []).getD k 9) = 3 := h
    have := len c hc
    rw [List.getD_eq_getElem?_getD, List.getElem?_eq_none (by omega)] at h2
    cases h2
theorem zf_fr (k : Nat) (hk : k < 48) (h : zv_ft 9 k = 3) : zm_fr.getD k 0 ≠ 0 ∧ zm_fr.getD k 0 ≠ 2 ∧ (zm_fr.getD k 0 = 372 → k = 46) := by
  have key : ∀ k, k < 48 → zv_ft 9 k = 3 → zm_fr.getD k 0 ≠ 0 ∧ zm_fr.getD k 0 ≠ 2 ∧ (zm_fr.getD k 0 = 372 → k = 46) := by decide +kernel
  exact key k hk h
theorem zf_15 {x : Nat} (h : x = 0 ∨ zv_lay x = (1, 5)) : x ≠ 2 ∧ x ≠ 372 := by
  refine ⟨fun e => ?_, fun e => ?_⟩
  · subst e
    rcases h with h | h
    · cases h
    · exact absurd (congrArg Prod.fst h) (by decide)
  · subst e
    rcases h with h | h
    · cases h
    · exact absurd (congrArg Prod.fst h) (by decide)
/-- at the start -/
theorem zf_of {h : zv_H} (A : zc_A h) (hM : zm_M h) (f5 : ∀ r, zv_lay r = (1, 5) → zv_R h r 5 = r) : zf_H h := by
  refine ⟨hM.1, fun r k hr hq => ?_⟩
  have ly := zf_ly r (by omega)
  have no : ∀ {x : Nat}, x ≠ 2 ∧ x ≠ 372 → (x = 2 → r = 1 ∧ k = 0) ∧ (x = 372 → r = 347 ∧ k = 46) := fun q => ⟨fun e => absurd e q.1, fun e => absurd e q.2⟩
  rcases hq with ⟨c, l, ft⟩ | ⟨l, kl⟩
  · have l1 : (zv_lay r).1 = 1 := by rw [l]
    have l2 : (zv_lay r).2 = c := by rw [l]
    rcases ly.1 l1 with hc | e
    · rw [l2] at hc
      have hk := zf_k48 (by omega) ft
      have r0 : 1 ≤ r := by
        by_cases z : r = 0
        · rw [z] at l
          exact absurd (show (0 : Nat) = 1 from congrArg Prod.fst l) (by decide)
        · omega
      have r346 : r < 347 := zc_lt l hc
      rcases zf_tb c hc k hk ft with ⟨t1, t2, t3, t4⟩ | ⟨t1, t2⟩ | ⟨t1, t2⟩ | ⟨t1, t2⟩
      · have e := A.1.2.1 r k l1 (by rw [l2]; exact t1)
        rw [l2] at e
        rw [e]
        refine ⟨fun q => ?_, fun q => ?_⟩
        · have e1 : r = 1 := by omega
          have e8 : c = 8 := by
            rw [e1] at l
            exact (congrArg Prod.snd l).symm
          exact ⟨e1, by omega⟩
        · exfalso
          rcases t2 with t2 | t2
          · rw [t2] at l
            have := zc_lh l
            omega
          · omega
      · have e1 : r = 1 := by
          have key : ∀ r, r < 373 → zv_lay r = (1, 8) → r = 1 := by decide +kernel
          rw [t1] at l
          exact key r (by omega) l
        rw [e1]
        have nn : ∀ x : Nat, x = 9 ∨ x = 178 → (x = 2 → 1 = 1 ∧ k = 0) ∧ (x = 372 → 1 = 347 ∧ k = 46) := fun x hx => ⟨fun q => by omega, fun q => by omega⟩
        rcases t2 with t2 | t2
        · rw [show zv_R h 1 k = zv_R h 1 3 by rw [t2]]
          exact nn _ (A.1.2.2.2.1.imp (fun q => q.1) (fun q => q.1))
        · rw [show zv_R h 1 k = zv_R h 1 4 by rw [t2]]
          exact nn _ (A.1.2.2.2.1.symm.imp (fun q => q.2) (fun q => q.2))
      · rw [t1] at l
        rw [t2]
        have z := zf_15 (Or.inr (A.2.2 r l).1)
        exact ⟨fun q => absurd q z.1, fun q => absurd q z.2⟩
      · rw [t1] at l
        rcases t2 with t2 | t2
        · rw [t2]
          have e : zv_R h r 4 = 0 ∨ zv_lay (zv_R h r 4) = (1, 5) := by
            rcases A.2.1 r l with t | t
            · exact Or.inl t.2
            · rcases t.2.2.1 with u | u
              · exact Or.inl u.1
              · exact Or.inr u.1
          have z := zf_15 e
          exact ⟨fun q => absurd q z.1, fun q => absurd q z.2⟩
        · rw [t2, f5 r l]
          have z := zf_15 (Or.inr l)
          exact ⟨fun q => absurd q z.1, fun q => absurd q z.2⟩
    · subst e
      have e9 : c = 9 := (congrArg Prod.snd l).symm
      subst e9
      have hk := zf_k48 (by decide) ft
      obtain ⟨f1, f2, f3⟩ := zf_fr k hk ft
      rw [hM.2 k f1]
      exact ⟨fun q => absurd q f2, fun q => ⟨rfl, f3 q⟩⟩
  · have st : ∀ a, zv_lay a = (1, 0) → k < 48 → zv_R h (a + 4) k ≠ 2 ∧ zv_R h (a + 4) k ≠ 372 := fun a ha hk => by
      rw [A.1.2.2.1 a k ha hk]
      exact zf_15 (Or.inr (zc_stl ha hk).1)
    have pa : ∀ r', zv_lay r' = (1, 4) → zv_R h (r' + 1) k ≠ 2 ∧ zv_R h (r' + 1) k ≠ 372 := fun r' l' => zf_15 (A.1.2.2.2.2.2.2.1 r' k l')
    rcases ly.2 l with e | e | e | e <;> subst e
    · exact no (st 9 rfl kl)
    · exact no (pa 17 rfl)
    · exact no (st 178 rfl kl)
    · exact no (pa 186 rfl)
/-- a question of the class keeps it -/
theorem zf_dQ {h h1 : zv_H} (F : zd_Q h h1) (H : zf_H h) : zf_H h1 := by
  have q := F.1.1
  have hn : zv_n h1 = zv_n h := congrArg Prod.fst q.1
  refine ⟨hn.trans H.1, fun r k hr hq => ?_⟩
  have pa : ∀ r', zv_lay r' = (1, 4) → zv_R h1 (r' + 1) k ≠ 2 ∧ zv_R h1 (r' + 1) k ≠ 372 := fun r' l' => zf_15 (F.2.1.2.2.2.2.2.2.1 r' k l')
  by_cases e1 : r = 18
  · subst e1
    have z := pa 17 rfl
    exact ⟨fun w => absurd w z.1, fun w => absurd w z.2⟩
  · by_cases e2 : r = 187
    · subst e2
      have z := pa 186 rfl
      exact ⟨fun w => absurd w z.1, fun w => absurd w z.2⟩
    · have e : zv_R h1 r k = zv_R h r k := congrFun (q.2.2.2.1 r e1 e2) k
      rw [e]
      exact H.2 r k hr hq
theorem zf_F {A B : List Nat} {h h1 : zv_H} (F : zm_F A B h h1) (H : zf_H h) : zf_H h1 := by
  have hn : zv_n h1 = zv_n h := congrArg Prod.fst F.1
  refine ⟨hn.trans H.1, fun r k hr hq => ?_⟩
  have e : zv_R h1 r k = zv_R h r k := congrFun (congrFun F.2.1 r) k
  rw [e]
  exact H.2 r k hr hq
theorem zo_k {h h' : zv_H} {n : Nat} (O : zo h h n) (K : zf_k h h') : zo h' h' n := ⟨(K 1 5 (Or.inl ⟨rfl, rfl⟩)).trans O.1, (K 347 47 (Or.inr (Or.inr (Or.inl ⟨rfl, rfl⟩)))).trans O.2.1, fun i hi => (K 2 i (Or.inr (Or.inl rfl))).trans ((O.2.2 i hi).trans (K 372 i (Or.inr (Or.inr (Or.inr rfl)))).symm)⟩
/-- between two calls, with what was told -/
def zl_Jo (L : Nat) (X : Nat → Int) (m : Nat) (h : zv_H) : Prop := zl_J L X m h ∧ zf_H h ∧ ∃ n, n ≤ 160 ∧ zo h h n
section
variable {L : Nat} {X : Nat → Int} {m m' : Nat} {h : zv_H}
theorem zl_Jo_m (J : zl_Jo L X m h) (hm : m ≤ m') : zl_Jo L X m' h := ⟨zl_J_m J.1 hm, J.2⟩
theorem zl_Jo_k (J : zl_Jo L X m h) {h1 h2 : zv_H} (J2 : zl_J L X m' h2) (k1 : zf_H h → zf_H h1 ∧ zf_k h h1) (k2 : zf_H h1 → zf_H h2 ∧ zf_k h1 h2) : zl_Jo L X m' h2 := by
  obtain ⟨_, H, n, hn, O⟩ := J
  obtain ⟨H1, K1⟩ := k1 H
  obtain ⟨H2, K2⟩ := k2 H1
  exact ⟨J2, H2, n, hn, zo_k O (zf_kt K1 K2)⟩
/-- what tells, what is told: both heaps looked at -/
theorem zl_askO (J : zl_Jo L X m h) {C : Option (Int × zv_H)} {C' : zv_H → Option (Int × zv_H)} (q : ∃ (v1 : Int) (h1 : zv_H) (v2 : Int) (h2 : zv_H), C = some (v1, h1) ∧ C' h1 = some (v2, h2) ∧ zl_S L X h1 ∧ zl_J L X m h2) (eC : zm_R C (fun q => zd_Q h q.2)) (eX : ∀ h1, zm_MI h1 → zm_R (C' h1) (fun q => zm_X h1 q.2)) (z : ∀ (a b : Nat) (k : zv_H), zm_MI k → zt_GG m a b h k → (∃ n, n ≤ 160 ∧ zo h k n) → ∃ (v : Int) (g' k' : zv_H), C = some (v, g') ∧ C' k = some (v, k') ∧ ∃ n, n ≤ 160 ∧ zo g' k' n) : ∃ (v : Int) (h1 h2 : zv_H), C = some (v, h1) ∧ C' h1 = some (v, h2) ∧ zl_S L X h1 ∧ zl_Jo L X m h2 := by
  obtain ⟨⟨I, a, b, S⟩, H, n, hn, O⟩ := J
  obtain ⟨v1, h1, v2, h2, e1, e2, S1, J2⟩ := q
  obtain ⟨⟨w, g⟩, e3, x⟩ := eC
  have z3 := Prod.mk.inj (Option.some.inj (e3.symm.trans e1))
  have x' : zd_Q h g := x
  rw [z3.2] at x'
  have I1 := zl_cI I (zc_QX (zd_c x'))
  have up : ∀ r, 347 ≤ r → h1.2.1 r = h.2.1 r := fun r hr => (x'.1.1.2.2.1 r hr).1
  have O1 : zo h h1 n := ⟨O.1, (congrFun (up 347 (by decide)) 47).trans O.2.1, fun i hi => (O.2.2 i hi).trans (congrFun (up 372 (by decide)) i).symm⟩
  obtain ⟨⟨w2, g2⟩, e4, x2⟩ := eX h1 I1.2.1
  have z4 := Prod.mk.inj (Option.some.inj (e4.symm.trans e2))
  have x2' : zm_X h1 g2 := x2
  rw [z4.2] at x2'
  have lo : ∀ r, r < 347 → h2.2.1 r = h1.2.1 r := fun r hr => zm_F_a' x2'.1 hr
  obtain ⟨v, g', k', y1, y2, n', hn', O'⟩ := z a b h1 I1.2.1 (zl_J_c S (zc_PP' (zc_QX (zd_c x')).1)) ⟨n, hn, O1⟩
  have z1 := Prod.mk.inj (Option.some.inj (y1.symm.trans e1))
  have z2 := Prod.mk.inj (Option.some.inj (y2.symm.trans e2))
  rw [z1.2, z2.2] at O'
  exact ⟨v, h1, h2, by rw [e1, z1.1], by rw [e2, z2.1], S1, J2, zf_F x2'.1 (zf_dQ x' H), n', hn', (congrFun (lo 1 (by decide)) 5).trans O'.1, O'.2.1, fun i hi => (congrFun (lo 2 (by decide)) i).trans (O'.2.2 i hi)⟩
theorem zp_out {a b : Nat} {g k : zv_H} {d D : Nat} (hA : zc_A g) (I : zm_MI k) (O : ∃ n, n ≤ 160 ∧ zo g k n) (i : Int) : ∃ v g' k', C8_out (d + 28) 1 i g = some (v, g') ∧ C9_out (D + 28) 347 i k = some (v, k') ∧ ∃ n, n ≤ 160 ∧ zo g' k' n := by
  have gL := zt_L_A hA
  have hM := I.1
  have l1 : zv_lay 1 = (1, 8) := rfl
  have l2 : zv_lay 2 = (2, 160) := rfl
  obtain ⟨n, hn, O⟩ := O
  have qC := qE8_out (d + 27) 1 i g
  have qR := qE9_out (D + 27) 347 i k
  have kp : ∀ (x y z : Int), ∃ n, n ≤ 160 ∧ zo (zv_sI g 1 6 x) (zv_sI (zv_sI k 347 4 y) 347 3 z) n := fun x y z => ⟨n, hn, (zy_In _ _ (fun q => absurd q.2 (by decide))).trans O.1, (zy_In _ _ (fun q => absurd q.2 (by decide))).trans ((zy_In _ _ (fun q => absurd q.2 (by decide))).trans O.2.1), fun i hi => (zy_In _ _ (fun q => absurd q.1 (by decide))).trans ((O.2.2 i hi).trans ((zy_In _ _ (fun q => absurd q.1 (by decide))).trans (zy_In _ _ (fun q => absurd q.1 (by decide)))).symm)⟩
  by_cases i0 : i < 0
  · rw [if_pos i0, za_ref gL] at qC
    rw [if_pos i0, qL9_out_22, za_isn hM (by decide)] at qR
    exact ⟨_, _, _, lC8_out (zl_ob gL l1) qC, lC9_out (zm_ob hM) qR, kp _ _ _⟩
  rw [if_neg i0, zm_e (zl_gI gL l1 5), O.1] at qC
  rw [if_neg i0, zm_e (zm_gI hM 47), O.2.1] at qR
  by_cases c1 : i < (n : Int)
  · have e2 : zv_gR g 1 8 0 = some 2 := zl_gF gL l1 0 1
    obtain ⟨j, rfl⟩ : ∃ j : Nat, i = j := ⟨i.toNat, by omega⟩
    rw [if_pos c1, zm_e e2, zm_e (zl_al gL l2), if_pos (by omega), zm_e e2, zm_e (zl_aI gL l2 (by omega) (by omega)), Int.toNat_natCast, za_giv gL] at qC
    rw [if_pos c1, qL9_out_22, zm_e (zm_is hM (D + 26) 0)] at qR
    dsimp only at qR
    generalize ek : zv_sI (zv_sI k 347 4 0) 347 3 0 = k1 at qR
    have F1 : zm_F [] [3, 4] k k1 := by
      rw [← ek]
      exact zm_F_f (zm_F_f (zm_F_r _ _ k) rfl _) rfl _
    have M1 := zm_F_M F1 hM
    rw [if_pos rfl, if_neg (by decide), zm_e (zm_f46 M1), zm_e (zm_aI M1 zm_l372 rfl (by omega) (by omega)), Int.toNat_natCast, zm_F_a F1 372, ← O.2.2 j (by omega)] at qR
    refine ⟨_, _, _, lC8_out (zl_ob gL l1) qC, lC9_out (zm_ob hM) qR, ?_⟩
    rw [← ek]
    exact kp _ _ _
  · rw [if_neg c1, qL8_out_27, za_ref gL] at qC
    rw [if_neg c1, qL9_out_22, za_isn hM (by decide)] at qR
    exact ⟨_, _, _, lC8_out (zl_ob gL l1) qC, lC9_out (zm_ob hM) qR, kp _ _ _⟩
theorem zf_as1 {r : Nat} (h1 : r ≠ 2) (h2 : r ≠ 372) {as : List zv_V} (h : ∀ v, v ∈ as → ∃ x, v = zv_i x) : zf_S (zv_r r :: as) := zf_Sc (zf_vr h1 h2) (fun v hv => by
  obtain ⟨x, e⟩ := h v hv
  rw [e]
  exact zf_vi x)
theorem zf_i0 : ∀ v : zv_V, v ∈ ([] : List zv_V) → ∃ x, v = zv_i x := fun v hv => by cases hv
theorem zf_i1 {x : Int} {as : List zv_V} (h : ∀ v : zv_V, v ∈ as → ∃ x, v = zv_i x) : ∀ v : zv_V, v ∈ zv_i x :: as → ∃ x, v = zv_i x := fun v hv => by
  rcases List.mem_cons.mp hv with q | q
  · exact ⟨x, q⟩
  · exact h v q

theorem zw_status (J : zl_Jo L X m h) (d : Nat) : ∃ (v1 : Int) (h1 : zv_H) (v2 : Int) (h2 : zv_H), C8_status (d + 28) 1 h = some (v1, h1) ∧ C9_status (d + 28) 347 h1 = some (v2, h2) ∧ zl_S L X h1 ∧ zl_Jo L X m h2 := by
  obtain ⟨v1, h1, v2, h2, e1, e2, S1, J2⟩ := zq_status J.1 d
  exact ⟨v1, h1, v2, h2, e1, e2, S1, zl_Jo_k J J2 (fun H => zf_I e1 rfl (zf_as1 (by decide) (by decide) zf_i0) H) (fun H => zf_I e2 rfl (zf_as1 (by decide) (by decide) zf_i0) H)⟩
theorem zw_feed (J : zl_Jo L X m h) (d : Nat) (x1 x2 x3 x4 x5 : Int) : ∃ (v : Int) (h1 h2 : zv_H), C8_feed (d + 28) 1 x1 x2 x3 x4 x5 h = some (v, h1) ∧ C9_feed (d + 28) 347 x1 x2 x3 x4 x5 h1 = some (v, h2) ∧ zl_S L X h1 ∧ zl_Jo L X m h2 := by
  obtain ⟨v, h1, h2, e1, e2, S1, J2⟩ := zq_feed J.1 d x1 x2 x3 x4 x5
  exact ⟨v, h1, h2, e1, e2, S1, zl_Jo_k J J2 (fun H => zf_I e1 rfl (zf_as1 (by decide) (by decide) (zf_i1 (zf_i1 (zf_i1 (zf_i1 (zf_i1 zf_i0)))))) H) (fun H => zf_I e2 rfl (zf_as1 (by decide) (by decide) (zf_i1 (zf_i1 (zf_i1 (zf_i1 (zf_i1 zf_i0)))))) H)⟩
theorem zw_load (J : zl_Jo L X m h) (d : Nat) {x1 : Int} (r1 : zv_rg x1) : ∃ (v : Int) (h1 h2 : zv_H), C8_load (d + 28) 1 x1 h = some (v, h1) ∧ C9_load (d + 28) 347 x1 h1 = some (v, h2) ∧ zl_S L X h1 ∧ zl_Jo L X m h2 := by
  obtain ⟨v, h1, h2, e1, e2, S1, J2⟩ := zq_load J.1 d r1
  exact ⟨v, h1, h2, e1, e2, S1, zl_Jo_k J J2 (fun H => zf_I e1 rfl (zf_as1 (by decide) (by decide) (zf_i1 zf_i0)) H) (fun H => zf_I e2 rfl (zf_as1 (by decide) (by decide) (zf_i1 zf_i0)) H)⟩
theorem zw_fault (J : zl_Jo L X m h) (d : Nat) {x1 : Int} (r1 : zv_rg x1) : ∃ (v1 : Int) (h1 : zv_H) (v2 : Int) (h2 : zv_H), C8_fault (d + 28) 1 x1 h = some (v1, h1) ∧ C9_fault (d + 28) 347 x1 h1 = some (v2, h2) ∧ zl_S L X h1 ∧ zl_Jo L X m h2 := by
  obtain ⟨v1, h1, v2, h2, e1, e2, S1, J2⟩ := zq_fault J.1 d r1
  exact ⟨v1, h1, v2, h2, e1, e2, S1, zl_Jo_k J J2 (fun H => zf_I e1 rfl (zf_as1 (by decide) (by decide) (zf_i1 zf_i0)) H) (fun H => zf_I e2 rfl (zf_as1 (by decide) (by decide) (zf_i1 zf_i0)) H)⟩
theorem zw_type (J : zl_Jo L X m h) (d : Nat) (x1 x2 : Int) : ∃ (v : Int) (h1 h2 : zv_H), C8_type (d + 28) 1 x1 x2 h = some (v, h1) ∧ C9_type (d + 28) 347 x1 x2 h1 = some (v, h2) ∧ zl_S L X h1 ∧ zl_Jo L X m h2 := by
  obtain ⟨v, h1, h2, e1, e2, S1, J2⟩ := zq_type J.1 d x1 x2
  exact ⟨v, h1, h2, e1, e2, S1, zl_Jo_k J J2 (fun H => zf_I e1 rfl (zf_as1 (by decide) (by decide) (zf_i1 (zf_i1 zf_i0))) H) (fun H => zf_I e2 rfl (zf_as1 (by decide) (by decide) (zf_i1 (zf_i1 zf_i0))) H)⟩
theorem zw_many (J : zl_Jo L X m h) (d : Nat) {x1 : Int} (r1 : zv_rg x1) : ∃ (v1 : Int) (h1 : zv_H) (v2 : Int) (h2 : zv_H), C8_many (d + 28) 1 x1 h = some (v1, h1) ∧ C9_many (d + 28) 347 x1 h1 = some (v2, h2) ∧ zl_S L X h1 ∧ zl_Jo L X m h2 := by
  obtain ⟨v1, h1, v2, h2, e1, e2, S1, J2⟩ := zq_many J.1 d r1
  exact ⟨v1, h1, v2, h2, e1, e2, S1, zl_Jo_k J J2 (fun H => zf_I e1 rfl (zf_as1 (by decide) (by decide) (zf_i1 zf_i0)) H) (fun H => zf_I e2 rfl (zf_as1 (by decide) (by decide) (zf_i1 zf_i0)) H)⟩
theorem zw_letter (J : zl_Jo L X m h) (d : Nat) {x1 : Int} (r1 : zv_rg x1) {x2 : Int} (r2 : zv_rg x2) : ∃ (v1 : Int) (h1 : zv_H) (v2 : Int) (h2 : zv_H), C8_letter (d + 28) 1 x1 x2 h = some (v1, h1) ∧ C9_letter (d + 28) 347 x1 x2 h1 = some (v2, h2) ∧ zl_S L X h1 ∧ zl_Jo L X m h2 := by
  obtain ⟨v1, h1, v2, h2, e1, e2, S1, J2⟩ := zq_letter J.1 d r1 r2
  exact ⟨v1, h1, v2, h2, e1, e2, S1, zl_Jo_k J J2 (fun H => zf_I e1 rfl (zf_as1 (by decide) (by decide) (zf_i1 (zf_i1 zf_i0))) H) (fun H => zf_I e2 rfl (zf_as1 (by decide) (by decide) (zf_i1 (zf_i1 zf_i0))) H)⟩
theorem zw_state (J : zl_Jo L X m h) (d : Nat) {x1 : Int} (r1 : zv_rg x1) {x2 : Int} (r2 : zv_rg x2) : ∃ (v1 : Int) (h1 : zv_H) (v2 : Int) (h2 : zv_H), C8_state (d + 28) 1 x1 x2 h = some (v1, h1) ∧ C9_state (d + 28) 347 x1 x2 h1 = some (v2, h2) ∧ zl_S L X h1 ∧ zl_Jo L X m h2 := by
  obtain ⟨v1, h1, v2, h2, e1, e2, S1, J2⟩ := zq_state J.1 d r1 r2
  exact ⟨v1, h1, v2, h2, e1, e2, S1, zl_Jo_k J J2 (fun H => zf_I e1 rfl (zf_as1 (by decide) (by decide) (zf_i1 (zf_i1 zf_i0))) H) (fun H => zf_I e2 rfl (zf_as1 (by decide) (by decide) (zf_i1 (zf_i1 zf_i0))) H)⟩
theorem zw_child (J : zl_Jo L X m h) (d : Nat) {x1 : Int} (r1 : zv_rg x1) {x2 : Int} (r2 : zv_rg x2) : ∃ (v1 : Int) (h1 : zv_H) (v2 : Int) (h2 : zv_H), C8_child (d + 28) 1 x1 x2 h = some (v1, h1) ∧ C9_child (d + 28) 347 x1 x2 h1 = some (v2, h2) ∧ zl_S L X h1 ∧ zl_Jo L X m h2 := by
  obtain ⟨v1, h1, v2, h2, e1, e2, S1, J2⟩ := zq_child J.1 d r1 r2
  exact ⟨v1, h1, v2, h2, e1, e2, S1, zl_Jo_k J J2 (fun H => zf_I e1 rfl (zf_as1 (by decide) (by decide) (zf_i1 (zf_i1 zf_i0))) H) (fun H => zf_I e2 rfl (zf_as1 (by decide) (by decide) (zf_i1 (zf_i1 zf_i0))) H)⟩
theorem zw_force (J : zl_Jo L X m h) (d : Nat) {x1 : Int} (r1 : zv_rg x1) {x2 : Int} (r2 : zv_rg x2) : ∃ (v1 : Int) (h1 : zv_H) (v2 : Int) (h2 : zv_H), C8_force (d + 28) 1 x1 x2 h = some (v1, h1) ∧ C9_force (d + 28) 347 x1 x2 h1 = some (v2, h2) ∧ zl_S L X h1 ∧ zl_Jo L X m h2 := by
  obtain ⟨v1, h1, v2, h2, e1, e2, S1, J2⟩ := zq_force J.1 d r1 r2
  exact ⟨v1, h1, v2, h2, e1, e2, S1, zl_Jo_k J J2 (fun H => zf_I e1 rfl (zf_as1 (by decide) (by decide) (zf_i1 (zf_i1 zf_i0))) H) (fun H => zf_I e2 rfl (zf_as1 (by decide) (by decide) (zf_i1 (zf_i1 zf_i0))) H)⟩
theorem zw_blame (J : zl_Jo L X m h) (d : Nat) {x1 : Int} (r1 : zv_rg x1) {x2 : Int} (r2 : zv_rg x2) : ∃ (v1 : Int) (h1 : zv_H) (v2 : Int) (h2 : zv_H), C8_blame (d + 28) 1 x1 x2 h = some (v1, h1) ∧ C9_blame (d + 28) 347 x1 x2 h1 = some (v2, h2) ∧ zl_S L X h1 ∧ zl_Jo L X m h2 := by
  obtain ⟨v1, h1, v2, h2, e1, e2, S1, J2⟩ := zq_blame J.1 d r1 r2
  exact ⟨v1, h1, v2, h2, e1, e2, S1, zl_Jo_k J J2 (fun H => zf_I e1 rfl (zf_as1 (by decide) (by decide) (zf_i1 (zf_i1 zf_i0))) H) (fun H => zf_I e2 rfl (zf_as1 (by decide) (by decide) (zf_i1 (zf_i1 zf_i0))) H)⟩
theorem zw_row (J : zl_Jo L X m h) (d : Nat) {x1 : Int} (r1 : zv_rg x1) {x2 : Int} (r2 : zv_rg x2) : ∃ (v1 : Int) (h1 : zv_H) (v2 : Int) (h2 : zv_H), C8_row (d + 28) 1 x1 x2 h = some (v1, h1) ∧ C9_row (d + 28) 347 x1 x2 h1 = some (v2, h2) ∧ zl_S L X h1 ∧ zl_Jo L X m h2 := by
  obtain ⟨v1, h1, v2, h2, e1, e2, S1, J2⟩ := zq_row J.1 d r1 r2
  exact ⟨v1, h1, v2, h2, e1, e2, S1, zl_Jo_k J J2 (fun H => zf_I e1 rfl (zf_as1 (by decide) (by decide) (zf_i1 (zf_i1 zf_i0))) H) (fun H => zf_I e2 rfl (zf_as1 (by decide) (by decide) (zf_i1 (zf_i1 zf_i0))) H)⟩
theorem zw_visit (J : zl_Jo L X m h) (d : Nat) {x1 : Int} (r1 : zv_rg x1) {x2 : Int} (r2 : zv_rg x2) : ∃ (v1 : Int) (h1 : zv_H) (v2 : Int) (h2 : zv_H), C8_visit (d + 28) 1 x1 x2 h = some (v1, h1) ∧ C9_visit (d + 28) 347 x1 x2 h1 = some (v2, h2) ∧ zl_S L X h1 ∧ zl_Jo L X m h2 := by
  obtain ⟨v1, h1, v2, h2, e1, e2, S1, J2⟩ := zq_visit J.1 d r1 r2
  exact ⟨v1, h1, v2, h2, e1, e2, S1, zl_Jo_k J J2 (fun H => zf_I e1 rfl (zf_as1 (by decide) (by decide) (zf_i1 (zf_i1 zf_i0))) H) (fun H => zf_I e2 rfl (zf_as1 (by decide) (by decide) (zf_i1 (zf_i1 zf_i0))) H)⟩
theorem zw_named (J : zl_Jo L X m h) (d : Nat) : ∃ (v1 : Int) (h1 : zv_H) (v2 : Int) (h2 : zv_H), C8_named (d + 28) 1 h = some (v1, h1) ∧ C9_named (d + 28) 347 h1 = some (v2, h2) ∧ zl_S L X h1 ∧ zl_Jo L X m h2 := by
  obtain ⟨v1, h1, v2, h2, e1, e2, S1, J2⟩ := zq_named J.1 d
  exact ⟨v1, h1, v2, h2, e1, e2, S1, zl_Jo_k J J2 (fun H => zf_I e1 rfl (zf_as1 (by decide) (by decide) zf_i0) H) (fun H => zf_I e2 rfl (zf_as1 (by decide) (by decide) zf_i0) H)⟩
theorem zw_leans (J : zl_Jo L X m h) (d : Nat) {x1 : Int} (r1 : zv_rg x1) {x2 : Int} (r2 : zv_rg x2) : ∃ (v1 : Int) (h1 : zv_H) (v2 : Int) (h2 : zv_H), C8_leans (d + 28) 1 x1 x2 h = some (v1, h1) ∧ C9_leans (d + 28) 347 x1 x2 h1 = some (v2, h2) ∧ zl_S L X h1 ∧ zl_Jo L X m h2 := by
  obtain ⟨v1, h1, v2, h2, e1, e2, S1, J2⟩ := zq_leans J.1 d r1 r2
  exact ⟨v1, h1, v2, h2, e1, e2, S1, zl_Jo_k J J2 (fun H => zf_I e1 rfl (zf_as1 (by decide) (by decide) (zf_i1 (zf_i1 zf_i0))) H) (fun H => zf_I e2 rfl (zf_as1 (by decide) (by decide) (zf_i1 (zf_i1 zf_i0))) H)⟩
theorem zw_put (J : zl_Jo L X m h) (hm : m ≤ 600) (d : Nat) {x1 : Int} (r1 : zv_rg x1) : ∃ (v : Int) (h1 h2 : zv_H), C8_put (d + 28) 1 x1 h = some (v, h1) ∧ C9_put (d + 28) 347 x1 h1 = some (v, h2) ∧ zl_S L X h1 ∧ zl_Jo L X (m + 1) h2 := by
  obtain ⟨v, h1, h2, e1, e2, S1, J2⟩ := zq_put J.1 hm d r1
  exact ⟨v, h1, h2, e1, e2, S1, zl_Jo_k J J2 (fun H => zf_I e1 rfl (zf_as1 (by decide) (by decide) (zf_i1 zf_i0)) H) (fun H => zf_I e2 rfl (zf_as1 (by decide) (by decide) (zf_i1 zf_i0)) H)⟩
theorem zw_cut (J : zl_Jo L X m h) (hm : m ≤ 600) (d : Nat) {x1 : Int} (r1 : zv_rg x1) {x2 : Int} (r2 : zv_rg x2) : ∃ (v : Int) (h1 h2 : zv_H), C8_cut (d + 28) 1 x1 x2 h = some (v, h1) ∧ C9_cut (d + 28) 347 x1 x2 h1 = some (v, h2) ∧ zl_S L X h1 ∧ zl_Jo L X (m + 1) h2 := by
  obtain ⟨v, h1, h2, e1, e2, S1, J2⟩ := zq_cut J.1 hm d r1 r2
  exact ⟨v, h1, h2, e1, e2, S1, zl_Jo_k J J2 (fun H => zf_I e1 rfl (zf_as1 (by decide) (by decide) (zf_i1 (zf_i1 zf_i0))) H) (fun H => zf_I e2 rfl (zf_as1 (by decide) (by decide) (zf_i1 (zf_i1 zf_i0))) H)⟩
theorem zw_wait (J : zl_Jo L X m h) (hm : m ≤ 600) (d : Nat) {x1 : Int} (r1 : zv_rg x1) : ∃ (v : Int) (h1 h2 : zv_H), C8_wait (d + 28) 1 x1 h = some (v, h1) ∧ C9_wait (d + 28) 347 x1 h1 = some (v, h2) ∧ zl_S L X h1 ∧ zl_Jo L X (m + 1) h2 := by
  obtain ⟨v, h1, h2, e1, e2, S1, J2⟩ := zq_wait J.1 hm d r1
  exact ⟨v, h1, h2, e1, e2, S1, zl_Jo_k J J2 (fun H => zf_I e1 rfl (zf_as1 (by decide) (by decide) (zf_i1 zf_i0)) H) (fun H => zf_I e2 rfl (zf_as1 (by decide) (by decide) (zf_i1 zf_i0)) H)⟩
theorem zw_undo (J : zl_Jo L X m h) (hm : m ≤ 600) (d : Nat) : ∃ (v : Int) (h1 h2 : zv_H), C8_undo (d + 28) 1 h = some (v, h1) ∧ C9_undo (d + 28) 347 h1 = some (v, h2) ∧ zl_S L X h1 ∧ zl_Jo L X (m + 1) h2 := by
  obtain ⟨v, h1, h2, e1, e2, S1, J2⟩ := zq_undo J.1 hm d
  exact ⟨v, h1, h2, e1, e2, S1, zl_Jo_k J J2 (fun H => zf_I e1 rfl (zf_as1 (by decide) (by decide) zf_i0) H) (fun H => zf_I e2 rfl (zf_as1 (by decide) (by decide) zf_i0) H)⟩
theorem zw_redo (J : zl_Jo L X m h) (hm : m ≤ 600) (d : Nat) : ∃ (v : Int) (h1 h2 : zv_H), C8_redo (d + 28) 1 h = some (v, h1) ∧ C9_redo (d + 28) 347 h1 = some (v, h2) ∧ zl_S L X h1 ∧ zl_Jo L X (m + 1) h2 := by
  obtain ⟨v, h1, h2, e1, e2, S1, J2⟩ := zq_redo J.1 hm d
  exact ⟨v, h1, h2, e1, e2, S1, zl_Jo_k J J2 (fun H => zf_I e1 rfl (zf_as1 (by decide) (by decide) zf_i0) H) (fun H => zf_I e2 rfl (zf_as1 (by decide) (by decide) zf_i0) H)⟩
theorem zw_go (J : zl_Jo L X m h) (hm : m ≤ 600) (d : Nat) {x1 : Int} (r1 : zv_rg x1) : ∃ (v : Int) (h1 h2 : zv_H), C8_go (d + 28) 1 x1 h = some (v, h1) ∧ C9_go (d + 28) 347 x1 h1 = some (v, h2) ∧ zl_S L X h1 ∧ zl_Jo L X (m + 1) h2 := by
  obtain ⟨v, h1, h2, e1, e2, S1, J2⟩ := zq_go J.1 hm d r1
  exact ⟨v, h1, h2, e1, e2, S1, zl_Jo_k J J2 (fun H => zf_I e1 rfl (zf_as1 (by decide) (by decide) (zf_i1 zf_i0)) H) (fun H => zf_I e2 rfl (zf_as1 (by decide) (by decide) (zf_i1 zf_i0)) H)⟩
theorem zw_name (J : zl_Jo L X m h) (hm : m ≤ 600) (d : Nat) : ∃ (v : Int) (h1 h2 : zv_H), C8_name (d + 28) 1 h = some (v, h1) ∧ C9_name (d + 28) 347 h1 = some (v, h2) ∧ zl_S L X h1 ∧ zl_Jo L X (m + 1) h2 := by
  obtain ⟨v, h1, h2, e1, e2, S1, J2⟩ := zq_name J.1 hm d
  exact ⟨v, h1, h2, e1, e2, S1, zl_Jo_k J J2 (fun H => zf_I e1 rfl (zf_as1 (by decide) (by decide) zf_i0) H) (fun H => zf_I e2 rfl (zf_as1 (by decide) (by decide) zf_i0) H)⟩
theorem zw_unname (J : zl_Jo L X m h) (hm : m ≤ 600) (d : Nat) : ∃ (v : Int) (h1 h2 : zv_H), C8_unname (d + 28) 1 h = some (v, h1) ∧ C9_unname (d + 28) 347 h1 = some (v, h2) ∧ zl_S L X h1 ∧ zl_Jo L X (m + 1) h2 := by
  obtain ⟨v, h1, h2, e1, e2, S1, J2⟩ := zq_unname J.1 hm d
  exact ⟨v, h1, h2, e1, e2, S1, zl_Jo_k J J2 (fun H => zf_I e1 rfl (zf_as1 (by decide) (by decide) zf_i0) H) (fun H => zf_I e2 rfl (zf_as1 (by decide) (by decide) zf_i0) H)⟩
theorem zw_withdraw (J : zl_Jo L X m h) (hm : m ≤ 600) (d : Nat) {x1 : Int} (r1 : zv_rg x1) : ∃ (v : Int) (h1 h2 : zv_H), C8_withdraw (d + 28) 1 x1 h = some (v, h1) ∧ C9_withdraw (d + 28) 347 x1 h1 = some (v, h2) ∧ zl_S L X h1 ∧ zl_Jo L X (m + 1) h2 := by
  obtain ⟨v, h1, h2, e1, e2, S1, J2⟩ := zq_withdraw J.1 hm d r1
  exact ⟨v, h1, h2, e1, e2, S1, zl_Jo_k J J2 (fun H => zf_I e1 rfl (zf_as1 (by decide) (by decide) (zf_i1 zf_i0)) H) (fun H => zf_I e2 rfl (zf_as1 (by decide) (by decide) (zf_i1 zf_i0)) H)⟩
theorem zw_restore (J : zl_Jo L X m h) (hm : m ≤ 600) (d : Nat) {x1 : Int} (r1 : zv_rg x1) : ∃ (v : Int) (h1 h2 : zv_H), C8_restore (d + 28) 1 x1 h = some (v, h1) ∧ C9_restore (d + 28) 347 x1 h1 = some (v, h2) ∧ zl_S L X h1 ∧ zl_Jo L X (m + 1) h2 := by
  obtain ⟨v, h1, h2, e1, e2, S1, J2⟩ := zq_restore J.1 hm d r1
  exact ⟨v, h1, h2, e1, e2, S1, zl_Jo_k J J2 (fun H => zf_I e1 rfl (zf_as1 (by decide) (by decide) (zf_i1 zf_i0)) H) (fun H => zf_I e2 rfl (zf_as1 (by decide) (by decide) (zf_i1 zf_i0)) H)⟩
theorem zw_carry (J : zl_Jo L X m h) (hm : m ≤ 600) (d : Nat) {x1 : Int} (r1 : zv_rg x1) : ∃ (v : Int) (h1 h2 : zv_H), C8_carry (d + 28) 1 x1 h = some (v, h1) ∧ C9_carry (d + 28) 347 x1 h1 = some (v, h2) ∧ zl_S L X h1 ∧ zl_Jo L X (m + 1) h2 := by
  obtain ⟨v, h1, h2, e1, e2, S1, J2⟩ := zq_carry J.1 hm d r1
  exact ⟨v, h1, h2, e1, e2, S1, zl_Jo_k J J2 (fun H => zf_I e1 rfl (zf_as1 (by decide) (by decide) (zf_i1 zf_i0)) H) (fun H => zf_I e2 rfl (zf_as1 (by decide) (by decide) (zf_i1 zf_i0)) H)⟩
theorem zw_merge (J : zl_Jo L X m h) (hm : m ≤ 600) (d : Nat) {x1 : Int} (r1 : zv_rg x1) : ∃ (v : Int) (h1 h2 : zv_H), C8_merge (d + 28) 1 x1 h = some (v, h1) ∧ C9_merge (d + 28) 347 x1 h1 = some (v, h2) ∧ zl_S L X h1 ∧ zl_Jo L X (m + 1) h2 := by
  obtain ⟨v, h1, h2, e1, e2, S1, J2⟩ := zq_merge J.1 hm d r1
  exact ⟨v, h1, h2, e1, e2, S1, zl_Jo_k J J2 (fun H => zf_I e1 rfl (zf_as1 (by decide) (by decide) (zf_i1 zf_i0)) H) (fun H => zf_I e2 rfl (zf_as1 (by decide) (by decide) (zf_i1 zf_i0)) H)⟩
theorem zw_prune (J : zl_Jo L X m h) (hm : m ≤ 600) (d : Nat) {x1 : Int} (r1 : zv_rg x1) : ∃ (v : Int) (h1 h2 : zv_H), C8_prune (d + 28) 1 x1 h = some (v, h1) ∧ C9_prune (d + 28) 347 x1 h1 = some (v, h2) ∧ zl_S L X h1 ∧ zl_Jo L X (m + 1) h2 := by
  obtain ⟨v, h1, h2, e1, e2, S1, J2⟩ := zq_prune J.1 hm d r1
  exact ⟨v, h1, h2, e1, e2, S1, zl_Jo_k J J2 (fun H => zf_I e1 rfl (zf_as1 (by decide) (by decide) (zf_i1 zf_i0)) H) (fun H => zf_I e2 rfl (zf_as1 (by decide) (by decide) (zf_i1 zf_i0)) H)⟩
theorem zw_common (J : zl_Jo L X m h) (d : Nat) {x1 : Int} (r1 : zv_rg x1) {x2 : Int} (r2 : zv_rg x2) : ∃ (v1 : Int) (h1 : zv_H) (v2 : Int) (h2 : zv_H), C8_common (d + 28) 1 x1 x2 h = some (v1, h1) ∧ C9_common (d + 28) 347 x1 x2 h1 = some (v2, h2) ∧ zl_S L X h1 ∧ zl_Jo L X m h2 := by
  obtain ⟨v1, h1, v2, h2, e1, e2, S1, J2⟩ := zq_common J.1 d r1 r2
  exact ⟨v1, h1, v2, h2, e1, e2, S1, zl_Jo_k J J2 (fun H => zf_I e1 rfl (zf_as1 (by decide) (by decide) (zf_i1 (zf_i1 zf_i0))) H) (fun H => zf_I e2 rfl (zf_as1 (by decide) (by decide) (zf_i1 (zf_i1 zf_i0))) H)⟩
theorem zw_way (J : zl_Jo L X m h) (d : Nat) {x1 : Int} (r1 : zv_rg x1) {x2 : Int} (r2 : zv_rg x2) {x3 : Int} (r3 : zv_rg x3) : ∃ (v1 : Int) (h1 : zv_H) (v2 : Int) (h2 : zv_H), C8_way (d + 28) 1 x1 x2 x3 h = some (v1, h1) ∧ C9_way (d + 28) 347 x1 x2 x3 h1 = some (v2, h2) ∧ zl_S L X h1 ∧ zl_Jo L X m h2 := by
  obtain ⟨v1, h1, v2, h2, e1, e2, S1, J2⟩ := zq_way J.1 d r1 r2 r3
  exact ⟨v1, h1, v2, h2, e1, e2, S1, zl_Jo_k J J2 (fun H => zf_I e1 rfl (zf_as1 (by decide) (by decide) (zf_i1 (zf_i1 (zf_i1 zf_i0)))) H) (fun H => zf_I e2 rfl (zf_as1 (by decide) (by decide) (zf_i1 (zf_i1 (zf_i1 zf_i0)))) H)⟩
theorem zw_between (J : zl_Jo L X m h) (d : Nat) {x1 : Int} (r1 : zv_rg x1) {x2 : Int} (r2 : zv_rg x2) {x3 : Int} (r3 : zv_rg x3) : ∃ (v1 : Int) (h1 : zv_H) (v2 : Int) (h2 : zv_H), C8_between (d + 28) 1 x1 x2 x3 h = some (v1, h1) ∧ C9_between (d + 28) 347 x1 x2 x3 h1 = some (v2, h2) ∧ zl_S L X h1 ∧ zl_Jo L X m h2 := by
  obtain ⟨v1, h1, v2, h2, e1, e2, S1, J2⟩ := zq_between J.1 d r1 r2 r3
  exact ⟨v1, h1, v2, h2, e1, e2, S1, zl_Jo_k J J2 (fun H => zf_I e1 rfl (zf_as1 (by decide) (by decide) (zf_i1 (zf_i1 (zf_i1 zf_i0)))) H) (fun H => zf_I e2 rfl (zf_as1 (by decide) (by decide) (zf_i1 (zf_i1 (zf_i1 zf_i0)))) H)⟩
theorem zw_least (J : zl_Jo L X m h) (d : Nat) {x1 : Int} (r1 : zv_rg x1) {x2 : Int} (r2 : zv_rg x2) : ∃ (v1 : Int) (h1 : zv_H) (v2 : Int) (h2 : zv_H), C8_least (d + 28) 1 x1 x2 h = some (v1, h1) ∧ C9_least (d + 28) 347 x1 x2 h1 = some (v2, h2) ∧ zl_S L X h1 ∧ zl_Jo L X m h2 := by
  obtain ⟨v1, h1, v2, h2, e1, e2, S1, J2⟩ := zq_least J.1 d r1 r2
  exact ⟨v1, h1, v2, h2, e1, e2, S1, zl_Jo_k J J2 (fun H => zf_I e1 rfl (zf_as1 (by decide) (by decide) (zf_i1 (zf_i1 zf_i0))) H) (fun H => zf_I e2 rfl (zf_as1 (by decide) (by decide) (zf_i1 (zf_i1 zf_i0))) H)⟩
theorem zw_merges (J : zl_Jo L X m h) (hm : m ≤ 600) (d : Nat) {x1 : Int} (r1 : zv_rg x1) {x2 : Int} (r2 : zv_rg x2) : ∃ (v : Int) (h1 h2 : zv_H), C8_merges (d + 28) 1 x1 x2 h = some (v, h1) ∧ C9_merges (d + 28) 347 x1 x2 h1 = some (v, h2) ∧ zl_S L X h1 ∧ zl_Jo L X (m + 1) h2 := by
  obtain ⟨v, h1, h2, e1, e2, S1, J2⟩ := zq_merges J.1 hm d r1 r2
  exact ⟨v, h1, h2, e1, e2, S1, zl_Jo_k J J2 (fun H => zf_I e1 rfl (zf_as1 (by decide) (by decide) (zf_i1 (zf_i1 zf_i0))) H) (fun H => zf_I e2 rfl (zf_as1 (by decide) (by decide) (zf_i1 (zf_i1 zf_i0))) H)⟩
theorem zw_tell_ (J : zl_Jo L X m h) (d : Nat) {x1 : Int} (r1 : zv_rg x1) : ∃ (v : Int) (h1 h2 : zv_H), C8_tell (d + 28) 1 x1 h = some (v, h1) ∧ C9_tell (d + 28) 347 x1 h1 = some (v, h2) ∧ zl_S L X h1 ∧ zl_Jo L X m h2 := zl_askO J (C' := fun h1 => C9_tell (d + 28) 347 x1 h1) (zq_tell J.1 d r1) (zm_mono (zd_C8_tell J.1.1.1 r1) (fun _ w => w.1)) (fun h1 i => zm_tell i _ _) (fun a b k I S O => by
  obtain ⟨v, g', k', e1, e2, f⟩ := zp_tell (d := d) (D := d) J.1.1.1 I S x1
  exact ⟨v, g', k', e1, e2, f O⟩)
theorem zw_tell (J : zl_Jo L X m h) (d : Nat) {x1 : Int} (r1 : zv_rg x1) : ∃ (v1 : Int) (h1 : zv_H) (v2 : Int) (h2 : zv_H), C8_tell (d + 28) 1 x1 h = some (v1, h1) ∧ C9_tell (d + 28) 347 x1 h1 = some (v2, h2) ∧ zl_S L X h1 ∧ zl_Jo L X m h2 := by
  obtain ⟨v, h1, h2, e1, e2, S1, J2⟩ := zw_tell_ J d r1
  exact ⟨v, h1, v, h2, e1, e2, S1, J2⟩
theorem zw_out (J : zl_Jo L X m h) (d : Nat) {x1 : Int} (r1 : zv_rg x1) : ∃ (v : Int) (h1 h2 : zv_H), C8_out (d + 28) 1 x1 h = some (v, h1) ∧ C9_out (d + 28) 347 x1 h1 = some (v, h2) ∧ zl_S L X h1 ∧ zl_Jo L X m h2 := zl_askO J (C' := fun h1 => C9_out (d + 28) 347 x1 h1) (zq_out J.1 d r1) (zm_mono (zd_C8_out J.1.1.1 zc_h8 r1) (fun _ w => w.1)) (fun h1 i => zm_out i _ _) (fun a b k I S O => zp_out (a := a) (b := b) (d := d) (D := d) J.1.1.1 I O x1)
theorem zw_leaning (J : zl_Jo L X m h) (d : Nat) {x1 : Int} (r1 : zv_rg x1) {x2 : Int} (r2 : zv_rg x2) : ∃ (v1 : Int) (h1 : zv_H) (v2 : Int) (h2 : zv_H), C8_leaning (d + 28) 1 x1 x2 h = some (v1, h1) ∧ C9_leaning (d + 28) 347 x1 x2 h1 = some (v2, h2) ∧ zl_S L X h1 ∧ zl_Jo L X m h2 := by
  obtain ⟨v1, h1, v2, h2, e1, e2, S1, J2⟩ := zq_leaning J.1 d r1 r2
  exact ⟨v1, h1, v2, h2, e1, e2, S1, zl_Jo_k J J2 (fun H => zf_I e1 rfl (zf_as1 (by decide) (by decide) (zf_i1 (zf_i1 zf_i0))) H) (fun H => zf_I e2 rfl (zf_as1 (by decide) (by decide) (zf_i1 (zf_i1 zf_i0))) H)⟩
theorem zw_find (J : zl_Jo L X m h) (d : Nat) {x1 : Int} (r1 : zv_rg x1) : ∃ (v1 : Int) (h1 : zv_H) (v2 : Int) (h2 : zv_H), C8_find (d + 28) 1 x1 h = some (v1, h1) ∧ C9_find (d + 28) 347 x1 h1 = some (v2, h2) ∧ zl_S L X h1 ∧ zl_Jo L X m h2 := by
  obtain ⟨v1, h1, v2, h2, e1, e2, S1, J2⟩ := zq_find J.1 d r1
  exact ⟨v1, h1, v2, h2, e1, e2, S1, zl_Jo_k J J2 (fun H => zf_I e1 rfl (zf_as1 (by decide) (by decide) (zf_i1 zf_i0)) H) (fun H => zf_I e2 rfl (zf_as1 (by decide) (by decide) (zf_i1 zf_i0)) H)⟩
theorem zw_first (J : zl_Jo L X m h) (d : Nat) : ∃ (v1 : Int) (h1 : zv_H) (v2 : Int) (h2 : zv_H), C8_first (d + 28) 1 h = some (v1, h1) ∧ C9_first (d + 28) 347 h1 = some (v2, h2) ∧ zl_S L X h1 ∧ zl_Jo L X m h2 := by
  obtain ⟨v1, h1, v2, h2, e1, e2, S1, J2⟩ := zq_first J.1 d
  exact ⟨v1, h1, v2, h2, e1, e2, S1, zl_Jo_k J J2 (fun H => zf_I e1 rfl (zf_as1 (by decide) (by decide) zf_i0) H) (fun H => zf_I e2 rfl (zf_as1 (by decide) (by decide) zf_i0) H)⟩
theorem zw_twin (J : zl_Jo L X m h) (d : Nat) {x1 : Int} (r1 : zv_rg x1) : ∃ (v1 : Int) (h1 : zv_H) (v2 : Int) (h2 : zv_H), C8_twin (d + 28) 1 x1 h = some (v1, h1) ∧ C9_twin (d + 28) 347 x1 h1 = some (v2, h2) ∧ zl_S L X h1 ∧ zl_Jo L X m h2 := by
  obtain ⟨v1, h1, v2, h2, e1, e2, S1, J2⟩ := zq_twin J.1 d r1
  exact ⟨v1, h1, v2, h2, e1, e2, S1, zl_Jo_k J J2 (fun H => zf_I e1 rfl (zf_as1 (by decide) (by decide) (zf_i1 zf_i0)) H) (fun H => zf_I e2 rfl (zf_as1 (by decide) (by decide) (zf_i1 zf_i0)) H)⟩
theorem zw_back (J : zl_Jo L X m h) (d : Nat) {x1 : Int} (r1 : zv_rg x1) : ∃ (v1 : Int) (h1 : zv_H) (v2 : Int) (h2 : zv_H), C8_back (d + 28) 1 x1 h = some (v1, h1) ∧ C9_back (d + 28) 347 x1 h1 = some (v2, h2) ∧ zl_S L X h1 ∧ zl_Jo L X m h2 := by
  obtain ⟨v1, h1, v2, h2, e1, e2, S1, J2⟩ := zq_back J.1 d r1
  exact ⟨v1, h1, v2, h2, e1, e2, S1, zl_Jo_k J J2 (fun H => zf_I e1 rfl (zf_as1 (by decide) (by decide) (zf_i1 zf_i0)) H) (fun H => zf_I e2 rfl (zf_as1 (by decide) (by decide) (zf_i1 zf_i0)) H)⟩
end
end
/-! C90.zx -/
section
/-! ===== queries as the law asks them (genzx.py) ===== -/
section
variable {L : Nat} {X : Nat → Int} {m : Nat} {h : zv_H}
theorem zx_many (J : zl_J L X m h) (d : Nat) {x1 : Int} (r1 : zv_rg x1) : ∃ (v : Int) (h1 h2 : zv_H), C8_many (d + 28) 1 x1 h = some (v, h1) ∧ C9_many (d + 28) 347 x1 h1 = some (v, h2) ∧ zl_S L X h1 ∧ zl_J L X m h2 := zl_askx J (C' := fun h1 => C9_many (d + 28) 347 x1 h1) (zq_many J d r1) (zl_q (zc_Qp (K := fun _ => True) (zc_C8_many J.1.1 zc_h8 r1))) (fun a b k I S => by
  obtain ⟨v, g', k', e1, e2⟩ := zp_many (d := d) (D := d) J.1.1 I S x1
  exact ⟨v, g', k', e1, e2⟩)
theorem zx_letter (J : zl_J L X m h) (d : Nat) {x1 : Int} (r1 : zv_rg x1) {x2 : Int} (r2 : zv_rg x2) : ∃ (v : Int) (h1 h2 : zv_H), C8_letter (d + 28) 1 x1 x2 h = some (v, h1) ∧ C9_letter (d + 28) 347 x1 x2 h1 = some (v, h2) ∧ zl_S L X h1 ∧ zl_J L X m h2 := zl_askx J (C' := fun h1 => C9_letter (d + 28) 347 x1 x2 h1) (zq_letter J d r1 r2) (zl_q (zc_Qp (K := fun _ => True) (zc_C8_letter J.1.1 zc_h8 r1 r2))) (fun a b k I S => by
  obtain ⟨v, g', k', e1, e2⟩ := zp_letter (d := d) (D := d) J.1.1 I S x1 x2
  exact ⟨v, g', k', e1, e2⟩)
theorem zx_state (J : zl_J L X m h) (d : Nat) {x1 : Int} (r1 : zv_rg x1) {x2 : Int} (r2 : zv_rg x2) : ∃ (v : Int) (h1 h2 : zv_H), C8_state (d + 28) 1 x1 x2 h = some (v, h1) ∧ C9_state (d + 28) 347 x1 x2 h1 = some (v, h2) ∧ zl_S L X h1 ∧ zl_J L X m h2 := zl_askx J (C' := fun h1 => C9_state (d + 28) 347 x1 x2 h1) (zq_state J d r1 r2) (zl_q (zc_Qp (K := fun _ => True) (zc_C8_state J.1.1 zc_h8 r1 r2))) (fun a b k I S => by
  obtain ⟨v, g', k', e1, e2⟩ := zp_state (d := d) (D := d) J.1.1 I S x1 x2
  exact ⟨v, g', k', e1, e2⟩)
theorem zx_child (J : zl_J L X m h) (hm : m ≤ 600) (d : Nat) {x1 : Int} (r1 : zv_rg x1) {x2 : Int} (r2 : zv_rg x2) : ∃ (v : Int) (h1 h2 : zv_H), C8_child (d + 28) 1 x1 x2 h = some (v, h1) ∧ C9_child (d + 28) 347 x1 x2 h1 = some (v, h2) ∧ zl_S L X h1 ∧ zl_J L X m h2 := zl_askx J (C' := fun h1 => C9_child (d + 28) 347 x1 x2 h1) (zq_child J d r1 r2) (zl_q (zc_Qp (K := fun _ => True) (zc_C8_child J.1.1 zc_h8 r1 r2))) (fun a b k I S => by
  obtain ⟨v, g', k', e1, e2⟩ := zp_child (d := d) (D := d) J.1.1 I S (show m ≤ 100000 by omega) x1 r2
  exact ⟨v, g', k', e1, e2⟩)
theorem zx_force (J : zl_J L X m h) (d : Nat) {x1 : Int} (r1 : zv_rg x1) {x2 : Int} (r2 : zv_rg x2) : ∃ (v : Int) (h1 h2 : zv_H), C8_force (d + 28) 1 x1 x2 h = some (v, h1) ∧ C9_force (d + 28) 347 x1 x2 h1 = some (v, h2) ∧ zl_S L X h1 ∧ zl_J L X m h2 := zl_askx J (C' := fun h1 => C9_force (d + 28) 347 x1 x2 h1) (zq_force J d r1 r2) (zl_q (zc_Qp (K := fun _ => True) (zc_C8_force J.1.1 zc_h8 r1 r2))) (fun a b k I S => by
  obtain ⟨v, g', k', e1, e2⟩ := zp_force (d := d) (D := d) J.1.1 I S x1 x2
  exact ⟨v, g', k', e1, e2⟩)
theorem zx_blame (J : zl_J L X m h) (d : Nat) {x1 : Int} (r1 : zv_rg x1) {x2 : Int} (r2 : zv_rg x2) : ∃ (v : Int) (h1 h2 : zv_H), C8_blame (d + 28) 1 x1 x2 h = some (v, h1) ∧ C9_blame (d + 28) 347 x1 x2 h1 = some (v, h2) ∧ zl_S L X h1 ∧ zl_J L X m h2 := zl_askx J (C' := fun h1 => C9_blame (d + 28) 347 x1 x2 h1) (zq_blame J d r1 r2) (zl_q (zc_Qp (K := fun _ => True) (zc_C8_blame J.1.1 zc_h8 r1 r2))) (fun a b k I S => by
  obtain ⟨v, g', k', e1, e2⟩ := zp_blame (d := d) (D := d) J.1.1 I S x1 x2
  exact ⟨v, g', k', e1, e2⟩)
theorem zx_row (J : zl_J L X m h) (d : Nat) {x1 : Int} (r1 : zv_rg x1) {x2 : Int} (r2 : zv_rg x2) : ∃ (v : Int) (h1 h2 : zv_H), C8_row (d + 28) 1 x1 x2 h = some (v, h1) ∧ C9_row (d + 28) 347 x1 x2 h1 = some (v, h2) ∧ zl_S L X h1 ∧ zl_J L X m h2 := zl_askx J (C' := fun h1 => C9_row (d + 28) 347 x1 x2 h1) (zq_row J d r1 r2) (zl_q (zc_Qp (K := fun _ => True) (zc_C8_row J.1.1 zc_h8 r1 r2))) (fun a b k I S => by
  obtain ⟨v, g', k', e1, e2⟩ := zp_row (d := d) (D := d) J.1.1 I S x1 x2
  exact ⟨v, g', k', e1, e2⟩)
theorem zx_visit (J : zl_J L X m h) (hm : m ≤ 600) (d : Nat) {x1 : Int} (r1 : zv_rg x1) {x2 : Int} (r2 : zv_rg x2) : ∃ (v : Int) (h1 h2 : zv_H), C8_visit (d + 28) 1 x1 x2 h = some (v, h1) ∧ C9_visit (d + 28) 347 x1 x2 h1 = some (v, h2) ∧ zl_S L X h1 ∧ zl_J L X m h2 := zl_askx J (C' := fun h1 => C9_visit (d + 28) 347 x1 x2 h1) (zq_visit J d r1 r2) (zl_q (zc_Qp (K := fun _ => True) (zc_C8_visit J.1.1 zc_h8 r1 r2))) (fun a b k I S => by
  obtain ⟨v, g', k', e1, e2⟩ := zp_visit (d := d) (D := d) J.1.1 I S (show m ≤ 100000 by omega) x1 x2
  exact ⟨v, g', k', e1, e2⟩)
theorem zx_named (J : zl_J L X m h) (d : Nat) : ∃ (v : Int) (h1 h2 : zv_H), C8_named (d + 28) 1 h = some (v, h1) ∧ C9_named (d + 28) 347 h1 = some (v, h2) ∧ zl_S L X h1 ∧ zl_J L X m h2 := zl_askx J (C' := fun h1 => C9_named (d + 28) 347 h1) (zq_named J d ) (zl_q (zc_Qp (K := fun _ => True) (zc_C8_named J.1.1 zc_h8 ))) (fun a b k I S => by
  obtain ⟨v, g', k', e1, e2⟩ := zp_named (d := d) (D := d) J.1.1 I S
  exact ⟨v, g', k', e1, e2⟩)
theorem zx_common (J : zl_J L X m h) (d : Nat) {x1 : Int} (r1 : zv_rg x1) {x2 : Int} (r2 : zv_rg x2) : ∃ (v : Int) (h1 h2 : zv_H), C8_common (d + 28) 1 x1 x2 h = some (v, h1) ∧ C9_common (d + 28) 347 x1 x2 h1 = some (v, h2) ∧ zl_S L X h1 ∧ zl_J L X m h2 := zl_askx J (C' := fun h1 => C9_common (d + 28) 347 x1 x2 h1) (zq_common J d r1 r2) (zl_q (zc_Qp (K := fun _ => True) (zc_C8_common J.1.1 zc_h8 r1 r2))) (fun a b k I S => by
  obtain ⟨v, g', k', e1, e2⟩ := zp_common (d := d) (D := d) J.1.1 I S x1 x2
  exact ⟨v, g', k', e1, e2⟩)
theorem zx_way (J : zl_J L X m h) (d : Nat) {x1 : Int} (r1 : zv_rg x1) {x2 : Int} (r2 : zv_rg x2) {x3 : Int} (r3 : zv_rg x3) : ∃ (v : Int) (h1 h2 : zv_H), C8_way (d + 28) 1 x1 x2 x3 h = some (v, h1) ∧ C9_way (d + 28) 347 x1 x2 x3 h1 = some (v, h2) ∧ zl_S L X h1 ∧ zl_J L X m h2 := zl_askx J (C' := fun h1 => C9_way (d + 28) 347 x1 x2 x3 h1) (zq_way J d r1 r2 r3) (zl_q (zc_Qp (K := fun _ => True) (zc_C8_way J.1.1 zc_h8 r1 r2 r3))) (fun a b k I S => by
  obtain ⟨v, g', k', e1, e2⟩ := zp_way (d := d) (D := d) J.1.1 I S x1 x2 x3
  exact ⟨v, g', k', e1, e2⟩)
theorem zx_between (J : zl_J L X m h) (d : Nat) {x1 : Int} (r1 : zv_rg x1) {x2 : Int} (r2 : zv_rg x2) {x3 : Int} (r3 : zv_rg x3) : ∃ (v : Int) (h1 h2 : zv_H), C8_between (d + 28) 1 x1 x2 x3 h = some (v, h1) ∧ C9_between (d + 28) 347 x1 x2 x3 h1 = some (v, h2) ∧ zl_S L X h1 ∧ zl_J L X m h2 := zl_askx J (C' := fun h1 => C9_between (d + 28) 347 x1 x2 x3 h1) (zq_between J d r1 r2 r3) (zl_q (zc_Qp (K := fun _ => True) (zc_C8_between J.1.1 zc_h8 r1 r2 r3))) (fun a b k I S => by
  obtain ⟨v, g', k', e1, e2⟩ := zp_between (d := d) (D := d) J.1.1 I S x1 x2 x3
  exact ⟨v, g', k', e1, e2⟩)
theorem zx_least (J : zl_J L X m h) (d : Nat) {x1 : Int} (r1 : zv_rg x1) {x2 : Int} (r2 : zv_rg x2) : ∃ (v : Int) (h1 h2 : zv_H), C8_least (d + 28) 1 x1 x2 h = some (v, h1) ∧ C9_least (d + 28) 347 x1 x2 h1 = some (v, h2) ∧ zl_S L X h1 ∧ zl_J L X m h2 := zl_askx J (C' := fun h1 => C9_least (d + 28) 347 x1 x2 h1) (zq_least J d r1 r2) (zl_q (zc_Qp (K := fun _ => True) (zc_C8_least J.1.1 zc_h8 r1 r2))) (fun a b k I S => by
  obtain ⟨v, g', k', e1, e2⟩ := zp_least (d := d) (D := d) J.1.1 I S x1 x2
  exact ⟨v, g', k', e1, e2⟩)
theorem zx_tell (J : zl_J L X m h) (d : Nat) {x1 : Int} (r1 : zv_rg x1) : ∃ (v : Int) (h1 h2 : zv_H), C8_tell (d + 28) 1 x1 h = some (v, h1) ∧ C9_tell (d + 28) 347 x1 h1 = some (v, h2) ∧ zl_S L X h1 ∧ zl_J L X m h2 := zl_askx J (C' := fun h1 => C9_tell (d + 28) 347 x1 h1) (zq_tell J d r1) (zl_q (zc_C8_tell J.1.1 r1)) (fun a b k I S => by
  obtain ⟨v, g', k', e1, e2, _⟩ := zp_tell (d := d) (D := d) J.1.1 I S x1
  exact ⟨v, g', k', e1, e2⟩)
theorem zx_leaning (J : zl_J L X m h) (d : Nat) {x1 : Int} (r1 : zv_rg x1) {x2 : Int} (r2 : zv_rg x2) : ∃ (v : Int) (h1 h2 : zv_H), C8_leaning (d + 28) 1 x1 x2 h = some (v, h1) ∧ C9_leaning (d + 28) 347 x1 x2 h1 = some (v, h2) ∧ zl_S L X h1 ∧ zl_J L X m h2 := zl_askx J (C' := fun h1 => C9_leaning (d + 28) 347 x1 x2 h1) (zq_leaning J d r1 r2) (zl_q (zc_Qp (K := fun _ => True) (zc_C8_leaning J.1.1 zc_h8 r1 r2))) (fun a b k I S => by
  obtain ⟨v, g', k', e1, e2⟩ := zp_leaning (d := d) (D := d) J.1.1 I S x1 x2
  exact ⟨v, g', k', e1, e2⟩)
theorem zx_find (J : zl_J L X m h) (d : Nat) {x1 : Int} (r1 : zv_rg x1) : ∃ (v : Int) (h1 h2 : zv_H), C8_find (d + 28) 1 x1 h = some (v, h1) ∧ C9_find (d + 28) 347 x1 h1 = some (v, h2) ∧ zl_S L X h1 ∧ zl_J L X m h2 := zl_askx J (C' := fun h1 => C9_find (d + 28) 347 x1 h1) (zq_find J d r1) (zl_q (zc_Qp (K := fun _ => True) (zc_C8_find J.1.1 zc_h8 r1))) (fun a b k I S => by
  obtain ⟨v, g', k', e1, e2⟩ := zp_find (d := d) (D := d) J.1.1 I S x1
  exact ⟨v, g', k', e1, e2⟩)
theorem zx_first (J : zl_J L X m h) (d : Nat) : ∃ (v : Int) (h1 h2 : zv_H), C8_first (d + 28) 1 h = some (v, h1) ∧ C9_first (d + 28) 347 h1 = some (v, h2) ∧ zl_S L X h1 ∧ zl_J L X m h2 := zl_askx J (C' := fun h1 => C9_first (d + 28) 347 h1) (zq_first J d ) (zl_q (zc_Qp (K := fun _ => True) (zc_C8_first J.1.1 zc_h8 ))) (fun a b k I S => by
  obtain ⟨v, g', k', e1, e2⟩ := zp_first (d := d) (D := d) J.1.1 I S
  exact ⟨v, g', k', e1, e2⟩)
theorem zx_twin (J : zl_J L X m h) (d : Nat) {x1 : Int} (r1 : zv_rg x1) : ∃ (v : Int) (h1 h2 : zv_H), C8_twin (d + 28) 1 x1 h = some (v, h1) ∧ C9_twin (d + 28) 347 x1 h1 = some (v, h2) ∧ zl_S L X h1 ∧ zl_J L X m h2 := zl_askx J (C' := fun h1 => C9_twin (d + 28) 347 x1 h1) (zq_twin J d r1) (zl_q (zc_Qp (K := fun _ => True) (zc_C8_twin J.1.1 zc_h8 r1))) (fun a b k I S => by
  obtain ⟨v, g', k', e1, e2⟩ := zp_twin (d := d) (D := d) J.1.1 I S x1
  exact ⟨v, g', k', e1, e2⟩)
theorem zx_back (J : zl_J L X m h) (d : Nat) {x1 : Int} (r1 : zv_rg x1) : ∃ (v : Int) (h1 h2 : zv_H), C8_back (d + 28) 1 x1 h = some (v, h1) ∧ C9_back (d + 28) 347 x1 h1 = some (v, h2) ∧ zl_S L X h1 ∧ zl_J L X m h2 := zl_askx J (C' := fun h1 => C9_back (d + 28) 347 x1 h1) (zq_back J d r1) (zl_q (zc_Qp (K := fun _ => True) (zc_C8_back J.1.1 zc_h8 r1))) (fun a b k I S => by
  obtain ⟨v, g', k', e1, e2⟩ := zp_back (d := d) (D := d) J.1.1 I S x1
  exact ⟨v, g', k', e1, e2⟩)
end
end
