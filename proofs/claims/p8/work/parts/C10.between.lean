/-! ===== what is asked, answered alike: what lies between two documents; twins ===== -/
/-- how often in a list -/
def zb_ct (y : Int × Int) : List (Int × Int) → Int
  | [] => 0
  | x :: l => (if x = y then 1 else 0) + zb_ct y l
/-- how often each of a list in another one -/
def zb_sum (M : List (Int × Int)) : List (Int × Int) → Int
  | [] => 0
  | y :: l => zb_ct y M + zb_sum M l
theorem zb_sum_n : ∀ L : List (Int × Int), zb_sum [] L = 0
  | [] => rfl
  | y :: L => by
    have h := zb_sum_n L
    show zb_ct y [] + zb_sum [] L = 0
    rw [h]
    rfl
theorem zb_sum_c (x : Int × Int) (M : List (Int × Int)) : ∀ L : List (Int × Int), zb_sum (x :: M) L = zb_ct x L + zb_sum M L
  | [] => rfl
  | y :: L => by
    have h := zb_sum_c x M L
    have e : (if x = y then (1 : Int) else 0) = if y = x then 1 else 0 := by
      by_cases q : x = y
      · rw [if_pos q, if_pos q.symm]
      · rw [if_neg q, if_neg (fun w => q w.symm)]
    show (if x = y then (1 : Int) else 0) + zb_ct y M + zb_sum (x :: M) L = (if y = x then 1 else 0) + zb_ct x L + (zb_ct y M + zb_sum M L)
    rw [h, e]
    omega
theorem zb_sum_s : ∀ M L : List (Int × Int), zb_sum M L = zb_sum L M
  | [], L => zb_sum_n L
  | x :: M, L => by
    rw [zb_sum_c, zb_sum_s M L]
    rfl
theorem zb_ct_r (y : Int × Int) : ∀ l : List (Int × Int), 0 ≤ zb_ct y l ∧ zb_ct y l ≤ l.length
  | [] => ⟨Int.le_refl _, Int.le_refl _⟩
  | x :: l => by
    have h := zb_ct_r y l
    have e : zb_ct y (x :: l) = (if x = y then 1 else 0) + zb_ct y l := rfl
    rw [e, List.length_cons]
    split <;> omega
/-- a letter as one number -/
def zb_ky (x : Int × Int) : Int := 64 * x.1 + x.2
theorem zb_ky_inj {x y : Int × Int} (hx : zt_ok x) (hy : zt_ok y) (e : zb_ky x = zb_ky y) : x = y := by
  unfold zb_ky at e
  have h1 : x.1 = y.1 := by
    rcases hx with h | h <;> rcases hy with q | q <;> omega
  exact Prod.ext h1 (by omega)
theorem zb_ky_w {x : Int × Int} (hx : zt_ok x) : zv_w (zv_w (64 * x.1) + x.2) = zb_ky x := by
  unfold zb_ky
  rcases hx with h | h
  · rw [zm_w (x := 64 * x.1) (by omega), zm_w (by omega)]
  · rw [zm_w (x := 64 * x.1) (by omega), zm_w (by omega)]
section
variable {a b m : Nat} {g k : zv_H}
theorem zb_keys {D : Nat} {c : Nat → Int} {L : List Int} (h604 : (zm_row c L).length ≤ 604) (ok : ∀ x ∈ zm_row c L, zt_ok x) : ∀ (r q : List (Int × Int)), q ++ r = zm_row c L → ∀ h : zv_H, zm_M h → zm_Sn h c L → (∀ (i : Nat) (x : Int × Int), (q.filter (zm_sn c L))[i]? = some x → zv_I h 370 i = zb_ky x) → ∃ h', L9_keysOf_9 D 347 ((q.filter (zm_sn c L)).length : Int) (q.length : Int) h = some (some (zv_i ((zt_dc c L).length : Int)), h') ∧ zm_F [370] [] h h' ∧ ∀ (i : Nat) (x : Int × Int), (zt_dc c L)[i]? = some x → zv_I h' 370 i = zb_ky x := by
  intro r
  induction r with
  | nil =>
    intro q hq h hM sn z
    rw [List.append_nil] at hq
    subst hq
    refine ⟨h, ?_, zm_F_r _ _ h, z⟩
    rw [qL9_keysOf_9, zm_e (zm_gI hM 11), sn.2.1.1, if_neg (Int.lt_irrefl _)]
    rfl
  | cons x r ih =>
    intro q hq h hM sn z
    have hlen := congrArg List.length hq
    rw [List.length_append, List.length_cons] at hlen
    have hx : (zm_row c L)[q.length]? = some x := by
      rw [← hq, List.getElem?_append_right (Nat.le_refl _), Nat.sub_self]
      rfl
    have hm : x ∈ zm_row c L := List.mem_of_getElem? hx
    have w1 : zv_w ((q.length : Int) + 1) = ((q ++ [x]).length : Int) := by
      rw [List.length_append, List.length_singleton, zm_w (by omega)]
      omega
    have hq' : (q ++ [x]) ++ r = zm_row c L := by rw [List.append_assoc]; exact hq
    have s355 := sn.2.2.2.1 q.length x hx
    obtain ⟨b1, b2⟩ := sn.2.1.2 q.length x hx
    have hf : (q.filter (zm_sn c L)).length ≤ q.length := List.length_filter_le _ _
    rw [qL9_keysOf_9, zm_e (zm_gI hM 11), sn.2.1.1, if_pos (by omega), zm_e (zm_f9 hM), zm_e (zm_aB hM zm_l355 (Or.inl rfl) rfl (by omega) (by omega)), Int.toNat_natCast, s355, w1]
    by_cases cs : zm_sn c L x = true
    · have e1 : (q ++ [x]).filter (zm_sn c L) = q.filter (zm_sn c L) ++ [x] := by
        rw [List.filter_append, List.filter_cons_of_pos cs]
        rfl
      have ef : ((q ++ [x]).filter (zm_sn c L)).length = (q.filter (zm_sn c L)).length + 1 := by
        rw [e1, List.length_append]
        rfl
      obtain ⟨h', y1, y2, y3⟩ := ih (q ++ [x]) hq' (zv_sI h 370 (q.filter (zm_sn c L)).length (zb_ky x)) hM (zm_Sn_F sn (zm_F_I (zm_F_r [370] [] h) rfl _ _)) (fun i y hy => by
        rw [e1] at hy
        by_cases e : i = (q.filter (zm_sn c L)).length
        · subst e
          rw [List.getElem?_append_right (Nat.le_refl _), Nat.sub_self] at hy
          rw [zy_I, show x = y from Option.some.inj hy]
        · rw [zy_In _ _ (fun w => e w.2)]
          refine z i y ?_
          by_cases l : i < (q.filter (zm_sn c L)).length
          · rw [List.getElem?_append_left l] at hy
            exact hy
          · rw [List.getElem?_append_right (by omega), List.getElem?_eq_none (by rw [List.length_singleton]; omega)] at hy
            cases hy)
      rw [ef] at y1
      refine ⟨h', ?_, zm_F_t (zm_F_I (zm_F_r _ _ h) rfl _ _) y2, y3⟩
      rw [if_pos cs, if_neg (by decide), zm_e (zm_f44 hM), zm_e (zm_f6 hM), zm_e (zm_aI hM zm_l352 rfl (by omega) (by omega)), Int.toNat_natCast, b1, zm_e (zm_f7 hM), zm_e (zm_aI hM zm_l353 rfl (by omega) (by omega)), Int.toNat_natCast, b2, zb_ky_w (ok x hm), zm_e (zm_wI hM zm_l370 rfl (by omega) (by omega) _), Int.toNat_natCast, zm_w (by omega), show ((q.filter (zm_sn c L)).length : Int) + 1 = (((q.filter (zm_sn c L)).length + 1 : Nat) : Int) by omega]
      exact y1
    · have ef : (q ++ [x]).filter (zm_sn c L) = q.filter (zm_sn c L) := by
        rw [List.filter_append, List.filter_cons_of_neg cs]
        exact List.append_nil _
      obtain ⟨h', y1, y2, y3⟩ := ih (q ++ [x]) hq' h hM sn (by rw [ef]; exact z)
      rw [ef] at y1
      refine ⟨h', ?_, y2, y3⟩
      rw [if_neg cs, if_pos rfl]
      exact y1
/-- how many keys are this one -/
theorem zb_42 {D : Nat} (hM : zm_M k) {M : List (Int × Int)} (h640 : M.length ≤ 640) (okM : ∀ x ∈ M, zt_ok x) (hk : ∀ (i : Nat) (x : Int × Int), M[i]? = some x → zv_I k 370 i = zb_ky x) {y : Int × Int} (oky : zt_ok y) {p : Nat} (hp : p < 640) (b1 : zv_I k 352 p = y.1) (b2 : zv_I k 353 p = y.2) : ∀ (r q : List (Int × Int)), q ++ r = M → ∀ v : Int, 0 ≤ v → v + r.length < 1000000 → L9_keptOf_42 D 347 (M.length : Int) v (p : Int) (q.length : Int) k = L9_keptOf_17 D 347 (M.length : Int) (v + zb_ct y r) ((p + 1 : Nat) : Int) k := by
  intro r
  induction r with
  | nil =>
    intro q hq v v0 v1
    rw [List.append_nil] at hq
    subst hq
    rw [qL9_keptOf_42, if_neg (Int.lt_irrefl _), zm_w (by omega), show v + zb_ct y [] = v from Int.add_zero v]
    rfl
  | cons x r ih =>
    intro q hq v v0 v1
    rw [List.length_cons] at v1
    have hlen := congrArg List.length hq
    rw [List.length_append, List.length_cons] at hlen
    have hx : M[q.length]? = some x := by
      rw [← hq, List.getElem?_append_right (Nat.le_refl _), Nat.sub_self]
      rfl
    have hm : x ∈ M := List.mem_of_getElem? hx
    have w1 : zv_w ((q.length : Int) + 1) = ((q ++ [x]).length : Int) := by
      rw [List.length_append, List.length_singleton, zm_w (by omega)]
      omega
    have hq' : (q ++ [x]) ++ r = M := by rw [List.append_assoc]; exact hq
    have ec : zb_ct y (x :: r) = (if x = y then 1 else 0) + zb_ct y r := rfl
    rw [qL9_keptOf_42, if_pos (by omega), zm_e (zm_f44 hM), zm_e (zm_aI hM zm_l370 rfl (by omega) (by omega)), Int.toNat_natCast, hk _ _ hx, zm_e (zm_f6 hM), zm_e (zm_aI hM zm_l352 rfl (by omega) (by omega)), Int.toNat_natCast, b1, zm_e (zm_f7 hM), zm_e (zm_aI hM zm_l353 rfl (by omega) (by omega)), Int.toNat_natCast, b2, zb_ky_w oky, w1, ec]
    by_cases e : x = y
    · rw [if_pos (by rw [e]), if_pos e, zm_w (by omega), ih (q ++ [x]) hq' (v + 1) (by omega) (by omega), Int.add_assoc]
    · rw [if_neg (fun w => e (zb_ky_inj (okM x hm) oky w)), if_neg e, zm_w (by omega), ih (q ++ [x]) hq' (v + 0) (by omega) (by omega), Int.add_assoc]
theorem zb_17 {D : Nat} (hM : zm_M k) {M : List (Int × Int)} (h120 : M.length ≤ 120) (okM : ∀ x ∈ M, zt_ok x) (hk : ∀ (i : Nat) (x : Int × Int), M[i]? = some x → zv_I k 370 i = zb_ky x) {c : Nat → Int} {L : List Int} (sn : zm_Sn k c L) (h604 : (zm_row c L).length ≤ 604) (ok : ∀ x ∈ zm_row c L, zt_ok x) : ∀ (r q : List (Int × Int)), q ++ r = zm_row c L → ∀ v : Int, 0 ≤ v → v + 120 * r.length < 100000 → L9_keptOf_17 D 347 (M.length : Int) v (q.length : Int) k = some (some (zv_i (v + zb_sum M (r.filter (zm_sn c L)))), k) := by
  intro r
  induction r with
  | nil =>
    intro q hq v v0 v1
    rw [List.append_nil] at hq
    subst hq
    rw [qL9_keptOf_17, zm_e (zm_gI hM 11), sn.2.1.1, if_neg (Int.lt_irrefl _)]
    rw [show v + zb_sum M (([] : List (Int × Int)).filter (zm_sn c L)) = v from Int.add_zero v]
  | cons x r ih =>
    intro q hq v v0 v1
    rw [List.length_cons] at v1
    have hlen := congrArg List.length hq
    rw [List.length_append, List.length_cons] at hlen
    have hx : (zm_row c L)[q.length]? = some x := by
      rw [← hq, List.getElem?_append_right (Nat.le_refl _), Nat.sub_self]
      rfl
    have hm : x ∈ zm_row c L := List.mem_of_getElem? hx
    have eq1 : ((q ++ [x]).length : Int) = ((q.length + 1 : Nat) : Int) := by
      rw [List.length_append, List.length_singleton]
    have w1 : zv_w ((q.length : Int) + 1) = ((q ++ [x]).length : Int) := by
      rw [List.length_append, List.length_singleton, zm_w (by omega)]
      omega
    have hq' : (q ++ [x]) ++ r = zm_row c L := by rw [List.append_assoc]; exact hq
    have s355 := sn.2.2.2.1 q.length x hx
    obtain ⟨b1, b2⟩ := sn.2.1.2 q.length x hx
    have cr := zb_ct_r x M
    rw [qL9_keptOf_17, zm_e (zm_gI hM 11), sn.2.1.1, if_pos (by omega), zm_e (zm_f9 hM), zm_e (zm_aB hM zm_l355 (Or.inl rfl) rfl (by omega) (by omega)), Int.toNat_natCast, s355, w1]
    by_cases cs : zm_sn c L x = true
    · have e42 := zb_42 (D := D) hM (by omega) okM hk (ok x hm) (p := q.length) (by omega) b1 b2 M [] rfl v v0 (by omega)
      rw [if_pos cs, if_neg (by decide), List.filter_cons_of_pos cs]
      refine (show L9_keptOf_42 D 347 (M.length : Int) v (q.length : Int) 0 k = _ from e42).trans ?_
      rw [← eq1, ih (q ++ [x]) hq' _ (by omega) (by omega), show zb_sum M (x :: r.filter (zm_sn c L)) = zb_ct x M + zb_sum M (r.filter (zm_sn c L)) from rfl, Int.add_assoc]
    · rw [if_neg cs, if_pos rfl, List.filter_cons_of_neg cs]
      exact ih (q ++ [x]) hq' v v0 (by omega)
/-- the letters of a document, each as who put it -/
def zb_D (c : Nat → Int) (s : Int) (M : List (Int × Int)) : Prop := ∃ l, zm_Ln c (s :: l) s ∧ M = zt_dc c (s :: l)
theorem zb_C9_keptOf {D : Nat} (hM : zm_M k) {c : Nat → Int} (hc : zv_I k 348 = c) (W : zm_W c) {s t : Int} (hs : zm_st c s) (ht : zm_st c t) {M N : List (Int × Int)} (hD : zb_D c s M) (hE : zb_D c t N) : ∃ k', C9_keptOf (D + 6) 347 s t k = some (zb_sum M N, k') ∧ zm_F [370, 351, 352, 353, 354, 355] [10, 11, 12] k k' := by
  obtain ⟨l, hl, e⟩ := hD
  obtain ⟨l', hl', e'⟩ := hE
  obtain ⟨k1, e1, F1, n1, r1, d1⟩ := za_sees (D := D) hM hc W hs hl
  have M1 := zm_F_M F1 hM
  have ok1 := zt_line_u W hs hl
  have okr1 := fun x hx => zt_row_ok ok1.1.2.2.1 ok1.2.1 x hx
  obtain ⟨k2, e2, F2, z2⟩ := zb_keys (D := D + 4) r1 okr1 (zm_row c (s :: l)) [] rfl k1 M1 n1 (fun i x hx => by cases hx)
  have M2 := zm_F_M F2 M1
  have c2 : zv_I k2 348 = c := (zm_F_a F2 348).trans ((zm_F_a F1 348).trans hc)
  obtain ⟨k3, e3, F3, n3, r3, d3⟩ := za_sees (D := D + 1) M2 c2 W ht hl'
  have M3 := zm_F_M F3 M2
  have ok3 := zt_line_u W ht hl'
  have okr3 := fun x hx => zt_row_ok ok3.1.2.2.1 ok3.2.1 x hx
  have e4 := zb_17 (D := D + 5) M3 (M := M) (by rw [e]; exact d1) (fun x hx => okr1 x (List.mem_filter.mp (by rw [e] at hx; exact hx)).1) (fun i x hx => by
    rw [zm_F_a F3 370]
    exact z2 i x (by rw [← e]; exact hx)) n3 r3 okr3 (zm_row c (t :: l')) [] rfl 0 (Int.le_refl _) (by omega)
  have ek : C9_keysOf (D + 5) 347 s k = some ((M.length : Int), k2) := lC9_keysOf (zm_ob hM) (by
    rw [qE9_keysOf, zm_e e1, e]
    exact e2)
  refine ⟨k3, lC9_keptOf (zm_ob hM) ?_, zm_F_t (zm_F_s F1 rfl rfl) (zm_F_t (zm_F_s F2 rfl rfl) (zm_F_s F3 rfl rfl))⟩
  rw [qE9_keptOf, zm_e ek]
  dsimp only
  rw [zm_e e3]
  refine (show L9_keptOf_17 (D + 5) 347 (M.length : Int) 0 0 k3 = _ from e4).trans ?_
  rw [Int.zero_add, e']
  rfl
/-! the class -/
theorem zb_K17 {d : Nat} {c : Nat → Int} {s t : Int} (gL : zt_L g) (U : zt_U a c g) (hs : zm_st c s) (ht : zm_st c t) {M N : List (Int × Int)} (nM : zv_I g (zt_r a s) 12 = M.length) (nN : zv_I g (zt_r a t) 12 = N.length) (m1 : M.length ≤ 120) (n1 : N.length ≤ 120) (xM : ∀ (i : Nat) (x : Int × Int), M[i]? = some x → zv_I g (zt_r a s + 2) i = zt_id x) (xN : ∀ (i : Nat) (x : Int × Int), N[i]? = some x → zv_I g (zt_r a t + 2) i = zt_id x) (okM : ∀ x ∈ M, zt_ok x) (okN : ∀ x ∈ N, zt_ok x) {i : Nat} {y : Int × Int} (hy : M[i]? = some y) : ∀ (r q : List (Int × Int)), q ++ r = N → ∀ v : Int, 0 ≤ v → v + r.length < 1000000 → L0_keptOf_17 (d + 1) (zt_r a s) (zt_r a t) v (i : Int) (q.length : Int) g = L0_keptOf_5 (d + 1) (zt_r a s) (zt_r a t) (v + zb_ct y r) ((i + 1 : Nat) : Int) g := by
  have la := zt_U_la U
  have lS := zt_r_l la hs.1
  have lT := zt_r_l la ht.1
  have hi : i < M.length := by
    by_cases z : i < M.length
    · exact z
    · rw [List.getElem?_eq_none (by omega)] at hy
      cases hy
  have my : y ∈ M := List.mem_of_getElem? hy
  have eI := zt_C5_idAt (d := d) gL lS (by rw [nM]; omega) (i : Int)
  rw [nM, if_pos (by omega), Int.toNat_natCast, xM i y hy] at eI
  intro r
  induction r with
  | nil =>
    intro q hq v v0 v1
    rw [List.append_nil] at hq
    subst hq
    rw [qL0_keptOf_17, zm_e (zl_gI gL lT 12), nN, if_neg (Int.lt_irrefl _), zm_w (by omega), show v + zb_ct y [] = v from Int.add_zero v]
    rfl
  | cons x r ih =>
    intro q hq v v0 v1
    rw [List.length_cons] at v1
    have hlen := congrArg List.length hq
    rw [List.length_append, List.length_cons] at hlen
    have hx : N[q.length]? = some x := by
      rw [← hq, List.getElem?_append_right (Nat.le_refl _), Nat.sub_self]
      rfl
    have hm : x ∈ N := List.mem_of_getElem? hx
    have w1 : zv_w ((q.length : Int) + 1) = ((q ++ [x]).length : Int) := by
      rw [List.length_append, List.length_singleton, zm_w (by omega)]
      omega
    have hq' : (q ++ [x]) ++ r = N := by rw [List.append_assoc]; exact hq
    have eJ := zt_C5_idAt (d := d) gL lT (by rw [nN]; omega) (q.length : Int)
    rw [nN, if_pos (by omega), Int.toNat_natCast, xN q.length x hx] at eJ
    have ec : zb_ct y (x :: r) = (if x = y then 1 else 0) + zb_ct y r := rfl
    rw [qL0_keptOf_17, zm_e (zl_gI gL lT 12), nN, if_pos (by omega), zm_e eI]
    dsimp only
    rw [zm_e eJ, w1, ec]
    dsimp only
    by_cases e : x = y
    · rw [if_pos (by rw [e]), if_pos e, zm_w (by omega), ih (q ++ [x]) hq' (v + 1) (by omega) (by omega), Int.add_assoc]
    · rw [if_neg (fun w => e (zt_id_inj (okM y my) (okN x hm) w).symm), if_neg e, zm_w (by omega), ih (q ++ [x]) hq' (v + 0) (by omega) (by omega), Int.add_assoc]
theorem zb_K5 {d : Nat} {c : Nat → Int} {s t : Int} (gL : zt_L g) (U : zt_U a c g) (hs : zm_st c s) (ht : zm_st c t) {M N : List (Int × Int)} (nM : zv_I g (zt_r a s) 12 = M.length) (nN : zv_I g (zt_r a t) 12 = N.length) (m1 : M.length ≤ 120) (n1 : N.length ≤ 120) (xM : ∀ (i : Nat) (x : Int × Int), M[i]? = some x → zv_I g (zt_r a s + 2) i = zt_id x) (xN : ∀ (i : Nat) (x : Int × Int), N[i]? = some x → zv_I g (zt_r a t + 2) i = zt_id x) (okM : ∀ x ∈ M, zt_ok x) (okN : ∀ x ∈ N, zt_ok x) : ∀ (r q : List (Int × Int)), q ++ r = M → ∀ v : Int, 0 ≤ v → v + 120 * r.length < 100000 → L0_keptOf_5 (d + 1) (zt_r a s) (zt_r a t) v (q.length : Int) g = some (some (zv_i (v + zb_sum N r)), g) := by
  have la := zt_U_la U
  have lS := zt_r_l la hs.1
  intro r
  induction r with
  | nil =>
    intro q hq v v0 v1
    rw [List.append_nil] at hq
    subst hq
    rw [qL0_keptOf_5, zm_e (zl_gI gL lS 12), nM, if_neg (Int.lt_irrefl _), show v + zb_sum N [] = v from Int.add_zero v]
  | cons x r ih =>
    intro q hq v v0 v1
    rw [List.length_cons] at v1
    have hlen := congrArg List.length hq
    rw [List.length_append, List.length_cons] at hlen
    have hx : M[q.length]? = some x := by
      rw [← hq, List.getElem?_append_right (Nat.le_refl _), Nat.sub_self]
      rfl
    have hq' : (q ++ [x]) ++ r = M := by rw [List.append_assoc]; exact hq
    have eq1 : ((q ++ [x]).length : Int) = ((q.length + 1 : Nat) : Int) := by
      rw [List.length_append, List.length_singleton]
    have cr := zb_ct_r x N
    have e17 := zb_K17 (d := d) gL U hs ht nM nN m1 n1 xM xN okM okN hx N [] rfl v v0 (by omega)
    rw [qL0_keptOf_5, zm_e (zl_gI gL lS 12), nM, if_pos (by omega)]
    refine (show L0_keptOf_17 (d + 1) (zt_r a s) (zt_r a t) v (q.length : Int) 0 g = _ from e17).trans ?_
    rw [← eq1, ih (q ++ [x]) hq' _ (by omega) (by omega), show zb_sum N (x :: r) = zb_ct x N + zb_sum N r from rfl, Int.add_assoc]
theorem zb_D_f {c : Nat → Int} (gL : zt_L g) (U : zt_U a c g) {s : Int} (hs : zm_st c s) {M : List (Int × Int)} (hD : zb_D c s M) : zv_I g (zt_r a s) 12 = M.length ∧ M.length ≤ 120 ∧ (∀ (i : Nat) (x : Int × Int), M[i]? = some x → zv_I g (zt_r a s + 2) i = zt_id x) ∧ ∀ x ∈ M, zt_ok x := by
  obtain ⟨l, hl, e⟩ := hD
  have W := zt_U_W U
  have u := zt_U_st U s hs
  obtain ⟨ok, G, _, W1⟩ := zt_line_u W hs hl
  subst e
  exact ⟨zt_S_ln u l hl, W1.2.2.2.2.2.2, fun i x hx => zt_S_dc u l hl i x hx, fun x hx => zt_row_ok ok.2.2.1 G x (List.mem_filter.mp hx).1⟩
theorem zb_C0_keptOf {d : Nat} {c : Nat → Int} (gL : zt_L g) (U : zt_U a c g) {s t : Int} (hs : zm_st c s) (ht : zm_st c t) {M N : List (Int × Int)} (hD : zb_D c s M) (hE : zb_D c t N) : C0_keptOf (d + 2) a (zt_r a s) (zt_r a t) g = some (zb_sum N M, g) := by
  obtain ⟨a1, a2, a3, a4⟩ := zb_D_f gL U hs hD
  obtain ⟨b1, b2, b3, b4⟩ := zb_D_f gL U ht hE
  have e := zb_K5 (d := d) gL U hs ht a1 b1 a2 b2 a3 b3 a4 b4 M [] rfl 0 (Int.le_refl _) (by omega)
  refine lC0_keptOf (zl_ob gL (zt_U_la U)) ?_
  rw [qE0_keptOf]
  refine (show L0_keptOf_5 (d + 1) (zt_r a s) (zt_r a t) 0 0 g = _ from e).trans ?_
  rw [Int.zero_add]
/-! where two documents differ -/
def zb_fd (A B : List Int) (v : Int) : Prop := (v = -1 ∧ ∀ i, za_nth A i = za_nth B i) ∨ ∃ i : Nat, v = i ∧ za_nth A i ≠ za_nth B i ∧ ∀ j, j < i → za_nth A j = za_nth B j
theorem zb_fd_u {A B : List Int} {v w : Int} (h1 : zb_fd A B v) (h2 : zb_fd A B w) : v = w := by
  rcases h1 with ⟨e1, q1⟩ | ⟨i, e1, q1, q2⟩
  · rcases h2 with ⟨e2, _⟩ | ⟨j, _, r1, _⟩
    · rw [e1, e2]
    · exact absurd (q1 j) r1
  · rcases h2 with ⟨_, r1⟩ | ⟨j, e2, r1, r2⟩
    · exact absurd (r1 i) q1
    · have : i = j := by
        rcases Nat.lt_trichotomy i j with l | l | l
        · exact absurd (r2 i l) q1
        · exact l
        · exact absurd (q2 j l) r1
      rw [e1, e2, this]
theorem zb_fd_s {A B : List Int} {v : Int} (h : zb_fd A B v) : zb_fd B A v := by
  rcases h with ⟨e, q⟩ | ⟨i, e, q1, q2⟩
  · exact Or.inl ⟨e, fun i => (q i).symm⟩
  · exact Or.inr ⟨i, e, fun w => q1 w.symm, fun j hj => (q2 j hj).symm⟩
theorem zb_fd_n {A B : List Int} {v : Int} (h : zb_fd A B v) : v = -1 ∨ 0 ≤ v := by
  rcases h with ⟨e, _⟩ | ⟨i, e, _, _⟩
  · exact Or.inl e
  · exact Or.inr (by omega)
/-- letters are no less than 0 -/
theorem zb_nn {c : Nat → Int} (U : zt_U a c g) {s : Int} (hs : zm_st c s) {A : List Int} (hD : za_D c s A) : ∀ x ∈ A, 0 ≤ x := by
  obtain ⟨l, hl, e⟩ := hD
  obtain ⟨ok, G, _, _⟩ := zt_line_u (zt_U_W U) hs hl
  intro v hv
  rw [e] at hv
  obtain ⟨x, hx, ev⟩ := List.mem_map.mp hv
  have hm := (List.mem_filter.mp hx).1
  obtain ⟨m1, m2, m3⟩ := zm_row_mem hm
  have xok := zt_row_ok ok.2.2.1 G x hm
  have cw := zt_S_cw (zt_U_st U x.1 (ok.2.2.1 _ m1))
  obtain ⟨n, hn⟩ : ∃ n : Nat, x.2 = n := ⟨x.2.toNat, by omega⟩
  have h := zt_cw_lt cw (by
    by_cases z : x.1 = 0
    · exact Or.inr z
    · exact Or.inl (zt_row_ed hm G.2.1 z)) n (by omega) (by rcases xok with q | q <;> omega)
  rw [← ev]
  unfold zm_lt
  rw [hn]
  exact h
theorem zb_C0_first {d : Nat} {c : Nat → Int} (gL : zt_L g) (U : zt_U a c g) {s t : Int} (hs : zm_st c s) (ht : zm_st c t) {A B : List Int} (hD : za_D c s A) (hE : za_D c t B) (na : A.length ≤ 120) (nb : B.length ≤ 120) : ∃ v, C0_firstDifference (d + 3) a (zt_r a s) (zt_r a t) g = some (v, g) ∧ zb_fd A B v := by
  have la := zt_U_la U
  have eA : ∀ {s : Int} {A : List Int}, zm_st c s → za_D c s A → zv_I g (zt_r a s) 12 = A.length := fun hs hA => by
    obtain ⟨l, h1, h2⟩ := hA
    rw [zt_S_ln (zt_U_st U _ hs) l h1, h2, List.length_map]
  have lp : ∀ (r i : Nat), i + r = max A.length B.length → (∀ j, j < i → za_nth A j = za_nth B j) → ∃ v, L0_firstDifference_15 (d + 2) a (zt_r a s) (zt_r a t) ((max A.length B.length : Nat) : Int) (i : Int) g = some (some (zv_i v), g) ∧ zb_fd A B v := by
    intro r
    induction r with
    | zero =>
      intro i hi z
      refine ⟨-1, ?_, Or.inl ⟨rfl, fun j => ?_⟩⟩
      · rw [qL0_firstDifference_15, if_neg (by omega)]
      · by_cases hj : j < i
        · exact z j hj
        · rw [za_nth_out (by omega), za_nth_out (by omega)]
    | succ r ih =>
      intro i hi z
      have e1 := za_letterAt (d := d) gL U hs hD i
      have e2 := za_letterAt (d := d) gL U ht hE i
      rw [qL0_firstDifference_15, if_pos (by omega), zm_e e1]
      dsimp only
      rw [zm_e e2]
      dsimp only
      by_cases e : za_nth A i = za_nth B i
      · rw [if_pos e, zm_w (by omega), show (i : Int) + 1 = ((i + 1 : Nat) : Int) by omega]
        exact ih (i + 1) (by omega) (fun j hj => by
          by_cases q : j = i
          · rw [q]; exact e
          · exact z j (by omega))
      · rw [if_neg e]
        exact ⟨(i : Int), rfl, Or.inr ⟨i, rfl, e, z⟩⟩
  obtain ⟨v, y1, y2⟩ := lp (max A.length B.length) 0 (Nat.zero_add _) (fun j hj => absurd hj (by omega))
  refine ⟨v, lC0_firstDifference (zl_ob gL la) ?_, y2⟩
  rw [qE0_firstDifference, zm_e (zl_gI gL (zt_r_l la hs.1) 12), eA hs hD, zm_e (zl_gI gL (zt_r_l la ht.1) 12), eA ht hE, show max (A.length : Int) (B.length : Int) = ((max A.length B.length : Nat) : Int) by omega]
  exact y1
theorem zb_C9_differ {D : Nat} (hM : zm_M k) {c : Nat → Int} (hc : zv_I k 348 = c) (W : zm_W c) {s t : Int} (hs : zm_st c s) (ht : zm_st c t) {A B : List Int} (hD : za_D c s A) (hE : za_D c t B) (na : A.length ≤ 120) (nb : B.length ≤ 120) (pA : ∀ x ∈ A, 0 ≤ x) (pB : ∀ x ∈ B, 0 ≤ x) : ∃ v k', C9_differ (D + 6) 347 s t k = some (v, k') ∧ zb_fd A B v ∧ zm_F [356, 357, 351, 352, 353, 354, 355] [10, 11, 12] k k' := by
  obtain ⟨k2, e2, F2, x2⟩ := za_copies (D := D) hM hc W hs hD (Or.inl rfl)
  have M2 := zm_F_M F2 hM
  obtain ⟨k3, e3, F3, x3⟩ := za_copies (D := D) M2 ((zm_F_a F2 348).trans hc) W ht hE (Or.inr rfl)
  have M3 := zm_F_M F3 M2
  have x2' : ∀ i (hi : i < A.length), zv_I k3 356 i = A[i] := fun i hi => by
    rw [zm_F_a F3 356]
    exact x2 i hi
  have fin : ∀ i : Nat, i ≤ A.length → i ≤ B.length → (∀ j, j < i → za_nth A j = za_nth B j) → (i < A.length → i < B.length → za_nth A i ≠ za_nth B i) → ∃ v, L9_differ_60 (D + 5) (A.length : Int) (B.length : Int) (i : Int) k3 = some (some (zv_i v), k3) ∧ zb_fd A B v := fun i i1 i2 z w => by
    have ne : i ≠ A.length ∨ i ≠ B.length → zb_fd A B i := fun q => Or.inr ⟨i, rfl, by
      by_cases c1 : i < A.length
      · by_cases c2 : i < B.length
        · exact w c1 c2
        · rw [za_nth_in c1, za_nth_out c2]
          have := pA _ (List.getElem_mem c1)
          omega
      · rw [za_nth_out c1, za_nth_in (by omega : i < B.length)]
        have := pB _ (List.getElem_mem (by omega : i < B.length))
        omega, z⟩
    rw [qL9_differ_60]
    by_cases c1 : i = A.length
    · rw [if_pos (by omega)]
      by_cases c2 : i = B.length
      · rw [if_pos (by omega)]
        refine ⟨-1, rfl, Or.inl ⟨rfl, fun j => ?_⟩⟩
        by_cases hj : j < i
        · exact z j hj
        · rw [za_nth_out (by omega), za_nth_out (by omega)]
      · rw [if_neg (by omega)]
        exact ⟨_, rfl, ne (Or.inr c2)⟩
    · rw [if_neg (by omega)]
      exact ⟨_, rfl, ne (Or.inl c1)⟩
  have lp : ∀ (r i : Nat), i + r = A.length → i ≤ B.length → (∀ j, j < i → za_nth A j = za_nth B j) → ∃ v, L9_differ_24 (D + 5) 347 (A.length : Int) (B.length : Int) (i : Int) k3 = some (some (zv_i v), k3) ∧ zb_fd A B v := by
    intro r
    induction r with
    | zero =>
      intro i hi hb z
      rw [qL9_differ_24, if_neg (by omega)]
      exact fin i (by omega) hb z (fun q => absurd q (by omega))
    | succ r ih =>
      intro i hi hb z
      rw [qL9_differ_24, if_pos (by omega)]
      by_cases c1 : i < B.length
      · have ci : i < A.length := by omega
        rw [if_pos (by omega), zm_e (zm_f13 M3), zm_e (zm_aI M3 zm_l356 rfl (by omega) (by omega)), Int.toNat_natCast, x2' i ci, zm_e (zm_f14 M3), zm_e (zm_aI M3 zm_l357 rfl (by omega) (by omega)), Int.toNat_natCast, x3 i c1, ← za_nth_in ci, ← za_nth_in c1]
        by_cases e : za_nth A i = za_nth B i
        · rw [if_pos e, zm_w (by omega), show (i : Int) + 1 = ((i + 1 : Nat) : Int) by omega]
          exact ih (i + 1) (by omega) (by omega) (fun j hj => by
            by_cases q : j = i
            · rw [q]; exact e
            · exact z j (by omega))
        · rw [if_neg e]
          exact fin i (by omega) (by omega) z (fun _ _ => e)
      · rw [if_neg (by omega)]
        exact fin i (by omega) hb z (fun _ q => absurd q c1)
  obtain ⟨v, y1, y2⟩ := lp A.length 0 (Nat.zero_add _) (Nat.zero_le _) (fun j hj => absurd hj (by omega))
  refine ⟨v, k3, lC9_differ (zm_ob hM) ?_, y2, zm_F_t (zm_F_s F2 rfl rfl) (zm_F_s F3 rfl rfl)⟩
  rw [qE9_differ, zm_e (zm_f13 hM), zm_e e2]
  dsimp only
  rw [zm_e (zm_f14 M2), zm_e e3]
  exact y1
/-! asked -/
theorem zb_D_ex {c : Nat → Int} (W : zm_W c) {s : Int} (hs : zm_st c s) : ∃ M, zb_D c s M ∧ za_D c s (M.map (zm_lt c)) := by
  obtain ⟨l, hl, _⟩ := zt_line W hs
  exact ⟨_, ⟨l, hl, rfl⟩, ⟨l, hl, rfl⟩⟩
theorem zb_lettersOf {D : Nat} (hM : zm_M k) {c : Nat → Int} (hc : zv_I k 348 = c) (W : zm_W c) {s : Int} (hs : zm_st c s) {M : List (Int × Int)} (hD : zb_D c s M) : ∃ k', C9_lettersOf (D + 5) 347 s k = some ((M.length : Int), k') := by
  obtain ⟨l, hl, e⟩ := hD
  obtain ⟨k1, e1, F1, n1, _, _⟩ := za_sees (D := D) hM hc W hs hl
  refine ⟨k1, lC9_lettersOf (zm_ob hM) ?_⟩
  rw [qE9_lettersOf, zm_e e1, zm_e (zm_gI (zm_F_M F1 hM) 12), n1.2.2.2.2, e]
  rfl
theorem zp_between {d D : Nat} (hA : zc_A g) (I : zm_MI k) (S : zt_GG m a b g k) (s t w : Int) : ∃ v g' k', C8_between (d + 28) 1 s t w g = some (v, g') ∧ C9_between (D + 28) 347 s t w k = some (v, k') := by
  have gL := zt_L_A hA
  have hM := I.1
  have l1 : zv_lay 1 = (1, 8) := rfl
  have la := (zt_lab (zt_GG_ab S)).1
  have qC := qE8_between (d + 27) 1 s t w g
  have qR := qE9_between (D + 27) 347 s t w k
  rw [zm_e (zc_within (d := d + 26) g w 0 3)] at qC
  rw [zm_e (zm_isIn (h := k) (D + 26) w 0 3)] at qR
  dsimp only at qC qR
  by_cases cw : 0 ≤ w ∧ w ≤ 3
  rotate_left
  · rw [if_neg cw, if_pos rfl, za_ref gL] at qC
    rw [if_neg cw, if_pos rfl, qL9_between_35, za_isn hM (by decide)] at qR
    exact ⟨_, _, _, lC8_between (zl_ob gL l1) qC, lC9_between (zm_ob hM) qR⟩
  rw [if_pos cw, if_neg (by decide), zm_e (zp_e3 hA S), zm_e (za_at (d := d + 26) hA S s)] at qC
  dsimp only at qC
  rw [zm_e (zp_e3 hA S), zm_e (za_at (d := d + 26) hA S t)] at qC
  dsimp only at qC
  rw [if_pos cw, if_neg (by decide), zm_e (zm_isState hM (D + 25) s)] at qR
  dsimp only at qR
  by_cases hs : zm_st (zv_I k 348) s
  rotate_left
  · rw [if_neg hs, if_pos rfl, qL8_between_45, za_ref gL] at qC
    rw [if_neg hs, if_pos rfl, qL9_between_30, qL9_between_35, za_isn hM (by decide)] at qR
    exact ⟨_, _, _, lC8_between (zl_ob gL l1) qC, lC9_between (zm_ob hM) qR⟩
  rw [if_pos hs, if_neg (za_r0 S hs)] at qC
  rw [if_pos hs, if_neg (by decide), zm_e (zm_isState hM (D + 25) t)] at qR
  dsimp only at qR
  by_cases ht : zm_st (zv_I k 348) t
  rotate_left
  · rw [if_neg ht, if_pos rfl, qL8_between_45, za_ref gL] at qC
    rw [if_neg ht, if_pos rfl, qL9_between_30, qL9_between_35, za_isn hM (by decide)] at qR
    exact ⟨_, _, _, lC8_between (zl_ob gL l1) qC, lC9_between (zm_ob hM) qR⟩
  obtain ⟨k1, i1, F1⟩ := zp_is hM
  have S1 := zt_GG_F S F1
  have M1 := zm_F_M F1 hM
  have U := zt_H_U (zt_GG_H S1)
  have W := zt_U_W U
  have e348 : zv_I k1 348 = zv_I k 348 := zm_F_a F1 348
  have hs1 : zm_st (zv_I k1 348) s := by rw [e348]; exact hs
  have ht1 : zm_st (zv_I k1 348) t := by rw [e348]; exact ht
  obtain ⟨M, hD, hDa⟩ := zb_D_ex W hs1
  obtain ⟨N, hE, hEa⟩ := zb_D_ex W ht1
  obtain ⟨nM, m1, _, _⟩ := zb_D_f gL U hs1 hD
  obtain ⟨nN, n1, _, _⟩ := zb_D_f gL U ht1 hE
  rw [if_pos ht, if_neg (za_r0 S ht)] at qC
  rw [if_pos ht, if_neg (by decide), qL9_between_35, za_isy i1] at qR
  dsimp only at qR
  by_cases w3 : w = 3
  · obtain ⟨v, y1, y2⟩ := zb_C0_first (d := d + 24) gL U hs1 ht1 hDa hEa (by rw [List.length_map]; exact m1) (by rw [List.length_map]; exact n1)
    obtain ⟨v', k2, z1, z2, _⟩ := zb_C9_differ (D := D + 21) M1 rfl W hs1 ht1 hDa hEa (by rw [List.length_map]; exact m1) (by rw [List.length_map]; exact n1) (zb_nn U hs1 hDa) (zb_nn U ht1 hEa)
    have ev := zb_fd_u y2 z2
    subst ev
    rw [if_neg (by omega), if_neg (by omega), if_neg (by omega), zm_e (zp_e3 hA S), zm_e y1] at qC
    dsimp only at qC
    rw [za_giv gL] at qC
    rw [if_pos w3, zm_e z1] at qR
    exact ⟨_, _, _, lC8_between (zl_ob gL l1) qC, lC9_between (zm_ob hM) qR⟩
  have y1 := zb_C0_keptOf (d := d + 25) gL U hs1 ht1 hD hE
  obtain ⟨k2, z1, F2⟩ := zb_C9_keptOf (D := D + 21) M1 rfl W hs1 ht1 hD hE
  rw [zb_sum_s N M] at y1
  have M2 := zm_F_M F2 M1
  have c2 : zv_I k2 348 = zv_I k1 348 := zm_F_a F2 348
  rw [if_neg w3, zm_e z1] at qR
  dsimp only at qR
  by_cases w0 : w = 0
  · rw [if_pos w0, zm_e (zp_e3 hA S), zm_e y1] at qC
    dsimp only at qC
    rw [za_giv gL] at qC
    rw [if_pos w0] at qR
    exact ⟨_, _, _, lC8_between (zl_ob gL l1) qC, lC9_between (zm_ob hM) qR⟩
  rw [if_neg w0] at qC qR
  by_cases w1 : w = 1
  · obtain ⟨k3, z3⟩ := zb_lettersOf (D := D + 22) M2 c2 W hs1 hD
    rw [if_pos w1, zm_e (zl_gI gL (zt_r_l la hs.1) 12), nM, zm_e (zp_e3 hA S), zm_e y1] at qC
    dsimp only at qC
    rw [za_giv gL] at qC
    rw [if_pos w1, zm_e z3] at qR
    exact ⟨_, _, _, lC8_between (zl_ob gL l1) qC, lC9_between (zm_ob hM) qR⟩
  · obtain ⟨k3, z3⟩ := zb_lettersOf (D := D + 22) M2 c2 W ht1 hE
    rw [if_neg w1, if_pos (by omega), zm_e (zl_gI gL (zt_r_l la ht.1) 12), nN, zm_e (zp_e3 hA S), zm_e y1] at qC
    dsimp only at qC
    rw [za_giv gL] at qC
    rw [if_neg w1, zm_e z3] at qR
    exact ⟨_, _, _, lC8_between (zl_ob gL l1) qC, lC9_between (zm_ob hM) qR⟩
/-- the twin of one -/
theorem zb_twin {d D : Nat} {c : Nat → Int} (gL : zt_L g) (U : zt_U a c g) (he : ∀ s, zm_st c s → ∃ A, za_D c s A ∧ A.length ≤ 120) {s : Int} (hs : zm_st c s) : ∀ (r i : Nat) (k : zv_H), i + r = 48 → zm_M k → zv_I k 348 = c → ∃ v k', L0_twinOf_2 (d + 4) a (zt_r a s) (i : Int) g = some (some (zv_i v), g) ∧ zm_M k' ∧ ((v = -1 ∧ L9_twin_24 (D + 7) 347 s (i : Int) k = L9_twin_24 (D + 7) 347 s 48 k') ∨ (0 ≤ v ∧ L9_twin_24 (D + 7) 347 s (i : Int) k = some (some (zv_i v), k')))
  | 0, i, k, hi, hM, hc => by
    have e : i = 48 := by omega
    subst e
    exact ⟨-1, k, by rw [qL0_twinOf_2, if_neg (by omega)], hM, Or.inl ⟨rfl, rfl⟩⟩
  | r + 1, i, k, hi, hM, hc => by
    have la := zt_U_la U
    have W := zt_U_W U
    have wi : zv_w ((i : Int) + 1) = ((i + 1 : Nat) : Int) := by
      rw [zm_w (by omega)]
      omega
    have nx := fun k => zb_twin (d := d) (D := D) gL U he hs r (i + 1) k (by omega)
    have i48 : (i : Int) < 48 := by omega
    rw [qL0_twinOf_2, if_pos i48, zm_e (zt_at (d := d + 3) gL U (i : Int)), wi]
    rw [qL9_twin_24, if_pos i48, zm_e (zm_isState hM (D + 5) (i : Int)), hc, wi]
    dsimp only
    by_cases hi' : zm_st c (i : Int)
    rotate_left
    · rw [if_neg hi', if_pos rfl, if_neg hi', if_pos rfl]
      exact nx k hM hc
    rw [if_pos hi', if_neg (zt_r0 U hi'), if_neg (zt_fo1000 (zt_r1000 U hi') (zt_r1000 U hs)), if_pos hi', if_neg (show ¬ (1 : Int) = 0 by decide)]
    by_cases c1 : (i : Int) = s
    · rw [if_pos (show zt_r a (i : Int) = zt_r a s by rw [c1]), if_pos c1]
      exact nx k hM hc
    rw [if_neg (fun q => c1 (zt_r_inj la hi'.1 hs.1 q)), if_neg c1]
    obtain ⟨A, hDA, na⟩ := he s hs
    obtain ⟨B, hDB, nb⟩ := he _ hi'
    obtain ⟨v, y1, y2⟩ := zb_C0_first (d := d + 1) gL U hs hi' hDA hDB na nb
    obtain ⟨v', k2, z1, z2, F2⟩ := zb_C9_differ (D := D + 1) hM hc W hi' hs hDB hDA nb na (zb_nn U hi' hDB) (zb_nn U hs hDA)
    have ev := zb_fd_u y2 (zb_fd_s z2)
    subst ev
    have M2 := zm_F_M F2 hM
    rw [zm_e y1, zm_e z1]
    dsimp only
    by_cases cv : v = -1
    · rw [if_pos cv, if_pos (by omega)]
      exact ⟨(i : Int), k2, rfl, M2, Or.inr ⟨by omega, rfl⟩⟩
    · have := zb_fd_n y2
      rw [if_neg cv, if_neg (by omega)]
      exact nx k2 M2 ((zm_F_a F2 348).trans hc)
theorem zp_twin {d D : Nat} (hA : zc_A g) (I : zm_MI k) (S : zt_GG m a b g k) (s : Int) : ∃ v g' k', C8_twin (d + 28) 1 s g = some (v, g') ∧ C9_twin (D + 28) 347 s k = some (v, k') := by
  have gL := zt_L_A hA
  have hM := I.1
  have l1 : zv_lay 1 = (1, 8) := rfl
  have la := (zt_lab (zt_GG_ab S)).1
  have qC := qE8_twin (d + 27) 1 s g
  have qR := qE9_twin (D + 27) 347 s k
  rw [zm_e (zp_e3 hA S), zm_e (za_at (d := d + 26) hA S s)] at qC
  dsimp only at qC
  rw [zm_e (zm_isState hM (D + 25) s)] at qR
  dsimp only at qR
  by_cases hs : zm_st (zv_I k 348) s
  rotate_left
  · rw [if_neg hs, if_pos rfl, za_ref gL] at qC
    rw [if_neg hs, if_pos rfl, qL9_twin_14, za_isn hM (by decide)] at qR
    exact ⟨_, _, _, lC8_twin (zl_ob gL l1) qC, lC9_twin (zm_ob hM) qR⟩
  obtain ⟨k1, i1, F1⟩ := zp_is hM
  have S1 := zt_GG_F S F1
  have M1 := zm_F_M F1 hM
  have U := zt_H_U (zt_GG_H S1)
  have e348 : zv_I k1 348 = zv_I k 348 := zm_F_a F1 348
  have hs1 : zm_st (zv_I k1 348) s := by rw [e348]; exact hs
  obtain ⟨v, k2, y1, M2, y2⟩ := zb_twin (d := d + 22) (D := D + 20) gL U (fun s hs => za_D_ex S1 hs) hs1 48 0 k1 rfl M1 rfl
  have et : C0_twinOf (d + 27) a (zt_r a s) g = some (v, g) := lC0_twinOf (zl_ob gL la) (by
    rw [qE0_twinOf]
    exact y1)
  rw [if_pos hs, if_neg (za_r0 S hs), zm_e (zp_e3 hA S), zm_e et] at qC
  dsimp only at qC
  rw [if_pos hs, if_neg (by decide), qL9_twin_14, za_isy i1] at qR
  dsimp only at qR
  rcases y2 with ⟨e, y3⟩ | ⟨e, y3⟩
  · rw [if_pos e, za_ref gL] at qC
    rw [show L9_twin_24 (D + 27) 347 s 0 k1 = _ from y3, qL9_twin_24, if_neg (by decide), za_rf M2] at qR
    exact ⟨_, _, _, lC8_twin (zl_ob gL l1) qC, lC9_twin (zm_ob hM) qR⟩
  · rw [if_neg (by omega), za_giv gL] at qC
    rw [show L9_twin_24 (D + 27) 347 s 0 k1 = _ from y3] at qR
    exact ⟨_, _, _, lC8_twin (zl_ob gL l1) qC, lC9_twin (zm_ob hM) qR⟩
end
