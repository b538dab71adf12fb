theorem zm_st48 {c : Nat → Int} {s : Int} (hs : zm_st c s) : 0 ≤ s ∧ s ≤ 48 := by
  have h := hs.1
  clear hs
  omega
theorem zm_carryNow {h : zv_H} {c : Nat → Int} (hM : zm_M h) (hc : zv_I h 348 = c) (w : zm_W c) (d : Nat) (s : Int) : zm_R (C9_carryNow (d + 9) 347 s h) (fun q => zm_F [348, 351, 352, 353, 354, 355, 358, 359, 360, 362] [3, 10, 11, 12, 19] h q.2 ∧ zm_Dn c q.1 (zv_I q.2 348)) := by
  refine zm_cI (P := fun v h' => zm_F [348, 351, 352, 353, 354, 355, 358, 359, 360, 362] [3, 10, 11, 12, 19] h h' ∧ zm_Dn c v (zv_I h' 348)) (lC9_carryNow (zm_ob hM)) ?_
  have refu : ∀ v : Int, zm_R ((C9_refuse (d + 8) 347 v h).bind fun q => (some (some (zv_i q.1), q.2) : zv_O)) (zm_I fun v h' => zm_F [348, 351, 352, 353, 354, 355, 358, 359, 360, 362] [3, 10, 11, 12, 19] h h' ∧ zm_Dn c v (zv_I h' 348)) := by
    intro v
    rw [zm_e (zm_refuse hM _ v)]
    have e : zv_I (zv_sI h 347 3 v) 348 = c := (zm_so h _ _).trans hc
    exact zm_iI ⟨zm_F_f (zm_F_r _ _ h) rfl _, by rw [e]; exact ⟨w, Or.inl ⟨rfl, rfl⟩⟩⟩
  obtain ⟨l, hl, hl2, g, gt⟩ := zm_W_l w.1 w.2.1
  have hl' : zm_Ln (zv_I h 348) (c 0 :: l) (c 0) := by
    rw [hc]
    exact hl.1
  rw [qE9_carryNow]
  refine zm_gb (zm_isState hM _ s) (fun _ => refu 2) (fun hs => ?_)
  rw [hc] at hs
  dsimp only
  rw [zm_e (zm_here hM _), hc]
  dsimp only
  refine zm_gb (zm_isOfLine hM _ s hl') (fun _ => ?_) (fun _ => ?_)
  · dsimp only
    refine zm_gb (zm_isEdit hM _ (zm_st48 hs)) (fun _ => ?_) (fun he => ?_)
    · rw [qL9_carryNow_34]
      exact refu 7
    · rw [hc] at he
      obtain ⟨h1, e1, f1, _⟩ := zm_plain hM (d + 7)
      dsimp only
      rw [zm_e e1]
      obtain ⟨⟨v, h2⟩, e2, f2, q2⟩ := zm_carries (zm_F_M f1 hM) ((zm_F_a f1 348).trans hc) w d hs he
      rw [zm_e e2]
      exact zm_iI ⟨zm_F_t (zm_F_s f1 rfl rfl) (zm_F_s f2 rfl rfl), q2⟩
  · rw [qL9_carryNow_34]
    exact refu 7
/-- those to be carried, and which of them are -/
theorem zm_merge44 (d : Nat) {c : Nat → Int} (w : zm_W c) {l : List Int} (hl : ∀ t ∈ l, zm_st c t) (hn : l.length ≤ 48) : ∀ (b a : List Int), a ++ b = l.reverse → ∀ h : zv_H, zm_M h → zv_I h 348 = c → (∀ (k : Nat) (x : Int), l.reverse[k]? = some x → zv_I h 351 k = x) → (∀ x ∈ l, zv_I h 354 x.toNat = zm_fc c l x) → (∀ (k : Nat) (x : Int), k < a.length → l.reverse[k]? = some x → zv_I h 363 k = x ∧ (zv_I h 364 k ≠ 0 → zm_ed c x)) → ∃ h', L9_mergeNow_44 (d + 3) 347 l.length a.length h = L9_mergeNow_44 (d + 3) 347 l.length l.length h' ∧ zm_F [363, 364] [] h h' ∧ (∀ (k : Nat) (x : Int), l.reverse[k]? = some x → zv_I h' 363 k = x ∧ (zv_I h' 364 k ≠ 0 → zm_ed c x))
  | [], a, e, h, _, _, _, _, hk => by
    rw [List.append_nil] at e
    have el : a.length = l.length := by rw [e, List.length_reverse]
    exact ⟨h, by rw [el], zm_F_r _ _ h, fun k x hx => hk k x (by rw [e]; exact zm_lt_of_get hx) hx⟩
  | t :: b, a, e, h, hM, hc, h351, h354, hk => by
    have hlen : l.length = a.length + (b.length + 1) := by rw [← List.length_reverse (as := l), ← e, List.length_append, List.length_cons]
    have htl : t ∈ l := by
      rw [← List.mem_reverse, ← e]
      exact List.mem_append_right _ List.mem_cons_self
    have hst := hl t htl
    have h48 := zm_st48 hst
    have hx : l.reverse[a.length]? = some t := by
      rw [← e, List.getElem?_append_right (Nat.le_refl _), Nat.sub_self]
      rfl
    have e' : (a ++ [t]) ++ b = l.reverse := by
      rw [List.append_assoc]
      exact e
    have w1 : zv_w ((a.length : Int) + 1) = (((a ++ [t]).length : Nat) : Int) := by
      clear hst
      rw [zm_w (by omega), List.length_append]
      rfl
    have j0 : (0 : Int) ≤ (a.length : Int) := by omega
    have j1 : (a.length : Int) < ((49 : Nat) : Int) := by
      clear hst
      omega
    have j2 : ((a.length : Int)).toNat = a.length := by omega
    have j3 : (a.length : Int) < (l.length : Int) := by
      clear hst
      omega
    have t49 : t < ((49 : Nat) : Int) := by
      clear hst
      omega
    have a1 : ∀ g : zv_H, zm_M g → zv_I g 351 = zv_I h 351 → zv_aI g 351 (a.length : Int) = some t := by
      intro g hg eg
      rw [zm_aI hg zm_l351 rfl j0 j1, j2, eg, h351 _ _ hx]
    have go : ∀ (g : zv_H) (v : Int), zm_F [363, 364] [] h g → zm_M g → zv_I g 363 = zm_u (zv_I h 363) a.length t → zv_I g 364 = zv_I h 364 → (v ≠ 0 → zm_ed c t) → (v = 0 ∨ v = 1) → ∃ h', ((zv_wB g 364 (a.length : Int) v).bind fun g => L9_mergeNow_44 (d + 3) 347 l.length (((a ++ [t]).length : Nat) : Int) g) = L9_mergeNow_44 (d + 3) 347 l.length l.length h' ∧ zm_F [363, 364] [] h h' ∧ (∀ (k : Nat) (x : Int), l.reverse[k]? = some x → zv_I h' 363 k = x ∧ (zv_I h' 364 k ≠ 0 → zm_ed c x)) := by
      intro g v fg hg e363 e364 hv hv01
      have nv : zv_nz v = v := by
        unfold zv_nz
        clear hst
        omega
      rw [zm_e (zm_wB hg zm_l364 rfl j0 j1 v), nv, j2]
      obtain ⟨h', i1, i2, i3⟩ := zm_merge44 d w hl hn b (a ++ [t]) e' (zv_sI g 364 a.length v) hg ((zm_so g _ _).trans ((zm_F_a fg 348).trans hc)) (fun k x hx => by rw [zm_so g _ _, zm_F_a fg 351]; exact h351 k x hx) (fun x hx => by rw [zm_so g _ _, zm_F_a fg 354]; exact h354 x hx) (fun k x hk2 hx2 => by
        rw [zm_so g _ _, zm_ss, e363, e364]
        rw [List.length_append, List.length_singleton] at hk2
        by_cases q : k = a.length
        · rw [q, zm_u_s, zm_u_s]
          rw [q, hx] at hx2
          rw [← Option.some.inj hx2]
          exact ⟨rfl, hv⟩
        · rw [zm_u_o _ _ q, zm_u_o _ _ q]
          clear hst
          exact hk k x (by omega) hx2)
      exact ⟨h', i1, zm_F_t (zm_F_I fg rfl _ _) i2, i3⟩
    rw [qL9_mergeNow_44, if_pos j3, zm_e (zm_f22 hM), zm_e (zm_f5 hM), zm_e (a1 h hM rfl), zm_e (zm_wI hM zm_l363 rfl j0 j1 _), j2, w1]
    have f1 : zm_F [363, 364] [] h (zv_sI h 363 a.length t) := zm_F_I (zm_F_r _ _ h) rfl _ _
    have e363 : zv_I (zv_sI h 363 a.length t) 363 = zm_u (zv_I h 363) a.length t := zm_ss _ _ _ _
    have e364 : zv_I (zv_sI h 363 a.length t) 364 = zv_I h 364 := zm_so _ _ _
    generalize zv_sI h 363 a.length t = h1 at f1 e363 e364
    have hM1 := zm_F_M f1 hM
    have c1 : zv_I h1 348 = c := (zm_F_a f1 348).trans hc
    rw [zm_e (zm_f23 hM1), zm_e (zm_f5 hM1), zm_e (a1 h1 hM1 (zm_F_a f1 351)), zm_e (zm_isEdit hM1 _ h48), c1]
    dsimp only
    by_cases q1 : zm_ed c t
    · rw [if_pos q1, if_neg (by decide), zm_e (zm_f8 hM1), zm_e (zm_f5 hM1), zm_e (a1 h1 hM1 (zm_F_a f1 351)), zm_e (zm_aB hM1 zm_l354 (Or.inl rfl) rfl h48.1 t49)]
      by_cases q2 : zv_I h1 354 t.toNat = 0
      · rw [if_pos q2]
        exact go h1 0 f1 hM1 e363 e364 (fun z => absurd rfl z) (Or.inl rfl)
      · obtain ⟨lh, hlh, _⟩ := zm_W_l w.1 w.2.1
        have hl' : zm_Ln (zv_I h1 348) (c 0 :: lh) (c 0) := by
          rw [c1]
          exact hlh.1
        rw [if_neg q2, zm_e (zm_f5 hM1), zm_e (a1 h1 hM1 (zm_F_a f1 351)), zm_e (zm_here hM1 _), c1]
        dsimp only
        rw [zm_e (zm_isOfLine hM1 _ t hl')]
        dsimp only
        by_cases q3 : t ∈ c 0 :: lh
        · rw [if_pos q3, if_neg (by decide)]
          exact go h1 0 f1 hM1 e363 e364 (fun z => absurd rfl z) (Or.inl rfl)
        · rw [if_neg q3, if_pos rfl]
          exact go h1 1 f1 hM1 e363 e364 (fun _ => q1) (Or.inr rfl)
    · rw [if_neg q1, if_pos rfl]
      exact go h1 0 f1 hM1 e363 e364 (fun z => absurd rfl z) (Or.inl rfl)
theorem zm_merge136 (d : Nat) {c : Nat → Int} {l : List Int} (hl : ∀ t ∈ l, zm_st c t) (hn : l.length ≤ 48) : ∀ (m i : Nat) (n : Int) (h : zv_H), i + m = l.length → zm_M h → zm_W (zv_I h 348) → zm_ex c (zv_I h 348) → (∀ (k : Nat) (x : Int), l.reverse[k]? = some x → zv_I h 363 k = x ∧ (zv_I h 364 k ≠ 0 → zm_ed c x)) → 0 ≤ n → n ≤ i → zm_R (L9_mergeNow_136 (d + 8) 347 l.length n i h) (zm_I fun v h' => zm_F [348, 351, 352, 353, 354, 355, 358, 359, 360, 362] [3, 10, 11, 12, 19, 24] h h' ∧ zm_W (zv_I h' 348) ∧ 0 ≤ v ∧ v ≤ 48)
  | 0, i, n, h, hi, hM, w, _, _, n0, n1 => by
    rw [qL9_mergeNow_136, if_neg (by omega), zm_e (zm_pI hM 3 0)]
    refine zm_iI ⟨zm_F_f (zm_F_r _ _ h) rfl _, ?_, n0, by omega⟩
    rw [zm_so h _ _]
    exact w
  | m + 1, i, n, h, hi, hM, w, ex, hk, n0, n1 => by
    have j0 : (0 : Int) ≤ (i : Int) := by omega
    have j1 : (i : Int) < ((49 : Nat) : Int) := by omega
    have j2 : ((i : Int)).toNat = i := by omega
    have w1 : zv_w ((i : Int) + 1) = ((i + 1 : Nat) : Int) := by
      rw [zm_w (by omega)]
      rfl
    have j3 : (i : Int) < (l.length : Int) := by omega
    have n2 : n ≤ ((i + 1 : Nat) : Int) := by omega
    have n3 : n + 1 ≤ ((i + 1 : Nat) : Int) := by omega
    have wn0 : zv_w (n + 0) = n := by
      rw [zm_w (by omega)]
      omega
    have wn1 : zv_w (n + 1) = n + 1 := zm_w (by omega)
    have n4 : 0 ≤ n + 1 := by omega
    have hi' : (i + 1) + m = l.length := by omega
    obtain ⟨x, hx⟩ : ∃ x, l.reverse[i]? = some x := ⟨_, List.getElem?_eq_getElem (by rw [List.length_reverse]; omega)⟩
    have hxk := hk i x hx
    have hxst : zm_st c x := hl x (List.mem_reverse.mp (List.mem_of_getElem? hx))
    rw [qL9_mergeNow_136, if_pos j3, zm_e (zm_f23 hM), zm_e (zm_aB hM zm_l364 (Or.inl rfl) rfl j0 j1), j2, w1]
    refine zm_if (fun _ => zm_merge136 d hl hn m (i + 1) n h hi' hM w ex hk n0 n2) (fun q0 => ?_)
    have hed : zm_ed (zv_I h 348) x := (zm_ed_cg (ex x hxst).2).mpr (hxk.2 q0)
    obtain ⟨⟨v, h1⟩, e1, f1, q1⟩ := zm_carries hM rfl w d (ex x hxst).1 hed
    dsimp only at f1 q1
    have hM1 := zm_F_M f1 hM
    have v47 : ¬ v < 0 → (0 ≤ x ∧ x < ((48 : Nat) : Int)) := fun _ => by
      have := hxst.1
      clear hxst
      omega
    rw [zm_e (zm_f22 hM), zm_e (zm_aI hM zm_l363 rfl j0 j1), j2, hxk.1, zm_e e1]
    dsimp only
    have l187 : ∀ h2 : zv_H, zm_F [348, 351, 352, 353, 354, 355, 358, 359, 360, 362] [3, 10, 11, 12, 19, 24] h h2 → zv_I h2 348 = zv_I h1 348 → zm_R (L9_mergeNow_187 (d + 8) 347 l.length n i v h2) (zm_I fun v h' => zm_F [348, 351, 352, 353, 354, 355, 358, 359, 360, 362] [3, 10, 11, 12, 19, 24] h h' ∧ zm_W (zv_I h' 348) ∧ 0 ≤ v ∧ v ≤ 48) := by
      intro h2 f2 e2
      have hM2 := zm_F_M f2 hM
      have l198 : ∀ z y : Int, zv_w (n + z) = y → 0 ≤ y → y ≤ ((i + 1 : Nat) : Int) → zm_R (L9_mergeNow_198 (d + 8) 347 l.length i v n z h2) (zm_I fun v h' => zm_F [348, 351, 352, 353, 354, 355, 358, 359, 360, 362] [3, 10, 11, 12, 19, 24] h h' ∧ zm_W (zv_I h' 348) ∧ 0 ≤ v ∧ v ≤ 48) := by
        intro z y ey y0 y1
        have nx : ∀ u : Int, zm_R (L9_mergeNow_136 (d + 8) 347 l.length y (((i + 1 : Nat)) : Int) (zv_sI h2 347 24 u)) (zm_I fun v h' => zm_F [348, 351, 352, 353, 354, 355, 358, 359, 360, 362] [3, 10, 11, 12, 19, 24] h h' ∧ zm_W (zv_I h' 348) ∧ 0 ≤ v ∧ v ≤ 48) := by
          intro u
          have f3 : zm_F [348, 351, 352, 353, 354, 355, 358, 359, 360, 362] [3, 10, 11, 12, 19, 24] h (zv_sI h2 347 24 u) := zm_F_f f2 rfl _
          have e3 : zv_I (zv_sI h2 347 24 u) 348 = zv_I h1 348 := (zm_so h2 _ _).trans e2
          refine zm_mono (zm_merge136 d hl hn m (i + 1) y (zv_sI h2 347 24 u) hi' (zm_F_M f3 hM) (by rw [e3]; exact q1.1) (by rw [e3]; exact zm_ex_t ex (zm_Dn_ex q1)) (fun k x hx => by rw [zm_F_a f3 363, zm_F_a f3 364]; exact hk k x hx) y0 y1) ?_
          rintro ⟨ov, h'⟩ ⟨v', ev, f4, q4⟩
          exact ⟨v', ev, zm_F_t f3 f4, q4⟩
        rw [qL9_mergeNow_198, zm_e (zm_gI hM2 24), ey, w1]
        refine zm_if (fun _ => ?_) (fun _ => ?_)
        · rw [zm_e (zm_pI hM2 24 _)]
          exact nx _
        · rw [zm_e (zm_pI hM2 24 _)]
          exact nx _
      rw [qL9_mergeNow_187]
      exact zm_if (fun _ => l198 0 n wn0 n0 n2) (fun _ => l198 1 (n + 1) wn1 n4 n3)
    refine zm_if (fun _ => l187 h1 (zm_F_s f1 rfl rfl) rfl) (fun qv => ?_)
    have e363 : zv_aI h1 363 (i : Int) = some x := by
      rw [zm_aI hM1 zm_l363 rfl j0 j1, j2, zm_F_a f1 363, hxk.1]
    rw [zm_e (zm_f21 hM1), zm_e (zm_f22 hM1), zm_e e363, zm_e (zm_wI hM1 zm_l362 rfl (v47 qv).1 (v47 qv).2 _)]
    exact l187 _ (zm_F_I (zm_F_s f1 rfl rfl) rfl _ _) (zm_so h1 _ _)
theorem zm_mergeNow {h : zv_H} {c : Nat → Int} (hM : zm_M h) (hc : zv_I h 348 = c) (w : zm_W c) (d : Nat) (s : Int) : zm_R (C9_mergeNow (d + 9) 347 s h) (fun q => zm_F [348, 351, 352, 353, 354, 355, 358, 359, 360, 362, 363, 364] [3, 10, 11, 12, 19, 24] h q.2 ∧ zm_W (zv_I q.2 348) ∧ ((q.1 = -1 ∧ zv_I q.2 348 = c) ∨ (0 ≤ q.1 ∧ q.1 ≤ 48))) := by
  refine zm_cI (P := fun v h' => zm_F [348, 351, 352, 353, 354, 355, 358, 359, 360, 362, 363, 364] [3, 10, 11, 12, 19, 24] h h' ∧ zm_W (zv_I h' 348) ∧ ((v = -1 ∧ zv_I h' 348 = c) ∨ (0 ≤ v ∧ v ≤ 48))) (lC9_mergeNow (zm_ob hM)) ?_
  have refu : ∀ v : Int, zm_R ((C9_refuse (d + 8) 347 v h).bind fun q => (some (some (zv_i q.1), q.2) : zv_O)) (zm_I fun v h' => zm_F [348, 351, 352, 353, 354, 355, 358, 359, 360, 362, 363, 364] [3, 10, 11, 12, 19, 24] h h' ∧ zm_W (zv_I h' 348) ∧ ((v = -1 ∧ zv_I h' 348 = c) ∨ (0 ≤ v ∧ v ≤ 48))) := by
    intro v
    rw [zm_e (zm_refuse hM _ v)]
    have e : zv_I (zv_sI h 347 3 v) 348 = c := (zm_so h _ _).trans hc
    exact zm_iI ⟨zm_F_f (zm_F_r _ _ h) rfl _, by rw [e]; exact w, Or.inl ⟨rfl, e⟩⟩
  obtain ⟨lh, hlh, _⟩ := zm_W_l w.1 w.2.1
  have hl' : zm_Ln (zv_I h 348) (c 0 :: lh) (c 0) := by
    rw [hc]
    exact hlh.1
  rw [qE9_mergeNow]
  refine zm_gb (zm_isState hM _ s) (fun _ => refu 2) (fun hs => ?_)
  rw [hc] at hs
  dsimp only
  rw [zm_e (zm_here hM _), hc]
  dsimp only
  refine zm_gb (zm_isOfLine hM _ s hl') (fun _ => ?_) (fun _ => refu 4)
  obtain ⟨l, hl, hl2, g, gt⟩ := zm_W_l w.1 hs
  have hln : (s :: l).length ≤ 48 := by
    rw [List.length_cons]
    clear hs
    omega
  obtain ⟨h1, e1, f1, hSn⟩ := zm_sees_st hM hc (d + 4) hl hl2 g gt
  have hM1 := zm_F_M f1 hM
  have c1 : zv_I h1 348 = c := (zm_F_a f1 348).trans hc
  dsimp only
  rw [zm_e e1, zm_e (zm_gI hM1 10), hSn.1.1]
  obtain ⟨h2, i1, f2, k2⟩ := zm_merge44 (d + 5) w hl.2.1.2.2 hln (s :: l).reverse [] rfl h1 hM1 c1 hSn.1.2 hSn.2.2.1 (fun k x hk => absurd hk (Nat.not_lt_zero _))
  have hM2 := zm_F_M f2 hM1
  have c2 : zv_I h2 348 = c := (zm_F_a f2 348).trans c1
  rw [show L9_mergeNow_44 (d + 8) 347 _ 0 h1 = _ from i1, qL9_mergeNow_44, if_neg (Int.lt_irrefl _)]
  obtain ⟨h3, e3, f3, _⟩ := zm_plain hM2 (d + 7)
  have hM3 := zm_F_M f3 hM2
  rw [zm_e e3, zm_e (zm_pI hM3 24 _)]
  have f4 : zm_F [348, 351, 352, 353, 354, 355, 358, 359, 360, 362, 363, 364] [3, 10, 11, 12, 19, 24] h (zv_sI h3 347 24 0) := zm_F_f (zm_F_t (zm_F_s f1 rfl rfl) (zm_F_t (zm_F_s f2 rfl rfl) (zm_F_s f3 rfl rfl))) rfl _
  have c4 : zv_I (zv_sI h3 347 24 0) 348 = c := (zm_so h3 _ _).trans ((zm_F_a f3 348).trans c2)
  have l1 : 1 + l.length = (s :: l).length := by
    rw [List.length_cons, Nat.add_comm]
  refine zm_mono (zm_merge136 d hl.2.1.2.2 hln l.length 1 0 (zv_sI h3 347 24 0) l1 hM3 (by rw [c4]; exact w) (by rw [c4]; exact zm_ex_r c) (fun k x hx => by rw [zm_so h3 _ _, zm_so h3 _ _, zm_F_a f3 363, zm_F_a f3 364]; exact k2 k x hx) (by decide) (by decide)) ?_
  rintro ⟨ov, h'⟩ ⟨v, ev, f5, w5, v0, v1⟩
  exact ⟨v, ev, zm_F_t f4 (zm_F_s f5 rfl rfl), w5, Or.inr ⟨v0, v1⟩⟩
