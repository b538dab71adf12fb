/-! ===== the tie: the relation behind a put ===== -/
theorem zt_sum_up {f g : Nat → Int} {j : Nat} (hj : g j = f j - 1) : ∀ n : Nat, (∀ k, k < n → k ≠ j → g k = f k) → zm_sum g n = if j < n then zm_sum f n - 1 else zm_sum f n
  | 0, _ => rfl
  | n + 1, h => by
    have ih := zt_sum_up hj n (fun k hk => h k (by omega))
    show zm_sum g n + g n = if j < n + 1 then zm_sum f n + f n - 1 else zm_sum f n + f n
    by_cases e : n = j
    · subst e
      rw [if_neg (Nat.lt_irrefl _)] at ih
      rw [if_pos (by omega), ih, hj]
      omega
    · rw [h n (by omega) e]
      by_cases q : j < n
      · rw [if_pos q] at ih
        rw [if_pos (by omega), ih]
        omega
      · rw [if_neg q] at ih
        rw [if_neg (by omega), ih]
theorem zt_nst_new {c c' : Nat → Int} {s : Int} (W : zm_W c) (fr : zt_free c s) (n : zm_Nw c c' s) : zm_nst c' = zm_nst c + 1 := by
  have h1 := fr.1
  have e := zt_sum_up (f := fun k => zm_o c' k 0) (g := fun k => zm_o c k 0) (j := s.toNat) (by
    show zm_o c ((s.toNat : Nat) : Int) 0 = zm_o c' ((s.toNat : Nat) : Int) 0 - 1
    have h0 := (W.1.1 s h1.1 h1.2).resolve_right fr.2.2
    rw [show ((s.toNat : Nat) : Int) = s by omega, n.2.2.1, h0]
    rfl) 48 (fun k hk1 hk => (n.2.1 (k : Int) 0 (by omega) (by omega) (fun z => hk (by omega)) (by decide) (by decide)).symm)
  rw [if_pos (show s.toNat < 48 by omega)] at e
  have e' : zm_nst c = zm_nst c' - 1 := e
  omega
theorem zt_nm0 {c : Nat → Int} {s : Int} (h10 : zm_o c s 10 = 0) (h11 : zm_o c s 11 = 0) {t : Int} (t0 : 0 ≤ t) (t1 : t < 48) : ¬ zm_nm c s t := by
  have key : ∀ t : Nat, t < 48 → ¬ zv_and (zv_shr 0 ((t : Int).tmod 24)) 1 = 1 := by decide +kernel
  have k2 := key t.toNat (by omega)
  rw [show ((t.toNat : Nat) : Int) = t by omega] at k2
  intro q
  have q' : zv_and (zv_shr (zm_o c s (if t < 24 then 10 else 11)) (t.tmod 24)) 1 = 1 := q
  by_cases e : t < 24
  · rw [if_pos e, h10] at q'
    exact k2 q'
  · rw [if_neg e, h11] at q'
    exact k2 q'
theorem zt_id_s {s j : Int} (h : 1 ≤ s) : zt_id (s, j) = 40 + (s - 1) * 12 + j := if_neg (show ¬ s = 0 by omega)
theorem zt_gy_ne {G : Nat → Int} {s : Int} {wd : Nat → Int} {i : Nat} : ∀ m : Nat, (∀ j : Nat, j < m → i ≠ (zt_id (s, (j : Int))).toNat) → zt_gy G s wd m i = G i
  | 0, _ => rfl
  | m + 1, h => by
    show zm_u (zt_gy G s wd m) (zt_id (s, (m : Int))).toNat (wd m) i = G i
    unfold zm_u
    rw [if_neg (h m (by omega))]
    exact zt_gy_ne m (fun j hj => h j (by omega))
theorem zt_gy_at {G : Nat → Int} {s : Int} {wd : Nat → Int} (hs : 1 ≤ s) : ∀ (m : Nat) {j : Nat}, j < m → zt_gy G s wd m (zt_id (s, (j : Int))).toNat = wd j
  | 0, j, h => absurd h (Nat.not_lt_zero _)
  | m + 1, j, h => by
    show zm_u (zt_gy G s wd m) (zt_id (s, (m : Int))).toNat (wd m) (zt_id (s, (j : Int))).toNat = wd j
    unfold zm_u
    by_cases e : j = m
    · rw [if_pos (by rw [e]), e]
    · rw [if_neg (by rw [zt_id_s hs, zt_id_s hs]; omega)]
      exact zt_gy_at hs m (by omega)
theorem zt_ok_of {c : Nat → Int} (W : zm_W c) {t : Int} (ht : zm_st c t) (q : zm_o c t 2 = 0 ∨ t = 0) {k : Nat} (hk : (k : Int) < zm_o c t 5) : zt_ok (t, (k : Int)) := by
  by_cases t0 : t = 0
  · have h40 := W.1.2.1.2.2.2.2
    rw [t0] at hk
    exact Or.inl ⟨t0, by omega, by omega⟩
  · have h12 := (zm_ed_m W.1 ht (Or.inl (q.resolve_right t0))).2
    have := ht.1
    exact Or.inr ⟨⟨by omega, by omega⟩, by omega, by omega⟩
/-- the line behind a new one -/
theorem zt_Ln_new {c c' : Nat → Int} {s : Int} {l : List Int} (W : zm_W c) (fr : zt_free c s) (n : zm_Nw c c' s) (hl : zm_Ln c (c 0 :: l) (c 0)) : zm_Ln c' (s :: c 0 :: l) s ∧ (∀ t ∈ c 0 :: l, zm_ag c c' t) ∧ ¬ s ∈ c 0 :: l := by
  have hlh := (zt_line_u W W.2.1 hl).1.2.2.1
  have hns : ∀ t, zm_st c t → t ≠ s := fun t q e => fr.2.2 (by rw [← e]; exact q.2)
  have hag : ∀ t ∈ c 0 :: l, zm_ag c c' t := fun t ht => by
    have := (hlh t ht).1
    exact zm_Nw_ag n this.1 (by omega) (hns t (hlh t ht))
  have h47 := fr.1
  refine ⟨⟨⟨rfl, h47.1, by omega⟩, ?_⟩, hag, fun q => hns s (hlh s q) rfl⟩
  rw [n.2.2.2]
  exact zm_Ln_cg hag hl
/-- the relation behind a new State -/
theorem zt_U_new {a : Nat} {c c' : Nat → Int} {h g : zv_H} {s x y z fi : Int} (U : zt_U a c h) (V : zv_I h (a + 17) 4 = c 2) (hA : zc_A g) (fr : zt_free c s) (N : zt_nn a c h s x y z fi g) (W' : zm_W c') (n : zm_Nw c c' s) (e2 : zm_o c' s 2 = x) (e3 : zm_o c' s 3 = c 1) (e4 : zm_o c' s 4 = y) (e5 : zm_o c' s 5 = z) (e6 : zm_o c' s 6 = fi) (e7 : zm_o c' s 7 = zv_w (c 2 + 1)) (fg : ∀ t, zm_st c t → (zm_o c t 2 = 0 ∨ t = 0) → ∀ k : Nat, (k : Int) < zm_o c t 5 → zv_I g (a + 5) (zt_id (t, (k : Int))).toNat = zv_I h (a + 5) (zt_id (t, (k : Int))).toNat)
    (an : zv_I g (zt_r a s) 15 = (if zm_o c' s 2 = 0 ∧ 0 ≤ zm_o c' s 8 then zt_id (zm_o c' s 8, zm_o c' s 9) else -1))
    (nm : ∀ t : Nat, t < 64 → (zt_b (zv_J g (zt_r a s) 16) t = true ↔ t < 48 ∧ zm_nm c' s t))
    (bs : ∀ t : Nat, t < 64 → (zt_b (zv_J g (zt_r a s) 17) t = true ↔ 1 ≤ t ∧ t < 48 ∧ zt_ln c' s t))
    (tk : zm_o c' s 2 = 1 → ∀ (k : Nat) (x : Int × Int), (zm_tk c' s)[k]? = some x → zv_I g (zt_r a s + 1) k = zt_id x)
    (gl : (zm_o c' s 2 = 0 ∨ s = 0) → ∀ k : Nat, (k : Int) < zm_o c' s 5 → zv_I g (a + 5) (zt_id (s, (k : Int))).toNat = zm_o c' s (12 + (k : Int)))
    (ln : ∀ l, zm_Ln c' (s :: l) s → zv_I g (zt_r a s) 12 = (zt_dc c' (s :: l)).length)
    (dc : ∀ l, zm_Ln c' (s :: l) s → ∀ (n : Nat) (x : Int × Int), (zt_dc c' (s :: l))[n]? = some x → zv_I g (zt_r a s + 2) n = zt_id x)
    (cw : zt_cw c' s) : zt_U a c' g := by
  have la := zt_U_la U
  have W := zt_U_W U
  have s47 := fr.1
  have hns : ∀ t, zm_st c t → t ≠ s := fun t q e => fr.2.2 (by rw [← e]; exact q.2)
  have hst : ∀ {t : Int}, zm_st c' t ↔ t = s ∨ (t ≠ s ∧ zm_st c t) := zm_Nw_st fr.1 n
  refine zt_U_mk la W' hA (fun i hi => ?_) (fun t ht => ?_) ?_ ?_ ?_
  · rw [zt_nn_lv N i hi]
    by_cases e : i = s.toNat
    · rw [if_pos e, e, show ((s.toNat : Nat) : Int) = s by omega]
      exact n.2.2.1.symm
    · rw [if_neg e, zt_U_lv U i hi]
      exact (n.2.1 (i : Int) 0 (by omega) (by omega) (fun q => e (by omega)) (by decide) (by decide)).symm
  · rcases hst.mp ht with q | q
    · subst q
      refine ⟨?_, ?_, ?_, ?_, ?_, ?_, ?_, an, nm, bs, tk, gl, ln, dc, cw⟩
      · rw [n.2.2.2]; exact zt_nn_r4 N
      · rw [e6]; exact zt_nn_r5 N
      · rw [e2]; exact zt_nn_s6 N
      · rw [e3]; exact zt_nn_s7 N
      · rw [e4]; exact zt_nn_s8 N
      · rw [e5]; exact zt_nn_s9 N
      · rw [e7, ← V]; exact zt_nn_sd N
    · obtain ⟨q1, q2⟩ := q
      obtain ⟨l, hl, ok, _⟩ := zt_line W q2
      have S := zt_U_st U t q2
      refine zt_S0_cg W q2 (zt_S_0 S) hl (fun u hu => ?_) ?_ (fun k k1 _ _ _ => zt_nn_oI N t q2 k k1) (zt_nn_o1 N t q2) (zt_nn_o2 N t q2) (zt_nn_oJ N t q2) (zt_nn_oR N t q2) (fg t q2)
      · have hu2 := ok.2.2.1 u hu
        exact zm_Nw_ag n hu2.1.1 (by have := hu2.1; omega) (hns u hu2)
      · rw [zt_nn_oI N t q2 13 (by decide), zt_S_vi S]
        exact (n.2.1 t 7 q2.1.1 (by have := q2.1; omega) q1 (by decide) (by decide)).symm
  · rw [n.1 0 (Or.inl (by decide)) (by decide), zm_vc_0 c fr.1]
    exact zt_nn_he N
  · rw [n.1 1 (Or.inl (by decide)) (by decide), zm_vc_h fr.1 (by decide) (by decide) (by decide) (by decide)]
    exact zt_nn_nw N
  · have h48 := zt_nst_le W
    have h49 := zt_nst_le W'
    have e := zt_nst_new W fr n
    rw [zt_nn_ct N, e, zm_w (by omega)]
/-- .. behind a put -/
theorem zt_U_put {a : Nat} {c c' : Nat → Int} {h g : zv_H} {s fi : Int} {l : List Int} {pl m : Nat} {wd : Nat → Int} (U : zt_U a c h) (V : zv_I h (a + 17) 4 = c 2) (hA : zc_A g) (fr : zt_free c s) (hl : zm_Ln c (c 0 :: l) (c 0)) (hm : m ≤ 12) (hpl : pl ≤ (zt_dc c (c 0 :: l)).length) (N : zt_nn a c h s 0 (pl : Int) (m : Int) fi g) (P : zt_pn a c h s (zt_dc c (c 0 :: l)) pl m wd g) (W' : zm_W c') (n : zm_Nw c c' s) (Pt : zm_Pt c c' (c 0 :: l) s (pl : Int) (m : Int) wd) (e6 : zm_o c' s 6 = fi) (e7 : zm_o c' s 7 = zv_w (c 2 + 1)) (e10 : zm_o c' s 10 = 0) (e11 : zm_o c' s 11 = 0) : zt_U a c' g := by
  have W := zt_U_W U
  have s47 := fr.1
  have s1 : 1 ≤ s := by
    have z : s ≠ 0 := fun e => by
      have h0 := W.1.2.1.1.2
      have h1 := fr.2.2
      rw [e] at h1
      exact h1 h0
    omega
  obtain ⟨p2, p3, p4, p5, _, pw, p80, p8x⟩ := Pt
  obtain ⟨ok, g0, gt, W1⟩ := zt_line_u W W.2.1 hl
  obtain ⟨Ln', hag, hns⟩ := zt_Ln_new W fr n hl
  have rok := zt_row_ok ok.2.2.1 g0
  have r0 : ∀ p ∈ zm_row c (c 0 :: l), 0 ≤ p.1 := fun p hp => by
    rcases rok p hp with q | q <;> omega
  have h1' : pl ≠ 0 → ∃ x : Int × Int, (zt_dc c (c 0 :: l))[pl - 1]? = some x ∧ zm_o c' s 8 = x.1 ∧ zm_o c' s 9 = x.2 := fun z => by
    obtain ⟨x, x1, x2⟩ := p8x (by omega)
    rw [show ((pl : Int) - 1).toNat = pl - 1 by omega] at x1
    exact ⟨x, x1, x2⟩
  have hm8 : ∀ x : Int × Int, (zt_dc c (c 0 :: l))[pl - 1]? = some x → x ∈ zm_row c (c 0 :: l) := fun x hx => (List.mem_filter.mp (List.mem_of_getElem? hx)).1
  have edc := zt_dc_put (by exact List.cons_ne_nil _ _) hag hns g0 gt p2 hpl (fun z => p80 (by omega)) h1' r0
  rw [p5] at edc
  have un : ∀ l', zm_Ln c' (s :: l') s → l' = c 0 :: l := fun l' h' => (List.cons.inj (zm_Ln_u h' Ln')).2
  refine zt_U_new U V hA fr N W' n p2 p3 p4 p5 e6 e7 (fun t ht q k hk => ?_) ?_ (fun t ht => ?_) (fun t ht => ?_) (fun q => absurd (p2.symm.trans q) (by decide)) (fun _ k hk => ?_) (fun l' h' => ?_) (fun l' h' i x hx => ?_) ?_
  · rw [zt_pn_gl P]
    refine zt_gy_ne m (fun j hj e => ?_)
    have ok1 := zt_ok_of W ht q hk
    have ok2 : zt_ok (s, (j : Int)) := Or.inr ⟨⟨s1, s47.2⟩, by omega, by omega⟩
    have r1 := zt_id_r ok1
    have r2 := zt_id_r ok2
    have e' := zt_id_inj ok1 ok2 (by omega)
    have e1 : t = s := congrArg Prod.fst e'
    exact fr.2.2 (by rw [← e1]; exact ht.2)
  · rw [zt_pn_an P]
    unfold zt_an
    by_cases z : pl = 0
    · rw [if_pos z, if_neg (fun q => by have := p80 (by omega); omega)]
    · obtain ⟨x, x1, x2, x3⟩ := h1' z
      have := r0 x (hm8 x x1)
      rw [if_neg z, x1, if_pos ⟨p2, by omega⟩, x2, x3]
  · rw [zt_pn_nd P, zt_b_0]
    refine ⟨fun q => (by cases q), fun q => absurd q.2 (zt_nm0 e10 e11 (by omega) (by omega))⟩
  · rw [zt_pn_bs P]
    unfold zt_ab
    by_cases z : pl = 0
    · rw [if_pos z, zt_b_0]
      refine ⟨fun q => (by cases q), fun q => ?_⟩
      rcases q.2.2 with u | u
      · have := p80 (by omega); omega
      · exact absurd (p2.symm.trans u.1) (by decide)
    · obtain ⟨x, x1, x2, x3⟩ := h1' z
      have x0 := r0 x (hm8 x x1)
      have x48 : x.1 < 48 := by rcases rok x (hm8 x x1) with q | q <;> omega
      rw [if_neg z, x1]
      show zt_b (zt_bo x.1) t = true ↔ _
      have lniff : zt_ln c' s t ↔ x.1 = t := by
        constructor
        · intro u
          rcases u with u | u
          · rw [← x2]; exact u.2
          · exact absurd (p2.symm.trans u.1) (by decide)
        · intro u
          exact Or.inl ⟨p2, by rw [x2]; exact u⟩
      rw [lniff]
      unfold zt_bo
      by_cases x10 : x.1 = 0
      · rw [if_pos x10, zt_b_0]
        exact ⟨fun q => (by cases q), fun q => by omega⟩
      · rw [if_neg x10, zt_b_bt (by omega) ht]
        constructor
        · intro q
          have := of_decide_eq_true q
          omega
        · intro q
          exact decide_eq_true (by omega)
  · rw [p5] at hk
    rw [zt_pn_gl P, zt_gy_at s1 m (by omega)]
    exact (pw k hk).symm
  · rw [un l' h', edc]
    exact zt_pn_ln P
  · rw [un l' h', edc] at hx
    exact zt_pn_dc P i x hx
  · refine ⟨fun l' h' t t0 t1 hn => absurd hn (zt_nm0 e10 e11 t0 t1), fun l' h' _ k1 => ?_, fun q => absurd (p2.symm.trans q) (by decide), Or.inr (Or.inl p2)⟩
    rw [un l' h', zm_row_cg hag]
    by_cases z : pl = 0
    · have := p80 (by omega); omega
    · obtain ⟨x, x1, x2, x3⟩ := h1' z
      rw [x2, x3]
      exact hm8 x x1
