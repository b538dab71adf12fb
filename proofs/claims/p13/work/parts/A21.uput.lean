/-! A21.uput -/
section
/-! ===== the tie: the relation behind a put ===== -/
theorem zt_sum_up {f g : Nat → Int} {j : Nat} (hj : g j = f j - 1) : ∀ n : Nat, (∀ k, k < n → k ≠ j → g k = f k) → zm_sum g n = if j < n then zm_sum f n - 1 else zm_sum f n
  | 0, _ => rfl
  | n + 1, h => by
    have ih := zt_sum_up hj n (fun k hk => h k (by omega))
    show zm_sum g n + g n = if j < n + 1 then zm_sum f n + f n - 1 else zm_sum f n + f n
    by_cases e : n = j
    · subst e
      rw [if_neg (Nat.lt_irrefl _)] at ih
      rw [if_pos (by omega), ih, hj]
      omega
    · rw [h n (by omega) e]
      by_cases q : j < n
      · rw [if_pos q] at ih
        rw [if_pos (by omega), ih]
        omega
      · rw [if_neg q] at ih
        rw [if_neg (by omega), ih]
theorem zt_nst_new {c c' : Nat → Int} {s : Int} (W : zm_W c) (fr : zt_free c s) (n : zm_Nw c c' s) : zm_nst c' = zm_nst c + 1 := by
  have h1 := fr.1
  have e := zt_sum_up (f := fun k => zm_o c' k 0) (g := fun k => zm_o c k 0) (j := s.toNat) (by
    show zm_o c ((s.toNat : Nat) : Int) 0 = zm_o c' ((s.toNat : Nat) : Int) 0 - 1
    have h0 := (W.1.1 s h1.1 h1.2).resolve_right fr.2.2
    rw [show ((s.toNat : Nat) : Int) = s by omega, n.2.2.1, h0]
    rfl) 48 (fun k hk1 hk => (n.2.1 (k : Int) 0 (by omega) (by omega) (fun z => hk (by omega)) (by decide) (by decide)).symm)
  rw [if_pos (show s.toNat < 48 by omega)] at e
  have e' : zm_nst c = zm_nst c' - 1 := e
  omega
theorem zt_nm0 {c : Nat → Int} {s : Int} (h10 : zm_o c s 10 = 0) (h11 : zm_o c s 11 = 0) {t : Int} (t0 : 0 ≤ t) (t1 : t < 48) : ¬ zm_nm c s t := by
  have key : ∀ t : Nat, t < 48 → ¬ zv_and (zv_shr 0 ((t : Int).tmod 24)) 1 = 1 := by decide +kernel
  have k2 := key t.toNat (by omega)
  rw [show ((t.toNat : Nat) : Int) = t by omega] at k2
  intro q
  have q' : zv_and (zv_shr (zm_o c s (if t < 24 then 10 else 11)) (t.tmod 24)) 1 = 1 := q
  by_cases e : t < 24
  · rw [if_pos e, h10] at q'
    exact k2 q'
  · rw [if_neg e, h11] at q'
    exact k2 q'
theorem zt_id_s {s j : Int} (h : 1 ≤ s) : zt_id (s, j) = 40 + (s - 1) * 12 + j := if_neg (show ¬ s = 0 by omega)
theorem zt_gy_ne {G : Nat → Int} {s : Int} {wd : Nat → Int} {i : Nat} : ∀ m : Nat, (∀ j : Nat, j < m → i ≠ (zt_id (s, (j : Int))).toNat) → zt_gy G s wd m i = G i
  | 0, _ => rfl
  | m + 1, h => by
    show zm_u (zt_gy G s wd m) (zt_id (s, (m : Int))).toNat (wd m) i = G i
    unfold zm_u
    rw [if_neg (h m (by omega))]
    exact zt_gy_ne m (fun j hj => h j (by omega))
theorem zt_gy_at {G : Nat → Int} {s : Int} {wd : Nat → Int} (hs : 1 ≤ s) : ∀ (m : Nat) {j : Nat}, j < m → zt_gy G s wd m (zt_id (s, (j : Int))).toNat = wd j
  | 0, j, h => absurd h (Nat.not_lt_zero _)
  | m + 1, j, h => by
    show zm_u (zt_gy G s wd m) (zt_id (s, (m : Int))).toNat (wd m) (zt_id (s, (j : Int))).toNat = wd j
    unfold zm_u
    by_cases e : j = m
    · rw [if_pos (by rw [e]), e]
    · rw [if_neg (by rw [zt_id_s hs, zt_id_s hs]; omega)]
      exact zt_gy_at hs m (by omega)
theorem zt_ok_of {c : Nat → Int} (W : zm_W c) {t : Int} (ht : zm_st c t) (q : zm_o c t 2 = 0 ∨ t = 0) {k : Nat} (hk : (k : Int) < zm_o c t 5) : zt_ok (t, (k : Int)) := by
  by_cases t0 : t = 0
  · have h40 := W.1.2.1.2.2.2.2
    rw [t0] at hk
    exact Or.inl ⟨t0, by omega, by omega⟩
  · have h12 := (zm_ed_m W.1 ht (Or.inl (q.resolve_right t0))).2
    have := ht.1
    exact Or.inr ⟨⟨by omega, by omega⟩, by omega, by omega⟩
/-- the line behind a new one -/
theorem zt_Ln_new {c c' : Nat → Int} {s : Int} {l : List Int} (W : zm_W c) (fr : zt_free c s) (n : zm_Nw c c' s) (hl : zm_Ln c (c 0 :: l) (c 0)) : zm_Ln c' (s :: c 0 :: l) s ∧ (∀ t ∈ c 0 :: l, zm_ag c c' t) ∧ ¬ s ∈ c 0 :: l := by
  have hlh := (zt_line_u W W.2.1 hl).1.2.2.1
  have hns : ∀ t, zm_st c t → t ≠ s := fun t q e => fr.2.2 (by rw [← e]; exact q.2)
  have hag : ∀ t ∈ c 0 :: l, zm_ag c c' t := fun t ht => by
    have := (hlh t ht).1
    exact zm_Nw_ag n this.1 (by omega) (hns t (hlh t ht))
  have h47 := fr.1
  refine ⟨⟨⟨rfl, h47.1, by omega⟩, ?_⟩, hag, fun q => hns s (hlh s q) rfl⟩
  rw [n.2.2.2]
  exact zm_Ln_cg hag hl
/-- the relation behind a new State -/
theorem zt_U_new {a : Nat} {c c' : Nat → Int} {h g : zv_H} {s x y z fi : Int} (U : zt_U a c h) (V : zv_I h (a + 17) 4 = c 2) (hA : zc_A g) (fr : zt_free c s) (N : zt_nn a c h s x y z fi g) (W' : zm_W c') (n : zm_Nw c c' s) (e2 : zm_o c' s 2 = x) (e3 : zm_o c' s 3 = c 1) (e4 : zm_o c' s 4 = y) (e5 : zm_o c' s 5 = z) (e6 : zm_o c' s 6 = fi) (e7 : zm_o c' s 7 = zv_w (c 2 + 1)) (fg : ∀ t, zm_st c t → (zm_o c t 2 = 0 ∨ t = 0) → ∀ k : Nat, (k : Int) < zm_o c t 5 → zv_I g (a + 5) (zt_id (t, (k : Int))).toNat = zv_I h (a + 5) (zt_id (t, (k : Int))).toNat)
    (an : zv_I g (zt_r a s) 15 = (if zm_o c' s 2 = 0 ∧ 0 ≤ zm_o c' s 8 then zt_id (zm_o c' s 8, zm_o c' s 9) else -1))
    (nm : ∀ t : Nat, t < 64 → (zt_b (zv_J g (zt_r a s) 16) t = true ↔ t < 48 ∧ zm_nm c' s t))
    (bs : ∀ t : Nat, t < 64 → (zt_b (zv_J g (zt_r a s) 17) t = true ↔ 1 ≤ t ∧ t < 48 ∧ zt_ln c' s t))
    (tk : zm_o c' s 2 = 1 → ∀ (k : Nat) (x : Int × Int), (zm_tk c' s)[k]? = some x → zv_I g (zt_r a s + 1) k = zt_id x)
    (gl : (zm_o c' s 2 = 0 ∨ s = 0) → ∀ k : Nat, (k : Int) < zm_o c' s 5 → zv_I g (a + 5) (zt_id (s, (k : Int))).toNat = zm_o c' s (12 + (k : Int)))
    (ln : ∀ l, zm_Ln c' (s :: l) s → zv_I g (zt_r a s) 12 = (zt_dc c' (s :: l)).length)
    (dc : ∀ l, zm_Ln c' (s :: l) s → ∀ (n : Nat) (x : Int × Int), (zt_dc c' (s :: l))[n]? = some x → zv_I g (zt_r a s + 2) n = zt_id x)
    (cw : zt_cw c' s) : zt_U a c' g := by
  have la := zt_U_la U
  have W := zt_U_W U
  have s47 := fr.1
  have hns : ∀ t, zm_st c t → t ≠ s := fun t q e => fr.2.2 (by rw [← e]; exact q.2)
  have hst : ∀ {t : Int}, zm_st c' t ↔ t = s ∨ (t ≠ s ∧ zm_st c t) := zm_Nw_st fr.1 n
  refine zt_U_mk la W' hA (fun i hi => ?_) (fun t ht => ?_) ?_ ?_ ?_
  · rw [zt_nn_lv N i hi]
    by_cases e : i = s.toNat
    · rw [if_pos e, e, show ((s.toNat : Nat) : Int) = s by omega]
      exact n.2.2.1.symm
    · rw [if_neg e, zt_U_lv U i hi]
      exact (n.2.1 (i : Int) 0 (by omega) (by omega) (fun q => e (by omega)) (by decide) (by decide)).symm
  · rcases hst.mp ht with q | q
    · subst q
      refine ⟨?_, ?_, ?_, ?_, ?_, ?_, ?_, an, nm, bs, tk, gl, ln, dc, cw⟩
      · rw [n.2.2.2]; exact zt_nn_r4 N
      · rw [e6]; exact zt_nn_r5 N
      · rw [e2]; exact zt_nn_s6 N
      · rw [e3]; exact zt_nn_s7 N
      · rw [e4]; exact zt_nn_s8 N
      · rw [e5]; exact zt_nn_s9 N
      · rw [e7, ← V]; exact zt_nn_sd N
    · obtain ⟨q1, q2⟩ := q
      obtain ⟨l, hl, ok, _⟩ := zt_line W q2
      have S := zt_U_st U t q2
      refine zt_S0_cg W q2 (zt_S_0 S) hl (fun u hu => ?_) ?_ (fun k k1 _ _ _ => zt_nn_oI N t q2 k k1) (zt_nn_o1 N t q2) (zt_nn_o2 N t q2) (zt_nn_oJ N t q2) (zt_nn_oR N t q2) (fg t q2)
      · have hu2 := ok.2.2.1 u hu
        exact zm_Nw_ag n hu2.1.1 (by have := hu2.1; omega) (hns u hu2)
      · rw [zt_nn_oI N t q2 13 (by decide), zt_S_vi S]
        exact (n.2.1 t 7 q2.1.1 (by have := q2.1; omega) q1 (by decide) (by decide)).symm
  · rw [n.1 0 (Or.inl (by decide)) (by decide), zm_vc_0 c fr.1]
    exact zt_nn_he N
  · rw [n.1 1 (Or.inl (by decide)) (by decide), zm_vc_h fr.1 (by decide) (by decide) (by decide) (by decide)]
    exact zt_nn_nw N
  · have h48 := zt_nst_le W
    have h49 := zt_nst_le W'
    have e := zt_nst_new W fr n
    rw [zt_nn_ct N, e, zm_w (by omega)]
/-- .. behind a put -/
theorem zt_U_put {a : Nat} {c c' : Nat → Int} {h g : zv_H} {s fi : Int} {l : List Int} {pl m : Nat} {wd : Nat → Int} (U : zt_U a c h) (V : zv_I h (a + 17) 4 = c 2) (hA : zc_A g) (fr : zt_free c s) (hl : zm_Ln c (c 0 :: l) (c 0)) (hm : m ≤ 12) (hpl : pl ≤ (zt_dc c (c 0 :: l)).length) (N : zt_nn a c h s 0 (pl : Int) (m : Int) fi g) (P : zt_pn a c h s (zt_dc c (c 0 :: l)) pl m wd g) (W' : zm_W c') (n : zm_Nw c c' s) (Pt : zm_Pt c c' (c 0 :: l) s (pl : Int) (m : Int) wd) (e6 : zm_o c' s 6 = fi) (e7 : zm_o c' s 7 = zv_w (c 2 + 1)) (e10 : zm_o c' s 10 = 0) (e11 : zm_o c' s 11 = 0) (lt0 : ∀ k : Nat, k < m → 0 ≤ wd k) : zt_U a c' g := by
  have W := zt_U_W U
  have s47 := fr.1
  have s1 : 1 ≤ s := by
    have z : s ≠ 0 := fun e => by
      have h0 := W.1.2.1.1.2
      have h1 := fr.2.2
      rw [e] at h1
      exact h1 h0
    omega
  obtain ⟨p2, p3, p4, p5, _, pw, p80, p8x⟩ := Pt
  obtain ⟨ok, g0, gt, W1⟩ := zt_line_u W W.2.1 hl
  obtain ⟨Ln', hag, hns⟩ := zt_Ln_new W fr n hl
  have rok := zt_row_ok ok.2.2.1 g0
  have r0 : ∀ p ∈ zm_row c (c 0 :: l), 0 ≤ p.1 := fun p hp => by
    rcases rok p hp with q | q <;> omega
  have h1' : pl ≠ 0 → ∃ x : Int × Int, (zt_dc c (c 0 :: l))[pl - 1]? = some x ∧ zm_o c' s 8 = x.1 ∧ zm_o c' s 9 = x.2 := fun z => by
    obtain ⟨x, x1, x2⟩ := p8x (by omega)
    rw [show ((pl : Int) - 1).toNat = pl - 1 by omega] at x1
    exact ⟨x, x1, x2⟩
  have hm8 : ∀ x : Int × Int, (zt_dc c (c 0 :: l))[pl - 1]? = some x → x ∈ zm_row c (c 0 :: l) := fun x hx => (List.mem_filter.mp (List.mem_of_getElem? hx)).1
  have edc := zt_dc_put (by exact List.cons_ne_nil _ _) hag hns g0 gt p2 hpl (fun z => p80 (by omega)) h1' r0
  rw [p5] at edc
  have un : ∀ l', zm_Ln c' (s :: l') s → l' = c 0 :: l := fun l' h' => (List.cons.inj (zm_Ln_u h' Ln')).2
  refine zt_U_new U V hA fr N W' n p2 p3 p4 p5 e6 e7 (fun t ht q k hk => ?_) ?_ (fun t ht => ?_) (fun t ht => ?_) (fun q => absurd (p2.symm.trans q) (by decide)) (fun _ k hk => ?_) (fun l' h' => ?_) (fun l' h' i x hx => ?_) ?_
  · rw [zt_pn_gl P]
    refine zt_gy_ne m (fun j hj e => ?_)
    have ok1 := zt_ok_of W ht q hk
    have ok2 : zt_ok (s, (j : Int)) := Or.inr ⟨⟨s1, s47.2⟩, by omega, by omega⟩
    have r1 := zt_id_r ok1
    have r2 := zt_id_r ok2
    have e' := zt_id_inj ok1 ok2 (by omega)
    have e1 : t = s := congrArg Prod.fst e'
    exact fr.2.2 (by rw [← e1]; exact ht.2)
  · rw [zt_pn_an P]
    unfold zt_an
    by_cases z : pl = 0
    · rw [if_pos z, if_neg (fun q => by have := p80 (by omega); omega)]
    · obtain ⟨x, x1, x2, x3⟩ := h1' z
      have := r0 x (hm8 x x1)
      rw [if_neg z, x1, if_pos ⟨p2, by omega⟩, x2, x3]
  · rw [zt_pn_nd P, zt_b_0]
    refine ⟨fun q => (by cases q), fun q => absurd q.2 (zt_nm0 e10 e11 (by omega) (by omega))⟩
  · rw [zt_pn_bs P]
    unfold zt_ab
    by_cases z : pl = 0
    · rw [if_pos z, zt_b_0]
      refine ⟨fun q => (by cases q), fun q => ?_⟩
      rcases q.2.2 with u | u
      · have := p80 (by omega); omega
      · exact absurd (p2.symm.trans u.1) (by decide)
    · obtain ⟨x, x1, x2, x3⟩ := h1' z
      have x0 := r0 x (hm8 x x1)
      have x48 : x.1 < 48 := by rcases rok x (hm8 x x1) with q | q <;> omega
      rw [if_neg z, x1]
      show zt_b (zt_bo x.1) t = true ↔ _
      have lniff : zt_ln c' s t ↔ x.1 = t := by
        constructor
        · intro u
          rcases u with u | u
          · rw [← x2]; exact u.2
          · exact absurd (p2.symm.trans u.1) (by decide)
        · intro u
          exact Or.inl ⟨p2, by rw [x2]; exact u⟩
      rw [lniff]
      unfold zt_bo
      by_cases x10 : x.1 = 0
      · rw [if_pos x10, zt_b_0]
        exact ⟨fun q => (by cases q), fun q => by omega⟩
      · rw [if_neg x10, zt_b_bt (by omega) ht]
        constructor
        · intro q
          have := of_decide_eq_true q
          omega
        · intro q
          exact decide_eq_true (by omega)
  · rw [p5] at hk
    rw [zt_pn_gl P, zt_gy_at s1 m (by omega)]
    exact (pw k hk).symm
  · rw [un l' h', edc]
    exact zt_pn_ln P
  · rw [un l' h', edc] at hx
    exact zt_pn_dc P i x hx
  · refine ⟨fun l' h' t t0 t1 hn => absurd hn (zt_nm0 e10 e11 t0 t1), fun l' h' _ k1 => ?_, fun q => absurd (p2.symm.trans q) (by decide), Or.inr (Or.inl p2), fun _ k k0 _ => ?_, fun q => absurd (p2.symm.trans q) (by decide)⟩
    rotate_left
    · rw [p5] at k0
      rw [pw k k0]
      exact lt0 k (by omega)
    rw [un l' h', zm_row_cg hag]
    by_cases z : pl = 0
    · have := p80 (by omega); omega
    · obtain ⟨x, x1, x2, x3⟩ := h1' z
      rw [x2, x3]
      exact hm8 x x1
end
/-! A22.hist -/
section
/-! ===== the tie: one half over the reference, whole ===== -/
/-- visits -/
def zt_V (a : Nat) (c : Nat → Int) (h : zv_H) : Prop := (zv_I h (a + 17) 4 = c 2) ∧ (0 ≤ c 2) ∧ (c 5 = if c 2 < 40 then c 2 else 40) ∧ (∀ i : Nat, (i : Int) < c 5 → c (4156 + 2 * i) = zv_I h (a + 18) ((c 2 - 1 - i) % 40).toNat) ∧ (∀ i : Nat, (i : Int) < c 5 → c (4157 + 2 * i) = zv_I h (a + 19) ((c 2 - 1 - i) % 40).toNat) ∧ (∀ s, zm_st c s → 0 ≤ zm_o c s 7 ∧ zm_o c s 7 ≤ c 2) ∧ (∀ s t, zm_st c s → zm_st c t → zm_o c s 7 = zm_o c t 7 → s = t)
theorem zt_V_ct {a : Nat} {c : Nat → Int} {h : zv_H} (t : zt_V a c h) : zv_I h (a + 17) 4 = c 2 := t.1
theorem zt_V_c0 {a : Nat} {c : Nat → Int} {h : zv_H} (t : zt_V a c h) : 0 ≤ c 2 := t.2.1
theorem zt_V_c5 {a : Nat} {c : Nat → Int} {h : zv_H} (t : zt_V a c h) : c 5 = if c 2 < 40 then c 2 else 40 := t.2.2.1
theorem zt_V_ls {a : Nat} {c : Nat → Int} {h : zv_H} (t : zt_V a c h) : ∀ i : Nat, (i : Int) < c 5 → c (4156 + 2 * i) = zv_I h (a + 18) ((c 2 - 1 - i) % 40).toNat := t.2.2.2.1
theorem zt_V_lt {a : Nat} {c : Nat → Int} {h : zv_H} (t : zt_V a c h) : ∀ i : Nat, (i : Int) < c 5 → c (4157 + 2 * i) = zv_I h (a + 19) ((c 2 - 1 - i) % 40).toNat := t.2.2.2.2.1
theorem zt_V_vb {a : Nat} {c : Nat → Int} {h : zv_H} (t : zt_V a c h) : ∀ s, zm_st c s → 0 ≤ zm_o c s 7 ∧ zm_o c s 7 ≤ c 2 := t.2.2.2.2.2.1
theorem zt_V_vd {a : Nat} {c : Nat → Int} {h : zv_H} (t : zt_V a c h) : ∀ s t, zm_st c s → zm_st c t → zm_o c s 7 = zm_o c t 7 → s = t := t.2.2.2.2.2.2
/-- a word as two numbers -/
def zt_key : List Int → Int
  | [] => 0
  | x :: w => (x + 1) + 32 * zt_key w
def zt_pkd (w : List Int) : Int := zt_key w.reverse
def zt_nw (w : List Int) : Prop := (1 ≤ w.length ∧ w.length ≤ 6) ∧ ∀ x ∈ w, 0 ≤ x ∧ x < 26
/-- names -/
def zt_N (a : Nat) (c : Nat → Int) (h : zv_H) : Prop := (zv_I h (a + 14) 2 = c 3) ∧ (∀ k : Nat, (k : Int) < c 3 → zv_I h (a + 16) k = c (409 + 2 * k)) ∧ (∀ k : Nat, (k : Int) < c 3 → ∃ w, zt_nw w ∧ zv_I h (a + 15) k = zt_key w ∧ c (408 + 2 * k) = zt_pkd w)
theorem zt_N_sz {a : Nat} {c : Nat → Int} {h : zv_H} (t : zt_N a c h) : zv_I h (a + 14) 2 = c 3 := t.1
theorem zt_N_ow {a : Nat} {c : Nat → Int} {h : zv_H} (t : zt_N a c h) : ∀ k : Nat, (k : Int) < c 3 → zv_I h (a + 16) k = c (409 + 2 * k) := t.2.1
theorem zt_N_ky {a : Nat} {c : Nat → Int} {h : zv_H} (t : zt_N a c h) : ∀ k : Nat, (k : Int) < c 3 → ∃ w, zt_nw w ∧ zv_I h (a + 15) k = zt_key w ∧ c (408 + 2 * k) = zt_pkd w := t.2.2
/-- all of one half -/
def zt_H (a : Nat) (c : Nat → Int) (h : zv_H) : Prop := (zt_U a c h) ∧ (zt_J a c h) ∧ (zt_V a c h) ∧ (zt_N a c h)
theorem zt_H_U {a : Nat} {c : Nat → Int} {h : zv_H} (t : zt_H a c h) : zt_U a c h := t.1
theorem zt_H_J {a : Nat} {c : Nat → Int} {h : zv_H} (t : zt_H a c h) : zt_J a c h := t.2.1
theorem zt_H_V {a : Nat} {c : Nat → Int} {h : zv_H} (t : zt_H a c h) : zt_V a c h := t.2.2.1
theorem zt_H_N {a : Nat} {c : Nat → Int} {h : zv_H} (t : zt_H a c h) : zt_N a c h := t.2.2.2
theorem zt_V_vc {a : Nat} {c c' : Nat → Int} {h g : zv_H} {s : Int} (V : zt_V a c h) (b : c 2 < 2000000000) (e : ∀ k : Nat, k < 432 ∨ 4156 ≤ k → k < 4236 → c' k = zm_vc c s k) (v4 : zv_I g (a + 17) 4 = zv_w (zv_I h (a + 17) 4 + 1)) (vs : ∀ k, zv_I g (a + 18) k = if k = (zv_I h (a + 17) 4 % 40).toNat then s else zv_I h (a + 18) k) (vt : ∀ k, zv_I g (a + 19) k = if k = (zv_I h (a + 17) 4 % 40).toNat then c 1 else zv_I h (a + 19) k) (hst : ∀ t, zm_st c' t → (t = s ∧ zm_o c' t 7 = c 2 + 1) ∨ (t ≠ s ∧ zm_st c t ∧ zm_o c' t 7 = zm_o c t 7)) : zt_V a c' g ∧ c' 2 = c 2 + 1 ∧ c' 1 = c 1 := by
  have ct := zt_V_ct V
  have c0 := zt_V_c0 V
  have c5 := zt_V_c5 V
  have e2 : c' 2 = c 2 + 1 := by
    rw [e 2 (Or.inl (by decide)) (by decide)]
    unfold zm_vc
    rw [if_neg (by decide), if_neg (by decide), if_neg (by decide), if_neg (by omega), if_neg (by omega), if_pos rfl, zm_w (by omega)]
  have e1 : c' 1 = c 1 := by
    rw [e 1 (Or.inl (by decide)) (by decide)]
    unfold zm_vc
    rw [if_neg (by decide), if_neg (by decide), if_neg (by decide), if_neg (by omega), if_neg (by omega), if_neg (by decide), if_neg (by decide)]
  have e5 : c' 5 = if c 5 < 40 then c 5 + 1 else 40 := by
    rw [e 5 (Or.inl (by decide)) (by decide), zm_vc_5]
    by_cases q : c 5 < 40
    · rw [if_pos q, if_pos q, zm_w]
      split at c5 <;> omega
    · rw [if_neg q, if_neg q]
  have es : c' 4156 = s := by
    rw [e 4156 (Or.inr (by decide)) (by decide)]
    rfl
  have et : c' 4157 = c 1 := by
    rw [e 4157 (Or.inr (by decide)) (by decide)]
    rfl
  have eo : ∀ k : Nat, 4158 ≤ k → k < 4236 → c' k = c (k - 2) := fun k k1 k2 => by
    rw [e k (Or.inr (by omega)) k2]
    unfold zm_vc
    rw [if_neg (by omega), if_neg (by omega), if_neg (by omega), if_pos ⟨k1, k2⟩]
  have vb := zt_V_vb V
  refine ⟨⟨?_, by omega, ?_, fun i hi => ?_, fun i hi => ?_, fun t ht => ?_, fun t u ht hu e => ?_⟩, e2, e1⟩
  · rw [v4, ct, e2, zm_w (by omega)]
  · rw [e5, e2]
    split at c5 <;> (split <;> split <;> omega)
  · have i40 : i < 40 := by
      rw [e5] at hi
      split at hi <;> omega
    rw [vs, ct, e2]
    cases i with
    | zero =>
      rw [if_pos (by rw [show c 2 + 1 - 1 - ((0 : Nat) : Int) = c 2 by omega])]
      exact es
    | succ j =>
      rw [if_neg (by omega), eo _ (by omega) (by omega), show 4156 + 2 * (j + 1) - 2 = 4156 + 2 * j by omega, show c 2 + 1 - 1 - ((j + 1 : Nat) : Int) = c 2 - 1 - (j : Int) by omega]
      exact zt_V_ls V j (by rw [e5] at hi; split at hi <;> omega)
  · have i40 : i < 40 := by
      rw [e5] at hi
      split at hi <;> omega
    rw [vt, ct, e2]
    cases i with
    | zero =>
      rw [if_pos (by rw [show c 2 + 1 - 1 - ((0 : Nat) : Int) = c 2 by omega])]
      exact et
    | succ j =>
      rw [if_neg (by omega), eo _ (by omega) (by omega), show 4157 + 2 * (j + 1) - 2 = 4157 + 2 * j by omega, show c 2 + 1 - 1 - ((j + 1 : Nat) : Int) = c 2 - 1 - (j : Int) by omega]
      exact zt_V_lt V j (by rw [e5] at hi; split at hi <;> omega)
  · rcases hst t ht with q | q
    · rw [q.2, e2]; omega
    · have := vb t q.2.1
      rw [q.2.2, e2]; omega
  · rcases hst t ht with q | q
    · rcases hst u hu with p | p
      · rw [q.1, p.1]
      · have := vb u p.2.1
        rw [q.2, p.2.2] at e
        omega
    · rcases hst u hu with p | p
      · have := vb t q.2.1
        rw [q.2.2, p.2] at e
        omega
      · rw [q.2.2, p.2.2] at e
        exact zt_V_vd V t u q.2.1 p.2.1 e
theorem zt_J_c {a : Nat} {c c' : Nat → Int} {h : zv_H} (J : zt_J a c h) (w : c 4 ≤ 392) (e4 : c' 4 = c 4) (e8 : ∀ k : Nat, 8 ≤ k → k < 408 → c' k = c k) : zt_J a c' h := by
  obtain ⟨cs, T, hc⟩ := J
  have ecd : zm_cd c' = zm_cd c := by
    unfold zm_cd
    rw [e4]
    refine List.map_congr_left (fun k hk => ?_)
    have := List.mem_range.mp hk
    exact e8 (8 + k) (by omega) (by omega)
  exact ⟨cs, T, by rw [e4, ecd]; exact hc⟩
theorem zt_N_c {a : Nat} {c c' : Nat → Int} {h h' : zv_H} (N : zt_N a c h) (w : c 3 ≤ 12) (e3 : c' 3 = c 3) (e8 : ∀ k : Nat, 408 ≤ k → k < 432 → c' k = c k) (eh : ∀ r k, a + 14 ≤ r → r ≤ a + 16 → zv_I h' r k = zv_I h r k) : zt_N a c' h' := by
  refine ⟨?_, fun k hk => ?_, fun k hk => ?_⟩
  · rw [eh _ _ (by omega) (by omega), e3]; exact zt_N_sz N
  · rw [e3] at hk
    rw [eh _ _ (by omega) (by omega), e8 _ (by omega) (by omega)]; exact zt_N_ow N k hk
  · rw [e3] at hk
    rw [eh _ _ (by omega) (by omega), e8 _ (by omega) (by omega)]; exact zt_N_ky N k hk
/-- behind a new State -/
theorem zt_H_new {a : Nat} {c c' : Nat → Int} {h g : zv_H} {s x y z fi : Int} (H : zt_H a c h) (b : c 2 < 2000000000) (fr : zt_free c s) (N : zt_nn a c h s x y z fi g) (n : zm_Nw c c' s) (e7 : zm_o c' s 7 = zv_w (c 2 + 1)) (U' : zt_U a c' g) : zt_H a c' g ∧ c' 2 = c 2 + 1 ∧ c' 1 = c 1 := by
  have W := zt_U_W (zt_H_U H)
  have hd := zm_Nw_hd fr.1 n
  have c0 := zt_V_c0 (zt_H_V H)
  have V := zt_V_vc (zt_H_V H) b n.1 (zt_nn_v4 N) (zt_nn_vs N) (zt_nn_vt N) (fun t ht => by
    rcases (zm_Nw_st fr.1 n).mp ht with q | q
    · refine Or.inl ⟨q, ?_⟩
      rw [q, e7, zm_w (by omega)]
    · have t47 := q.2.1
      exact Or.inr ⟨q.1, q.2, n.2.1 t 7 t47.1 (by omega) q.1 (by decide) (by decide)⟩)
  have J1 : zt_J a c g := zt_J_cg (zt_H_J H) (zt_nn_jn N)
  exact ⟨⟨U', zt_J_c J1 W.2.2.2.1.2 hd.2.1 (fun k k1 k2 => hd.2.2.1 k k1 (by omega)), V.1, zt_N_c (zt_H_N H) W.2.2.1.2 hd.1 (fun k k1 k2 => hd.2.2.1 k (by omega) k2) (zt_nn_nm N)⟩, V.2⟩
theorem zt_ck_of {a : Nat} {c : Nat → Int} {h : zv_H} (J : zt_J a c h) : zt_ck c := by
  obtain ⟨cs, T, hc⟩ := J
  intro x hx
  rcases hc with q | q
  · unfold zm_cd at hx
    rw [q.1] at hx
    exact absurd hx (by simp)
  · rw [← q.2] at hx
    exact (zt_T1_rg T x hx).2
theorem zt_free_u {c : Nat → Int} {s t : Int} (f : zt_free c s) (g : zt_free c t) : s = t := by
  have h1 := f.1
  have h2 := g.1
  by_cases e : s < t
  · exact absurd (g.2.1 s h1.1 e) f.2.2
  · by_cases e2 : t < s
    · exact absurd (f.2.1 t h2.1 e2) g.2.2
    · omega
/-- two answers agree -/
def zt_a1 (v v' : Int) : Prop := (v < 0 ∧ v' = -1) ∨ (0 ≤ v ∧ v' = v)
/-- an act of the class, an act of the reference -/
def zt_Z (a : Nat) (y : Int) (g : zv_H) (k : zv_H) (q : Int × zv_H) (q' : Int × zv_H) : Prop := (zc_X g q.2) ∧ (zt_k a g q.2) ∧ (zm_F [348, 351, 352, 353, 354, 355, 358, 359, 360, 362, 363, 364, 365] [3, 10, 11, 12, 19, 24] k q'.2) ∧ (zt_a1 q.1 q'.1) ∧ (zt_H a (zv_I q'.2 348) q.2) ∧ (zv_I k 348 1 ≤ zv_I q'.2 348 1 ∧ zv_I q'.2 348 1 ≤ zv_I k 348 1 + 1000) ∧ (zv_I k 348 2 ≤ zv_I q'.2 348 2 ∧ zv_I q'.2 348 2 ≤ zv_I k 348 2 + y)
theorem zt_Z_X {a : Nat} {y : Int} {g : zv_H} {k : zv_H} {q : Int × zv_H} {q' : Int × zv_H} (t : zt_Z a y g k q q') : zc_X g q.2 := t.1
theorem zt_Z_k {a : Nat} {y : Int} {g : zv_H} {k : zv_H} {q : Int × zv_H} {q' : Int × zv_H} (t : zt_Z a y g k q q') : zt_k a g q.2 := t.2.1
theorem zt_Z_F {a : Nat} {y : Int} {g : zv_H} {k : zv_H} {q : Int × zv_H} {q' : Int × zv_H} (t : zt_Z a y g k q q') : zm_F [348, 351, 352, 353, 354, 355, 358, 359, 360, 362, 363, 364, 365] [3, 10, 11, 12, 19, 24] k q'.2 := t.2.2.1
theorem zt_Z_a1 {a : Nat} {y : Int} {g : zv_H} {k : zv_H} {q : Int × zv_H} {q' : Int × zv_H} (t : zt_Z a y g k q q') : zt_a1 q.1 q'.1 := t.2.2.2.1
theorem zt_Z_H {a : Nat} {y : Int} {g : zv_H} {k : zv_H} {q : Int × zv_H} {q' : Int × zv_H} (t : zt_Z a y g k q q') : zt_H a (zv_I q'.2 348) q.2 := t.2.2.2.2.1
theorem zt_Z_g1 {a : Nat} {y : Int} {g : zv_H} {k : zv_H} {q : Int × zv_H} {q' : Int × zv_H} (t : zt_Z a y g k q q') : zv_I k 348 1 ≤ zv_I q'.2 348 1 ∧ zv_I q'.2 348 1 ≤ zv_I k 348 1 + 1000 := t.2.2.2.2.2.1
theorem zt_Z_g2 {a : Nat} {y : Int} {g : zv_H} {k : zv_H} {q : Int × zv_H} {q' : Int × zv_H} (t : zt_Z a y g k q q') : zv_I k 348 2 ≤ zv_I q'.2 348 2 ∧ zv_I q'.2 348 2 ≤ zv_I k 348 2 + y := t.2.2.2.2.2.2
/-- both refused, nothing done -/
theorem zt_Z_no {a : Nat} {c : Nat → Int} {y : Int} (hy : 0 ≤ y) {g k g' k' : zv_H} {v : Int} (H : zt_H a c g) (hc : zv_I k 348 = c) (X : zc_X g g') (kk : zt_k a g g') (H' : zt_H a c g') (F : zm_F [348, 351, 352, 353, 354, 355, 358, 359, 360, 362, 363, 364, 365] [3, 10, 11, 12, 19, 24] k k') (hv : v < 0) (hc' : zv_I k' 348 = c) : zt_Z a y g k (v, g') (-1, k') := by
  refine ⟨X, kk, F, Or.inl ⟨hv, rfl⟩, ?_, ?_, ?_⟩
  · show zt_H a (zv_I k' 348) g'
    rw [hc']; exact H'
  · show _ ∧ zv_I k' 348 1 ≤ _
    dsimp only
    rw [hc', hc]; omega
  · dsimp only
    rw [hc', hc]; omega
theorem zj_put {d D : Nat} {a : Nat} {c : Nat → Int} {g k : zv_H} {r m : Nat} (hA : zc_A g) (H : zt_H a c g) (hM : zm_M k) (hc : zv_I k 348 = c) (b : c 2 < 2000000000) (w : zt_wd r m (zv_I k 360) g) (hm : m ≤ 12) (hr : zt_wr a r) (h19 : zv_I k 347 19 = m) (lt0 : ∀ j : Nat, j < m → 0 ≤ zv_I k 360 j) {place : Int} (rp : zv_rg place) : ∃ q q', C0_putWord (d + 4) a place r g = some q ∧ C9_putNow (D + 6) 347 place k = some q' ∧ zt_Z a 1 g k q q' ∧ zt_oh a g q.2 := by
  have U := zt_H_U H
  have W := zt_U_W U
  have la := zt_U_la U
  have V := zt_H_V H
  obtain ⟨l, hl, _⟩ := zt_line W W.2.1
  obtain ⟨⟨v', k'⟩, e', ⟨F, W', R1⟩, R2⟩ := zt_two (zm_putNow hM hc W D hm h19 place) (zt_putNow hM hc W (zt_ck_of (zt_H_J H)) D hm h19 hl place)
  have F' : zm_F [348, 351, 352, 353, 354, 355, 358, 359, 360, 362, 363, 364, 365] [3, 10, 11, 12, 19, 24] k k' := zm_F_s F rfl rfl
  have h0 : 0 ≤ zv_I g (a + 17) 4 := by rw [zt_V_ct V]; exact zt_V_c0 V
  have acc : ¬ zt_pk c (zt_dc c (c 0 :: l)).length m place → ∃ q, C0_putWord (d + 4) a place r g = some q ∧ q.1 < 0 ∧ q.2 = g := fun np => by
    obtain ⟨n1, d1⟩ : ∃ n1, zt_dp c (c 0) n1 := ⟨_, l, hl, rfl⟩
    have d2 : ∃ n2, zm_ed c (c 0) → zt_dp c (zm_o c (c 0) 6) n2 := by
      by_cases he : zm_ed c (c 0)
      · have c00 : c 0 ≠ 0 := fun q => by
          have := W.1.2.1.2.2.1
          rw [q] at he
          rcases he with z | z <;> omega
        obtain ⟨l2, hl2, _⟩ := zt_line W (zm_fp W.1 W.2.1 c00).1
        exact ⟨_, fun _ => ⟨l2, hl2, rfl⟩⟩
      · exact ⟨0, fun q => absurd q he⟩
    obtain ⟨n2, d2⟩ := d2
    obtain ⟨q, e, R⟩ := zt_putWord (d := d) (zt_L_A hA) U (zt_H_J H) h0 w hm hr hl d1 d2 place
    rcases R with R | R
    · exact ⟨q, e, R.1, R.2.1⟩
    · exact absurd R.1 np
  rcases R2 with ⟨v1, np⟩ | ⟨pk, fr, gp⟩
  · obtain ⟨q, e, q1, q2⟩ := acc np
    have hc' : zv_I k' 348 = c := by
      rcases R1 with R1 | R1
      · exact R1.2
      · have z : v' = -1 := v1
        have := R1.1
        dsimp only at this
        omega
    refine ⟨q, (v', k'), e, e', ?_⟩
    have z : v' = -1 := v1
    rw [z]
    obtain ⟨qv, qg⟩ := q
    have z2 : qg = g := q2
    subst z2
    exact ⟨zt_Z_no (by decide) H hc (zc_X_r hA) (zt_k_r a _) H F' q1 hc', fun _ _ _ => rfl⟩
  · dsimp only at fr gp R1
    have fr47 := fr.1
    rcases R1 with R1 | R1
    · have := R1.1; omega
    · obtain ⟨_, _, n, l2, hl2, Pt⟩ := R1
      have el : l2 = l := (List.cons.inj (zm_Ln_u hl2.1 hl)).2
      subst el
      obtain ⟨n1, n2, d1, d2, e6, e7, e10, e11⟩ := gp
      obtain ⟨⟨v, g'⟩, e, O, R⟩ := zt_two (zc_C0_putWord (d := d + 1) hA la (zt_wd_l7 w) rp) (zt_putWord (d := d) (zt_L_A hA) U (zt_H_J H) h0 w hm hr hl d1 d2 place)
      rcases R with R | R
      · exact absurd pk R.2.2
      · obtain ⟨_, s, fr2, ev, N, P⟩ := R
        dsimp only at ev N P O
        have es : s = v' := zt_free_u fr2 fr
        subst es
        subst ev
        have hA' : zc_A g' := O.1.2
        obtain ⟨pl, rfl⟩ : ∃ pl : Nat, place = pl := ⟨place.toNat, by have := pk.1; omega⟩
        have hpl : pl ≤ (zt_dc c (c 0 :: l2)).length := by have := pk.1.2; omega
        have U' := zt_U_put U (zt_V_ct V) hA' fr hl hm hpl N P W' n Pt e6 e7 e10 e11 lt0
        obtain ⟨H', g2, g1⟩ := zt_H_new H b fr N n e7 U'
        refine ⟨_, _, e, e', ⟨O.1, zt_nn_k N, F', Or.inr ⟨fr47.1, rfl⟩, H', ?_, ?_⟩, zt_nn_oh N⟩
        · dsimp only
          rw [hc, g1]; omega
        · dsimp only
          rw [hc, g2]; omega
end
/-! A23.cut -/
section
/-! ===== the tie: cutting ===== -/
theorem zt_L_of {g g0 : zv_H} (f1 : g.1 = g0.1) (fR : ∀ r k, zv_R g r k = zv_R g0 r k) (gL : zt_L g0) : zt_L g := by
  refine ⟨?_, fun r k x y => ?_, fun a i x y => ?_⟩
  · show g.1.1 = 372
    rw [f1]; exact gL.1
  · rw [fR]; exact gL.2.1 r k x y
  · rw [fR]; exact gL.2.2 a i x y
/-- a new State, whatever became of its own letters -/
theorem zt_nn_gen {a : Nat} {c : Nat → Int} {h g0 g : zv_H} {i : Nat} {s x y z : Int} (U : zt_U a c h) (fr : zt_free c s) (hi : i = s.toNat) (W : zt_gw a h g0 i x y z) (fI : ∀ r k, r ≠ zc_stt a i → r ≠ zc_stt a i + 1 → r ≠ zc_stt a i + 2 → r ≠ a + 5 → r ≠ a + 25 → zv_I g r k = zv_I g0 r k) (fS : ∀ k, k ≠ 12 → k ≠ 15 → zv_I g (zc_stt a i) k = zv_I g0 (zc_stt a i) k) (fJ : ∀ r k, r ≠ zc_stt a i → zv_J g r k = zv_J g0 r k) (fR : ∀ r k, zv_R g r k = zv_R g0 r k) (f1 : g.1 = g0.1) (f2 : g.2.2.2.2 = g0.2.2.2.2) : zt_nn a c h s x y z s g := by
  have la := zt_U_la U
  have h9 := zc_lh la
  have w := zt_U_W U
  have i48 : i < 48 := by have := fr.1; omega
  have ers : zt_r a s = zc_stt a i := by rw [zt_r_p fr.1.1, hi]
  have Lg : zt_L g := zt_L_of f1 fR (zt_gw_L W)
  have c047 := w.2.1.1
  have eP : zv_R h a 10 = zc_stt a (c 0).toNat := by rw [zt_U_he U, zt_r_p w.2.1.1.1]
  -- an old State
  have ol : ∀ t, zm_st c t → ∃ j, j < 48 ∧ zt_r a t = zc_stt a j ∧ j ≠ i := fun t ht => ⟨t.toNat, by have := ht.1; omega, zt_r_p ht.1.1, fun q => by
    have h1 := ht.1
    have h2 := fr.1
    have e : t = s := by omega
    exact fr.2.2 (by rw [← e]; exact ht.2)⟩
  -- a cell of an old State, of the History
  have hH : ∀ n k, n ≤ 27 → n ≠ 1 → n ≠ 2 → n ≠ 3 → n ≠ 5 → n ≠ 25 → n ≠ 18 → n ≠ 19 → ¬ (n = 0 ∧ k = 12) → ¬ (n = 17 ∧ k = 4) → zv_I g (a + n) k = zv_I h (a + n) k := fun n k n0 n1 n2 n3 n5 n25 n18 n19 c1 c2 => by
    have s0 := zt_sepH (a := a) (i := i) (x := 0) n0 (by decide) n1 n2 n3
    have s1 := zt_sepH (a := a) (i := i) (x := 1) n0 (by decide) n1 n2 n3
    have s2 := zt_sepH (a := a) (i := i) (x := 2) n0 (by decide) n1 n2 n3
    have s3 := zt_sepH (a := a) (i := (c 0).toNat) (x := 0) n0 (by decide) n1 n2 n3
    rw [fI _ k s0 s1 s2 (by omega) (by omega)]
    exact zt_gw_oI W _ k s0 (fun q => s3 (q.1.trans eP)) (fun q => c1 ⟨by omega, q.2⟩) (fun q => c2 ⟨by omega, q.2⟩) (by omega) (by omega)
  have hO : ∀ j x k, j < 48 → j ≠ i → x ≤ 2 → ¬ (x = 0 ∧ k = 11) → zv_I g (zc_stt a j + x) k = zv_I h (zc_stt a j + x) k := fun j x k hj hji hx hk => by
    have s0 := zt_sep (a := a) (x := x) (y := 0) hji hx (by decide)
    have s1 := zt_sep (a := a) (x := x) (y := 1) hji hx (by decide)
    have s2 := zt_sep (a := a) (x := x) (y := 2) hji hx (by decide)
    have b : ∀ n, n ≤ 27 → n ≠ 1 → n ≠ 2 → n ≠ 3 → zc_stt a j + x ≠ a + n := fun n n0 n1 n2 n3 q => zt_sepH n0 hx n1 n2 n3 q.symm
    rw [fI _ k s0 s1 s2 (b 5 (by decide) (by decide) (by decide) (by decide)) (b 25 (by decide) (by decide) (by decide) (by decide))]
    refine zt_gw_oI W _ k s0 (fun q => ?_) (fun q => b 0 (by decide) (by decide) (by decide) (by decide) q.1) (fun q => b 17 (by decide) (by decide) (by decide) (by decide) q.1) (b 18 (by decide) (by decide) (by decide) (by decide)) (b 19 (by decide) (by decide) (by decide) (by decide))
    rw [eP] at q
    by_cases e : j = (c 0).toNat
    · rw [e] at q
      exact hk ⟨by omega, q.2⟩
    · exact zt_sep (a := a) (x := x) (y := 0) e hx (by decide) q.1
  have inA : ∀ n, n ≤ 27 → zt_in a (a + n) := fun n hn => ⟨by omega, by omega, by unfold zc_hf; split <;> omega⟩
  have inS : ∀ j n, j < 48 → n ≤ 2 → zt_in a (zc_stt a j + n) := fun j n hj hn => by
    refine ⟨?_, ?_, ?_⟩
    · unfold zc_stt; split <;> omega
    · unfold zc_stt; split <;> omega
    · unfold zc_hf zc_stt
      split <;> split <;> omega
  have out : ∀ {r r' : Nat}, ¬ zt_in a r → zt_in a r' → r ≠ r' := fun h1 h2 e => h1 (by rw [e]; exact h2)
  have inP : zt_in a (zv_R h a 10) := by
    rw [eP]
    exact inS _ 0 (by omega) (by decide)
  refine ⟨Lg, ⟨?_, ?_, fun r k _ hr => ?_, fun r _ hr => ?_, fun r _ _ hr => ?_⟩, fun j hj => ?_, fun t ht k hk => ?_, fun t ht k => ?_, fun t ht k => ?_, fun t ht k => ?_, fun t ht k => ?_, ?_, ?_, ?_, ?_, ?_, ?_, ?_, ?_, ?_, ?_, ?_, fun k => ?_, fun k => ?_, fun r k r1 r2 => ?_, fun r k r1 r2 => ?_, fun n k hn => hH n k (by omega) (by omega) (by omega) (by omega) (by omega) (by omega) (by omega) (by omega) (by omega) (by omega)⟩
  · exact f1.trans (zt_gw_f1 W)
  · exact f2.trans (zt_gw_f2 W)
  · rw [fI r k (out hr (inS i 0 i48 (by decide))) (out hr (inS i 1 i48 (by decide))) (out hr (inS i 2 i48 (by decide))) (out hr (inA 5 (by decide))) (out hr (inA 25 (by decide)))]
    exact zt_gw_oI W r k (out hr (inS i 0 i48 (by decide))) (fun q => out hr inP q.1) (fun q => out hr (inA 0 (by decide)) q.1) (fun q => out hr (inA 17 (by decide)) q.1) (out hr (inA 18 (by decide))) (out hr (inA 19 (by decide)))
  · funext k
    exact (fJ r k (out hr (inS i 0 i48 (by decide)))).trans (zt_gw_oJ W r k (out hr (inS i 0 i48 (by decide))))
  · funext k
    exact (fR r k).trans (zt_gw_oR W r k (out hr (inS i 0 i48 (by decide))) (fun q => out hr (inA 0 (by decide)) q.1))
  · rw [← hi]
    by_cases e : j = i
    · rw [if_pos e, e, fS 3 (by decide) (by decide)]
      exact zt_gw_s3 W
    · rw [if_neg e]
      exact hO j 0 3 hj e (by decide) (by omega)
  · obtain ⟨j, j1, j2, j3⟩ := ol t ht
    rw [j2]
    exact hO j 0 k j1 j3 (by decide) (by omega)
  · obtain ⟨j, j1, j2, j3⟩ := ol t ht
    rw [j2]
    exact hO j 1 k j1 j3 (by decide) (by omega)
  · obtain ⟨j, j1, j2, j3⟩ := ol t ht
    rw [j2]
    exact hO j 2 k j1 j3 (by decide) (by omega)
  · obtain ⟨j, j1, j2, j3⟩ := ol t ht
    have s0 := zt_sep (a := a) (x := 0) (y := 0) j3 (by decide) (by decide)
    rw [j2]
    exact (fJ _ k s0).trans (zt_gw_oJ W _ k s0)
  · obtain ⟨j, j1, j2, j3⟩ := ol t ht
    have s0 := zt_sep (a := a) (x := 0) (y := 0) j3 (by decide) (by decide)
    have b0 := zt_sepH (a := a) (i := j) (n := 0) (x := 0) (by decide) (by decide) (by decide) (by decide) (by decide)
    rw [j2]
    exact (fR _ k).trans (zt_gw_oR W _ k s0 (fun q => b0 q.1.symm))
  · rw [ers, fS 6 (by decide) (by decide)]; exact zt_gw_s6 W
  · rw [ers, fS 7 (by decide) (by decide)]; exact (zt_gw_s7 W).trans (zt_U_nw U)
  · rw [ers, fS 8 (by decide) (by decide)]; exact zt_gw_s8 W
  · rw [ers, fS 9 (by decide) (by decide)]; exact zt_gw_s9 W
  · rw [ers, fS 13 (by decide) (by decide)]; exact zt_gw_sd W
  · rw [ers, fR]; exact (zt_gw_r4 W).trans (zt_U_he U)
  · rw [ers, fR]; exact zt_gw_r5 W
  · rw [ers, fR]; exact zt_gw_he W
  · exact (hH 0 11 (by decide) (by decide) (by decide) (by decide) (by decide) (by decide) (by decide) (by decide) (by decide) (by decide)).trans (zt_U_nw U)
  · have s0 := zt_sepH (a := a) (i := i) (n := 0) (x := 0) (by decide) (by decide) (by decide) (by decide) (by decide)
    have s1 := zt_sepH (a := a) (i := i) (n := 0) (x := 1) (by decide) (by decide) (by decide) (by decide) (by decide)
    have s2 := zt_sepH (a := a) (i := i) (n := 0) (x := 2) (by decide) (by decide) (by decide) (by decide) (by decide)
    rw [fI a 12 s0 s1 s2 (by omega) (by omega)]
    exact (zt_gw_ct W).trans (by rw [zt_U_ct U])
  · have s0 := zt_sepH (a := a) (i := i) (n := 17) (x := 0) (by decide) (by decide) (by decide) (by decide) (by decide)
    have s1 := zt_sepH (a := a) (i := i) (n := 17) (x := 1) (by decide) (by decide) (by decide) (by decide) (by decide)
    have s2 := zt_sepH (a := a) (i := i) (n := 17) (x := 2) (by decide) (by decide) (by decide) (by decide) (by decide)
    rw [fI _ 4 s0 s1 s2 (by omega) (by omega)]
    exact zt_gw_v4 W
  · have s0 := zt_sepH (a := a) (i := i) (n := 18) (x := 0) (by decide) (by decide) (by decide) (by decide) (by decide)
    have s1 := zt_sepH (a := a) (i := i) (n := 18) (x := 1) (by decide) (by decide) (by decide) (by decide) (by decide)
    have s2 := zt_sepH (a := a) (i := i) (n := 18) (x := 2) (by decide) (by decide) (by decide) (by decide) (by decide)
    rw [fI _ k s0 s1 s2 (by omega) (by omega), zt_gw_vs W, hi, show ((s.toNat : Nat) : Int) = s by have := fr.1; omega]
  · have s0 := zt_sepH (a := a) (i := i) (n := 19) (x := 0) (by decide) (by decide) (by decide) (by decide) (by decide)
    have s1 := zt_sepH (a := a) (i := i) (n := 19) (x := 1) (by decide) (by decide) (by decide) (by decide) (by decide)
    have s2 := zt_sepH (a := a) (i := i) (n := 19) (x := 2) (by decide) (by decide) (by decide) (by decide) (by decide)
    rw [fI _ k s0 s1 s2 (by omega) (by omega), zt_gw_vt W, zt_U_nw U]
  · obtain ⟨n, rfl⟩ : ∃ n, r = a + n := ⟨r - a, by omega⟩
    exact hH n k (by omega) (by omega) (by omega) (by omega) (by omega) (by omega) (by omega) (by omega) (by omega) (by omega)
  · obtain ⟨n, rfl⟩ : ∃ n, r = a + n := ⟨r - a, by omega⟩
    exact hH n k (by omega) (by omega) (by omega) (by omega) (by omega) (by omega) (by omega) (by omega) (by omega) (by omega)
/-! what a cut leaves of a document, and what it takes -/
def zt_cl (pl m : Nat) (E : List (Int × Int)) : List (Int × Int) := E.take pl ++ E.drop (pl + m)
def zt_ct (pl m : Nat) (E : List (Int × Int)) : List (Int × Int) := (E.drop pl).take m
theorem zt_cl_a {pl m : Nat} {L : List (Int × Int)} {x : Int × Int} (h : L.length < pl) : zt_cl pl m (L ++ [x]) = zt_cl pl m L ++ [x] ∧ zt_ct pl m (L ++ [x]) = zt_ct pl m L := by
  unfold zt_cl zt_ct
  have l1 : (L ++ [x]).length = L.length + 1 := by rw [List.length_append]; rfl
  rw [List.take_of_length_le (by omega), List.take_of_length_le (show L.length ≤ pl by omega), List.drop_eq_nil_of_le (by omega), List.drop_eq_nil_of_le (show L.length ≤ pl + m by omega), List.drop_eq_nil_of_le (show (L ++ [x]).length ≤ pl by omega), List.drop_eq_nil_of_le (show L.length ≤ pl by omega), List.append_nil, List.append_nil]
  exact ⟨rfl, rfl⟩
theorem zt_cl_b {pl m : Nat} {L : List (Int × Int)} {x : Int × Int} (h : pl ≤ L.length) (h2 : L.length < pl + m) : zt_cl pl m (L ++ [x]) = zt_cl pl m L ∧ zt_ct pl m (L ++ [x]) = zt_ct pl m L ++ [x] ∧ (zt_ct pl m L).length = L.length - pl := by
  unfold zt_cl zt_ct
  have l1 : (L ++ [x]).length = L.length + 1 := by rw [List.length_append]; rfl
  have l2 : (L.drop pl).length = L.length - pl := List.length_drop
  refine ⟨?_, ?_, ?_⟩
  · rw [List.take_append_of_le_length h, List.drop_eq_nil_of_le (show (L ++ [x]).length ≤ pl + m by omega), List.drop_eq_nil_of_le (show L.length ≤ pl + m by omega)]
  · rw [List.drop_append_of_le_length h, List.take_of_length_le (show (L.drop pl ++ [x]).length ≤ m by rw [List.length_append, l2]; show L.length - pl + 1 ≤ m; omega), List.take_of_length_le (show (L.drop pl).length ≤ m by omega)]
  · rw [List.take_of_length_le (show (L.drop pl).length ≤ m by omega), l2]
theorem zt_cl_c {pl m : Nat} {L : List (Int × Int)} {x : Int × Int} (h : pl + m ≤ L.length) : zt_cl pl m (L ++ [x]) = zt_cl pl m L ++ [x] ∧ zt_ct pl m (L ++ [x]) = zt_ct pl m L := by
  unfold zt_cl zt_ct
  have l2 : (L.drop pl).length = L.length - pl := List.length_drop
  rw [List.take_append_of_le_length (show pl ≤ L.length by omega), List.drop_append_of_le_length h, List.drop_append_of_le_length (show pl ≤ L.length by omega), List.take_append_of_le_length (show m ≤ (L.drop pl).length by omega), List.append_assoc]
  exact ⟨rfl, rfl⟩
theorem zt_cl_n (pl m : Nat) (L : List (Int × Int)) : (zt_cl pl m L).length ≤ L.length := by
  unfold zt_cl
  rw [List.length_append, List.length_take, List.length_drop]
  omega
theorem zt_b_bo {p : Int} (hp : 0 ≤ p ∧ p ≤ 47) {t : Nat} (ht : t < 64) : zt_b (zt_bo p) t = true ↔ 1 ≤ t ∧ t < 48 ∧ p = t := by
  unfold zt_bo
  by_cases q : p = 0
  · rw [if_pos q, zt_b_0]
    exact ⟨fun z => (by cases z), fun z => by omega⟩
  · rw [if_neg q, zt_b_bt (by omega) ht]
    constructor
    · intro z
      have := of_decide_eq_true z
      omega
    · intro z
      exact decide_eq_true (by omega)
/-- while letters are cut: those of F seen so far -/
def zt_cd (g0 : zv_H) (S : Nat) (pl : Nat) (m : Nat) (F : List (Int × Int)) (g : zv_H) : Prop := (g.1 = g0.1) ∧ (g.2.2.2 = g0.2.2.2) ∧ (∀ r k, ¬ (r = S ∧ k = 12) → r ≠ S + 1 → r ≠ S + 2 → zv_I g r k = zv_I g0 r k) ∧ (∀ r k, ¬ (r = S ∧ k = 17) → zv_J g r k = zv_J g0 r k) ∧ (zv_I g S 12 = (zt_cl pl m F).length) ∧ (∀ (k : Nat) (x : Int × Int), (zt_cl pl m F)[k]? = some x → zv_I g (S + 2) k = zt_id x) ∧ (∀ (k : Nat) (x : Int × Int), (zt_ct pl m F)[k]? = some x → zv_I g (S + 1) k = zt_id x) ∧ (∀ t : Nat, t < 64 → (zt_b (zv_J g S 17) t = true ↔ 1 ≤ t ∧ t < 48 ∧ ∃ p ∈ zt_ct pl m F, p.1 = t))
theorem zt_cd_f1 {g0 : zv_H} {S : Nat} {pl : Nat} {m : Nat} {F : List (Int × Int)} {g : zv_H} (t : zt_cd g0 S pl m F g) : g.1 = g0.1 := t.1
theorem zt_cd_f2 {g0 : zv_H} {S : Nat} {pl : Nat} {m : Nat} {F : List (Int × Int)} {g : zv_H} (t : zt_cd g0 S pl m F g) : g.2.2.2 = g0.2.2.2 := t.2.1
theorem zt_cd_i {g0 : zv_H} {S : Nat} {pl : Nat} {m : Nat} {F : List (Int × Int)} {g : zv_H} (t : zt_cd g0 S pl m F g) : ∀ r k, ¬ (r = S ∧ k = 12) → r ≠ S + 1 → r ≠ S + 2 → zv_I g r k = zv_I g0 r k := t.2.2.1
theorem zt_cd_j {g0 : zv_H} {S : Nat} {pl : Nat} {m : Nat} {F : List (Int × Int)} {g : zv_H} (t : zt_cd g0 S pl m F g) : ∀ r k, ¬ (r = S ∧ k = 17) → zv_J g r k = zv_J g0 r k := t.2.2.2.1
theorem zt_cd_n {g0 : zv_H} {S : Nat} {pl : Nat} {m : Nat} {F : List (Int × Int)} {g : zv_H} (t : zt_cd g0 S pl m F g) : zv_I g S 12 = (zt_cl pl m F).length := t.2.2.2.2.1
theorem zt_cd_d {g0 : zv_H} {S : Nat} {pl : Nat} {m : Nat} {F : List (Int × Int)} {g : zv_H} (t : zt_cd g0 S pl m F g) : ∀ (k : Nat) (x : Int × Int), (zt_cl pl m F)[k]? = some x → zv_I g (S + 2) k = zt_id x := t.2.2.2.2.2.1
theorem zt_cd_t {g0 : zv_H} {S : Nat} {pl : Nat} {m : Nat} {F : List (Int × Int)} {g : zv_H} (t : zt_cd g0 S pl m F g) : ∀ (k : Nat) (x : Int × Int), (zt_ct pl m F)[k]? = some x → zv_I g (S + 1) k = zt_id x := t.2.2.2.2.2.2.1
theorem zt_cd_b {g0 : zv_H} {S : Nat} {pl : Nat} {m : Nat} {F : List (Int × Int)} {g : zv_H} (t : zt_cd g0 S pl m F g) : ∀ t : Nat, t < 64 → (zt_b (zv_J g S 17) t = true ↔ 1 ≤ t ∧ t < 48 ∧ ∃ p ∈ zt_ct pl m F, p.1 = t) := t.2.2.2.2.2.2.2
theorem zt_cd_L {g0 g : zv_H} {S pl m : Nat} {F : List (Int × Int)} (A : zt_cd g0 S pl m F g) (gL : zt_L g0) : zt_L g := by
  have f2 := zt_cd_f2 A
  exact zt_L_of (zt_cd_f1 A) (fun r k => by
    show g.2.2.2.1 r k = _
    rw [f2]; rfl) gL
/-- a letter stays -/
theorem zt_cd_s {g0 g : zv_H} {S pl m : Nat} {F : List (Int × Int)} (A : zt_cd g0 S pl m F g) {x : Int × Int} (e : zt_cl pl m (F ++ [x]) = zt_cl pl m F ++ [x] ∧ zt_ct pl m (F ++ [x]) = zt_ct pl m F) : zt_cd g0 S pl m (F ++ [x]) (zv_sI (zv_sI g (S + 2) (zt_cl pl m F).length (zt_id x)) S 12 (((zt_cl pl m F).length : Int) + 1)) := by
  have f1 := zt_cd_f1 A
  have f2 := zt_cd_f2 A
  refine ⟨f1, f2, fun r k c1 c2 c3 => ?_, fun r k c => zt_cd_j A r k c, ?_, fun k y hy => ?_, fun k y hy => ?_, fun t ht => ?_⟩
  · rw [zy_In _ _ (fun q => c1 q), zy_In _ _ (fun q => c3 q.1)]
    exact zt_cd_i A r k c1 c2 c3
  · rw [zy_I, e.1, List.length_append]
    rfl
  · rw [e.1] at hy
    rw [zy_In _ _ (fun q => absurd q.1 (by omega))]
    by_cases z : k = (zt_cl pl m F).length
    · subst z
      rw [List.getElem?_concat_length] at hy
      cases hy
      exact zy_I _ _ _ _
    · have hk : k < (zt_cl pl m F).length := by
        have := zm_lt_of_get hy
        rw [List.length_append] at this
        have : k < (zt_cl pl m F).length + 1 := this
        omega
      rw [zy_In _ _ (fun q => z q.2)]
      rw [List.getElem?_append_left hk] at hy
      exact zt_cd_d A k y hy
  · rw [e.2] at hy
    rw [zy_In _ _ (fun q => absurd q.1 (by omega)), zy_In _ _ (fun q => absurd q.1 (by omega))]
    exact zt_cd_t A k y hy
  · rw [e.2]
    exact zt_cd_b A t ht
/-- a letter goes -/
theorem zt_cd_g {g0 g : zv_H} {S pl m : Nat} {F : List (Int × Int)} (A : zt_cd g0 S pl m F g) {x : Int × Int} (hx : 0 ≤ x.1 ∧ x.1 ≤ 47) (h : pl ≤ F.length) (h2 : F.length < pl + m) : zt_cd g0 S pl m (F ++ [x]) (zv_sJ (zv_sI g (S + 1) (F.length - pl) (zt_id x)) S 17 (zv_J g S 17 ||| zt_bo x.1)) := by
  have f1 := zt_cd_f1 A
  have f2 := zt_cd_f2 A
  obtain ⟨e1, e2, e3⟩ := zt_cl_b (x := x) h h2
  have I : ∀ r k, zv_I (zv_sJ (zv_sI g (S + 1) (F.length - pl) (zt_id x)) S 17 (zv_J g S 17 ||| zt_bo x.1)) r k = zv_I (zv_sI g (S + 1) (F.length - pl) (zt_id x)) r k := fun _ _ => rfl
  refine ⟨f1, f2, fun r k c1 c2 c3 => ?_, fun r k c => ?_, ?_, fun k y hy => ?_, fun k y hy => ?_, fun t ht => ?_⟩
  · rw [I, zy_In _ _ (fun q => c2 q.1)]
    exact zt_cd_i A r k c1 c2 c3
  · rw [zy_Jn _ _ c]
    exact zt_cd_j A r k c
  · rw [I, zy_In _ _ (fun q => absurd q.1 (by omega)), e1]
    exact zt_cd_n A
  · rw [e1] at hy
    rw [I, zy_In _ _ (fun q => absurd q.1 (by omega))]
    exact zt_cd_d A k y hy
  · rw [e2] at hy
    rw [I]
    by_cases z : k = (zt_ct pl m F).length
    · subst z
      rw [List.getElem?_concat_length] at hy
      cases hy
      rw [e3]
      exact zy_I _ _ _ _
    · have hk : k < (zt_ct pl m F).length := by
        have := zm_lt_of_get hy
        rw [List.length_append] at this
        have : k < (zt_ct pl m F).length + 1 := this
        omega
      rw [zy_In _ _ (fun q => z (by omega))]
      rw [List.getElem?_append_left hk] at hy
      exact zt_cd_t A k y hy
  · rw [zy_J, zt_b_or, e2, Bool.or_eq_true, zt_cd_b A t ht, zt_b_bo hx ht]
    constructor
    · rintro (⟨q1, q2, p, hp, q3⟩ | ⟨q1, q2, q3⟩)
      · exact ⟨q1, q2, p, List.mem_append_left _ hp, q3⟩
      · exact ⟨q1, q2, x, List.mem_append_right _ (List.mem_singleton.mpr rfl), q3⟩
    · rintro ⟨q1, q2, p, hp, q3⟩
      rcases List.mem_append.mp hp with u | u
      · exact Or.inl ⟨q1, q2, p, u, q3⟩
      · rw [List.mem_singleton.mp u] at q3
        exact Or.inr ⟨q1, q2, q3⟩
theorem zt_cut69 {d : Nat} {a : Nat} {g0 : zv_H} {S P : Nat} {E : List (Int × Int)} {pl m : Nat} (gL : zt_L g0) (lS : zv_lay S = (1, 5)) (src : zt_src P E g0) (nPS : P ≠ S ∧ P + 2 ≠ S ∧ P ≠ S + 1 ∧ P ≠ S + 2 ∧ P + 2 ≠ S + 1) (hok : ∀ x ∈ E, zt_ok x) (h12 : m ≤ 12) (hpl : pl + m ≤ 120) {X : Option zv_V × zv_H → Prop} (fin : ∀ g, zt_cd g0 S pl m E g → zm_R ((C0_joinGroup (d + 2) a S P g).bind fun g8 => (zv_gI g8 S 5 0).bind fun v9 => (some (some (zv_i v9), g8) : zv_O)) X) : ∀ (n i : Nat) (g : zv_H), i + n = E.length → zt_cd g0 S pl m (E.take i) g → zm_R (L0_cutOut_69 (d + 2) a (pl : Int) (m : Int) P S (i : Int) g) X := by
  have srcg : ∀ {F : List (Int × Int)} {g : zv_H}, zt_cd g0 S pl m F g → zt_src P E g := fun A => ⟨zt_src_lP src, by rw [zt_cd_i A _ _ (fun q => nPS.1 q.1) nPS.2.2.1 nPS.2.2.2.1]; exact zt_src_n src, zt_src_n120 src, fun k x hx => by
    rw [zt_cd_i A _ _ (fun q => nPS.2.1 q.1) nPS.2.2.2.2 (fun q => nPS.1 (by omega))]
    exact zt_src_d src k x hx⟩
  intro n
  induction n with
  | zero =>
    intro i g hi A
    have s := srcg A
    rw [qL0_cutOut_69, zm_e (zl_gI (zt_cd_L A gL) (zt_src_lP s) 12), zt_src_n s, if_neg (by omega)]
    rw [List.take_of_length_le (by omega)] at A
    exact fin g A
  | succ n ih =>
    intro i g hi A
    have s := srcg A
    have L1 := zt_cd_L A gL
    have n120 := zt_src_n120 s
    obtain ⟨x, hx⟩ : ∃ x, E[i]? = some x := ⟨_, List.getElem?_eq_getElem (by omega)⟩
    have el : (E.take i).length = i := by rw [List.length_take]; omega
    have okx := hok x (List.mem_of_getElem? hx)
    have x47 : 0 ≤ x.1 ∧ x.1 ≤ 47 := by rcases okx with q | q <;> omega
    have cln := zt_cl_n pl m (E.take i)
    have stay : zt_cl pl m (E.take i ++ [x]) = zt_cl pl m (E.take i) ++ [x] ∧ zt_ct pl m (E.take i ++ [x]) = zt_ct pl m (E.take i) → zm_R (L0_cutOut_138 (d + 2) a (pl : Int) (m : Int) P S (i : Int) (zt_id x) g) X := fun e => by
      rw [qL0_cutOut_138, zm_e (zt_C5_addId L1 lS (zt_cd_n A) (by omega) _), zm_w (by omega), show (i : Int) + 1 = ((i + 1 : Nat) : Int) by omega]
      refine ih (i + 1) _ (by omega) ?_
      rw [zt_take_s hx]
      exact zt_cd_s A e
    rw [qL0_cutOut_69, zm_e (zl_gI L1 (zt_src_lP s) 12), zt_src_n s, if_pos (by omega), zm_e (zt_src_at L1 s hx)]
    dsimp only
    rw [zm_w (by omega)]
    by_cases c1 : (i : Int) - pl < 0
    · rw [if_pos c1]
      exact stay (zt_cl_a (by omega))
    · rw [if_neg c1]
      by_cases c2 : (i : Int) - pl < m
      · have l1 := (zc_l5 lS).1
        have hb : zt_b (zv_J g S 17) 0 = zt_b (zv_J g S 17) 0 := rfl
        rw [if_pos c2, if_pos (by omega), zm_e (zl_gF L1 lS 1 1), zm_e (zl_wI L1 l1 (by omega) (by omega) _), zm_e (zl_gJ (g := zv_sI g (S + 1) ((i : Int) - pl).toNat (zt_id x)) L1 lS 17), zm_e (zt_C0_baseOf okx)]
        dsimp only
        rw [zm_e (zl_pJ (g := zv_sI g (S + 1) ((i : Int) - pl).toNat (zt_id x)) L1 lS 17 _), zm_w (by omega), show (i : Int) + 1 = ((i + 1 : Nat) : Int) by omega]
        refine ih (i + 1) _ (by omega) ?_
        rw [zt_take_s hx, show ((i : Int) - pl).toNat = (E.take i).length - pl by omega]
        exact zt_cd_g A x47 (by omega) (by omega)
      · rw [if_neg c2]
        exact stay (zt_cl_c (by omega))
end
/-! A24.cut2 -/
section
/-! ===== the tie: the class's cut, whole ===== -/
/-- the end of an act: the new State joins its group, its number is answered -/
theorem zt_join_end {d : Nat} {a : Nat} {c : Nat → Int} {h g1 gC : zv_H} {s x y z n1 n2 : Int} (U : zt_U a c h) (J : zt_J a c h) (fr : zt_free c s) (W : zt_gw a h g1 s.toNat x y z) (fI : ∀ r k, r ≠ zc_stt a s.toNat → r ≠ zc_stt a s.toNat + 1 → r ≠ zc_stt a s.toNat + 2 → r ≠ a + 5 → r ≠ a + 25 → zv_I gC r k = zv_I g1 r k) (fS : ∀ k, k ≠ 12 → k ≠ 15 → zv_I gC (zc_stt a s.toNat) k = zv_I g1 (zc_stt a s.toNat) k) (fJ : ∀ r k, r ≠ zc_stt a s.toNat → zv_J gC r k = zv_J g1 r k) (fR : ∀ r k, zv_R gC r k = zv_R g1 r k) (f1 : gC.1 = g1.1) (f2 : gC.2.2.2.2 = g1.2.2.2.2) (d1 : zt_dp c (c 0) n1) (d2 : zm_ed c (c 0) → zt_dp c (zm_o c (c 0) 6) n2) : zm_R ((C0_joinGroup (d + 2) a (zt_r a s) (zt_r a (c 0)) gC).bind fun g4 => (zv_gI g4 (zt_r a s) 5 0).bind fun v5 => (some (some (zv_i v5), g4) : zv_O)) (zm_I fun v g => v = s ∧ zt_nn a c h s x y z (if zt_jn c n1 n2 x y z = true then zm_o c (c 0) 6 else s) g ∧ g.2.2.1 = gC.2.2.1 ∧ ∀ r k, r ≠ a + 25 → zv_I g r k = zv_I gC r k) := by
  have la := zt_U_la U
  have W0 := zt_U_W U
  have hs0 := W0.2.1
  have S0 := zt_U_st U _ hs0
  have lS := zt_r_l la fr.1
  have lP := zt_r_l la hs0.1
  have N0 := zt_nn_gen U fr rfl W fI fS fJ fR f1 f2
  have LC := zt_nn_L N0
  have JC : zt_J a c gC := zt_J_cg J (zt_nn_jn N0)
  have pq : zt_pq c gC (zt_r a s) (zt_r a (c 0)) x y z := ⟨lS, lP, zt_nn_s6 N0, zt_nn_s7 N0, zt_nn_s8 N0, zt_nn_s9 N0, (zt_nn_oI N0 _ hs0 6 (by decide)).trans (zt_S_ac S0), (zt_nn_oI N0 _ hs0 7 (by decide)).trans (zt_S_ti S0), (zt_nn_oI N0 _ hs0 8 (by decide)).trans (zt_S_pl S0), (zt_nn_oI N0 _ hs0 9 (by decide)).trans (zt_S_sz S0)⟩
  have hd : zm_ed c (c 0) → zv_R gC (zt_r a (c 0)) 5 = zt_r a (zm_o c (c 0) 6) ∧ zv_lay (zt_r a (zm_o c (c 0) 6)) = (1, 5) ∧ zv_I gC (zt_r a (c 0)) 10 = n1 ∧ zv_I gC (zt_r a (zm_o c (c 0) 6)) 10 = n2 := fun he => by
    have c00 : c 0 ≠ 0 := fun q => by
      have := W0.1.2.1.2.2.1
      rw [q] at he
      rcases he with z | z <;> omega
    have fst := (zm_fp W0.1 hs0 c00).1
    obtain ⟨l1', a1, a2⟩ := d1
    obtain ⟨l2', b1, b2⟩ := d2 he
    refine ⟨(zt_nn_oR N0 _ hs0 5).trans (zt_S_fi S0), zt_r_l la fst.1, ?_, ?_⟩
    · rw [zt_nn_oI N0 _ hs0 10 (by decide), a2]
      exact zt_S_de S0 l1' a1
    · rw [zt_nn_oI N0 _ fst 10 (by decide), b2]
      exact zt_S_de (zt_U_st U _ fst) l2' b1
  obtain ⟨g', eg, gD, oD, eD⟩ := zt_joinGroup (d := d) LC la JC pq hd
  have iD : ∀ r k, r ≠ a + 25 → zv_I gD r k = zv_I gC r k := fun r k hn => zt_o_i oD (zt_c1 hn) k
  have f2D : gD.2.2 = gC.2.2 := oD.2.1
  have n25 : ∀ x, x ≤ 2 → zc_stt a s.toNat + x ≠ a + 25 := fun x hx q => zt_sepH (a := a) (i := s.toNat) (n := 25) (by decide) hx (by decide) (by decide) (by decide) q.symm
  have N : zt_nn a c h s x y z s gD := zt_nn_gen U fr rfl W (fun r k c1 c2 c3 c4 c5 => (iD r k c5).trans (fI r k c1 c2 c3 c4 c5)) (fun k c1 c2 => (iD _ k (n25 0 (by decide))).trans (fS k c1 c2)) (fun r k c1 => by
    refine Eq.trans ?_ (fJ r k c1)
    show gD.2.2.1 r k = _
    rw [f2D]; rfl) (fun r k => by
    refine Eq.trans ?_ (fR r k)
    show gD.2.2.2.1 r k = _
    rw [f2D]; rfl) (oD.1.trans f1) (by rw [f2D]; exact f2)
  have n0 : zv_I gD (zt_r a s) 0 = s := by
    have e := zt_r_p (a := a) fr.1.1
    rw [e, iD (zc_stt a s.toNat) _ (n25 0 (by decide)), fS 0 (by decide) (by decide), zt_gw_s0 W]
    have := fr.1
    omega
  have fJD : gD.2.2.1 = gC.2.2.1 := by rw [f2D]
  rw [zm_e eg]
  by_cases hj : zt_jn c n1 n2 x y z = true
  · rw [if_pos hj] at eD
    rw [if_pos hj]
    have N' := zt_nn_join (f := zm_o c (c 0) 6) U fr N
    rw [← eD] at N'
    rw [zm_e (zl_gI (zt_nn_L N') lS 0)]
    refine zm_iI ⟨?_, N', ?_, ?_⟩
    · rw [eD]; exact n0
    · rw [eD]; exact fJD
    · rw [eD]; exact iD
  · rw [if_neg hj] at eD
    rw [if_neg hj]
    rw [← eD] at N
    rw [zm_e (zl_gI (zt_nn_L N) lS 0)]
    refine zm_iI ⟨?_, N, ?_, ?_⟩
    · rw [eD]; exact n0
    · rw [eD]; exact fJD
    · rw [eD]; exact iD
/-- a cut's own -/
def zt_un (a : Nat) (h : zv_H) (s : Int) (E : List (Int × Int)) (pl : Nat) (m : Nat) (g : zv_H) : Prop := (zv_I g (zt_r a s) 15 = -1) ∧ (zv_J g (zt_r a s) 16 = Int64.ofNat 0) ∧ (zv_I g (zt_r a s) 12 = (zt_cl pl m E).length) ∧ (∀ (k : Nat) (x : Int × Int), (zt_cl pl m E)[k]? = some x → zv_I g (zt_r a s + 2) k = zt_id x) ∧ (∀ (k : Nat) (x : Int × Int), (zt_ct pl m E)[k]? = some x → zv_I g (zt_r a s + 1) k = zt_id x) ∧ (∀ t : Nat, t < 64 → (zt_b (zv_J g (zt_r a s) 17) t = true ↔ 1 ≤ t ∧ t < 48 ∧ ∃ p ∈ zt_ct pl m E, p.1 = t)) ∧ (∀ k, zv_I g (a + 5) k = zv_I h (a + 5) k)
theorem zt_un_an {a : Nat} {h : zv_H} {s : Int} {E : List (Int × Int)} {pl : Nat} {m : Nat} {g : zv_H} (t : zt_un a h s E pl m g) : zv_I g (zt_r a s) 15 = -1 := t.1
theorem zt_un_nd {a : Nat} {h : zv_H} {s : Int} {E : List (Int × Int)} {pl : Nat} {m : Nat} {g : zv_H} (t : zt_un a h s E pl m g) : zv_J g (zt_r a s) 16 = Int64.ofNat 0 := t.2.1
theorem zt_un_ln {a : Nat} {h : zv_H} {s : Int} {E : List (Int × Int)} {pl : Nat} {m : Nat} {g : zv_H} (t : zt_un a h s E pl m g) : zv_I g (zt_r a s) 12 = (zt_cl pl m E).length := t.2.2.1
theorem zt_un_dc {a : Nat} {h : zv_H} {s : Int} {E : List (Int × Int)} {pl : Nat} {m : Nat} {g : zv_H} (t : zt_un a h s E pl m g) : ∀ (k : Nat) (x : Int × Int), (zt_cl pl m E)[k]? = some x → zv_I g (zt_r a s + 2) k = zt_id x := t.2.2.2.1
theorem zt_un_tk {a : Nat} {h : zv_H} {s : Int} {E : List (Int × Int)} {pl : Nat} {m : Nat} {g : zv_H} (t : zt_un a h s E pl m g) : ∀ (k : Nat) (x : Int × Int), (zt_ct pl m E)[k]? = some x → zv_I g (zt_r a s + 1) k = zt_id x := t.2.2.2.2.1
theorem zt_un_bs {a : Nat} {h : zv_H} {s : Int} {E : List (Int × Int)} {pl : Nat} {m : Nat} {g : zv_H} (t : zt_un a h s E pl m g) : ∀ t : Nat, t < 64 → (zt_b (zv_J g (zt_r a s) 17) t = true ↔ 1 ≤ t ∧ t < 48 ∧ ∃ p ∈ zt_ct pl m E, p.1 = t) := t.2.2.2.2.2.1
theorem zt_un_gl {a : Nat} {h : zv_H} {s : Int} {E : List (Int × Int)} {pl : Nat} {m : Nat} {g : zv_H} (t : zt_un a h s E pl m g) : ∀ k, zv_I g (a + 5) k = zv_I h (a + 5) k := t.2.2.2.2.2.2
theorem zt_cutOut {d : Nat} {a : Nat} {c : Nat → Int} {h : zv_H} (gL : zt_L h) (U : zt_U a c h) (J : zt_J a c h) (h0 : 0 ≤ zv_I h (a + 17) 4) {l : List Int} (hl : zm_Ln c (c 0 :: l) (c 0)) {n1 n2 : Int} (d1 : zt_dp c (c 0) n1) (d2 : zm_ed c (c 0) → zt_dp c (zm_o c (c 0) 6) n2) (place many : Int) : zm_R (C0_cutOut (d + 4) a place many h) (fun q => (q.1 < 0 ∧ q.2 = h ∧ ¬ zt_uk c (zt_dc c (c 0 :: l)).length place many) ∨ (zt_uk c (zt_dc c (c 0 :: l)).length place many ∧ ∃ s, zt_free c s ∧ q.1 = s ∧ zt_nn a c h s 1 place many (if zt_jn c n1 n2 1 place many = true then zm_o c (c 0) 6 else s) q.2 ∧ zt_un a h s (zt_dc c (c 0 :: l)) place.toNat many.toNat q.2)) := by
  have la := zt_U_la U
  have W := zt_U_W U
  have hs0 := W.2.1
  have lP := zt_r_l la hs0.1
  have S0 := zt_U_st U _ hs0
  obtain ⟨ok, g0, gt, W1⟩ := zt_line_u W hs0 hl
  have n120 : (zt_dc c (c 0 :: l)).length ≤ 120 := W1.2.2.2.2.2.2
  have en := zt_S_ln S0 l hl
  have nst := zt_nst_le W
  have hokE : ∀ x ∈ zt_dc c (c 0 :: l), zt_ok x := fun x hx => zt_row_ok ok.2.2.1 g0 x (List.mem_filter.mp hx).1
  generalize hE : zt_dc c (c 0 :: l) = E at *
  refine zm_cI (P := fun v g => (v < 0 ∧ g = h ∧ ¬ zt_uk c E.length place many) ∨ (zt_uk c E.length place many ∧ ∃ s, zt_free c s ∧ v = s ∧ zt_nn a c h s 1 place many (if zt_jn c n1 n2 1 place many = true then zm_o c (c 0) 6 else s) g ∧ zt_un a h s E place.toNat many.toNat g)) (fun e => lC0_cutOut (zl_ob gL la) e) ?_
  rw [qE0_cutOut]
  refine zm_if (fun q => zm_iI (Or.inl ⟨by decide, rfl, fun z => by have := z.2.1; omega⟩)) (fun p0 => ?_)
  rw [zm_e (zc_within h many 1 12)]
  by_cases m12 : 1 ≤ many ∧ many ≤ 12
  · rw [if_pos m12]
    dsimp only
    rw [if_neg (by decide), zm_e (zl_gR gL la 10), zt_U_he U, zm_e (zl_gI gL lP 12), en, zm_w (by omega)]
    refine zm_if (fun p1 => ?_) (fun q => zm_iI (Or.inl ⟨by decide, rfl, fun z => q (by have := z.2.2.1; omega)⟩))
    rw [zm_e (zl_gI gL la 12), zt_U_ct U]
    refine zm_if (fun c48 => ?_) (fun q => zm_iI (Or.inl ⟨by decide, rfl, fun z => by have := z.2.2.2; omega⟩))
    have okp : zt_uk c E.length place many := ⟨m12, by omega, by omega, by omega⟩
    obtain ⟨s, fr⟩ := zt_free_ex W (show zm_nst c ≠ 48 by omega)
    obtain ⟨pl, epl⟩ : ∃ pl : Nat, place = pl := ⟨place.toNat, by omega⟩
    obtain ⟨m, em⟩ : ∃ m : Nat, many = m := ⟨many.toNat, by omega⟩
    subst epl
    subst em
    have i48 : s.toNat < 48 := by have := fr.1; omega
    have ers : zt_r a s = zc_stt a s.toNat := zt_r_p fr.1.1
    have lS := zt_r_l la fr.1
    have lS5 := zc_l5 lS
    have lP5 := zc_l5 lP
    have eP : zt_r a (c 0) = zc_stt a (c 0).toNat := zt_r_p hs0.1.1
    have nij : (c 0).toNat ≠ s.toNat := fun q => by
      have h1 := hs0.1
      have h2 := fr.1
      have e : c 0 = s := by omega
      exact fr.2.2 (by rw [← e]; exact hs0.2)
    have sp : ∀ x y, x ≤ 2 → y ≤ 2 → zt_r a (c 0) + x ≠ zt_r a s + y := fun x y hx hy => by
      rw [eP, ers]
      exact zt_sep nij hx hy
    have eh := zt_U_he U
    obtain ⟨⟨q1, g1⟩, e1, eq1, G⟩ := zt_grow (d := d + 1) (x := 1) (y := (pl : Int)) (z := (m : Int)) gL U h0 fr
    dsimp only at eq1 G
    subst eq1
    have L1 := zt_gw_L G
    have hb : ∀ j x n, n ≤ 27 → n ≠ 1 → n ≠ 2 → n ≠ 3 → x ≤ 2 → zc_stt a j + x ≠ a + n := fun j x n n0 n1 n2 n3 hx q => zt_sepH n0 hx n1 n2 n3 q.symm
    have PO : ∀ x k, x ≤ 2 → ¬ (x = 0 ∧ k = 11) → zv_I g1 (zt_r a (c 0) + x) k = zv_I h (zt_r a (c 0) + x) k := fun x k hx hk => by
      refine zt_gw_oI G _ k (by rw [← ers]; exact sp x 0 hx (by decide)) (fun q => hk ?_) (fun q => ?_) (fun q => ?_) ?_ ?_
      · rw [eh] at q
        exact ⟨by omega, q.2⟩
      · exact hb (c 0).toNat x 0 (by decide) (by decide) (by decide) (by decide) hx (by rw [← eP]; exact q.1)
      · exact hb (c 0).toNat x 17 (by decide) (by decide) (by decide) (by decide) hx (by rw [← eP]; exact q.1)
      · rw [eP]; exact hb (c 0).toNat x 18 (by decide) (by decide) (by decide) (by decide) hx
      · rw [eP]; exact hb (c 0).toNat x 19 (by decide) (by decide) (by decide) (by decide) hx
    have src1 : zt_src (zt_r a (c 0)) E g1 := ⟨lP, (PO 0 12 (by decide) (by omega)).trans en, n120, fun k x hx => by rw [PO 2 k (by decide) (by omega)]; exact zt_S_dc S0 l hl k x (by rw [hE]; exact hx)⟩
    rw [zm_e (zl_gR gL la 10), eh, zm_e e1]
    dsimp only
    rw [if_neg (zc_nz lS)]
    have A0 : zt_cd g1 (zt_r a s) pl m (E.take 0) g1 := by
      refine ⟨rfl, rfl, fun _ _ _ _ _ => rfl, fun _ _ _ => rfl, ?_, fun k x hx => ?_, fun k x hx => ?_, fun t ht => ?_⟩
      · rw [ers, zt_gw_sc G]
        unfold zt_cl
        rw [List.take_zero, List.take_nil, List.drop_nil]
        rfl
      · unfold zt_cl at hx
        rw [List.take_zero, List.take_nil, List.drop_nil] at hx
        cases hx
      · unfold zt_ct at hx
        rw [List.take_zero, List.drop_nil, List.take_nil] at hx
        cases hx
      · rw [ers, zt_gw_jh G, zt_b_0]
        unfold zt_ct
        rw [List.take_zero, List.drop_nil, List.take_nil]
        exact ⟨fun q => (by cases q), fun q => by obtain ⟨p, hp, _⟩ := q.2.2; cases hp⟩
    refine zt_cut69 (d := d + 1) (E := E) L1 lS src1 ⟨sp 0 0 (by decide) (by decide), sp 2 0 (by decide) (by decide), sp 0 1 (by decide) (by decide), sp 0 2 (by decide) (by decide), sp 2 1 (by decide) (by decide)⟩ hokE (by omega) (by omega) (fun gC C => ?_) E.length 0 g1 (Nat.zero_add _) A0
    have C' := C
    rw [ers] at C'
    have f2C := zt_cd_f2 C
    have iC := zt_cd_i C'
    have jC := zt_cd_j C'
    obtain ⟨⟨ov, g'⟩, e2, v, ev, v2, N, gJ, gI⟩ := zt_join_end (d := d + 1) (n1 := n1) (n2 := n2) U J fr G (gC := gC) (fun r k c1 c2 c3 _ _ => iC r k (fun q => c1 q.1) c2 c3) (fun k c1 c2 => iC _ k (fun q => c1 q.2) (by omega) (by omega)) (fun r k c1 => jC r k (fun q => c1 q.1)) (fun r k => by
      show gC.2.2.2.1 r k = _
      rw [f2C]; rfl) (zt_cd_f1 C) (by rw [f2C]) d1 d2
    dsimp only at ev N gJ gI
    subst ev
    subst v2
    rw [e2]
    have n25 : ∀ x, x ≤ 2 → zt_r a v + x ≠ a + 25 := fun x hx => by
      rw [ers]
      exact hb _ x 25 (by decide) (by decide) (by decide) (by decide) hx
    have n5 : ∀ x, x ≤ 2 → a + 5 ≠ zt_r a v + x := fun x hx q => by
      rw [ers] at q
      exact hb _ x 5 (by decide) (by decide) (by decide) (by decide) hx q.symm
    have gJ' : ∀ r k, zv_J g' r k = zv_J gC r k := fun r k => by
      show g'.2.2.1 r k = _
      rw [gJ]; rfl
    refine zm_iI (Or.inr ⟨okp, v, fr, rfl, N, ?_, ?_, ?_, fun k x hx => ?_, fun k x hx => ?_, fun t ht => ?_, fun k => ?_⟩)
    · rw [gI (zt_r a v) _ (n25 0 (by decide)), zt_cd_i C _ 15 (fun q => absurd q.2 (by decide)) (by omega) (by omega), ers]
      exact zt_gw_sf G
    · rw [gJ', zt_cd_j C _ 16 (fun q => absurd q.2 (by decide)), ers]
      exact zt_gw_jg G
    · rw [gI (zt_r a v) _ (n25 0 (by decide))]
      exact zt_cd_n C
    · rw [gI _ _ (n25 2 (by decide))]
      exact zt_cd_d C k x hx
    · rw [gI _ _ (n25 1 (by decide))]
      exact zt_cd_t C k x hx
    · rw [gJ']
      exact zt_cd_b C t ht
    · rw [gI _ _ (by omega), zt_cd_i C _ k (fun q => n5 0 (by decide) q.1) (n5 1 (by decide)) (n5 2 (by decide))]
      refine zt_gw_oI G _ k (fun q => n5 0 (by decide) (by rw [ers]; exact q)) (fun q => ?_) (by omega) (by omega) (by omega) (by omega)
      rw [eh, eP] at q
      exact hb _ 0 5 (by decide) (by decide) (by decide) (by decide) (by decide) q.1.symm
  · rw [if_neg m12]
    exact zm_iI (Or.inl ⟨by decide, rfl, fun z => m12 z.1⟩)
theorem zt_fl_mid {E : List (Int × Int)} (hd : E.Nodup) (pl m : Nat) : E.filter (fun p => !((zt_ct pl m E).contains p)) = zt_cl pl m E := by
  unfold zt_ct zt_cl
  have e : E = E.take pl ++ ((E.drop pl).take m ++ E.drop (pl + m)) := by
    rw [← List.drop_drop, List.take_append_drop, List.take_append_drop]
  generalize hA : E.take pl = A at *
  generalize hT : (E.drop pl).take m = T at *
  generalize hB : E.drop (pl + m) = B at *
  rw [e] at hd
  obtain ⟨_, h2, h3⟩ := List.nodup_append.mp hd
  obtain ⟨_, _, h4⟩ := List.nodup_append.mp h2
  have fA : A.filter (fun p => !(T.contains p)) = A := zm_fl_all _ (fun x hx => by
    have : ¬ x ∈ T := fun q => h3 x hx x (List.mem_append_left _ q) rfl
    rw [Bool.not_eq_true', ← Bool.not_eq_true, List.contains_iff_mem]
    exact this)
  have fB : B.filter (fun p => !(T.contains p)) = B := zm_fl_all _ (fun x hx => by
    have : ¬ x ∈ T := fun q => h4 x q x hx rfl
    rw [Bool.not_eq_true', ← Bool.not_eq_true, List.contains_iff_mem]
    exact this)
  have fT : T.filter (fun p => !(T.contains p)) = [] := List.filter_eq_nil_iff.mpr (fun x hx => by
    have : T.contains x = true := List.contains_iff_mem.mpr hx
    rw [this]
    decide)
  rw [e, List.filter_append, List.filter_append, fA, fB, fT, List.nil_append]
theorem zt_dc_cut {c c' : Nat → Int} {s : Int} {lh : List Int} (hne : lh ≠ []) (ha : ∀ t ∈ lh, zm_ag c c' t) (hns : ¬ s ∈ lh) (g : zm_G0 c lh) (hp : zm_o c' s 2 = 1) {pl m : Nat} (htk : zm_tk c' s = zt_ct pl m (zt_dc c lh)) : zt_dc c' (s :: lh) = zt_cl pl m (zt_dc c lh) := by
  obtain ⟨r1, r2, _⟩ := zm_cnt_cut hne ha hns g hp
  have hd : (zt_dc c lh).Nodup := List.Nodup.sublist List.filter_sublist (zm_row_nd g.1)
  rw [← zt_fl_mid hd pl m, ← htk]
  show (zm_row c' (s :: lh)).filter (zm_sn c' (s :: lh)) = ((zm_row c lh).filter (zm_sn c lh)).filter _
  rw [r1, zm_fl_cg r2, List.filter_filter]
  exact zm_fl_cg (fun p _ => Bool.and_comm _ _)
theorem zt_tk_cut {c c' : Nat → Int} {s : Int} {lh : List Int} {pl m : Nat} (Ct : zm_Ct c c' lh s (pl : Int) (m : Int)) (hpl : pl + m ≤ (zt_dc c lh).length) : zm_tk c' s = zt_ct pl m (zt_dc c lh) := by
  obtain ⟨_, _, _, c5, _, _, ck⟩ := Ct
  have e5 : (zm_o c' s 5).toNat = m := by rw [c5]; rfl
  apply List.ext_getElem?
  intro k
  unfold zt_ct
  by_cases hk : k < m
  · obtain ⟨x, x1, x2, x3⟩ := ck k (by omega)
    rw [zm_tk_get c' s (by omega), List.getElem?_take_of_lt hk, List.getElem?_drop, x2, x3]
    exact x1.symm
  · rw [List.getElem?_eq_none (by rw [zm_tk_len]; omega), List.getElem?_eq_none (by rw [List.length_take, List.length_drop]; omega)]
theorem zt_U_cut {a : Nat} {c c' : Nat → Int} {h g : zv_H} {s fi : Int} {l : List Int} {pl m : Nat} (U : zt_U a c h) (V : zv_I h (a + 17) 4 = c 2) (hA : zc_A g) (fr : zt_free c s) (hl : zm_Ln c (c 0 :: l) (c 0)) (hpl : pl + m ≤ (zt_dc c (c 0 :: l)).length) (N : zt_nn a c h s 1 (pl : Int) (m : Int) fi g) (P : zt_un a h s (zt_dc c (c 0 :: l)) pl m g) (W' : zm_W c') (n : zm_Nw c c' s) (Ct : zm_Ct c c' (c 0 :: l) s (pl : Int) (m : Int)) (e6 : zm_o c' s 6 = fi) (e7 : zm_o c' s 7 = zv_w (c 2 + 1)) (e10 : zm_o c' s 10 = 0) (e11 : zm_o c' s 11 = 0) : zt_U a c' g := by
  have W := zt_U_W U
  have s47 := fr.1
  have s0 : s ≠ 0 := fun e => by
    have h0 := W.1.2.1.1.2
    have h1 := fr.2.2
    rw [e] at h1
    exact h1 h0
  have htk := zt_tk_cut Ct hpl
  obtain ⟨p2, p3, p4, p5, _, p8, _⟩ := Ct
  obtain ⟨ok, g0, gt, W1⟩ := zt_line_u W W.2.1 hl
  obtain ⟨Ln', hag, hns⟩ := zt_Ln_new W fr n hl
  have edc := zt_dc_cut (List.cons_ne_nil _ _) hag hns g0 p2 htk
  have un : ∀ l', zm_Ln c' (s :: l') s → l' = c 0 :: l := fun l' h' => (List.cons.inj (zm_Ln_u h' Ln')).2
  refine zt_U_new U V hA fr N W' n p2 p3 p4 p5 e6 e7 (fun t ht q k hk => zt_un_gl P _) ?_ (fun t ht => ?_) (fun t ht => ?_) (fun q k x hx => ?_) (fun q => ?_) (fun l' h' => ?_) (fun l' h' i x hx => ?_) ?_
  · rw [zt_un_an P, if_neg (fun q => absurd (p2.symm.trans q.1) (by decide))]
  · rw [zt_un_nd P, zt_b_0]
    exact ⟨fun q => (by cases q), fun q => absurd q.2 (zt_nm0 e10 e11 (by omega) (by omega))⟩
  · rw [zt_un_bs P t ht]
    unfold zt_ln
    rw [htk]
    constructor
    · rintro ⟨q1, q2, q3⟩
      exact ⟨q1, q2, Or.inr ⟨p2, q3⟩⟩
    · rintro ⟨q1, q2, q3⟩
      rcases q3 with u | u
      · exact absurd (p2.symm.trans u.1) (by decide)
      · exact ⟨q1, q2, u.2⟩
  · rw [htk] at hx
    exact zt_un_tk P k x hx
  · rcases q with u | u
    · exact absurd (p2.symm.trans u) (by decide)
    · exact absurd u s0
  · rw [un l' h', edc]
    exact zt_un_ln P
  · rw [un l' h', edc] at hx
    exact zt_un_dc P i x hx
  · refine ⟨fun l' h' t t0 t1 hn => absurd hn (zt_nm0 e10 e11 t0 t1), fun l' h' q _ => absurd (p2.symm.trans q) (by decide), fun q => absurd (p2.symm.trans q) (by decide), Or.inr (Or.inr (Or.inl p2)), fun q => absurd q (fun z => by rcases z with z | z; exact absurd (p2.symm.trans z) (by decide); exact s0 z), fun _ _ => ?_⟩
    rw [htk]
    unfold zt_ct zt_dc
    exact List.Nodup.sublist (List.take_sublist _ _) (List.Nodup.sublist (List.drop_sublist _ _) (List.Nodup.sublist List.filter_sublist (zm_row_nd (c := c) ok.1)))
theorem zt_d12 {c : Nat → Int} (W : zm_W c) {l : List Int} (hl : zm_Ln c (c 0 :: l) (c 0)) : ∃ n1 n2, zt_dp c (c 0) n1 ∧ (zm_ed c (c 0) → zt_dp c (zm_o c (c 0) 6) n2) := by
  by_cases he : zm_ed c (c 0)
  · have c00 : c 0 ≠ 0 := fun q => by
      have := W.1.2.1.2.2.1
      rw [q] at he
      rcases he with z | z <;> omega
    obtain ⟨l2, hl2, _⟩ := zt_line W (zm_fp W.1 W.2.1 c00).1
    exact ⟨_, _, ⟨l, hl, rfl⟩, fun _ => ⟨l2, hl2, rfl⟩⟩
  · exact ⟨_, 0, ⟨l, hl, rfl⟩, fun q => absurd q he⟩
theorem zj_cut {d D : Nat} {a : Nat} {c : Nat → Int} {g k : zv_H} (hA : zc_A g) (H : zt_H a c g) (hM : zm_M k) (hc : zv_I k 348 = c) (b : c 2 < 2000000000) {place many : Int} (rp : zv_rg place) (rm : zv_rg many) : ∃ q q', C0_cutOut (d + 4) a place many g = some q ∧ C9_cutNow (D + 6) 347 place many k = some q' ∧ zt_Z a 1 g k q q' ∧ zt_oh a g q.2 := by
  have U := zt_H_U H
  have W := zt_U_W U
  have la := zt_U_la U
  have V := zt_H_V H
  obtain ⟨l, hl, _⟩ := zt_line W W.2.1
  obtain ⟨⟨v', k'⟩, e', ⟨F, W', R1⟩, R2⟩ := zt_two (zm_cutNow hM hc W D place many rp.2) (zt_cutNow hM hc W (zt_ck_of (zt_H_J H)) D place many rp.2 hl)
  have F' : zm_F [348, 351, 352, 353, 354, 355, 358, 359, 360, 362, 363, 364, 365] [3, 10, 11, 12, 19, 24] k k' := zm_F_s F rfl rfl
  have h0 : 0 ≤ zv_I g (a + 17) 4 := by rw [zt_V_ct V]; exact zt_V_c0 V
  rcases R2 with ⟨v1, np⟩ | ⟨pk, fr, gp⟩
  · obtain ⟨n1, n2, d1, d2⟩ := zt_d12 W hl
    obtain ⟨⟨qv, qg⟩, e, R⟩ := zt_cutOut (d := d) (zt_L_A hA) U (zt_H_J H) h0 hl d1 d2 place many
    rcases R with R | R
    · have hc' : zv_I k' 348 = c := by
        rcases R1 with R1 | R1
        · exact R1.2
        · have z : v' = -1 := v1
          have := R1.1
          dsimp only at this
          omega
      refine ⟨_, _, e, e', ?_⟩
      have z : v' = -1 := v1
      rw [z]
      have z2 : qg = g := R.2.1
      subst z2
      exact ⟨zt_Z_no (by decide) H hc (zc_X_r hA) (zt_k_r a _) H F' R.1 hc', fun _ _ _ => rfl⟩
    · exact absurd R.1 np
  · dsimp only at fr gp R1
    have fr47 := fr.1
    rcases R1 with R1 | R1
    · have := R1.1; omega
    · obtain ⟨_, _, n, l2, hl2, Ct⟩ := R1
      have el : l2 = l := (List.cons.inj (zm_Ln_u hl2.1 hl)).2
      subst el
      obtain ⟨n1, n2, d1, d2, e6, e7, e10, e11⟩ := gp
      obtain ⟨⟨v, g'⟩, e, O, R⟩ := zt_two (zc_C0_cutOut (d := d + 1) hA la rp rm) (zt_cutOut (d := d) (zt_L_A hA) U (zt_H_J H) h0 hl d1 d2 place many)
      rcases R with R | R
      · exact absurd pk R.2.2
      · obtain ⟨_, s, fr2, ev, N, P⟩ := R
        dsimp only at ev N P O
        have es : s = v' := zt_free_u fr2 fr
        subst es
        subst ev
        have hA' : zc_A g' := O.1.2
        obtain ⟨pl, rfl⟩ : ∃ pl : Nat, place = pl := ⟨place.toNat, by have := pk.2.1; omega⟩
        obtain ⟨m, rfl⟩ : ∃ m : Nat, many = m := ⟨many.toNat, by have := pk.1; omega⟩
        have hpl : pl + m ≤ (zt_dc c (c 0 :: l2)).length := by have := pk.2.2.1; omega
        have U' := zt_U_cut U (zt_V_ct V) hA' fr hl hpl N P W' n Ct e6 e7 e10 e11
        obtain ⟨H', g2, g1⟩ := zt_H_new H b fr N n e7 U'
        refine ⟨_, _, e, e', ⟨O.1, zt_nn_k N, F', Or.inr ⟨fr47.1, rfl⟩, H', ?_, ?_⟩, zt_nn_oh N⟩
        · dsimp only
          rw [hc, g1]; omega
        · dsimp only
          rw [hc, g2]; omega
end
/-! A25.line -/
section
/-! ===== the tie: going up a line ===== -/
section
variable {a : Nat} {c : Nat → Int} {h : zv_H}
/-- a parent, as a cell -/
theorem zt_pa_nil (U : zt_U a c h) {s : Int} (hs : zm_st c s) (hl : zm_Ln c [s] s) : zv_R h (zt_r a s) 4 = 0 := by
  rw [zt_S_pa (zt_U_st U s hs)]
  exact zt_r_n hl.2
theorem zt_pa_cons (U : zt_U a c h) {s p : Int} {l : List Int} (hs : zm_st c s) (hl : zm_Ln c (s :: p :: l) s) : zv_R h (zt_r a s) 4 = zt_r a p ∧ zm_Ln c (p :: l) p ∧ zm_o c s 1 = p := by
  have e : zm_o c s 1 = p := hl.2.1.1
  have h2 := hl.2
  rw [e] at h2
  refine ⟨?_, h2, e⟩
  rw [zt_S_pa (zt_U_st U s hs), e]
theorem zt_r0 (U : zt_U a c h) {s : Int} (hs : zm_st c s) : ¬ zt_r a s = 0 := zc_nz (zt_r_l (zt_U_la U) hs.1)
theorem zt_r1000 (U : zt_U a c h) {s : Int} (hs : zm_st c s) : ¬ 1000000 ≤ zt_r a s := by
  have := zc_lt (zt_r_l (zt_U_la U) hs.1) (by decide)
  omega
/-- the line of one of a line is its end -/
theorem zt_in_suf {l ls : List Int} {t s : Int} (hl : zm_Ln c (t :: l) t) (hs : zm_Ln c (s :: ls) s) (m : s ∈ t :: l) : ∃ p, t :: l = p ++ s :: ls := by
  obtain ⟨p, b, e, hb⟩ := zm_Ln_s hl s m
  rw [(List.cons.inj (zm_Ln_u hb hs)).2] at e
  exact ⟨p, e⟩
theorem zt_onLine_l {d : Nat} (gL : zt_L h) (U : zt_U a c h) {s : Int} {ls : List Int} (hs : zm_st c s) (hls : zm_Ln c (s :: ls) s) : ∀ (l : List Int) (t : Int), zm_Ln c (t :: l) t → (∀ u ∈ t :: l, zm_st c u) → L0_onLine_2 d (zt_r a s) (zt_r a t) h = some (some (zv_i (if s ∈ t :: l then 1 else 0)), h) := by
  have la := zt_U_la U
  have lS := zt_r_l la hs.1
  have dS := zt_S_de (zt_U_st U s hs) ls hls
  intro l
  induction l with
  | nil =>
    intro t hl hst
    have ht := hst t List.mem_cons_self
    have lT := zt_r_l la ht.1
    have dT := zt_S_de (zt_U_st U t ht) [] hl
    rw [qL0_onLine_2, if_neg (zt_r0 U ht), zm_e (zl_gI gL lT 10), zm_e (zl_gI gL lS 10), dT, dS, if_pos (by rw [List.length_nil]; omega), qL0_onLine_25, if_neg (fun q => by have := zt_r1000 U ht; have := zt_r1000 U hs; omega)]
    by_cases e : t = s
    · subst e
      rw [if_pos rfl, if_pos List.mem_cons_self]
    · rw [if_neg (fun q => e (zt_r_inj la ht.1 hs.1 q)), if_neg (fun q => e (List.mem_singleton.mp q).symm)]
  | cons p l ih =>
    intro t hl hst
    have ht := hst t List.mem_cons_self
    have lT := zt_r_l la ht.1
    have dT := zt_S_de (zt_U_st U t ht) (p :: l) hl
    obtain ⟨ep, hlp, _⟩ := zt_pa_cons U ht hl
    rw [qL0_onLine_2, if_neg (zt_r0 U ht), zm_e (zl_gI gL lT 10), zm_e (zl_gI gL lS 10), dT, dS]
    by_cases le : ((p :: l).length : Int) ≤ (ls.length : Int)
    · rw [if_pos le, qL0_onLine_25, if_neg (fun q => by have := zt_r1000 U ht; have := zt_r1000 U hs; omega)]
      by_cases e : t = s
      · subst e
        rw [if_pos rfl, if_pos List.mem_cons_self]
      · rw [if_neg (fun q => e (zt_r_inj la ht.1 hs.1 q)), if_neg]
        intro q
        obtain ⟨pr, e2⟩ := zt_in_suf hl hls q
        cases pr with
        | nil => exact e (List.cons.inj e2).1
        | cons x pr =>
          have e3 := congrArg List.length e2
          simp only [List.cons_append, List.length_cons, List.length_append] at e3
          rw [List.length_cons] at le
          omega
    · rw [if_neg le, zm_e (zl_gR gL lT 4), ep, ih p hlp (fun u hu => hst u (List.mem_cons_of_mem _ hu))]
      have iff : s ∈ t :: p :: l ↔ s ∈ p :: l := by
        constructor
        · intro q
          rcases List.mem_cons.mp q with z | z
          · exfalso
            subst z
            rw [(List.cons.inj (zm_Ln_u hl hls)).2] at le
            exact le (Int.le_refl _)
          · exact z
        · exact List.mem_cons_of_mem _
      by_cases q : s ∈ p :: l
      · rw [if_pos q, if_pos (iff.mpr q)]
      · rw [if_neg q, if_neg (fun z => q (iff.mp z))]
theorem zt_onLine {d : Nat} (gL : zt_L h) (U : zt_U a c h) {s t : Int} (hs : zm_st c s) (ht : zm_st c t) {l : List Int} (hl : zm_Ln c (t :: l) t) : C0_onLine (d + 1) (zt_r a s) (zt_r a t) h = some ((if s ∈ t :: l then 1 else 0), h) := by
  obtain ⟨ls, hls, _⟩ := zt_line (zt_U_W U) hs
  refine lC0_onLine ?_
  rw [qE0_onLine]
  exact zt_onLine_l gL U hs hls l t hl (zt_line_u (zt_U_W U) ht hl).1.2.2.1
/-- the one of a line at a depth -/
theorem zt_above_l {d : Nat} (gL : zt_L h) (U : zt_U a c h) {u : Int} {b : List Int} : ∀ (p : List Int) (t : Int) (l : List Int), t :: l = p ++ u :: b → zm_Ln c (t :: l) t → (∀ v ∈ t :: l, zm_st c v) → L0_above_2 d (b.length : Int) (zt_r a t) h = some (some (zv_r (zt_r a u)), h) := by
  have la := zt_U_la U
  intro p
  induction p with
  | nil =>
    intro t l e hl hst
    obtain ⟨e1, e2⟩ := List.cons.inj e
    subst e1
    subst e2
    have ht := hst t List.mem_cons_self
    rw [qL0_above_2, if_neg (zt_r0 U ht), zm_e (zl_gI gL (zt_r_l la ht.1) 10), zt_S_de (zt_U_st U t ht) l hl, if_pos (Int.le_refl _)]
  | cons x p ih =>
    intro t l e hl hst
    obtain ⟨e1, e2'⟩ := List.cons.inj e
    have e2 : l = p ++ u :: b := e2'
    subst e1
    have ht := hst t List.mem_cons_self
    cases l with
    | nil =>
      have := congrArg List.length e2
      rw [List.length_append, List.length_cons, List.length_nil] at this
      omega
    | cons y l =>
      obtain ⟨ep, hlp, _⟩ := zt_pa_cons U ht hl
      have e3 := congrArg List.length e2
      rw [List.length_append, List.length_cons, List.length_cons] at e3
      rw [qL0_above_2, if_neg (zt_r0 U ht), zm_e (zl_gI gL (zt_r_l la ht.1) 10), zt_S_de (zt_U_st U t ht) _ hl, if_neg (by rw [List.length_cons]; omega), zm_e (zl_gR gL (zt_r_l la ht.1) 4), ep]
      exact ih y l e2 hlp (fun v hv => hst v (List.mem_cons_of_mem _ hv))
theorem zt_above {d : Nat} (gL : zt_L h) (U : zt_U a c h) {t u : Int} {l p b : List Int} (ht : zm_st c t) (hl : zm_Ln c (t :: l) t) (e : t :: l = p ++ u :: b) : C0_above (d + 1) (zt_r a t) (b.length : Int) h = some (zt_r a u, h) := by
  refine lC0_above ?_
  rw [qE0_above]
  exact zt_above_l gL U p t l e hl (zt_line_u (zt_U_W U) ht hl).1.2.2.1
/-- the first of a line that is of another one -/
def zt_fst (lt : List Int) : List Int → Int
  | [] => -1
  | s :: l => if s ∈ lt then s else zt_fst lt l
theorem zt_fst_m {lt : List Int} : ∀ {l : List Int}, (∃ x ∈ l, x ∈ lt) → zt_fst lt l ∈ l ∧ zt_fst lt l ∈ lt
  | [], h => by obtain ⟨x, hx, _⟩ := h; cases hx
  | s :: l, h => by
    unfold zt_fst
    by_cases q : s ∈ lt
    · rw [if_pos q]
      exact ⟨List.mem_cons_self, q⟩
    · rw [if_neg q]
      obtain ⟨x, hx, hx2⟩ := h
      rcases List.mem_cons.mp hx with z | z
      · rw [z] at hx2
        exact absurd hx2 q
      · have := zt_fst_m ⟨x, z, hx2⟩
        exact ⟨List.mem_cons_of_mem _ this.1, this.2⟩
theorem zt_nearest_l {d : Nat} (gL : zt_L h) (U : zt_U a c h) {t : Int} {lt : List Int} (ht : zm_st c t) (hlt : zm_Ln c (t :: lt) t) : ∀ (l : List Int) (s : Int), zm_Ln c (s :: l) s → (∀ u ∈ s :: l, zm_st c u) → (∃ x ∈ s :: l, x ∈ t :: lt) → L0_nearest_2 (d + 1) (zt_r a t) (zt_r a s) h = some (some (zv_r (zt_r a (zt_fst (t :: lt) (s :: l)))), h) := by
  have la := zt_U_la U
  intro l
  induction l with
  | nil =>
    intro s hl hst hx
    have hs := hst s List.mem_cons_self
    obtain ⟨x, x1, x2⟩ := hx
    rw [List.mem_singleton.mp x1] at x2
    rw [qL0_nearest_2, zm_e (zl_gR gL (zt_r_l la hs.1) 4), zt_pa_nil U hs hl, if_pos rfl]
    unfold zt_fst
    rw [if_pos x2]
  | cons p l ih =>
    intro s hl hst hx
    have hs := hst s List.mem_cons_self
    have hp := hst p (List.mem_cons_of_mem _ List.mem_cons_self)
    obtain ⟨ep, hlp, _⟩ := zt_pa_cons U hs hl
    rw [qL0_nearest_2, zm_e (zl_gR gL (zt_r_l la hs.1) 4), ep, if_neg (zt_r0 U hp), zm_e (zt_onLine gL U hs ht hlt)]
    unfold zt_fst
    by_cases q : s ∈ t :: lt
    · rw [if_pos q, if_pos q]
      dsimp only
      rw [if_neg (by decide)]
    · rw [if_neg q, if_neg q]
      dsimp only
      rw [if_pos rfl, zm_e (zl_gR gL (zt_r_l la hs.1) 4), ep]
      refine ih p hlp (fun u hu => hst u (List.mem_cons_of_mem _ hu)) ?_
      obtain ⟨x, x1, x2⟩ := hx
      rcases List.mem_cons.mp x1 with z | z
      · rw [z] at x2
        exact absurd x2 q
      · exact ⟨x, z, x2⟩
theorem zt_nearest {d : Nat} (gL : zt_L h) (U : zt_U a c h) {s t : Int} {ls lt : List Int} (hs : zm_st c s) (ht : zm_st c t) (hls : zm_Ln c (s :: ls) s) (hlt : zm_Ln c (t :: lt) t) : C0_nearest (d + 2) (zt_r a s) (zt_r a t) h = some (zt_r a (zt_fst (t :: lt) (s :: ls)), h) := by
  refine lC0_nearest ?_
  rw [qE0_nearest]
  have o1 := (zt_line_u (zt_U_W U) hs hls).1
  have o2 := (zt_line_u (zt_U_W U) ht hlt).1
  exact zt_nearest_l gL U ht hlt ls s hls o1.2.2.1 ⟨0, List.mem_of_getLast? o1.2.1, List.mem_of_getLast? o2.2.1⟩
/-- how far from one to another -/
theorem zt_dep {s : Int} {ls : List Int} (W : zm_W c) (hs : zm_st c s) (hls : zm_Ln c (s :: ls) s) : ls.length ≤ 47 := by
  have := (zt_line_u W hs hls).1.2.2.2
  rw [List.length_cons] at this
  omega
theorem zt_near_st (W : zm_W c) {s t : Int} {ls lt : List Int} (hs : zm_st c s) (ht : zm_st c t) (hls : zm_Ln c (s :: ls) s) (hlt : zm_Ln c (t :: lt) t) : (zt_fst (t :: lt) (s :: ls) ∈ s :: ls ∧ zt_fst (t :: lt) (s :: ls) ∈ t :: lt) ∧ zm_st c (zt_fst (t :: lt) (s :: ls)) := by
  have o1 := (zt_line_u W hs hls).1
  have o2 := (zt_line_u W ht hlt).1
  have m := zt_fst_m (lt := t :: lt) (l := s :: ls) ⟨0, List.mem_of_getLast? o1.2.1, List.mem_of_getLast? o2.2.1⟩
  exact ⟨m, o1.2.2.1 _ m.1⟩
/-- from one to another: so many steps -/
def zt_wl (c : Nat → Int) (s t v : Int) : Prop := ∃ ls lt ln, zm_Ln c (s :: ls) s ∧ zm_Ln c (t :: lt) t ∧ zm_Ln c (zt_fst (t :: lt) (s :: ls) :: ln) (zt_fst (t :: lt) (s :: ls)) ∧ v = (ls.length : Int) + lt.length - 2 * ln.length
theorem zt_wl_u {s t v v' : Int} (h1 : zt_wl c s t v) (h2 : zt_wl c s t v') : v = v' := by
  obtain ⟨ls, lt, ln, a1, a2, a3, a4⟩ := h1
  obtain ⟨ls', lt', ln', b1, b2, b3, b4⟩ := h2
  have e1 := (List.cons.inj (zm_Ln_u a1 b1)).2
  have e2 := (List.cons.inj (zm_Ln_u a2 b2)).2
  subst e1
  subst e2
  have e3 := (List.cons.inj (zm_Ln_u a3 b3)).2
  rw [a4, b4, e3]
theorem zt_wl_0 (W : zm_W c) {s t v : Int} (hs : zm_st c s) (ht : zm_st c t) (h1 : zt_wl c s t v) : 0 ≤ v := by
  obtain ⟨ls, lt, ln, a1, a2, a3, a4⟩ := h1
  have m := (zt_near_st W hs ht a1 a2).1
  obtain ⟨p, e1⟩ := zt_in_suf a1 a3 m.1
  obtain ⟨p2, e2⟩ := zt_in_suf a2 a3 m.2
  have l1 := congrArg List.length e1
  have l2 := congrArg List.length e2
  rw [List.length_append, List.length_cons, List.length_cons] at l1 l2
  omega
theorem zt_wayLength {d : Nat} (gL : zt_L h) (U : zt_U a c h) {s t : Int} (hs : zm_st c s) (ht : zm_st c t) : ∃ v, C0_wayLength (d + 3) (zt_r a s) (zt_r a t) h = some (v, h) ∧ zt_wl c s t v := by
  have la := zt_U_la U
  have W := zt_U_W U
  obtain ⟨ls, hls, _⟩ := zt_line W hs
  obtain ⟨lt, hlt, _⟩ := zt_line W ht
  obtain ⟨m, hn⟩ := zt_near_st W hs ht hls hlt
  obtain ⟨ln, hln, _⟩ := zt_line W hn
  have b1 := zt_dep W hs hls
  have b2 := zt_dep W ht hlt
  have b3 := zt_dep W hn hln
  refine ⟨(ls.length : Int) + lt.length - 2 * ln.length, lC0_wayLength ?_, ls, lt, ln, hls, hlt, hln, rfl⟩
  rw [qE0_wayLength, zm_e (zl_gI gL (zt_r_l la hs.1) 10), zm_e (zl_gI gL (zt_r_l la ht.1) 10), zm_e (zt_nearest gL U hs ht hls hlt)]
  dsimp only
  rw [zm_e (zl_gI gL (zt_r_l la hn.1) 10), zt_S_de (zt_U_st U s hs) ls hls, zt_S_de (zt_U_st U t ht) lt hlt, zt_S_de (zt_U_st U _ hn) ln hln, zm_w (x := 2 * (ln.length : Int)) (by omega), zm_w (x := (ls.length : Int) + lt.length) (by omega), zm_w (by omega)]
end
/-! the reference -/
theorem zt_commonOf_l {h : zv_H} {c : Nat → Int} (hM : zm_M h) (hc : zv_I h 348 = c) (d : Nat) {t : Int} {lt : List Int} (hlt : zm_Ln c (t :: lt) t) : ∀ (l : List Int) (s : Int), zm_Ln c (s :: l) s → (∀ u ∈ s :: l, zm_st c u) → (∃ x ∈ s :: l, x ∈ t :: lt) → L9_commonOf_2 (d + 2) 347 t s h = some (some (zv_i (zt_fst (t :: lt) (s :: l))), h) := by
  subst hc
  intro l
  induction l with
  | nil =>
    intro s hl hst hx
    obtain ⟨x, x1, x2⟩ := hx
    rw [List.mem_singleton.mp x1] at x2
    rw [qL9_commonOf_2, zm_e (zm_isOfLine hM d s hlt), if_pos x2]
    dsimp only
    unfold zt_fst
    rw [if_neg (by decide), if_pos x2]
  | cons p l ih =>
    intro s hl hst hx
    have hs := hst s List.mem_cons_self
    rw [qL9_commonOf_2, zm_e (zm_isOfLine hM d s hlt)]
    unfold zt_fst
    by_cases q : s ∈ t :: lt
    · rw [if_pos q, if_pos q]
      dsimp only
      rw [if_neg (by decide)]
    · have e : zm_o (zv_I h 348) s 1 = p := hl.2.1.1
      have hlp := hl.2
      rw [e] at hlp
      rw [if_neg q, if_neg q]
      dsimp only
      rw [if_pos rfl, zm_e (zm_of hM _ (zm_st48 hs) (by decide)), e]
      refine ih p hlp (fun u hu => hst u (List.mem_cons_of_mem _ hu)) ?_
      obtain ⟨x, x1, x2⟩ := hx
      rcases List.mem_cons.mp x1 with z | z
      · rw [z] at x2
        exact absurd x2 q
      · exact ⟨x, z, x2⟩
theorem zt_commonOf {h : zv_H} {c : Nat → Int} (hM : zm_M h) (hc : zv_I h 348 = c) (W : zm_W c) (d : Nat) {s t : Int} {ls lt : List Int} (hs : zm_st c s) (ht : zm_st c t) (hls : zm_Ln c (s :: ls) s) (hlt : zm_Ln c (t :: lt) t) : C9_commonOf (d + 3) 347 s t h = some (zt_fst (t :: lt) (s :: ls), h) := by
  refine lC9_commonOf (zm_ob hM) ?_
  rw [qE9_commonOf]
  have o1 := (zt_line_u W hs hls).1
  have o2 := (zt_line_u W ht hlt).1
  exact zt_commonOf_l hM hc d hlt ls s hls o1.2.2.1 ⟨0, List.mem_of_getLast? o1.2.1, List.mem_of_getLast? o2.2.1⟩
theorem zt_wayMany {h : zv_H} {c : Nat → Int} (hM : zm_M h) (hc : zv_I h 348 = c) (W : zm_W c) (d : Nat) {s t : Int} (hs : zm_st c s) (ht : zm_st c t) : ∃ v, C9_wayMany (d + 4) 347 s t h = some (v, h) ∧ zt_wl c s t v := by
  obtain ⟨ls, hls, _⟩ := zt_line W hs
  obtain ⟨lt, hlt, _⟩ := zt_line W ht
  obtain ⟨m, hn⟩ := zt_near_st W hs ht hls hlt
  obtain ⟨ln, hln, _⟩ := zt_line W hn
  have b1 := zt_dep W hs hls
  have b2 := zt_dep W ht hlt
  have b3 := zt_dep W hn hln
  refine ⟨(ls.length : Int) + lt.length - 2 * ln.length, lC9_wayMany (zm_ob hM) ?_, ls, lt, ln, hls, hlt, hln, rfl⟩
  rw [qE9_wayMany, zm_e (zm_depthOf hM _ (by rw [hc]; exact hls) (by omega)), zm_e (zm_depthOf hM _ (by rw [hc]; exact hlt) (by omega)), zm_e (zt_commonOf hM hc W d hs ht hls hlt)]
  dsimp only
  rw [zm_e (zm_depthOf hM _ (by rw [hc]; exact hln) (by omega))]
  dsimp only
  rw [zm_w (x := 2 * (ln.length : Int)) (by omega), zm_w (x := (ls.length : Int) + lt.length) (by omega), zm_w (by omega)]
end
/-! A26.move -/
section
/-! ===== the tie: going about ===== -/
theorem zt_inA {a n : Nat} (ha : zv_lay a = (1, 0)) (hn : n ≤ 27) : zt_in a (a + n) := by
  have h9 := zc_lh ha
  exact ⟨by omega, by omega, by unfold zc_hf; split <;> omega⟩
theorem zt_inSt {a j n : Nat} (ha : zv_lay a = (1, 0)) (hj : j < 48) (hn : n ≤ 2) : zt_in a (zc_stt a j + n) := by
  have h9 := zc_lh ha
  refine ⟨?_, ?_, ?_⟩
  · unfold zc_stt; split <;> omega
  · unfold zc_stt; split <;> omega
  · unfold zc_hf zc_stt
    split <;> split <;> omega
theorem zt_inr {a : Nat} {s : Int} (ha : zv_lay a = (1, 0)) (hs : 0 ≤ s ∧ s ≤ 47) {n : Nat} (hn : n ≤ 2) : zt_in a (zt_r a s + n) := by
  rw [zt_r_p hs.1]
  exact zt_inSt ha (by omega) hn
theorem zt_out {a r r' : Nat} (h1 : ¬ zt_in a r) (h2 : zt_in a r') : r ≠ r' := fun e => h1 (by rw [e]; exact h2)
theorem zt_hs {a n x : Nat} {s : Int} (hs : 0 ≤ s ∧ s ≤ 47) (hn : n ≤ 27) (hx : x ≤ 2) (h1 : n ≠ 1) (h2 : n ≠ 2) (h3 : n ≠ 3) : a + n ≠ zt_r a s + x := by
  rw [zt_r_p hs.1]
  exact zt_sepH hn hx h1 h2 h3
theorem zt_ss {a x y : Nat} {s t : Int} (hs : 0 ≤ s ∧ s ≤ 47) (ht : 0 ≤ t ∧ t ≤ 47) (hx : x ≤ 2) (hy : y ≤ 2) (hn : s ≠ t) : zt_r a s + x ≠ zt_r a t + y := by
  rw [zt_r_p hs.1, zt_r_p ht.1]
  exact zt_sep (by omega) hx hy
section
variable {a : Nat} {c : Nat → Int} {h g : zv_H}
theorem zt_sRh {v : Nat} (gL : zt_L h) (la : zv_lay a = (1, 0)) : zt_L (zv_sR h a 10 v) := by
  have h9 := zc_lh la
  exact zl_sR gL (fun _ => by rw [la]; rfl) (by omega) (by omega)
/-- the heap behind a move -/
def zt_mv (a : Nat) (c : Nat → Int) (s : Int) (h : zv_H) : zv_H := zt_vh a (zt_r a s) (c 1) (zv_sR h a 10 (zt_r a s))
theorem zt_C0_moveTo {d : Nat} (gL : zt_L h) (U : zt_U a c h) (h0 : 0 ≤ zv_I h (a + 17) 4) {s : Int} (hs : zm_st c s) : C0_moveTo (d + 2) a (zt_r a s) h = some (zt_mv a c s h) := by
  have la := zt_U_la U
  have L' := zt_sRh (v := zt_r a s) gL la
  refine lC0_moveTo (zl_ob gL la) ?_
  rw [qE0_moveTo, zm_e (zl_pR gL la 10 _), zm_e (zl_gF L' la 7 17), zm_e (zl_gI L' la 11), show zv_I (zv_sR h a 10 (zt_r a s)) a 11 = c 1 from (zt_U_nw U : zv_I h a 11 = c 1), zm_e (zt_C6_add L' la (zt_r_l la hs.1) h0)]
  rfl
theorem zt_move {s : Int} (H : zt_H a c h) (b : c 2 < 2000000000) (hs : zm_st c s) (ne : s ≠ c 0) (hA' : zc_A (zt_mv a c s h)) : zt_H a (zm_vc c s) (zt_mv a c s h) ∧ zt_k a h (zt_mv a c s h) ∧ zm_vc c s 2 = c 2 + 1 ∧ zm_vc c s 1 = c 1 := by
  have U := zt_H_U H
  have W := zt_U_W U
  have la := zt_U_la U
  have h9 := zc_lh la
  have VV := zt_H_V H
  have c0 := zt_V_c0 VV
  have W' : zm_W (zm_vc c s) := by
    have := zm_W_vc W hs
    rw [if_neg ne] at this
    exact this
  have iS : ∀ n, n ≤ 2 → zt_in a (zt_r a s + n) := fun n hn => zt_inr la hs.1 hn
  have hS : ∀ n, n ≤ 27 → n ≠ 1 → n ≠ 2 → n ≠ 3 → a + n ≠ zt_r a s := fun n n0 n1 n2 n3 => zt_hs (x := 0) hs.1 n0 (by decide) n1 n2 n3
  have I : ∀ r k, ¬ (r = zt_r a s ∧ k = 13) → ¬ (r = a + 17 ∧ k = 4) → r ≠ a + 18 → r ≠ a + 19 → zv_I (zt_mv a c s h) r k = zv_I h r k := fun r k c1 c2 c3 c4 => by
    unfold zt_mv zt_vh
    rw [zy_In _ _ c1, zy_In _ _ c2, zy_In _ _ (fun q => c4 q.1), zy_In _ _ (fun q => c3 q.1)]
    rfl
  have v4 : zv_I (zt_mv a c s h) (a + 17) 4 = zv_w (zv_I h (a + 17) 4 + 1) := by
    unfold zt_mv zt_vh
    rw [zy_In _ _ (fun q => hS 17 (by decide) (by decide) (by decide) (by decide) q.1), zy_I]
    rfl
  have s13 : zv_I (zt_mv a c s h) (zt_r a s) 13 = zv_w (zv_I h (a + 17) 4 + 1) := by
    unfold zt_mv zt_vh
    rw [zy_I]
    rfl
  have n0 : zv_I h (zt_r a s) 0 = s := by
    have h1 := hs.1
    rw [zt_r_p hs.1.1, zt_U_nr U _ (by omega)]
    omega
  have vs : ∀ k, zv_I (zt_mv a c s h) (a + 18) k = if k = (zv_I h (a + 17) 4 % 40).toNat then s else zv_I h (a + 18) k := fun k => by
    unfold zt_mv zt_vh
    rw [zy_In _ _ (fun q => hS 18 (by decide) (by decide) (by decide) (by decide) q.1), zy_In _ _ (fun q => absurd q.1 (by omega)), zy_In _ _ (fun q => absurd q.1 (by omega))]
    by_cases e : k = (zv_I h (a + 17) 4 % 40).toNat
    · rw [if_pos e, e]
      exact (zy_I _ _ _ _).trans n0
    · rw [if_neg e]
      exact zy_In _ _ (fun q => e q.2)
  have vt : ∀ k, zv_I (zt_mv a c s h) (a + 19) k = if k = (zv_I h (a + 17) 4 % 40).toNat then c 1 else zv_I h (a + 19) k := fun k => by
    unfold zt_mv zt_vh
    rw [zy_In _ _ (fun q => hS 19 (by decide) (by decide) (by decide) (by decide) q.1), zy_In _ _ (fun q => absurd q.1 (by omega))]
    by_cases e : k = (zv_I h (a + 17) 4 % 40).toNat
    · rw [if_pos e, e]
      exact zy_I _ _ _ _
    · rw [if_neg e]
      exact (zy_In _ _ (fun q => e q.2)).trans ((zy_In _ _ (fun q => absurd q.1 (by omega))).trans rfl)
  have J : ∀ r k, zv_J (zt_mv a c s h) r k = zv_J h r k := fun _ _ => rfl
  have R : ∀ r k, ¬ (r = a ∧ k = 10) → zv_R (zt_mv a c s h) r k = zv_R h r k := fun r k q => zy_Rn _ _ q
  have st : ∀ {t : Int}, zm_st (zm_vc c s) t ↔ zm_st c t := by
    intro t
    constructor
    · intro q
      refine ⟨q.1, ?_⟩
      rw [← zm_vc_o (w := 0) hs.1 (show 0 ≤ t ∧ t ≤ 48 by have := q.1; omega) (by decide) (by omega)]
      exact q.2
    · intro q
      refine ⟨q.1, ?_⟩
      rw [zm_vc_o (w := 0) hs.1 (show 0 ≤ t ∧ t ≤ 48 by have := q.1; omega) (by decide) (by omega)]
      exact q.2
  have ag : ∀ t, zm_st c t → zm_ag c (zm_vc c s) t := fun t q w w0 w1 w7 => zm_vc_o hs.1 (by have := q.1; omega) (by omega) (fun z => w7 z.2)
  have hc0 : zm_vc c s 0 = s := zm_vc_0 c hs.1
  have hc1 : zm_vc c s 1 = c 1 := zm_vc_h hs.1 (by decide) (by decide) (by decide) (by decide)
  have V' := zt_V_vc (c' := zm_vc c s) VV b (fun _ _ _ => rfl) v4 vs vt (fun t ht => by
    have ht' := st.mp ht
    by_cases e : t = s
    · refine Or.inl ⟨e, ?_⟩
      rw [e, zt_vc7 c hs.1, zm_w (by omega)]
    · refine Or.inr ⟨e, ht', ?_⟩
      exact zm_vc_o hs.1 (by have := ht'.1; omega) (by decide) (fun z => e z.1))
  refine ⟨⟨?_, ?_, V'.1, ?_⟩, ?_, V'.2⟩
  · refine zt_U_mk la W' hA' (fun i hi => ?_) (fun t ht => ?_) ?_ ?_ ?_
    · rw [I (zc_stt a i) 3 (fun q => absurd q.2 (by decide)) (fun q => absurd q.2 (by decide)) (fun q => zt_sepH (a := a) (i := i) (n := 18) (x := 0) (by decide) (by decide) (by decide) (by decide) (by decide) q.symm) (fun q => zt_sepH (a := a) (i := i) (n := 19) (x := 0) (by decide) (by decide) (by decide) (by decide) (by decide) q.symm), zt_U_lv U i hi]
      exact (zm_vc_o hs.1 (by omega) (by decide) (by omega)).symm
    · have ht' := st.mp ht
      obtain ⟨l, hl, ok, _⟩ := zt_line W ht'
      have S := zt_U_st U t ht'
      have cell : ∀ x k, x ≤ 2 → ¬ (x = 0 ∧ k = 13) → zv_I (zt_mv a c s h) (zt_r a t + x) k = zv_I h (zt_r a t + x) k := fun x k hx hk => by
        refine I _ k (fun q => ?_) (fun q => zt_hs (a := a) (n := 17) ht'.1 (by decide) hx (by decide) (by decide) (by decide) q.1.symm) (fun q => zt_hs (a := a) (n := 18) ht'.1 (by decide) hx (by decide) (by decide) (by decide) q.symm) (fun q => zt_hs (a := a) (n := 19) ht'.1 (by decide) hx (by decide) (by decide) (by decide) q.symm)
        by_cases e : t = s
        · rw [e] at q
          exact hk ⟨by omega, q.2⟩
        · exact zt_ss (a := a) (x := x) (y := 0) ht'.1 hs.1 hx (by decide) e q.1
      refine zt_S0_cg W ht' (zt_S_0 S) hl (fun u hu => ag u (ok.2.2.1 u hu)) ?_ (fun k _ _ _ k13 => cell 0 k (by decide) (fun q => k13 q.2)) (fun k => cell 1 k (by decide) (fun q => by omega)) (fun k => cell 2 k (by decide) (fun q => by omega)) (fun k => J _ k) (fun k => R _ k (fun q => zt_hs (a := a) (n := 0) (x := 0) ht'.1 (by decide) (by decide) (by decide) (by decide) (by decide) q.1.symm)) (fun _ k _ => I _ _ (fun q => hS 5 (by decide) (by decide) (by decide) (by decide) q.1) (by omega) (by omega) (by omega))
      by_cases e : t = s
      · rw [e, s13, zt_vc7 c hs.1, zt_V_ct VV]
      · rw [I (zt_r a t) 13 (fun q => zt_ss (a := a) (x := 0) (y := 0) ht'.1 hs.1 (by decide) (by decide) e q.1) (fun q => absurd q.2 (by decide)) (fun q => zt_hs (a := a) (n := 18) (x := 0) ht'.1 (by decide) (by decide) (by decide) (by decide) (by decide) q.symm) (fun q => zt_hs (a := a) (n := 19) (x := 0) ht'.1 (by decide) (by decide) (by decide) (by decide) (by decide) q.symm), zt_S_vi S]
        exact (zm_vc_o hs.1 (by have := ht'.1; omega) (by decide) (fun z => e z.1)).symm
    · rw [hc0]
      exact zy_R _ _ _ _
    · rw [hc1, I a 11 (fun q => absurd q.2 (by decide)) (by omega) (by omega) (by omega)]
      exact zt_U_nw U
    · rw [I a 12 (fun q => absurd q.2 (by decide)) (by omega) (by omega) (by omega), zt_U_ct U]
      exact zm_sum_cg 48 (fun j hj => (zm_vc_o hs.1 (by omega) (by decide) (by omega)).symm)
  · exact zt_J_c (zt_J_cg (zt_H_J H) (fun r k r1 r2 => by
      obtain ⟨n, rfl⟩ : ∃ n, r = a + n := ⟨r - a, by omega⟩
      exact I _ k (fun q => hS n (by omega) (by omega) (by omega) (by omega) q.1) (by omega) (by omega) (by omega))) W.2.2.2.1.2 (zm_vc_h hs.1 (by decide) (by decide) (by decide) (by decide)) (fun k k1 k2 => zm_vc_h hs.1 (by omega) (by omega) (by omega) (by omega))
  · exact zt_N_c (zt_H_N H) W.2.2.1.2 (zm_vc_h hs.1 (by decide) (by decide) (by decide) (by decide)) (fun k k1 k2 => zm_vc_h hs.1 k2 (by omega) (by omega) (by omega)) (fun r k r1 r2 => by
      obtain ⟨n, rfl⟩ : ∃ n, r = a + n := ⟨r - a, by omega⟩
      exact I _ k (fun q => hS n (by omega) (by omega) (by omega) (by omega) q.1) (by omega) (by omega) (by omega))
  · refine ⟨rfl, rfl, fun r k _ hr => ?_, fun r _ hr => rfl, fun r _ _ hr => ?_⟩
    · exact I r k (fun q => zt_out hr (iS 0 (by decide)) q.1) (fun q => zt_out hr (zt_inA la (n := 17) (by decide)) q.1) (zt_out hr (zt_inA la (n := 18) (by decide))) (zt_out hr (zt_inA la (n := 19) (by decide)))
    · funext k
      exact R r k (fun q => zt_out hr (zt_inA la (n := 0) (by decide)) q.1)
/-- a state by its number -/
theorem zt_at {d : Nat} (gL : zt_L h) (U : zt_U a c h) (i : Int) : C0_at (d + 1) a i h = some ((if zm_st c i then zt_r a i else 0), h) := by
  have la := zt_U_la U
  refine lC0_at (zl_ob gL la) ?_
  rw [qE0_at]
  by_cases i0 : i < 0
  · rw [if_pos i0, if_neg (fun q => by have := q.1; omega)]
  · rw [if_neg i0]
    by_cases i1 : i < 48
    · have lS := (zc_stl la (show i.toNat < 48 by omega)).1
      have lv := zt_U_lv U i.toNat (by omega)
      rw [show ((i.toNat : Nat) : Int) = i by omega] at lv
      rw [if_pos i1, zm_e (zl_gF gL la 1 4), zm_e (zl_aS gL la (by omega) i1), if_neg (zc_nz lS), zm_e (zl_gI gL lS 3), lv]
      rcases (zt_U_W U).1.1 i (by omega) (by omega) with z | z
      · rw [if_neg (show ¬ zm_st c i from fun q => by have := q.2; omega), z, if_pos rfl]
      · rw [if_pos (show zm_st c i from ⟨by omega, z⟩), z, if_neg (by decide), zt_r_p (by omega)]
    · rw [if_neg i1, if_neg (fun q => by have := q.1; omega)]
/-- the parent of the first of one's group -/
def zt_fpp (c : Nat → Int) (s : Int) : Int := if s = 0 then -1 else zm_o c (zm_o c s 6) 1
theorem zt_fp {s : Int} (hA : zc_A h) (U : zt_U a c h) (hs : zm_st c s) : zv_lay (zv_R h (zt_r a s) 5) = (1, 5) ∧ zv_R h (zv_R h (zt_r a s) 5) 4 = zt_r a (zt_fpp c s) ∧ (zt_fpp c s = -1 ∨ zm_st c (zt_fpp c s)) := by
  have la := zt_U_la U
  have W := zt_U_W U
  unfold zt_fpp
  by_cases z : s = 0
  · subst z
    have lS := zt_r_l la hs.1
    have e4 : zv_R h (zt_r a 0) 4 = 0 := by
      rw [zt_S_pa (zt_U_st U 0 hs), W.1.2.1.2.1]
      rfl
    rw [if_pos rfl]
    rcases hA.2.1 _ lS with t | t
    · have h1 := zt_U_lv U 0 (by decide)
      have h2 := t.1
      rw [zt_r_p (by decide)] at h2
      have h3 : zv_I h (zc_stt a 0) 3 = 0 := h2
      rw [h1] at h3
      have h4 : zm_o c 0 0 = 1 := hs.2
      have h5 : zm_o c ((0 : Nat) : Int) 0 = zm_o c 0 0 := rfl
      omega
    · rcases t.2.2.2.1 with u | u
      · rw [u]
        exact ⟨lS, e4, Or.inl rfl⟩
      · exact absurd e4 u.1
  · rw [if_neg z]
    obtain ⟨f1, f2⟩ := zm_fp W.1 hs z
    rw [zt_S_fi (zt_U_st U s hs)]
    exact ⟨zt_r_l la f1.1, zt_S_pa (zt_U_st U _ f1), Or.inr f2⟩
theorem zt_fpp_ne (W : zm_W c) {s : Int} (hs : zm_st c s) : zt_fpp c s ≠ s := by
  unfold zt_fpp
  by_cases z : s = 0
  · rw [if_pos z, z]; decide
  · rw [if_neg z]
    obtain ⟨l, hl, ok, _, _, W1⟩ := zt_line W hs
    obtain ⟨m1, m2⟩ := W1.2.2.1 z
    obtain ⟨p, b, e, hb⟩ := zm_Ln_s hl _ m1
    have hst := (zm_fp W.1 hs z).2
    have nd := ok.1
    rw [e] at nd
    cases b with
    | nil =>
      have : zm_o c (zm_o c s 6) 1 < 0 := hb.2
      have := hst.1
      omega
    | cons y b =>
      have ey : zm_o c (zm_o c s 6) 1 = y := hb.2.1.1
      rw [ey]
      intro q
      cases p with
      | nil =>
        obtain ⟨e1, _⟩ := List.cons.inj e
        have h1 := (List.nodup_cons.mp nd).1
        exact h1 (by rw [← e1, ← q]; exact List.mem_cons_self)
      | cons x p =>
        obtain ⟨e1, _⟩ := List.cons.inj e
        rw [List.cons_append] at nd
        have h1 := (List.nodup_cons.mp nd).1
        exact h1 (by rw [← e1, ← q]; exact List.mem_append_right _ (List.mem_cons_of_mem _ List.mem_cons_self))
theorem zt_behind1 {d : Nat} (hA : zc_A h) (U : zt_U a c h) : C0_behind (d + 1) a 1 h = some (zt_r a (zt_fpp c (c 0)), h) := by
  have la := zt_U_la U
  have gL := zt_L_A hA
  have hs := (zt_U_W U).2.1
  have lH := zt_r_l la hs.1
  obtain ⟨f1, f2, _⟩ := zt_fp hA U hs
  refine lC0_behind (zl_ob gL la) ?_
  rw [qE0_behind, zm_e (zl_gR gL la 10), zt_U_he U, qL0_behind_7, if_pos (by decide), if_neg (zt_r0 U hs), zm_e (zl_gR gL lH 5), if_neg (zc_nz f1), zm_e (zl_gR gL lH 5), zm_e (zl_gR gL f1 4), f2, qL0_behind_7, if_neg (by decide)]
theorem zt_num {s : Int} (U : zt_U a c h) (hs : zm_st c s) : zv_I h (zt_r a s) 0 = s := by
  have h1 := hs.1
  rw [zt_r_p hs.1.1, zt_U_nr U _ (by omega)]
  omega
theorem zt_mv_L {s : Int} (gL : zt_L h) (la : zv_lay a = (1, 0)) : zt_L (zt_mv a c s h) := zt_L_of (g0 := zv_sR h a 10 (zt_r a s)) rfl (fun _ _ => rfl) (zt_sRh gL la)
theorem zt_mv_num {s : Int} (U : zt_U a c h) (hs : zm_st c s) : zv_I (zt_mv a c s h) (zt_r a s) 0 = s := by
  have hh : ∀ n, n ≤ 27 → n ≠ 1 → n ≠ 2 → n ≠ 3 → zt_r a s ≠ a + n := fun n n0 n1 n2 n3 q => zt_hs (x := 0) hs.1 n0 (by decide) n1 n2 n3 q.symm
  unfold zt_mv zt_vh
  rw [zy_In _ _ (fun q => absurd q.2 (by decide)), zy_In _ _ (fun q => absurd q.2 (by decide)), zy_In _ _ (fun q => hh 19 (by decide) (by decide) (by decide) (by decide) q.1), zy_In _ _ (fun q => hh 18 (by decide) (by decide) (by decide) (by decide) q.1)]
  exact (zt_num U hs : zv_I h (zt_r a s) 0 = s)
theorem zt_h0 (H : zt_H a c h) : 0 ≤ zv_I h (a + 17) 4 := by
  rw [zt_V_ct (zt_H_V H)]
  exact zt_V_c0 (zt_H_V H)
/-- a move, in both -/
theorem zt_Z_mv {s : Int} {k k' : zv_H} {v : Int} (hA : zc_A h) (H : zt_H a c h) (hc : zv_I k 348 = c) (b : c 2 < 2000000000) (hs : zm_st c s) (ne : s ≠ c 0) (F : zm_F [348] [] k k') (hc' : zv_I k' 348 = zm_vc c s) (hv : 0 ≤ v) : zt_Z a 1 h k (v, zt_mv a c s h) (v, k') := by
  have U := zt_H_U H
  have la := zt_U_la U
  obtain ⟨g', e, Y⟩ := zc_C0_moveTo (d := 0) hA la (s := zt_r a s) (zt_r_l la hs.1 |> fun l => ⟨l, by
    have h1 := hs.1
    rw [zt_r_p hs.1.1, zt_U_lv U _ (by omega), show ((s.toNat : Nat) : Int) = s by omega]
    exact hs.2⟩) (zt_r_h la hs.1)
  rw [zt_C0_moveTo (zt_L_A hA) U (zt_h0 H) hs] at e
  cases e
  obtain ⟨H', kk, g2, g1⟩ := zt_move H b hs ne Y.1.2
  refine ⟨Y.1, kk, zm_F_s F rfl rfl, Or.inr ⟨hv, rfl⟩, ?_, ?_, ?_⟩
  · show zt_H a (zv_I k' 348) _
    rw [hc']; exact H'
  · dsimp only
    rw [hc, hc', g1]; omega
  · dsimp only
    rw [hc, hc', g2]; omega
theorem zt_Z_rf {k : zv_H} {y v : Int} (hy : 0 ≤ y) (hA : zc_A h) (H : zt_H a c h) (hc : zv_I k 348 = c) (hv : v < 0) (w : Int) : zt_Z a y h k (v, h) (-1, zv_sI k 347 3 w) :=
  zt_Z_no hy H hc (zc_X_r hA) (zt_k_r a h) H (zm_F_f (zm_F_r _ _ k) rfl w) hv ((zm_so k _ _).trans hc)
end
theorem zj_undo {d D : Nat} {a : Nat} {c : Nat → Int} {g k : zv_H} (hA : zc_A g) (H : zt_H a c g) (hM : zm_M k) (hc : zv_I k 348 = c) (b : c 2 < 2000000000) : ∃ q q', C0_stepBack (d + 3) a g = some q ∧ C9_undoNow (D + 3) 347 k = some q' ∧ zt_Z a 1 g k q q' := by
  have U := zt_H_U H
  have W := zt_U_W U
  have la := zt_U_la U
  have gL := zt_L_A hA
  have hs := W.2.1
  obtain ⟨f1, f2, f3⟩ := zt_fp hA U hs
  have bh := zt_behind1 (d := d + 1) hA U
  by_cases z : c 0 = 0
  · have e0 : zt_fpp c (c 0) = -1 := if_pos z
    rw [e0] at bh
    refine ⟨(-5, g), (-1, zv_sI k 347 3 5), lC0_stepBack (zl_ob gL la) ?_, lC9_undoNow (zm_ob hM) ?_, zt_Z_rf (by decide) hA H hc (by decide) 5⟩
    · rw [qE0_stepBack, zm_e bh]
      rfl
    · rw [qE9_undoNow, zm_e (zm_here hM _), hc]
      dsimp only
      rw [if_pos z, zm_e (zm_refuse hM _ 5)]
  · have e0 : zt_fpp c (c 0) = zm_o c (zm_o c (c 0) 6) 1 := if_neg z
    obtain ⟨p1, p2⟩ := zm_fp W.1 hs z
    have ne := zt_fpp_ne W hs
    rw [e0] at ne bh
    have p47 := p2.1
    obtain ⟨k', e1, F1, c1⟩ := zm_visits hM hc D p2.1
    rw [if_neg ne] at c1
    refine ⟨(zm_o c (zm_o c (c 0) 6) 1, zt_mv a c (zm_o c (zm_o c (c 0) 6) 1) g), (zm_o c (zm_o c (c 0) 6) 1, k'), lC0_stepBack (zl_ob gL la) ?_, lC9_undoNow (zm_ob hM) ?_, zt_Z_mv hA H hc b p2 ne F1 c1 p47.1⟩
    · rw [qE0_stepBack, zm_e bh]
      dsimp only
      rw [if_neg (zt_r0 U p2), zm_e (zt_C0_moveTo gL U (zt_h0 H) p2), zm_e (zl_gI (zt_mv_L gL la) (zt_r_l la p2.1) 0), zt_mv_num U p2]
    · rw [qE9_undoNow, zm_e (zm_here hM _), hc]
      dsimp only
      rw [if_neg z, zm_e (zm_here hM _), hc]
      dsimp only
      rw [zm_e (zm_of hM _ (zm_st48 hs) (by decide)), hc]
      dsimp only
      rw [zm_e (zm_of hM _ (zm_st48 p1) (by decide)), hc]
      dsimp only
      rw [zm_e e1, zm_e (zm_here (zm_F_M F1 hM) _), c1, zm_vc_0 c p2.1]
theorem zj_go {d D : Nat} {a : Nat} {c : Nat → Int} {g k : zv_H} (hA : zc_A g) (H : zt_H a c g) (hM : zm_M k) (hc : zv_I k 348 = c) (b : c 2 < 2000000000) (s : Int) : ∃ q q', C0_goTo (d + 4) a s g = some q ∧ C9_goNow (D + 5) 347 s k = some q' ∧ zt_Z a 1 g k q q' := by
  have U := zt_H_U H
  have W := zt_U_W U
  have la := zt_U_la U
  have gL := zt_L_A hA
  have hh := W.2.1
  have ea := zt_at (d := d + 2) gL U s
  have ei := zm_isState hM (D + 2) s
  rw [hc] at ei
  by_cases hs : zm_st c s
  · rw [if_pos hs] at ea ei
    by_cases z : s = c 0
    · refine ⟨(-4, g), (-1, zv_sI k 347 3 4), lC0_goTo (zl_ob gL la) ?_, lC9_goNow (zm_ob hM) ?_, zt_Z_rf (by decide) hA H hc (by decide) 4⟩
      · rw [qE0_goTo, zm_e ea]
        dsimp only
        rw [if_neg (zt_r0 U hs), zm_e (zl_gR gL la 10), zt_U_he U, if_neg (fun q => by have := zt_r1000 U hs; have := zt_r1000 U hh; omega), if_pos (by rw [z])]
      · rw [qE9_goNow, zm_e ei]
        dsimp only
        rw [if_neg (by decide), zm_e (zm_here hM _), hc]
        dsimp only
        rw [if_pos z, zm_e (zm_refuse hM _ 4)]
    · obtain ⟨v, ev, wv⟩ := zt_wayLength (d := d) gL U hh hs
      obtain ⟨v', ev', wv'⟩ := zt_wayMany hM hc W D hh hs
      have e2 := zt_wl_u wv' wv
      subst e2
      obtain ⟨k', e1, F1, c1⟩ := zm_visits hM hc (D + 2) hs.1
      rw [if_neg z] at c1
      refine ⟨(v', zt_mv a c s g), (v', k'), lC0_goTo (zl_ob gL la) ?_, lC9_goNow (zm_ob hM) ?_, zt_Z_mv hA H hc b hs z F1 c1 (zt_wl_0 W hh hs wv)⟩
      · rw [qE0_goTo, zm_e ea]
        dsimp only
        rw [if_neg (zt_r0 U hs), zm_e (zl_gR gL la 10), zt_U_he U, if_neg (fun q => by have := zt_r1000 U hs; have := zt_r1000 U hh; omega), if_neg (fun q => z (zt_r_inj la hs.1 hh.1 q)), zm_e (zl_gR gL la 10), zt_U_he U, zm_e ev]
        dsimp only
        rw [zm_e (zt_C0_moveTo gL U (zt_h0 H) hs)]
      · rw [qE9_goNow, zm_e ei]
        dsimp only
        rw [if_neg (by decide), zm_e (zm_here hM _), hc]
        dsimp only
        rw [if_neg z, zm_e (zm_here hM _), hc]
        dsimp only
        rw [zm_e ev']
        dsimp only
        rw [zm_e e1]
  · rw [if_neg hs] at ea ei
    refine ⟨(-2, g), (-1, zv_sI k 347 3 2), lC0_goTo (zl_ob gL la) ?_, lC9_goNow (zm_ob hM) ?_, zt_Z_rf (by decide) hA H hc (by decide) 2⟩
    · rw [qE0_goTo, zm_e ea]
      rfl
    · rw [qE9_goNow, zm_e ei]
      dsimp only
      rw [if_pos rfl, zm_e (zm_refuse hM _ 2)]
end
