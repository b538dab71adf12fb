/-! ===== the tie: one half over the reference, whole ===== -/
/-- visits -/
def zt_V (a : Nat) (c : Nat → Int) (h : zv_H) : Prop := (zv_I h (a + 17) 4 = c 2) ∧ (0 ≤ c 2) ∧ (c 5 = if c 2 < 40 then c 2 else 40) ∧ (∀ i : Nat, (i : Int) < c 5 → c (4156 + 2 * i) = zv_I h (a + 18) ((c 2 - 1 - i) % 40).toNat) ∧ (∀ i : Nat, (i : Int) < c 5 → c (4157 + 2 * i) = zv_I h (a + 19) ((c 2 - 1 - i) % 40).toNat) ∧ (∀ s, zm_st c s → 0 ≤ zm_o c s 7 ∧ zm_o c s 7 ≤ c 2) ∧ (∀ s t, zm_st c s → zm_st c t → zm_o c s 7 = zm_o c t 7 → s = t)
theorem zt_V_ct {a : Nat} {c : Nat → Int} {h : zv_H} (t : zt_V a c h) : zv_I h (a + 17) 4 = c 2 := t.1
theorem zt_V_c0 {a : Nat} {c : Nat → Int} {h : zv_H} (t : zt_V a c h) : 0 ≤ c 2 := t.2.1
theorem zt_V_c5 {a : Nat} {c : Nat → Int} {h : zv_H} (t : zt_V a c h) : c 5 = if c 2 < 40 then c 2 else 40 := t.2.2.1
theorem zt_V_ls {a : Nat} {c : Nat → Int} {h : zv_H} (t : zt_V a c h) : ∀ i : Nat, (i : Int) < c 5 → c (4156 + 2 * i) = zv_I h (a + 18) ((c 2 - 1 - i) % 40).toNat := t.2.2.2.1
theorem zt_V_lt {a : Nat} {c : Nat → Int} {h : zv_H} (t : zt_V a c h) : ∀ i : Nat, (i : Int) < c 5 → c (4157 + 2 * i) = zv_I h (a + 19) ((c 2 - 1 - i) % 40).toNat := t.2.2.2.2.1
theorem zt_V_vb {a : Nat} {c : Nat → Int} {h : zv_H} (t : zt_V a c h) : ∀ s, zm_st c s → 0 ≤ zm_o c s 7 ∧ zm_o c s 7 ≤ c 2 := t.2.2.2.2.2.1
theorem zt_V_vd {a : Nat} {c : Nat → Int} {h : zv_H} (t : zt_V a c h) : ∀ s t, zm_st c s → zm_st c t → zm_o c s 7 = zm_o c t 7 → s = t := t.2.2.2.2.2.2
/-- a word as two numbers -/
def zt_key : List Int → Int
  | [] => 0
  | x :: w => (x + 1) + 32 * zt_key w
def zt_pkd (w : List Int) : Int := zt_key w.reverse
def zt_nw (w : List Int) : Prop := (1 ≤ w.length ∧ w.length ≤ 6) ∧ ∀ x ∈ w, 0 ≤ x ∧ x < 26
/-- names -/
def zt_N (a : Nat) (c : Nat → Int) (h : zv_H) : Prop := (zv_I h (a + 14) 2 = c 3) ∧ (∀ k : Nat, (k : Int) < c 3 → zv_I h (a + 16) k = c (409 + 2 * k)) ∧ (∀ k : Nat, (k : Int) < c 3 → ∃ w, zt_nw w ∧ zv_I h (a + 15) k = zt_key w ∧ c (408 + 2 * k) = zt_pkd w)
theorem zt_N_sz {a : Nat} {c : Nat → Int} {h : zv_H} (t : zt_N a c h) : zv_I h (a + 14) 2 = c 3 := t.1
theorem zt_N_ow {a : Nat} {c : Nat → Int} {h : zv_H} (t : zt_N a c h) : ∀ k : Nat, (k : Int) < c 3 → zv_I h (a + 16) k = c (409 + 2 * k) := t.2.1
theorem zt_N_ky {a : Nat} {c : Nat → Int} {h : zv_H} (t : zt_N a c h) : ∀ k : Nat, (k : Int) < c 3 → ∃ w, zt_nw w ∧ zv_I h (a + 15) k = zt_key w ∧ c (408 + 2 * k) = zt_pkd w := t.2.2
/-- all of one half -/
def zt_H (a : Nat) (c : Nat → Int) (h : zv_H) : Prop := (zt_U a c h) ∧ (zt_J a c h) ∧ (zt_V a c h) ∧ (zt_N a c h)
theorem zt_H_U {a : Nat} {c : Nat → Int} {h : zv_H} (t : zt_H a c h) : zt_U a c h := t.1
theorem zt_H_J {a : Nat} {c : Nat → Int} {h : zv_H} (t : zt_H a c h) : zt_J a c h := t.2.1
theorem zt_H_V {a : Nat} {c : Nat → Int} {h : zv_H} (t : zt_H a c h) : zt_V a c h := t.2.2.1
theorem zt_H_N {a : Nat} {c : Nat → Int} {h : zv_H} (t : zt_H a c h) : zt_N a c h := t.2.2.2
theorem zt_V_vc {a : Nat} {c c' : Nat → Int} {h g : zv_H} {s : Int} (V : zt_V a c h) (b : c 2 < 2000000000) (e : ∀ k : Nat, k < 432 ∨ 4156 ≤ k → k < 4236 → c' k = zm_vc c s k) (v4 : zv_I g (a + 17) 4 = zv_w (zv_I h (a + 17) 4 + 1)) (vs : ∀ k, zv_I g (a + 18) k = if k = (zv_I h (a + 17) 4 % 40).toNat then s else zv_I h (a + 18) k) (vt : ∀ k, zv_I g (a + 19) k = if k = (zv_I h (a + 17) 4 % 40).toNat then c 1 else zv_I h (a + 19) k) (hst : ∀ t, zm_st c' t → (t = s ∧ zm_o c' t 7 = c 2 + 1) ∨ (t ≠ s ∧ zm_st c t ∧ zm_o c' t 7 = zm_o c t 7)) : zt_V a c' g ∧ c' 2 = c 2 + 1 ∧ c' 1 = c 1 := by
  have ct := zt_V_ct V
  have c0 := zt_V_c0 V
  have c5 := zt_V_c5 V
  have e2 : c' 2 = c 2 + 1 := by
    rw [e 2 (Or.inl (by decide)) (by decide)]
    unfold zm_vc
    rw [if_neg (by decide), if_neg (by decide), if_neg (by decide), if_neg (by omega), if_neg (by omega), if_pos rfl, zm_w (by omega)]
  have e1 : c' 1 = c 1 := by
    rw [e 1 (Or.inl (by decide)) (by decide)]
    unfold zm_vc
    rw [if_neg (by decide), if_neg (by decide), if_neg (by decide), if_neg (by omega), if_neg (by omega), if_neg (by decide), if_neg (by decide)]
  have e5 : c' 5 = if c 5 < 40 then c 5 + 1 else 40 := by
    rw [e 5 (Or.inl (by decide)) (by decide), zm_vc_5]
    by_cases q : c 5 < 40
    · rw [if_pos q, if_pos q, zm_w]
      split at c5 <;> omega
    · rw [if_neg q, if_neg q]
  have es : c' 4156 = s := by
    rw [e 4156 (Or.inr (by decide)) (by decide)]
    rfl
  have et : c' 4157 = c 1 := by
    rw [e 4157 (Or.inr (by decide)) (by decide)]
    rfl
  have eo : ∀ k : Nat, 4158 ≤ k → k < 4236 → c' k = c (k - 2) := fun k k1 k2 => by
    rw [e k (Or.inr (by omega)) k2]
    unfold zm_vc
    rw [if_neg (by omega), if_neg (by omega), if_neg (by omega), if_pos ⟨k1, k2⟩]
  have vb := zt_V_vb V
  refine ⟨⟨?_, by omega, ?_, fun i hi => ?_, fun i hi => ?_, fun t ht => ?_, fun t u ht hu e => ?_⟩, e2, e1⟩
  · rw [v4, ct, e2, zm_w (by omega)]
  · rw [e5, e2]
    split at c5 <;> (split <;> split <;> omega)
  · have i40 : i < 40 := by
      rw [e5] at hi
      split at hi <;> omega
    rw [vs, ct, e2]
    cases i with
    | zero =>
      rw [if_pos (by rw [show c 2 + 1 - 1 - ((0 : Nat) : Int) = c 2 by omega])]
      exact es
    | succ j =>
      rw [if_neg (by omega), eo _ (by omega) (by omega), show 4156 + 2 * (j + 1) - 2 = 4156 + 2 * j by omega, show c 2 + 1 - 1 - ((j + 1 : Nat) : Int) = c 2 - 1 - (j : Int) by omega]
      exact zt_V_ls V j (by rw [e5] at hi; split at hi <;> omega)
  · have i40 : i < 40 := by
      rw [e5] at hi
      split at hi <;> omega
    rw [vt, ct, e2]
    cases i with
    | zero =>
      rw [if_pos (by rw [show c 2 + 1 - 1 - ((0 : Nat) : Int) = c 2 by omega])]
      exact et
    | succ j =>
      rw [if_neg (by omega), eo _ (by omega) (by omega), show 4157 + 2 * (j + 1) - 2 = 4157 + 2 * j by omega, show c 2 + 1 - 1 - ((j + 1 : Nat) : Int) = c 2 - 1 - (j : Int) by omega]
      exact zt_V_lt V j (by rw [e5] at hi; split at hi <;> omega)
  · rcases hst t ht with q | q
    · rw [q.2, e2]; omega
    · have := vb t q.2.1
      rw [q.2.2, e2]; omega
  · rcases hst t ht with q | q
    · rcases hst u hu with p | p
      · rw [q.1, p.1]
      · have := vb u p.2.1
        rw [q.2, p.2.2] at e
        omega
    · rcases hst u hu with p | p
      · have := vb t q.2.1
        rw [q.2.2, p.2] at e
        omega
      · rw [q.2.2, p.2.2] at e
        exact zt_V_vd V t u q.2.1 p.2.1 e
theorem zt_J_c {a : Nat} {c c' : Nat → Int} {h : zv_H} (J : zt_J a c h) (w : c 4 ≤ 392) (e4 : c' 4 = c 4) (e8 : ∀ k : Nat, 8 ≤ k → k < 408 → c' k = c k) : zt_J a c' h := by
  obtain ⟨cs, T, hc⟩ := J
  have ecd : zm_cd c' = zm_cd c := by
    unfold zm_cd
    rw [e4]
    refine List.map_congr_left (fun k hk => ?_)
    have := List.mem_range.mp hk
    exact e8 (8 + k) (by omega) (by omega)
  exact ⟨cs, T, by rw [e4, ecd]; exact hc⟩
theorem zt_N_c {a : Nat} {c c' : Nat → Int} {h h' : zv_H} (N : zt_N a c h) (w : c 3 ≤ 12) (e3 : c' 3 = c 3) (e8 : ∀ k : Nat, 408 ≤ k → k < 432 → c' k = c k) (eh : ∀ r k, a + 14 ≤ r → r ≤ a + 16 → zv_I h' r k = zv_I h r k) : zt_N a c' h' := by
  refine ⟨?_, fun k hk => ?_, fun k hk => ?_⟩
  · rw [eh _ _ (by omega) (by omega), e3]; exact zt_N_sz N
  · rw [e3] at hk
    rw [eh _ _ (by omega) (by omega), e8 _ (by omega) (by omega)]; exact zt_N_ow N k hk
  · rw [e3] at hk
    rw [eh _ _ (by omega) (by omega), e8 _ (by omega) (by omega)]; exact zt_N_ky N k hk
/-- behind a new State -/
theorem zt_H_new {a : Nat} {c c' : Nat → Int} {h g : zv_H} {s x y z fi : Int} (H : zt_H a c h) (b : c 2 < 2000000000) (fr : zt_free c s) (N : zt_nn a c h s x y z fi g) (n : zm_Nw c c' s) (e7 : zm_o c' s 7 = zv_w (c 2 + 1)) (U' : zt_U a c' g) : zt_H a c' g ∧ c' 2 = c 2 + 1 ∧ c' 1 = c 1 := by
  have W := zt_U_W (zt_H_U H)
  have hd := zm_Nw_hd fr.1 n
  have c0 := zt_V_c0 (zt_H_V H)
  have V := zt_V_vc (zt_H_V H) b n.1 (zt_nn_v4 N) (zt_nn_vs N) (zt_nn_vt N) (fun t ht => by
    rcases (zm_Nw_st fr.1 n).mp ht with q | q
    · refine Or.inl ⟨q, ?_⟩
      rw [q, e7, zm_w (by omega)]
    · have t47 := q.2.1
      exact Or.inr ⟨q.1, q.2, n.2.1 t 7 t47.1 (by omega) q.1 (by decide) (by decide)⟩)
  have J1 : zt_J a c g := zt_J_cg (zt_H_J H) (zt_nn_jn N)
  exact ⟨⟨U', zt_J_c J1 W.2.2.2.1.2 hd.2.1 (fun k k1 k2 => hd.2.2.1 k k1 (by omega)), V.1, zt_N_c (zt_H_N H) W.2.2.1.2 hd.1 (fun k k1 k2 => hd.2.2.1 k (by omega) k2) (zt_nn_nm N)⟩, V.2⟩
theorem zt_ck_of {a : Nat} {c : Nat → Int} {h : zv_H} (J : zt_J a c h) : zt_ck c := by
  obtain ⟨cs, T, hc⟩ := J
  intro x hx
  rcases hc with q | q
  · unfold zm_cd at hx
    rw [q.1] at hx
    exact absurd hx (by simp)
  · rw [← q.2] at hx
    exact (zt_T1_rg T x hx).2
theorem zt_free_u {c : Nat → Int} {s t : Int} (f : zt_free c s) (g : zt_free c t) : s = t := by
  have h1 := f.1
  have h2 := g.1
  by_cases e : s < t
  · exact absurd (g.2.1 s h1.1 e) f.2.2
  · by_cases e2 : t < s
    · exact absurd (f.2.1 t h2.1 e2) g.2.2
    · omega
/-- two answers agree -/
def zt_a1 (v v' : Int) : Prop := (v < 0 ∧ v' = -1) ∨ (0 ≤ v ∧ v' = v)
/-- an act of the class, an act of the reference -/
def zt_Z (a : Nat) (y : Int) (g : zv_H) (k : zv_H) (q : Int × zv_H) (q' : Int × zv_H) : Prop := (zc_X g q.2) ∧ (zt_k a g q.2) ∧ (zm_F [348, 351, 352, 353, 354, 355, 358, 359, 360, 362, 363, 364, 365] [3, 10, 11, 12, 19, 24] k q'.2) ∧ (zt_a1 q.1 q'.1) ∧ (zt_H a (zv_I q'.2 348) q.2) ∧ (zv_I k 348 1 ≤ zv_I q'.2 348 1 ∧ zv_I q'.2 348 1 ≤ zv_I k 348 1 + 1000) ∧ (zv_I k 348 2 ≤ zv_I q'.2 348 2 ∧ zv_I q'.2 348 2 ≤ zv_I k 348 2 + y)
theorem zt_Z_X {a : Nat} {y : Int} {g : zv_H} {k : zv_H} {q : Int × zv_H} {q' : Int × zv_H} (t : zt_Z a y g k q q') : zc_X g q.2 := t.1
theorem zt_Z_k {a : Nat} {y : Int} {g : zv_H} {k : zv_H} {q : Int × zv_H} {q' : Int × zv_H} (t : zt_Z a y g k q q') : zt_k a g q.2 := t.2.1
theorem zt_Z_F {a : Nat} {y : Int} {g : zv_H} {k : zv_H} {q : Int × zv_H} {q' : Int × zv_H} (t : zt_Z a y g k q q') : zm_F [348, 351, 352, 353, 354, 355, 358, 359, 360, 362, 363, 364, 365] [3, 10, 11, 12, 19, 24] k q'.2 := t.2.2.1
theorem zt_Z_a1 {a : Nat} {y : Int} {g : zv_H} {k : zv_H} {q : Int × zv_H} {q' : Int × zv_H} (t : zt_Z a y g k q q') : zt_a1 q.1 q'.1 := t.2.2.2.1
theorem zt_Z_H {a : Nat} {y : Int} {g : zv_H} {k : zv_H} {q : Int × zv_H} {q' : Int × zv_H} (t : zt_Z a y g k q q') : zt_H a (zv_I q'.2 348) q.2 := t.2.2.2.2.1
theorem zt_Z_g1 {a : Nat} {y : Int} {g : zv_H} {k : zv_H} {q : Int × zv_H} {q' : Int × zv_H} (t : zt_Z a y g k q q') : zv_I k 348 1 ≤ zv_I q'.2 348 1 ∧ zv_I q'.2 348 1 ≤ zv_I k 348 1 + 1000 := t.2.2.2.2.2.1
theorem zt_Z_g2 {a : Nat} {y : Int} {g : zv_H} {k : zv_H} {q : Int × zv_H} {q' : Int × zv_H} (t : zt_Z a y g k q q') : zv_I k 348 2 ≤ zv_I q'.2 348 2 ∧ zv_I q'.2 348 2 ≤ zv_I k 348 2 + y := t.2.2.2.2.2.2
/-- both refused, nothing done -/
theorem zt_Z_no {a : Nat} {c : Nat → Int} {y : Int} (hy : 0 ≤ y) {g k g' k' : zv_H} {v : Int} (H : zt_H a c g) (hc : zv_I k 348 = c) (X : zc_X g g') (kk : zt_k a g g') (H' : zt_H a c g') (F : zm_F [348, 351, 352, 353, 354, 355, 358, 359, 360, 362, 363, 364, 365] [3, 10, 11, 12, 19, 24] k k') (hv : v < 0) (hc' : zv_I k' 348 = c) : zt_Z a y g k (v, g') (-1, k') := by
  refine ⟨X, kk, F, Or.inl ⟨hv, rfl⟩, ?_, ?_, ?_⟩
  · show zt_H a (zv_I k' 348) g'
    rw [hc']; exact H'
  · show _ ∧ zv_I k' 348 1 ≤ _
    dsimp only
    rw [hc', hc]; omega
  · dsimp only
    rw [hc', hc]; omega
theorem zj_put {d D : Nat} {a : Nat} {c : Nat → Int} {g k : zv_H} {r m : Nat} (hA : zc_A g) (H : zt_H a c g) (hM : zm_M k) (hc : zv_I k 348 = c) (b : c 2 < 2000000000) (w : zt_wd r m (zv_I k 360) g) (hm : m ≤ 12) (hr : zt_wr a r) (h19 : zv_I k 347 19 = m) {place : Int} (rp : zv_rg place) : ∃ q q', C0_putWord (d + 4) a place r g = some q ∧ C9_putNow (D + 6) 347 place k = some q' ∧ zt_Z a 1 g k q q' ∧ zt_oh a g q.2 := by
  have U := zt_H_U H
  have W := zt_U_W U
  have la := zt_U_la U
  have V := zt_H_V H
  obtain ⟨l, hl, _⟩ := zt_line W W.2.1
  obtain ⟨⟨v', k'⟩, e', ⟨F, W', R1⟩, R2⟩ := zt_two (zm_putNow hM hc W D hm h19 place) (zt_putNow hM hc W (zt_ck_of (zt_H_J H)) D hm h19 hl place)
  have F' : zm_F [348, 351, 352, 353, 354, 355, 358, 359, 360, 362, 363, 364, 365] [3, 10, 11, 12, 19, 24] k k' := zm_F_s F rfl rfl
  have h0 : 0 ≤ zv_I g (a + 17) 4 := by rw [zt_V_ct V]; exact zt_V_c0 V
  have acc : ¬ zt_pk c (zt_dc c (c 0 :: l)).length m place → ∃ q, C0_putWord (d + 4) a place r g = some q ∧ q.1 < 0 ∧ q.2 = g := fun np => by
    obtain ⟨n1, d1⟩ : ∃ n1, zt_dp c (c 0) n1 := ⟨_, l, hl, rfl⟩
    have d2 : ∃ n2, zm_ed c (c 0) → zt_dp c (zm_o c (c 0) 6) n2 := by
      by_cases he : zm_ed c (c 0)
      · have c00 : c 0 ≠ 0 := fun q => by
          have := W.1.2.1.2.2.1
          rw [q] at he
          rcases he with z | z <;> omega
        obtain ⟨l2, hl2, _⟩ := zt_line W (zm_fp W.1 W.2.1 c00).1
        exact ⟨_, fun _ => ⟨l2, hl2, rfl⟩⟩
      · exact ⟨0, fun q => absurd q he⟩
    obtain ⟨n2, d2⟩ := d2
    obtain ⟨q, e, R⟩ := zt_putWord (d := d) (zt_L_A hA) U (zt_H_J H) h0 w hm hr hl d1 d2 place
    rcases R with R | R
    · exact ⟨q, e, R.1, R.2.1⟩
    · exact absurd R.1 np
  rcases R2 with ⟨v1, np⟩ | ⟨pk, fr, gp⟩
  · obtain ⟨q, e, q1, q2⟩ := acc np
    have hc' : zv_I k' 348 = c := by
      rcases R1 with R1 | R1
      · exact R1.2
      · have z : v' = -1 := v1
        have := R1.1
        dsimp only at this
        omega
    refine ⟨q, (v', k'), e, e', ?_⟩
    have z : v' = -1 := v1
    rw [z]
    obtain ⟨qv, qg⟩ := q
    have z2 : qg = g := q2
    subst z2
    exact ⟨zt_Z_no (by decide) H hc (zc_X_r hA) (zt_k_r a _) H F' q1 hc', fun _ _ _ => rfl⟩
  · dsimp only at fr gp R1
    have fr47 := fr.1
    rcases R1 with R1 | R1
    · have := R1.1; omega
    · obtain ⟨_, _, n, l2, hl2, Pt⟩ := R1
      have el : l2 = l := (List.cons.inj (zm_Ln_u hl2.1 hl)).2
      subst el
      obtain ⟨n1, n2, d1, d2, e6, e7, e10, e11⟩ := gp
      obtain ⟨⟨v, g'⟩, e, O, R⟩ := zt_two (zc_C0_putWord (d := d + 1) hA la (zt_wd_l7 w) rp) (zt_putWord (d := d) (zt_L_A hA) U (zt_H_J H) h0 w hm hr hl d1 d2 place)
      rcases R with R | R
      · exact absurd pk R.2.2
      · obtain ⟨_, s, fr2, ev, N, P⟩ := R
        dsimp only at ev N P O
        have es : s = v' := zt_free_u fr2 fr
        subst es
        subst ev
        have hA' : zc_A g' := O.1.2
        obtain ⟨pl, rfl⟩ : ∃ pl : Nat, place = pl := ⟨place.toNat, by have := pk.1; omega⟩
        have hpl : pl ≤ (zt_dc c (c 0 :: l2)).length := by have := pk.1.2; omega
        have U' := zt_U_put U (zt_V_ct V) hA' fr hl hm hpl N P W' n Pt e6 e7 e10 e11
        obtain ⟨H', g2, g1⟩ := zt_H_new H b fr N n e7 U'
        refine ⟨_, _, e, e', ⟨O.1, zt_nn_k N, F', Or.inr ⟨fr47.1, rfl⟩, H', ?_, ?_⟩, zt_nn_oh N⟩
        · dsimp only
          rw [hc, g1]; omega
        · dsimp only
          rw [hc, g2]; omega
