/-! ===== the reference: TEST, a new state ===== -/
theorem zm_tmod {x : Int} {n : Int} (h : 0 ≤ x) (hn : 0 < n) : 0 ≤ x.tmod n ∧ x.tmod n < n := by
  rw [Int.tmod_eq_emod_of_nonneg h]
  exact ⟨Int.emod_nonneg _ (by omega), Int.emod_lt_of_pos _ hn⟩
theorem zm_compares (d : Nat) (a b n : Int) (h : zv_H) : ∃ v : Int, C9_compares (d + 1) a b n h = some (v, h) ∧ (v = 0 ∨ v = 1) := by
  have main : ∃ v : Int, E9_compares d a b n h = some (some (zv_i v), h) ∧ (v = 0 ∨ v = 1) := by
    rw [qE9_compares]
    by_cases c1 : a = 0
    · rw [if_pos c1]
      by_cases c2 : b < n
      · rw [if_pos c2]
        exact ⟨1, rfl, Or.inr rfl⟩
      · rw [if_neg c2]
        exact ⟨0, rfl, Or.inl rfl⟩
    · rw [if_neg c1]
      by_cases c2 : a = 1
      · rw [if_pos c2]
        by_cases c3 : b = n
        · rw [if_pos c3]
          exact ⟨1, rfl, Or.inr rfl⟩
        · rw [if_neg c3]
          exact ⟨0, rfl, Or.inl rfl⟩
      · rw [if_neg c2]
        by_cases c3 : b ≤ n
        · rw [if_pos c3]
          exact ⟨0, rfl, Or.inl rfl⟩
        · rw [if_neg c3]
          exact ⟨1, rfl, Or.inr rfl⟩
  obtain ⟨v, e, q⟩ := main
  exact ⟨v, lC9_compares e, q⟩
theorem zm_nz01 (v : Int) : zv_nz v = 0 ∨ zv_nz v = 1 := by
  unfold zv_nz
  omega
theorem zm_holds_l (d : Nat) : ∀ (r : List Int) (k : Nat) (top : Int) (h : zv_H), zm_M h → (∀ (j : Nat) (x : Int), r[j]? = some x → zv_I h 348 (8 + (k + j)) = x) → zv_I h 348 4 = ((k + r.length : Nat) : Int) → k + r.length ≤ 392 → 0 ≤ top → top ≤ k → zm_ph r top → (1 ≤ top → zv_I h 359 0 = 0 ∨ zv_I h 359 0 = 1) → ∃ (v : Int) (h' : zv_H), L9_holds_60 (d + 1) 347 top k h = some (some (zv_i v), h') ∧ (v = 0 ∨ v = 1) ∧ zm_F [359] [] h h'
  | [], k, top, h, hM, _, h4, hn, t0, t1, hp, hs => by
    have e1 : top = 1 := hp
    have q := hs (by omega)
    rw [List.length_nil] at h4
    rw [qL9_holds_60, zm_e (zm_f0 hM), zm_e (zm_aI hM zm_l348 rfl (by decide) (by decide)), show zv_I h 348 (Int.toNat 4) = _ from h4, if_neg (by omega), zm_e (zm_f16 hM), zm_e (zm_aB hM zm_l359 (Or.inl rfl) rfl (by decide) (by decide)), show zv_I h 359 (Int.toNat 0) = zv_I h 359 0 from rfl, if_pos q]
    exact ⟨_, _, rfl, q, zm_F_r _ _ h⟩
  | v :: r, k, top, h, hM, hr, h4, hn, t0, t1, hp, hs => by
    rw [List.length_cons] at h4 hn
    have hv : zv_I h 348 (8 + k) = v := hr 0 v rfl
    have hr' : ∀ (j : Nat) (x : Int), r[j]? = some x → zv_I h 348 (8 + ((k + 1) + j)) = x := fun j x hx => by
      have := hr (j + 1) x hx
      rw [show k + 1 + j = k + (j + 1) by omega]
      exact this
    have w1 : zv_w ((k : Int) + 1) = ((k + 1 : Nat) : Int) := by
      rw [zm_w (by omega)]
      rfl
    have go : ∀ (t i : Int) (w : Int), 0 ≤ i → i < 400 → 0 ≤ t → t ≤ ((k + 1 : Nat) : Int) → zm_ph r t → (i = 0 ∨ (1 ≤ top)) → ∃ (v : Int) (h' : zv_H), ((zv_wB h 359 i w).bind fun g => L9_holds_60 (d + 1) 347 t ((k + 1 : Nat) : Int) g) = some (some (zv_i v), h') ∧ (v = 0 ∨ v = 1) ∧ zm_F [359] [] h h' := by
      intro t i w i0 i1 ta tb hph hor
      rw [zm_e (zm_wB hM zm_l359 rfl i0 (by omega) w)]
      obtain ⟨v', h', e1, e2, e3⟩ := zm_holds_l d r (k + 1) t (zv_sI h 359 i.toNat (zv_nz w)) hM (fun j x hx => by rw [zm_so h _ _]; exact hr' j x hx) (by rw [zm_so h _ _, h4]; omega) (by omega) ta (by omega) hph (fun _ => by
        rw [zm_ss]
        unfold zm_u
        by_cases q : 0 = i.toNat
        · rw [if_pos q]
          exact zm_nz01 w
        · rw [if_neg q]
          rcases hor with q2 | q2
          · exact absurd (by rw [q2]; rfl) q
          · exact hs q2)
      exact ⟨v', h', e1, e2, zm_F_t (zm_F_I (zm_F_r _ _ h) rfl _ _) e3⟩
    have rd : ∀ i : Int, 0 ≤ i → i < 400 → zv_aB h 359 i = some (zv_I h 359 i.toNat) := fun i i0 i1 => zm_aB hM zm_l359 (Or.inl rfl) rfl i0 (by omega)
    have hp2 : if 0 ≤ v then zm_ph r (top + 1) else if v = -1 then 1 ≤ top ∧ zm_ph r top else 2 ≤ top ∧ zm_ph r (top - 1) := hp
    rw [qL9_holds_60, zm_e (zm_f0 hM), zm_e (zm_aI hM zm_l348 rfl (by decide) (by decide)), show zv_I h 348 (Int.toNat 4) = _ from h4, if_pos (by omega), zm_e (zm_f0 hM), zm_w (x := 8 + (k : Int)) (by omega), zm_e (zm_aI hM zm_l348 rfl (by omega) (by omega)), show (8 + (k : Int)).toNat = 8 + k by omega, hv, w1]
    by_cases c1 : 0 ≤ v
    · rw [if_pos c1] at hp2
      have hm := zm_tmod (n := 6) c1 (by decide)
      obtain ⟨b, eb, _⟩ := zm_compares d ((zv_w (v.tdiv 6)).tmod 3) (zv_I h 358 (v.tmod 6).toNat) (zv_w (v.tdiv 18)) h
      rw [if_neg (by omega), zm_e (zm_f16 hM), zm_e (zm_f15 hM), zm_e (zm_aI hM zm_l358 rfl hm.1 (by omega)), zm_e eb, zm_w (x := top + 1) (by omega)]
      exact go (top + 1) top b t0 (by omega) (by omega) (by omega) hp2 (by omega)
    · rw [if_neg c1] at hp2
      rw [if_pos (by omega)]
      by_cases c2 : v = -1
      · rw [if_pos c2] at hp2
        obtain ⟨p1, p2⟩ := hp2
        rw [if_pos c2, zm_e (zm_f16 hM), zm_e (zm_f16 hM), zm_w (x := top - 1) (by omega), zm_e (rd (top - 1) (by omega) (by omega))]
        by_cases c3 : zv_I h 359 (top - 1).toNat = 0
        · rw [if_pos c3]
          exact go top (top - 1) 1 (by omega) (by omega) t0 (by omega) p2 (Or.inr p1)
        · rw [if_neg c3]
          exact go top (top - 1) 0 (by omega) (by omega) t0 (by omega) p2 (Or.inr p1)
      · rw [if_neg c2] at hp2
        obtain ⟨p1, p2⟩ := hp2
        have e1 : zv_w (top + -1) = top - 1 := by
          rw [zm_w (by omega)]
          omega
        have e2 : zv_w (top - 1 - 1) = top - 2 := by
          rw [zm_w (by omega)]
          omega
        rw [if_neg c2, zm_e (zm_f16 hM), e1, e2]
        have G := fun w => go (top - 1) (top - 2) w (by omega) (by omega) (by omega) (by omega) p2 (Or.inr (by omega))
        by_cases c3 : v = -2
        · rw [if_pos c3, zm_e (zm_f16 hM), zm_e (rd (top - 2) (by omega) (by omega))]
          by_cases c4 : zv_I h 359 (top - 2).toNat = 0
          · rw [if_pos c4]
            exact G 0
          · rw [if_neg c4, zm_e (zm_f16 hM), zm_e (rd (top - 1) (by omega) (by omega))]
            by_cases c5 : zv_I h 359 (top - 1).toNat = 0
            · rw [if_pos c5]
              exact G 0
            · rw [if_neg c5]
              exact G 1
        · rw [if_neg c3, zm_e (zm_f16 hM), zm_e (rd (top - 2) (by omega) (by omega))]
          by_cases c4 : zv_I h 359 (top - 2).toNat = 0
          · rw [if_pos c4, zm_e (zm_f16 hM), zm_e (rd (top - 1) (by omega) (by omega))]
            by_cases c5 : zv_I h 359 (top - 1).toNat = 0
            · rw [if_pos c5]
              exact G 0
            · rw [if_neg c5]
              exact G 1
          · rw [if_neg c4]
            exact G 1
theorem zm_holds {h : zv_H} {c : Nat → Int} (hM : zm_M h) (hc : zv_I h 348 = c) (w : zm_Wh c) (d : Nat) : zm_R (C9_holds (d + 2) 347 h) (fun q => (q.1 = 0 ∨ q.1 = 1) ∧ zm_F [359] [] h q.2) := by
  refine zm_cI (P := fun v h' => (v = 0 ∨ v = 1) ∧ zm_F [359] [] h h') (lC9_holds (zm_ob hM)) ?_
  have rf : ∀ i : Int, 0 ≤ i → i < 6 → zv_aI h 358 i = some (zv_I h 358 i.toNat) := fun i i0 i1 => zm_aI hM zm_l358 rfl i0 (by omega)
  have z0 : zm_R (some (some (zv_i 0), h)) (zm_I fun v h' => (v = 0 ∨ v = 1) ∧ zm_F [359] [] h h') := zm_iI ⟨Or.inl rfl, zm_F_r _ _ h⟩
  rw [qE9_holds, zm_e (zm_f0 hM), zm_e (zm_aI hM zm_l348 rfl (by decide) (by decide)), hc]
  by_cases c1 : c (Int.toNat 4) = 0
  · rw [if_pos c1, zm_e (zm_f15 hM), zm_e (rf 0 (by decide) (by decide))]
    refine zm_if (fun _ => ?_) (fun _ => z0)
    rw [zm_e (zm_f15 hM), zm_e (rf 3 (by decide) (by decide))]
    refine zm_if (fun _ => ?_) (fun _ => z0)
    rw [zm_e (zm_f15 hM), zm_e (rf 4 (by decide) (by decide))]
    refine zm_if (fun _ => ?_) (fun _ => z0)
    rw [zm_e (zm_f15 hM), zm_e (rf 1 (by decide) (by decide))]
    exact zm_if (fun _ => zm_iI ⟨Or.inr rfl, zm_F_r _ _ h⟩) (fun _ => z0)
  · rw [if_neg c1]
    obtain ⟨_, w2, w3, _⟩ := w
    have hph : zm_ph (zm_cd c) 0 := by
      rcases w3 with q | q
      · exact absurd q c1
      · exact q
    have hlen : (zm_cd c).length = (c 4).toNat := by
      unfold zm_cd
      rw [List.length_map, List.length_range]
    obtain ⟨v, h', e1, e2, e3⟩ := zm_holds_l d (zm_cd c) 0 0 h hM (fun j x hx => by
      have hj := zm_lt_of_get hx
      rw [hlen] at hj
      unfold zm_cd at hx
      rw [List.getElem?_map, List.getElem?_range hj] at hx
      rw [hc, Nat.zero_add]
      exact Option.some.inj hx) (by rw [hc, hlen]; omega) (by omega) (by omega) (by omega) hph (fun q => by omega)
    rw [show L9_holds_60 (d + 1) 347 0 0 h = _ from e1]
    exact zm_iI ⟨e2, e3⟩
theorem zm_isNear {h : zv_H} (hM : zm_M h) (d : Nat) (a b n : Int) {p : Int} (hp : 0 ≤ p ∧ p ≤ 48) : ∃ v : Int, C9_isNear (d + 2) 347 a b n p h = some (v, h) ∧ (v = 0 ∨ v = 1) := by
  have z0 : ∃ v : Int, (some (some (zv_i 0), h) : zv_O) = some (some (zv_i v), h) ∧ (v = 0 ∨ v = 1) := ⟨0, rfl, Or.inl rfl⟩
  have z1 : ∃ v : Int, (some (some (zv_i 1), h) : zv_O) = some (some (zv_i v), h) ∧ (v = 0 ∨ v = 1) := ⟨1, rfl, Or.inr rfl⟩
  have ife : ∀ {q : Prop} [Decidable q] {x y : zv_O}, (∃ v : Int, x = some (some (zv_i v), h) ∧ (v = 0 ∨ v = 1)) → (∃ v : Int, y = some (some (zv_i v), h) ∧ (v = 0 ∨ v = 1)) → ∃ v : Int, (if q then x else y) = some (some (zv_i v), h) ∧ (v = 0 ∨ v = 1) := by
    intro q _ x y hx hy
    by_cases hq : q
    · rw [if_pos hq]
      exact hx
    · rw [if_neg hq]
      exact hy
  have l15 : ∀ e : Int, ∃ v : Int, L9_isNear_15 (d + 1) 347 a b n p e h = some (some (zv_i v), h) ∧ (v = 0 ∨ v = 1) := by
    intro e
    rw [qL9_isNear_15, zm_e (zm_of hM d hp (by decide)), zm_e (zm_of hM d hp (by decide))]
    exact ife (ife (ife z1 z0) (ife z1 z0)) (ife (ife z1 (ife z1 z0)) (ife z1 z0))
  have main : ∃ v : Int, E9_isNear (d + 1) 347 a b n p h = some (some (zv_i v), h) ∧ (v = 0 ∨ v = 1) := by
    rw [qE9_isNear, zm_e (zm_of hM d hp (by decide))]
    exact ife (l15 1) (l15 0)
  obtain ⟨v, e, q⟩ := main
  exact ⟨v, lC9_isNear (zm_ob hM) e, q⟩
theorem zm_joins {h : zv_H} {c : Nat → Int} (hM : zm_M h) (hc : zv_I h 348 = c) (w : zm_W c) (d : Nat) (a b n : Int) : zm_R (C9_joins (d + 3) 347 a b n h) (fun q => (q.1 = 0 ∨ (q.1 = 1 ∧ c 0 ≠ 0)) ∧ zm_F [358, 359] [] h q.2) := by
  refine zm_cI (P := fun v h' => (v = 0 ∨ (v = 1 ∧ c 0 ≠ 0)) ∧ zm_F [358, 359] [] h h') (lC9_joins (zm_ob hM)) ?_
  obtain ⟨w1, w2, w3⟩ := w
  obtain ⟨l, l1, l2, l3, l4⟩ := zm_W_l w1 w2
  have hp := w2.1
  rw [qE9_joins, zm_e (zm_here hM _), hc]
  dsimp only
  rw [zm_e (zm_isEdit hM _ (by omega)), hc]
  dsimp only
  by_cases c1 : zm_ed c (c 0)
  · have h0 : c 0 ≠ 0 := by
      intro q
      rw [q] at c1
      have := w1.2.1.2.2.1
      rcases c1 with q2 | q2
      · rw [this] at q2
        cases q2
      · rw [this] at q2
        cases q2
    have hf := l1.2.2.1 h0
    rw [if_pos c1, if_neg (by decide), zm_e (zm_f15 hM), zm_e (zm_f0 hM), zm_e (zm_aI hM zm_l348 rfl (by decide) (by decide)), zm_e (zm_of hM _ (by omega) (by decide))]
    dsimp only
    generalize zv_w (zv_I h 348 (Int.toNat 1) - zm_o (zv_I h 348) (c 0) 3) = v0
    rw [zm_e (zm_wI hM zm_l358 rfl (by decide) (by decide) _)]
    have f1 : zm_F [358, 359] [] h (zv_sI h 358 (Int.toNat 0) v0) := zm_F_I (zm_F_r _ _ h) rfl _ _
    generalize zv_sI h 358 (Int.toNat 0) v0 = h1 at f1
    have hM1 := zm_F_M f1 hM
    have e1 : zv_I h1 348 = c := (zm_F_a f1 348).trans hc
    have hl1 : zm_Ln (zv_I h1 348) (c 0 :: l) (c 0) := by
      rw [e1]
      exact l1.1
    obtain ⟨n1, en1, _⟩ := zm_depth_in hM1 (d + 0) hl1 (by rw [List.length_cons]; omega) List.mem_cons_self
    obtain ⟨n2, en2, _⟩ := zm_depth_in hM1 (d + 0) hl1 (by rw [List.length_cons]; omega) hf.1
    rw [zm_e (zm_f15 hM1), zm_e en1]
    dsimp only
    rw [zm_e (zm_of hM1 _ (by omega) (by decide)), e1]
    dsimp only
    rw [zm_e en2]
    dsimp only
    rw [zm_e (zm_wI hM1 zm_l358 rfl (by decide) (by decide) _)]
    generalize zv_w (zv_w (n1 - n2) + 1) = v1
    have f2 : zm_F [358, 359] [] h (zv_sI h1 358 (Int.toNat 1) v1) := zm_F_I f1 rfl _ _
    generalize zv_sI h1 358 (Int.toNat 1) v1 = h2 at f2
    have hM2 := zm_F_M f2 hM
    rw [zm_e (zm_f15 hM2), zm_e (zm_wI hM2 zm_l358 rfl (by decide) (by decide) _)]
    have f3 : zm_F [358, 359] [] h (zv_sI h2 358 (Int.toNat 2) a) := zm_F_I f2 rfl _ _
    generalize zv_sI h2 358 (Int.toNat 2) a = h3 at f3
    have hM3 := zm_F_M f3 hM
    rw [zm_e (zm_f15 hM3), zm_e (zm_of hM3 _ (by omega) (by decide))]
    have l92 : ∀ v : Int, zm_R (L9_joins_92 (d + 2) 347 a b n (c 0) 358 3 v h3) (zm_I fun v h' => (v = 0 ∨ (v = 1 ∧ c 0 ≠ 0)) ∧ zm_F [358, 359] [] h h') := by
      intro v
      have f4 : zm_F [358, 359] [] h (zv_sI h3 358 (Int.toNat 3) v) := zm_F_I f3 rfl _ _
      rw [qL9_joins_92, zm_e (zm_wI hM3 zm_l358 rfl (by decide) (by decide) _)]
      generalize zv_sI h3 358 (Int.toNat 3) v = h4 at f4
      have hM4 := zm_F_M f4 hM
      obtain ⟨b4, eb4, _⟩ := zm_isNear hM4 d a b n (p := c 0) (by omega)
      rw [zm_e (zm_f15 hM4), zm_e eb4]
      have l115 : ∀ v : Int, zm_R (L9_joins_115 (d + 2) 347 n 358 4 v h4) (zm_I fun v h' => (v = 0 ∨ (v = 1 ∧ c 0 ≠ 0)) ∧ zm_F [358, 359] [] h h') := by
        intro v
        have f5 : zm_F [358, 359] [] h (zv_sI h4 358 (Int.toNat 4) v) := zm_F_I f4 rfl _ _
        rw [qL9_joins_115, zm_e (zm_wI hM4 zm_l358 rfl (by decide) (by decide) _)]
        generalize zv_sI h4 358 (Int.toNat 4) v = h5 at f5
        have hM5 := zm_F_M f5 hM
        have f6 : zm_F [358, 359] [] h (zv_sI h5 358 (Int.toNat 5) n) := zm_F_I f5 rfl _ _
        rw [zm_e (zm_f15 hM5), zm_e (zm_wI hM5 zm_l358 rfl (by decide) (by decide) _)]
        generalize zv_sI h5 358 (Int.toNat 5) n = h6 at f6
        have hM6 := zm_F_M f6 hM
        obtain ⟨⟨b7, h7⟩, e7, q7, f7⟩ := zm_holds hM6 ((zm_F_a f6 348).trans hc) w3 d
        rw [zm_e e7]
        dsimp only at q7 f7 ⊢
        rw [if_pos q7]
        refine zm_iI ⟨?_, zm_F_t f6 (zm_F_s f7 rfl rfl)⟩
        rcases q7 with q | q
        · exact Or.inl q
        · exact Or.inr ⟨q, h0⟩
      exact zm_if (fun _ => l115 0) (fun _ => l115 1)
    exact zm_if (fun _ => l92 1) (fun _ => l92 0)
  · rw [if_neg c1, if_pos rfl]
    exact zm_iI ⟨Or.inl rfl, zm_F_r _ _ h⟩
/-- a state's cells made anew -/
def zm_Bg (c c' : Nat → Int) (s a p m f : Int) : Prop := (zm_o c' s 0 = 1 ∧ zm_o c' s 1 = c 0 ∧ zm_o c' s 2 = a ∧ zm_o c' s 3 = c 1 ∧ zm_o c' s 4 = p ∧ zm_o c' s 5 = m ∧ zm_o c' s 6 = f) ∧ zm_o c' s 8 = -1 ∧ (∀ w : Int, 9 ≤ w → w < 76 → zm_o c' s w = 0) ∧ ∀ k : Nat, ¬ (432 + 76 * s.toNat ≤ k ∧ k < 432 + 76 * s.toNat + 76) → c' k = c k
theorem zm_os_k (c : Nat → Int) {s w : Int} (v : Int) {k : Nat} (hw : 0 ≤ w ∧ w < 76) (h : ¬ (432 + 76 * s.toNat ≤ k ∧ k < 432 + 76 * s.toNat + 76)) : zm_os c s w v k = c k := zm_u_o _ _ (by omega)
theorem zm_begins_l (d : Nat) {s : Int} (hs : 0 ≤ s ∧ s ≤ 48) (a p m j : Int) (c : Nat → Int) : ∀ (n i : Nat) (h : zv_H), i + n = 76 → zm_M h → (∀ w : Int, 0 ≤ w → w < i → zm_o (zv_I h 348) s w = 0) → (∀ k : Nat, ¬ (432 + 76 * s.toNat ≤ k ∧ k < 432 + 76 * s.toNat + 76) → zv_I h 348 k = c k) → ∃ h', L9_begins_3 (d + 1) 347 s a p m j i h = L9_begins_3 (d + 1) 347 s a p m j 76 h' ∧ zm_F [348] [] h h' ∧ (∀ w : Int, 0 ≤ w → w < 76 → zm_o (zv_I h' 348) s w = 0) ∧ (∀ k : Nat, ¬ (432 + 76 * s.toNat ≤ k ∧ k < 432 + 76 * s.toNat + 76) → zv_I h' 348 k = c k)
  | 0, i, h, hi, _, h1, h2 => by
    have e : i = 76 := by omega
    subst e
    exact ⟨h, rfl, zm_F_r _ _ h, h1, h2⟩
  | n + 1, i, h, hi, hM, h1, h2 => by
    rw [qL9_begins_3, if_pos (by omega), zm_e (zm_sets hM d hs (by omega) 0), zm_w (by omega)]
    have e0 : zv_I (zv_sI h 348 (432 + 76 * s.toNat + ((i : Nat) : Int).toNat) 0) 348 = zm_os (zv_I h 348) s i 0 := zm_ss _ _ _ _
    obtain ⟨h', i1, i2, i3⟩ := zm_begins_l d hs a p m j c n (i + 1) (zv_sI h 348 (432 + 76 * s.toNat + ((i : Nat) : Int).toNat) 0) (by omega) hM (fun w w0 w1 => by
      rw [e0]
      by_cases q : w = i
      · rw [q, zm_os_s]
      · rw [zm_os_o _ _ hs.1 (by omega) hs.1 (by omega) (fun z => q z.2)]
        exact h1 w w0 (by omega)) (fun k hk => by
      rw [e0, zm_os_k _ _ (by omega) hk]
      exact h2 k hk)
    exact ⟨h', i1, zm_F_t (zm_F_I (zm_F_r _ _ h) rfl _ _) i2, i3⟩
theorem zm_Bg_of {c z : Nat → Int} {s : Int} (hs : 0 ≤ s ∧ s ≤ 48) (a p m f : Int) (hz : ∀ w : Int, 0 ≤ w → w < 76 → zm_o z s w = 0) (hk : ∀ k : Nat, ¬ (432 + 76 * s.toNat ≤ k ∧ k < 432 + 76 * s.toNat + 76) → z k = c k) : zm_Bg c (zm_os (zm_os (zm_os (zm_os (zm_os (zm_os (zm_os (zm_os z s 0 1) s 1 (c 0)) s 2 a) s 3 (c 1)) s 4 p) s 5 m) s 6 f) s 8 (-1)) s a p m f := by
  have O : ∀ (c : Nat → Int) (w w' v : Int), 0 ≤ w ∧ w < 76 → 0 ≤ w' ∧ w' < 76 → w' ≠ w → zm_o (zm_os c s w v) s w' = zm_o c s w' := fun c w w' v h1 h2 h3 => zm_os_o c v hs.1 h1 hs.1 h2 (fun q => h3 q.2)
  refine ⟨⟨?_, ?_, ?_, ?_, ?_, ?_, ?_⟩, ?_, fun w w0 w1 => ?_, fun k q => ?_⟩
  · rw [O _ 8 0 _ (by decide) (by decide) (by decide), O _ 6 0 _ (by decide) (by decide) (by decide), O _ 5 0 _ (by decide) (by decide) (by decide), O _ 4 0 _ (by decide) (by decide) (by decide), O _ 3 0 _ (by decide) (by decide) (by decide), O _ 2 0 _ (by decide) (by decide) (by decide), O _ 1 0 _ (by decide) (by decide) (by decide), zm_os_s]
  · rw [O _ 8 1 _ (by decide) (by decide) (by decide), O _ 6 1 _ (by decide) (by decide) (by decide), O _ 5 1 _ (by decide) (by decide) (by decide), O _ 4 1 _ (by decide) (by decide) (by decide), O _ 3 1 _ (by decide) (by decide) (by decide), O _ 2 1 _ (by decide) (by decide) (by decide), zm_os_s]
  · rw [O _ 8 2 _ (by decide) (by decide) (by decide), O _ 6 2 _ (by decide) (by decide) (by decide), O _ 5 2 _ (by decide) (by decide) (by decide), O _ 4 2 _ (by decide) (by decide) (by decide), O _ 3 2 _ (by decide) (by decide) (by decide), zm_os_s]
  · rw [O _ 8 3 _ (by decide) (by decide) (by decide), O _ 6 3 _ (by decide) (by decide) (by decide), O _ 5 3 _ (by decide) (by decide) (by decide), O _ 4 3 _ (by decide) (by decide) (by decide), zm_os_s]
  · rw [O _ 8 4 _ (by decide) (by decide) (by decide), O _ 6 4 _ (by decide) (by decide) (by decide), O _ 5 4 _ (by decide) (by decide) (by decide), zm_os_s]
  · rw [O _ 8 5 _ (by decide) (by decide) (by decide), O _ 6 5 _ (by decide) (by decide) (by decide), zm_os_s]
  · rw [O _ 8 6 _ (by decide) (by decide) (by decide), zm_os_s]
  · rw [zm_os_s]
  · rw [O _ 8 w _ (by decide) (by omega) (by omega), O _ 6 w _ (by decide) (by omega) (by omega), O _ 5 w _ (by decide) (by omega) (by omega), O _ 4 w _ (by decide) (by omega) (by omega), O _ 3 w _ (by decide) (by omega) (by omega), O _ 2 w _ (by decide) (by omega) (by omega), O _ 1 w _ (by decide) (by omega) (by omega), O _ 0 w _ (by decide) (by omega) (by omega)]
    exact hz w (by omega) w1
  · rw [zm_os_k _ _ (by decide) q, zm_os_k _ _ (by decide) q, zm_os_k _ _ (by decide) q, zm_os_k _ _ (by decide) q, zm_os_k _ _ (by decide) q, zm_os_k _ _ (by decide) q, zm_os_k _ _ (by decide) q, zm_os_k _ _ (by decide) q]
    exact hk k q
theorem zm_begins {h : zv_H} {c : Nat → Int} (hM : zm_M h) (hc : zv_I h 348 = c) (d : Nat) {s : Int} (hs : 0 ≤ s ∧ s ≤ 48) (h0 : 0 ≤ c 0 ∧ c 0 ≤ 47) (hne : s ≠ c 0) (a p m j : Int) : zm_R (C9_begins (d + 2) 347 s a p m j h) (fun h' => zm_F [348] [] h h' ∧ zm_Bg c (zv_I h' 348) s a p m (if j = 0 then s else zm_o c (c 0) 6)) := by
  refine zm_cV (lC9_begins (zm_ob hM)) ?_
  obtain ⟨z, i1, i2, i3, i4⟩ := zm_begins_l d hs a p m j c 76 0 h rfl hM (fun w w0 w1 => by omega) (fun k _ => by rw [hc])
  have hMz := zm_F_M i2 hM
  have z0 : zv_I z 348 0 = c 0 := i4 0 (by omega)
  have z1 : zv_I z 348 1 = c 1 := i4 1 (by omega)
  have S : ∀ (g : zv_H) (w v : Int), zv_I (zv_sI g 348 (432 + 76 * s.toNat + w.toNat) v) 348 = zm_os (zv_I g 348) s w v := fun g w v => zm_ss _ _ _ _
  have K : ∀ (g : Nat → Int) (w v : Int) (k : Nat), 0 ≤ w ∧ w < 76 → k < 432 → zm_os g s w v k = g k := fun g w v k hw hk => zm_os_k g v hw (by omega)
  rw [qE9_begins, show L9_begins_3 (d + 1) 347 s a p m j 0 h = _ from i1, qL9_begins_3, if_neg (by decide), zm_e (zm_sets hMz d hs (by decide) _)]
  have M1 : zm_M (zv_sI z 348 (432 + 76 * s.toNat + Int.toNat 0) 1) := hMz
  rw [zm_e (zm_here M1 d), S, K _ _ _ _ (by decide) (by decide), z0]
  dsimp only
  rw [zm_e (zm_sets M1 d hs (by decide) _)]
  have M2 : zm_M (zv_sI (zv_sI z 348 (432 + 76 * s.toNat + Int.toNat 0) 1) 348 (432 + 76 * s.toNat + Int.toNat 1) (c 0)) := hMz
  rw [zm_e (zm_sets M2 d hs (by decide) _)]
  have M3 : zm_M (zv_sI (zv_sI (zv_sI z 348 (432 + 76 * s.toNat + Int.toNat 0) 1) 348 (432 + 76 * s.toNat + Int.toNat 1) (c 0)) 348 (432 + 76 * s.toNat + Int.toNat 2) a) := hMz
  rw [zm_e (zm_f0 M3), zm_e (zm_aI M3 zm_l348 rfl (by decide) (by decide)), S, S, S, K _ _ _ _ (by decide) (by decide), K _ _ _ _ (by decide) (by decide), K _ _ _ _ (by decide) (by decide), show zv_I z 348 (Int.toNat 1) = c 1 from z1, zm_e (zm_sets M3 d hs (by decide) _)]
  generalize eg4 : zv_sI (zv_sI (zv_sI (zv_sI z 348 (432 + 76 * s.toNat + Int.toNat 0) 1) 348 (432 + 76 * s.toNat + Int.toNat 1) (c 0)) 348 (432 + 76 * s.toNat + Int.toNat 2) a) 348 (432 + 76 * s.toNat + Int.toNat 3) (c 1) = g4
  have M4 : zm_M g4 := by
    rw [← eg4]
    exact hMz
  rw [zm_e (zm_sets M4 d hs (by decide) _)]
  have M5 : zm_M (zv_sI g4 348 (432 + 76 * s.toNat + Int.toNat 4) p) := M4
  rw [zm_e (zm_sets M5 d hs (by decide) _)]
  have M6 : zm_M (zv_sI (zv_sI g4 348 (432 + 76 * s.toNat + Int.toNat 4) p) 348 (432 + 76 * s.toNat + Int.toNat 5) m) := M4
  have e6 : zv_I (zv_sI (zv_sI g4 348 (432 + 76 * s.toNat + Int.toNat 4) p) 348 (432 + 76 * s.toNat + Int.toNat 5) m) 348 = zm_os (zm_os (zm_os (zm_os (zm_os (zm_os (zv_I z 348) s 0 1) s 1 (c 0)) s 2 a) s 3 (c 1)) s 4 p) s 5 m := by
    rw [S, S, ← eg4, S, S, S, S]
  have f6 : zm_F [348] [] h (zv_sI (zv_sI g4 348 (432 + 76 * s.toNat + Int.toNat 4) p) 348 (432 + 76 * s.toNat + Int.toNat 5) m) := by
    rw [← eg4]
    exact zm_F_I (zm_F_I (zm_F_I (zm_F_I (zm_F_I (zm_F_I i2 rfl _ _) rfl _ _) rfl _ _) rfl _ _) rfl _ _) rfl _ _
  generalize zv_sI (zv_sI g4 348 (432 + 76 * s.toNat + Int.toNat 4) p) 348 (432 + 76 * s.toNat + Int.toNat 5) m = g6 at M6 e6 f6
  have l98 : ∀ f : Int, zm_R (L9_begins_98 (d + 1) 347 s 347 s 6 f g6) (zm_V fun h' => zm_F [348] [] h h' ∧ zm_Bg c (zv_I h' 348) s a p m f) := by
    intro f
    rw [qL9_begins_98, zm_e (zm_sets M6 d hs (by decide) _)]
    have M7 : zm_M (zv_sI g6 348 (432 + 76 * s.toNat + Int.toNat 6) f) := M6
    rw [zm_e (zm_sets M7 d hs (by decide) _)]
    refine zm_iV ⟨zm_F_I (zm_F_I f6 rfl _ _) rfl _ _, ?_⟩
    rw [S, S, e6]
    exact zm_Bg_of hs a p m f i3 i4
  by_cases c1 : j = 0
  · rw [if_pos c1, if_pos c1]
    exact l98 s
  · have r0 : zv_I g6 348 0 = c 0 := by
      rw [e6, K _ _ _ _ (by decide) (by decide), K _ _ _ _ (by decide) (by decide), K _ _ _ _ (by decide) (by decide), K _ _ _ _ (by decide) (by decide), K _ _ _ _ (by decide) (by decide), K _ _ _ _ (by decide) (by decide), z0]
    have r6 : zm_o (zv_I g6 348) (c 0) 6 = zm_o c (c 0) 6 := by
      have B : ∀ (g : Nat → Int) (w v : Int), 0 ≤ w ∧ w < 76 → zm_o (zm_os g s w v) (c 0) 6 = zm_o g (c 0) 6 := fun g w v hw => zm_os_o g v hs.1 hw h0.1 (by decide) (fun q => hne q.1.symm)
      rw [e6, B _ _ _ (by decide), B _ _ _ (by decide), B _ _ _ (by decide), B _ _ _ (by decide), B _ _ _ (by decide), B _ _ _ (by decide)]
      exact i4 _ (by omega)
    rw [if_neg c1, if_neg c1, zm_e (zm_here M6 d), r0]
    dsimp only
    rw [zm_e (zm_of M6 d (by omega) (by decide)), r6]
    exact l98 _
